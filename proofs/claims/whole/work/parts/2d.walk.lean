def b_X4_freeBy_7 (v1 : Int32) (v2 : Int32) (p0_land_oaths : Int32) (p0_land_kinds : Nat → Int32) (p0_land_ones : Nat → Int32) (p0_land_others : Nat → Int32) (v3 : Int32) (p0_sworn : Int32) : Option ((Int32 × Int32) ⊕ (Int32)) := if p0_land_oaths ≤ v3 then some (.inr p0_sworn) else (f_X4_letsOut v3 v1 p0_land_kinds p0_land_ones p0_land_others).bind fun r_509 => if r_509 = (0 : Int32) then some (.inl ((v3 + (1 : Int32)), p0_sworn)) else (some (p0_sworn &&& (((1 : Int32) <<< (v3 &&& 31)) ^^^ (-1 : Int32)))).bind fun w_511 => some (.inl ((v3 + (1 : Int32)), w_511))
def f_X4_freeBy (v1 : Int32) (p0_sworn : Int32) (p0_land_oaths : Int32) (p0_land_kinds : Nat → Int32) (p0_land_ones : Nat → Int32) (p0_land_others : Nat → Int32) (p0_land_hangs : Nat → Int32) : Option (Int32 × Int32) := (itr (fun s => b_X4_freeBy_7 v1 p0_sworn p0_land_oaths p0_land_kinds p0_land_ones p0_land_others s.1 s.2) FU ((0 : Int32), p0_sworn)).bind fun x_7 => (f_X4_freeHanging p0_sworn x_7 p0_land_oaths p0_land_hangs).bind fun r_1 => some (r_1.1, r_1.2)
set_option maxHeartbeats 4000000 in
set_option maxRecDepth 100000 in
theorem c_X4_freeBy (l : Launch) (D : va_G) (cI cZ : ClassId) (a_p0 a_p0_land a_p0_land_places a_p0_land_kinds a_p0_land_clapPlaces a_p0_land_louds a_p0_land_ones a_p0_land_others a_p0_land_worths a_p0_land_hangs : Nat) (p0_places : Int32) (p0_wool : Int32) (p0_sworn : Int32) (p0_worth : Int32) (p0_day : Int32) (p0_land_persons : Int32) (p0_land_skies : Int32) (p0_land_oaths : Int32) (p0_land_kinds : Nat → Int32) (p0_land_ones : Nat → Int32) (p0_land_others : Nat → Int32) (p0_land_hangs : Nat → Int32) (v1 : Int32) (q : Int32 × Int32) (hf : f_X4_freeBy v1 p0_sworn p0_land_oaths p0_land_kinds p0_land_ones p0_land_others p0_land_hangs = some q) : CtI l D cI cZ yX4_freeBy wsX4_freeBy 2 47 [.ref a_p0, .int v1] [(a_p0, .inr (4, [.ref a_p0_land, .int p0_places, .int p0_wool, .int p0_sworn, .int p0_worth, .int p0_day])), (a_p0_land, .inr (1, [.ref a_p0_land_places, .ref a_p0_land_kinds, .ref a_p0_land_clapPlaces, .ref a_p0_land_louds, .ref a_p0_land_ones, .ref a_p0_land_others, .ref a_p0_land_worths, .ref a_p0_land_hangs, .int p0_land_persons, .int p0_land_skies, .int p0_land_oaths])), (a_p0_land_kinds, .inl (cI, 5, .inl p0_land_kinds)), (a_p0_land_ones, .inl (cI, 5, .inl p0_land_ones)), (a_p0_land_others, .inl (cI, 5, .inl p0_land_others)), (a_p0_land_hangs, .inl (cI, 5, .inl p0_land_hangs))] (fun q => [(a_p0, .inr (4, [.ref a_p0_land, .int p0_places, .int p0_wool, .int q.2, .int p0_worth, .int p0_day])), (a_p0_land, .inr (1, [.ref a_p0_land_places, .ref a_p0_land_kinds, .ref a_p0_land_clapPlaces, .ref a_p0_land_louds, .ref a_p0_land_ones, .ref a_p0_land_others, .ref a_p0_land_worths, .ref a_p0_land_hangs, .int p0_land_persons, .int p0_land_skies, .int p0_land_oaths])), (a_p0_land_kinds, .inl (cI, 5, .inl p0_land_kinds)), (a_p0_land_ones, .inl (cI, 5, .inl p0_land_ones)), (a_p0_land_others, .inl (cI, 5, .inl p0_land_others)), (a_p0_land_hangs, .inl (cI, 5, .inl p0_land_hangs))]) (fun q => q.1) q := by
  refine CtI.of (cc := cX4_freeBy) (maxL := 4) (plainFor_of_name (by decide)) rfl (Nat.le_of_ble_eq_true rfl) ?_
  intro p e s m args below meth c A Q H ls hB hE hW hl
  have hx := hB.1
  have hb := hB.2.1
  have hml := hB.2.2.2.1
  have hown : s.vm.findClass RX4 = some m.cls := hB.2.2.2.2.1
  have hts := hB.2.2.2.2.2.1
  have hK := hB.2.2.2.2.2.2.2.1.1
  have hl : lv_has ls 4 [(0, .ref a_p0), (1, .int v1)] := hl
  have in_X1 : ∀ w ∈ wsX10, w ∈ wsX4_freeBy := fun w h => List.mem_cons_of_mem _ (List.mem_append_right _ h)
  have in_X4 : ∀ w ∈ wsX40, w ∈ wsX4_freeBy := fun w h => List.mem_cons_of_mem _ (List.mem_append_left _ (List.mem_append_right _ h))
  have fl_9 : (Cond.fieldLink RX4 9 (TX4 0).1 (TX4 0).2.1 (TX4 0).2.2.1).before args s = true := hts (.fieldLink RX4 9 "ClapOaths$Standing" "land" "LClapOaths$County;") (by decide +kernel)
  have fl_22 : (Cond.fieldLink RX4 22 (TX4 3).1 (TX4 3).2.1 (TX4 3).2.2.1).before args s = true := hts (.fieldLink RX4 22 "ClapOaths$Standing" "sworn" "I") (by decide +kernel)
  have fl_50 : (Cond.fieldLink RX4 50 (TX1 10).1 (TX1 10).2.1 (TX1 10).2.2.1).before args s = true := hts (.fieldLink RX4 50 "ClapOaths$County" "oaths" "I") (by decide +kernel)
  unfold f_X4_freeBy at hf
  refine lv_aload_n hx hb dX4_freeBy_0 rfl (lv_at hl 0 rfl) ?_
  refine q_get hB hW 4 in_X4 0 rfl rfl 3 (by decide) fl_22 (v := .int p0_sworn) rfl dX4_freeBy_1 ?_
  refine lv_istore_n (lv' := [(2, .int p0_sworn), (0, .ref a_p0), (1, .int v1)]) hx hb dX4_freeBy_4 rfl hl (by decide) rfl (fun ls hl => ?_)
  refine lv_iconst (v := 0) hx hb dX4_freeBy_5 (by decide) ?_
  refine lv_istore_n (lv' := [(3, .int (0 : Int32)), (2, .int p0_sworn), (0, .ref a_p0), (1, .int v1)]) hx hb dX4_freeBy_6 rfl hl (by decide) rfl (fun ls hl => ?_)
  obtain ⟨e_7, hl_7, hk_7⟩ := bnd hf
  have K_7 : ∀ x_7 : Int32, x_7 = e_7 → ∀ (H : Heap) (locs : List Loc) (ls : Array Slot), Wl D A s.heap [(a_p0, .inr (4, [.ref a_p0_land, .int p0_places, .int p0_wool, .int x_7, .int p0_worth, .int p0_day])), (a_p0_land, .inr (1, [.ref a_p0_land_places, .ref a_p0_land_kinds, .ref a_p0_land_clapPlaces, .ref a_p0_land_louds, .ref a_p0_land_ones, .ref a_p0_land_others, .ref a_p0_land_worths, .ref a_p0_land_hangs, .int p0_land_persons, .int p0_land_skies, .int p0_land_oaths])), (a_p0_land_kinds, .inl (cI, 5, .inl p0_land_kinds)), (a_p0_land_ones, .inl (cI, 5, .inl p0_land_ones)), (a_p0_land_others, .inl (cI, 5, .inl p0_land_others)), (a_p0_land_hangs, .inl (cI, 5, .inl p0_land_hangs))] H locs → lv_has ls 4 [(0, .ref a_p0), (2, .int p0_sworn)] → W p l e (Rm 2 47) s m args below meth c H locs 0 0 Q (F0 m 47 ls []) := by
    intro x_7 hx_7 H locs ls hW hl
    have hf := hk_7
    rw [← hx_7] at hf
    refine lv_aload_n hx hb dX4_freeBy_47 rfl (lv_at hl 0 rfl) ?_
    refine lv_iload_n hx hb dX4_freeBy_48 rfl (lv_at hl 1 rfl) ?_
    obtain ⟨r_1, hr_1, hf⟩ := bnd hf
    refine q_callVI hB hW (ci := 4) (q0 := 0) rfl rfl rfl (As := [.int p0_sworn]) (rest := []) (ws' := [(a_p0, .inr (4, [.ref a_p0_land, .int p0_places, .int p0_wool, .int r_1.2, .int p0_worth, .int p0_day])), (a_p0_land, .inr (1, [.ref a_p0_land_places, .ref a_p0_land_kinds, .ref a_p0_land_clapPlaces, .ref a_p0_land_louds, .ref a_p0_land_ones, .ref a_p0_land_others, .ref a_p0_land_worths, .ref a_p0_land_hangs, .int p0_land_persons, .int p0_land_skies, .int p0_land_oaths])), (a_p0_land_kinds, .inl (cI, 5, .inl p0_land_kinds)), (a_p0_land_ones, .inl (cI, 5, .inl p0_land_ones)), (a_p0_land_others, .inl (cI, 5, .inl p0_land_others)), (a_p0_land_hangs, .inl (cI, 5, .inl p0_land_hangs))]) (c_X4_freeHanging l D cI cZ a_p0 a_p0_land a_p0_land_places a_p0_land_kinds a_p0_land_clapPlaces a_p0_land_louds a_p0_land_ones a_p0_land_others a_p0_land_worths a_p0_land_hangs p0_places p0_wool x_7 p0_worth p0_day p0_land_persons p0_land_skies p0_land_oaths p0_land_hangs p0_sworn r_1 hr_1) (cwV 1 hts gX4_freeBy_X4_freeHanging rfl rfl rfl (by decide +kernel) ⟨Nat.le_of_ble_eq_true rfl, Nat.le_of_ble_eq_true rfl⟩) [0, 1, 5] rfl rfl rfl rfl rfl hl.1 rfl (Nat.le_of_ble_eq_true rfl) ⟨Nat.le_of_ble_eq_true rfl, Nat.le_of_ble_eq_true rfl⟩ dX4_freeBy_49 (fun H locs hW => ?_)
    exact hE _ _ _ _ _ (r_1.1, r_1.2) (sm hf) hW rfl dX4_freeBy_52
  have L_7 : ∀ (n : Nat) (y7_3 : Int32) (y7_p0_sworn : Int32) (H : Heap) (locs : List Loc) (ls : Array Slot), itr (fun s => b_X4_freeBy_7 v1 p0_sworn p0_land_oaths p0_land_kinds p0_land_ones p0_land_others s.1 s.2) n (y7_3, y7_p0_sworn) = some e_7 → Wl D A s.heap [(a_p0, .inr (4, [.ref a_p0_land, .int p0_places, .int p0_wool, .int y7_p0_sworn, .int p0_worth, .int p0_day])), (a_p0_land, .inr (1, [.ref a_p0_land_places, .ref a_p0_land_kinds, .ref a_p0_land_clapPlaces, .ref a_p0_land_louds, .ref a_p0_land_ones, .ref a_p0_land_others, .ref a_p0_land_worths, .ref a_p0_land_hangs, .int p0_land_persons, .int p0_land_skies, .int p0_land_oaths])), (a_p0_land_kinds, .inl (cI, 5, .inl p0_land_kinds)), (a_p0_land_ones, .inl (cI, 5, .inl p0_land_ones)), (a_p0_land_others, .inl (cI, 5, .inl p0_land_others)), (a_p0_land_hangs, .inl (cI, 5, .inl p0_land_hangs))] H locs → lv_has ls 4 [(0, .ref a_p0), (1, .int v1), (2, .int p0_sworn), (3, .int y7_3)] → W p l e (Rm 2 47) s m args below meth c H locs 0 0 Q (F0 m 7 ls []) := by
    intro n
    induction n with
    | zero => intro y7_3 y7_p0_sworn H locs ls h9; exact itr_0 h9
    | succ n ih =>
      intro y7_3 y7_p0_sworn H locs ls hf hW hl
      obtain ⟨o_7, hf, ho_7⟩ := itr_inv hf
      have hf : b_X4_freeBy_7 v1 p0_sworn p0_land_oaths p0_land_kinds p0_land_ones p0_land_others y7_3 y7_p0_sworn = some o_7 := hf
      unfold b_X4_freeBy_7 at hf
      refine lv_iload_n hx hb dX4_freeBy_7 rfl (lv_at hl 3 rfl) ?_
      refine lv_aload_n hx hb dX4_freeBy_8 rfl (lv_at hl 0 rfl) ?_
      refine q_get hB hW 4 in_X4 0 rfl rfl 0 (by decide) fl_9 (v := .ref a_p0_land) rfl dX4_freeBy_9 ?_
      refine q_get hB hW 1 in_X1 1 rfl rfl 10 (by decide) fl_50 (v := .int p0_land_oaths) rfl dX4_freeBy_12 ?_
      refine lv_icmp_ge (tgt := 47) hx hb dX4_freeBy_15 (by decide) (fun c_2 => ?_) (fun c_2 => ?_)
      · have hf := it_t c_2 hf
        have h9 := o_inr hf ho_7
        exact K_7 y7_p0_sworn h9 _ _ _ hW (lv_sub hl [0, 2] rfl)
      · have hf := it_f c_2 hf
        refine lv_aload_n hx hb dX4_freeBy_18 rfl (lv_at hl 0 rfl) ?_
        refine lv_iload_n hx hb dX4_freeBy_19 rfl (lv_at hl 3 rfl) ?_
        refine lv_iload_n hx hb dX4_freeBy_20 rfl (lv_at hl 1 rfl) ?_
        obtain ⟨r_3, hr_3, hf⟩ := bnd hf
        refine q_callVZ hB hW (ci := 4) (q0 := 0) rfl rfl rfl (As := [.int y7_3, .int v1]) (rest := []) (ws' := [(a_p0, .inr (4, [.ref a_p0_land, .int p0_places, .int p0_wool, .int y7_p0_sworn, .int p0_worth, .int p0_day])), (a_p0_land, .inr (1, [.ref a_p0_land_places, .ref a_p0_land_kinds, .ref a_p0_land_clapPlaces, .ref a_p0_land_louds, .ref a_p0_land_ones, .ref a_p0_land_others, .ref a_p0_land_worths, .ref a_p0_land_hangs, .int p0_land_persons, .int p0_land_skies, .int p0_land_oaths])), (a_p0_land_kinds, .inl (cI, 5, .inl p0_land_kinds)), (a_p0_land_ones, .inl (cI, 5, .inl p0_land_ones)), (a_p0_land_others, .inl (cI, 5, .inl p0_land_others)), (a_p0_land_hangs, .inl (cI, 5, .inl p0_land_hangs))]) (c_X4_letsOut l D cI cZ a_p0 a_p0_land a_p0_land_places a_p0_land_kinds a_p0_land_clapPlaces a_p0_land_louds a_p0_land_ones a_p0_land_others a_p0_land_worths a_p0_land_hangs p0_places p0_wool y7_p0_sworn p0_worth p0_day p0_land_persons p0_land_skies p0_land_oaths p0_land_kinds p0_land_ones p0_land_others y7_3 v1 r_3 hr_3) (cwV 2 hts gX4_freeBy_X4_letsOut rfl rfl rfl (by decide +kernel) ⟨Nat.le_of_ble_eq_true rfl, Nat.le_of_ble_eq_true rfl⟩) [0, 1, 2, 3, 4] rfl rfl rfl rfl rfl hl.1 rfl (Nat.le_of_ble_eq_true rfl) ⟨Nat.le_of_ble_eq_true rfl, Nat.le_of_ble_eq_true rfl⟩ dX4_freeBy_21 (fun hzr_3 H locs hW => ?_)
        refine lv_if_eq (tgt := 41) hx hb dX4_freeBy_24 (by decide) (fun c_4 => ?_) (fun c_4 => ?_)
        · have hf := it_t c_4 hf
          refine lv_iinc (v := (y7_3 + (1 : Int32))) (lv' := [(3, .int (y7_3 + (1 : Int32))), (0, .ref a_p0), (1, .int v1), (2, .int p0_sworn)]) hx hb dX4_freeBy_41 hl (k := 3) rfl rfl (by decide) rfl (fun ls hl => ?_)
          refine lv_goto (tgt := 7) hx hb dX4_freeBy_44 (by decide) ?_
          have h9 := o_inl hf ho_7
          exact ih (y7_3 + (1 : Int32)) y7_p0_sworn _ _ _ h9 hW (lv_sub hl [1, 2, 3, 0] rfl)
        · have hf := it_f c_4 hf
          refine lv_aload_n hx hb dX4_freeBy_27 rfl (lv_at hl 0 rfl) ?_
          refine lv_dup hx hb dX4_freeBy_28 rfl ?_
          refine q_get hB hW 4 in_X4 0 rfl rfl 3 (by decide) fl_22 (v := .int y7_p0_sworn) rfl dX4_freeBy_29 ?_
          refine lv_iconst (v := 1) hx hb dX4_freeBy_32 (by decide) ?_
          refine lv_iload_n hx hb dX4_freeBy_33 rfl (lv_at hl 3 rfl) ?_
          refine lv_ishl hx hb dX4_freeBy_34 ?_
          refine lv_iconst (v := -1) hx hb dX4_freeBy_35 (by decide) ?_
          refine lv_ixor hx hb dX4_freeBy_36 ?_
          refine lv_iand hx hb dX4_freeBy_37 ?_
          obtain ⟨w_5, hw_5, hf⟩ := bnd hf
          refine q_nmI hw_5 ?_
          refine q_put hB hW 4 in_X4 tyX4 tyX4_ok nmX4 0 rfl rfl 3 (by decide) fl_22 rfl (by first | rfl | decide) (by first | rfl | decide) (Nat.le_of_ble_eq_true rfl) (ws' := [(a_p0, .inr (4, [.ref a_p0_land, .int p0_places, .int p0_wool, .int w_5, .int p0_worth, .int p0_day])), (a_p0_land, .inr (1, [.ref a_p0_land_places, .ref a_p0_land_kinds, .ref a_p0_land_clapPlaces, .ref a_p0_land_louds, .ref a_p0_land_ones, .ref a_p0_land_others, .ref a_p0_land_worths, .ref a_p0_land_hangs, .int p0_land_persons, .int p0_land_skies, .int p0_land_oaths])), (a_p0_land_kinds, .inl (cI, 5, .inl p0_land_kinds)), (a_p0_land_ones, .inl (cI, 5, .inl p0_land_ones)), (a_p0_land_others, .inl (cI, 5, .inl p0_land_others)), (a_p0_land_hangs, .inl (cI, 5, .inl p0_land_hangs))]) rfl dX4_freeBy_38 (fun H locs hW => ?_)
          refine lv_iinc (v := (y7_3 + (1 : Int32))) (lv' := [(3, .int (y7_3 + (1 : Int32))), (0, .ref a_p0), (1, .int v1), (2, .int p0_sworn)]) hx hb dX4_freeBy_41 hl (k := 3) rfl rfl (by decide) rfl (fun ls hl => ?_)
          refine lv_goto (tgt := 7) hx hb dX4_freeBy_44 (by decide) ?_
          have h9 := o_inl hf ho_7
          exact ih (y7_3 + (1 : Int32)) w_5 _ _ _ h9 hW (lv_sub hl [1, 2, 3, 0] rfl)
  exact L_7 FU (0 : Int32) p0_sworn _ _ _ hl_7 hW (lv_sub hl [2, 3, 1, 0] rfl)
def b_X1_worthOf_4 (v1 : Int32) (p0_oaths : Int32) (p0_worths : Nat → Int32) (v2 : Int32) (v3 : Int32) : Option ((Int32 × Int32) ⊕ (Int32)) := if p0_oaths ≤ v3 then some (.inr v2) else (f_X6_bit v1 v3).bind fun r_506 => (f_X6_at 5 v3 p0_worths).bind fun r_507 => (some (v2 + (r_506 * r_507))).bind fun w_508 => some (.inl (w_508, (v3 + (1 : Int32))))
def f_X1_worthOf (v1 : Int32) (p0_oaths : Int32) (p0_worths : Nat → Int32) : Option (Int32) := (itr (fun s => b_X1_worthOf_4 v1 p0_oaths p0_worths s.1 s.2) FU ((0 : Int32), (0 : Int32))).bind fun x_4 => some x_4
set_option maxHeartbeats 4000000 in
set_option maxRecDepth 100000 in
theorem c_X1_worthOf (l : Launch) (D : va_G) (cI cZ : ClassId) (a_p0 a_p0_places a_p0_kinds a_p0_clapPlaces a_p0_louds a_p0_ones a_p0_others a_p0_worths a_p0_hangs : Nat) (p0_persons : Int32) (p0_skies : Int32) (p0_oaths : Int32) (p0_worths : Nat → Int32) (v1 : Int32) (q : Int32) (hf : f_X1_worthOf v1 p0_oaths p0_worths = some q) : CtI l D cI cZ yX1_worthOf wsX1_worthOf 1 21 [.ref a_p0, .int v1] [(a_p0, .inr (1, [.ref a_p0_places, .ref a_p0_kinds, .ref a_p0_clapPlaces, .ref a_p0_louds, .ref a_p0_ones, .ref a_p0_others, .ref a_p0_worths, .ref a_p0_hangs, .int p0_persons, .int p0_skies, .int p0_oaths])), (a_p0_worths, .inl (cI, 5, .inl p0_worths))] (fun q => [(a_p0, .inr (1, [.ref a_p0_places, .ref a_p0_kinds, .ref a_p0_clapPlaces, .ref a_p0_louds, .ref a_p0_ones, .ref a_p0_others, .ref a_p0_worths, .ref a_p0_hangs, .int p0_persons, .int p0_skies, .int p0_oaths])), (a_p0_worths, .inl (cI, 5, .inl p0_worths))]) (fun q => q) q := by
  refine CtI.of (cc := cX1_worthOf) (maxL := 4) (plainFor_of_name (by decide)) rfl (Nat.le_of_ble_eq_true rfl) ?_
  intro p e s m args below meth c A Q H ls hB hE hW hl
  have hx := hB.1
  have hb := hB.2.1
  have hml := hB.2.2.2.1
  have hown : s.vm.findClass RX1 = some m.cls := hB.2.2.2.2.1
  have hts := hB.2.2.2.2.2.1
  have hK := hB.2.2.2.2.2.2.2.1.1
  have hl : lv_has ls 4 [(0, .ref a_p0), (1, .int v1)] := hl
  have in_X1 : ∀ w ∈ wsX10, w ∈ wsX1_worthOf := fun w h => List.mem_cons_of_mem _ (List.mem_append_right _ h)
  have fl_30 : (Cond.fieldLink RX1 30 (TX1 6).1 (TX1 6).2.1 (TX1 6).2.2.1).before args s = true := hts (.fieldLink RX1 30 "ClapOaths$County" "worths" "[I") (by decide +kernel)
  have fl_43 : (Cond.fieldLink RX1 43 (TX1 10).1 (TX1 10).2.1 (TX1 10).2.2.1).before args s = true := hts (.fieldLink RX1 43 "ClapOaths$County" "oaths" "I") (by decide +kernel)
  unfold f_X1_worthOf at hf
  refine lv_iconst (v := 0) hx hb dX1_worthOf_0 (by decide) ?_
  refine lv_istore_n (lv' := [(2, .int (0 : Int32)), (0, .ref a_p0), (1, .int v1)]) hx hb dX1_worthOf_1 rfl hl (by decide) rfl (fun ls hl => ?_)
  refine lv_iconst (v := 0) hx hb dX1_worthOf_2 (by decide) ?_
  refine lv_istore_n (lv' := [(3, .int (0 : Int32)), (2, .int (0 : Int32)), (0, .ref a_p0), (1, .int v1)]) hx hb dX1_worthOf_3 rfl hl (by decide) rfl (fun ls hl => ?_)
  obtain ⟨e_4, hl_4, hk_4⟩ := bnd hf
  have K_4 : ∀ x_4 : Int32, x_4 = e_4 → ∀ (H : Heap) (locs : List Loc) (ls : Array Slot), Wl D A s.heap [(a_p0, .inr (1, [.ref a_p0_places, .ref a_p0_kinds, .ref a_p0_clapPlaces, .ref a_p0_louds, .ref a_p0_ones, .ref a_p0_others, .ref a_p0_worths, .ref a_p0_hangs, .int p0_persons, .int p0_skies, .int p0_oaths])), (a_p0_worths, .inl (cI, 5, .inl p0_worths))] H locs → lv_has ls 4 [(2, .int x_4)] → W p l e (Rm 1 21) s m args below meth c H locs 0 0 Q (F0 m 35 ls []) := by
    intro x_4 hx_4 H locs ls hW hl
    have hf := hk_4
    rw [← hx_4] at hf
    refine lv_iload_n hx hb dX1_worthOf_35 rfl (lv_at hl 0 rfl) ?_
    exact hE _ _ _ _ _ x_4 (sm hf) hW rfl dX1_worthOf_36
  have L_4 : ∀ (n : Nat) (y4_2 : Int32) (y4_3 : Int32) (H : Heap) (locs : List Loc) (ls : Array Slot), itr (fun s => b_X1_worthOf_4 v1 p0_oaths p0_worths s.1 s.2) n (y4_2, y4_3) = some e_4 → Wl D A s.heap [(a_p0, .inr (1, [.ref a_p0_places, .ref a_p0_kinds, .ref a_p0_clapPlaces, .ref a_p0_louds, .ref a_p0_ones, .ref a_p0_others, .ref a_p0_worths, .ref a_p0_hangs, .int p0_persons, .int p0_skies, .int p0_oaths])), (a_p0_worths, .inl (cI, 5, .inl p0_worths))] H locs → lv_has ls 4 [(0, .ref a_p0), (1, .int v1), (2, .int y4_2), (3, .int y4_3)] → W p l e (Rm 1 21) s m args below meth c H locs 0 0 Q (F0 m 4 ls []) := by
    intro n
    induction n with
    | zero => intro y4_2 y4_3 H locs ls h9; exact itr_0 h9
    | succ n ih =>
      intro y4_2 y4_3 H locs ls hf hW hl
      obtain ⟨o_4, hf, ho_4⟩ := itr_inv hf
      have hf : b_X1_worthOf_4 v1 p0_oaths p0_worths y4_2 y4_3 = some o_4 := hf
      unfold b_X1_worthOf_4 at hf
      refine lv_iload_n hx hb dX1_worthOf_4 rfl (lv_at hl 3 rfl) ?_
      refine lv_aload_n hx hb dX1_worthOf_5 rfl (lv_at hl 0 rfl) ?_
      refine q_get hB hW 1 in_X1 0 rfl rfl 10 (by decide) fl_43 (v := .int p0_oaths) rfl dX1_worthOf_6 ?_
      refine lv_icmp_ge (tgt := 35) hx hb dX1_worthOf_9 (by decide) (fun c_1 => ?_) (fun c_1 => ?_)
      · have hf := it_t c_1 hf
        have h9 := o_inr hf ho_4
        exact K_4 y4_2 h9 _ _ _ hW (lv_sub hl [2] rfl)
      · have hf := it_f c_1 hf
        refine lv_iload_n hx hb dX1_worthOf_12 rfl (lv_at hl 2 rfl) ?_
        refine lv_iload_n hx hb dX1_worthOf_13 rfl (lv_at hl 1 rfl) ?_
        refine lv_iload_n hx hb dX1_worthOf_14 rfl (lv_at hl 3 rfl) ?_
        obtain ⟨r_2, hr_2, hf⟩ := bnd hf
        refine q_callNI hB hW (As := [.int v1, .int y4_3]) (rest := [.int y4_2]) (ws' := [(a_p0, .inr (1, [.ref a_p0_places, .ref a_p0_kinds, .ref a_p0_clapPlaces, .ref a_p0_louds, .ref a_p0_ones, .ref a_p0_others, .ref a_p0_worths, .ref a_p0_hangs, .int p0_persons, .int p0_skies, .int p0_oaths])), (a_p0_worths, .inl (cI, 5, .inl p0_worths))]) (c_X6_bit l D cI cZ v1 y4_3 r_2 hr_2) ⟨va_cnB 2 hts gX1_worthOf_X6_bit_n75 rfl rfl rfl (hB.2.2.2.2.2.2.2.1.2 (RX1, 75, yX6_bit, RX6) (by decide +kernel)) (hts (.initialized RX6) (by decide +kernel)) (by decide +kernel) ⟨Nat.le_of_ble_eq_true rfl, Nat.le_of_ble_eq_true rfl⟩, hts (.static yX6_bit) (by decide +kernel), trivial⟩ [] rfl rfl rfl rfl rfl hl.1 rfl (Nat.le_of_ble_eq_true rfl) ⟨Nat.le_of_ble_eq_true rfl, Nat.le_of_ble_eq_true rfl⟩ dX1_worthOf_15 (fun H locs hW => ?_)
        refine lv_aload_n hx hb dX1_worthOf_18 rfl (lv_at hl 0 rfl) ?_
        refine q_get hB hW 1 in_X1 0 rfl rfl 6 (by decide) fl_30 (v := .ref a_p0_worths) rfl dX1_worthOf_19 ?_
        refine lv_iload_n hx hb dX1_worthOf_22 rfl (lv_at hl 3 rfl) ?_
        obtain ⟨r_3, hr_3, hf⟩ := bnd hf
        refine q_callNI hB hW (As := [.ref a_p0_worths, .int y4_3]) (rest := [.int r_2, .int y4_2]) (ws' := [(a_p0, .inr (1, [.ref a_p0_places, .ref a_p0_kinds, .ref a_p0_clapPlaces, .ref a_p0_louds, .ref a_p0_ones, .ref a_p0_others, .ref a_p0_worths, .ref a_p0_hangs, .int p0_persons, .int p0_skies, .int p0_oaths])), (a_p0_worths, .inl (cI, 5, .inl p0_worths))]) (c_X6_at l D cI cZ a_p0_worths 5 p0_worths y4_3 r_3 hr_3) ⟨va_cnB 2 hts gX1_worthOf_X6_at_n58 rfl rfl rfl (hB.2.2.2.2.2.2.2.1.2 (RX1, 58, yX6_at, RX6) (by decide +kernel)) (hts (.initialized RX6) (by decide +kernel)) (by decide +kernel) ⟨Nat.le_of_ble_eq_true rfl, Nat.le_of_ble_eq_true rfl⟩, hts (.static yX6_at) (by decide +kernel), trivial⟩ [1] rfl rfl rfl rfl rfl hl.1 rfl (Nat.le_of_ble_eq_true rfl) ⟨Nat.le_of_ble_eq_true rfl, Nat.le_of_ble_eq_true rfl⟩ dX1_worthOf_23 (fun H locs hW => ?_)
        refine lv_imul hx hb dX1_worthOf_26 ?_
        refine lv_iadd hx hb dX1_worthOf_27 ?_
        obtain ⟨w_4, hw_4, hf⟩ := bnd hf
        refine q_nmI hw_4 ?_
        refine lv_istore_n (lv' := [(2, .int w_4), (0, .ref a_p0), (1, .int v1), (3, .int y4_3)]) hx hb dX1_worthOf_28 rfl hl (by decide) rfl (fun ls hl => ?_)
        refine lv_iinc (v := (y4_3 + (1 : Int32))) (lv' := [(3, .int (y4_3 + (1 : Int32))), (2, .int w_4), (0, .ref a_p0), (1, .int v1)]) hx hb dX1_worthOf_29 hl (k := 3) rfl rfl (by decide) rfl (fun ls hl => ?_)
        refine lv_goto (tgt := 4) hx hb dX1_worthOf_32 (by decide) ?_
        have h9 := o_inl hf ho_4
        exact ih w_4 (y4_3 + (1 : Int32)) _ _ _ h9 hW (lv_sub hl [2, 3, 1, 0] rfl)
  exact L_4 FU (0 : Int32) (0 : Int32) _ _ _ hl_4 hW (lv_sub hl [2, 3, 1, 0] rfl)
def f_X4_passDay (v1 : Int32) (p0_places : Int32) (p0_wool : Int32) (p0_sworn : Int32) (p0_worth : Int32) (p0_day : Int32) (p0_land_persons : Int32) (p0_land_skies : Int32) (p0_land_oaths : Int32) (p0_land_kinds : Nat → Int32) (p0_land_clapPlaces : Nat → Int32) (p0_land_louds : Nat → Int32) (p0_land_ones : Nat → Int32) (p0_land_others : Nat → Int32) (p0_land_worths : Nat → Int32) (p0_land_hangs : Nat → Int32) : Option (Int32 × Int32 × Int32 × Int32) := if v1 = (0 : Int32) then (f_X1_worthOf p0_sworn p0_land_oaths p0_land_worths).bind fun r_2 => (some (if (p0_worth + r_2) < (9999 : Int32) then (p0_worth + r_2) else (9999 : Int32))).bind fun w_3 => (some (p0_day + (1 : Int32))).bind fun w_4 => some ((0 : Int32), p0_sworn, w_3, w_4) else (f_X4_skyHearers p0_places p0_wool p0_day p0_land_persons p0_land_skies p0_land_kinds p0_land_clapPlaces p0_land_louds).bind fun r_5 => (f_X4_freeBy r_5 p0_sworn p0_land_oaths p0_land_kinds p0_land_ones p0_land_others p0_land_hangs).bind fun r_6 => (f_X1_worthOf r_6.2 p0_land_oaths p0_land_worths).bind fun r_7 => (some (if (p0_worth + r_7) < (9999 : Int32) then (p0_worth + r_7) else (9999 : Int32))).bind fun w_8 => (some (p0_day + (1 : Int32))).bind fun w_9 => some (r_6.1, r_6.2, w_8, w_9)
set_option maxHeartbeats 4000000 in
set_option maxRecDepth 100000 in
theorem c_X4_passDay (l : Launch) (D : va_G) (cI cZ : ClassId) (a_p0 a_p0_land a_p0_land_places a_p0_land_kinds a_p0_land_clapPlaces a_p0_land_louds a_p0_land_ones a_p0_land_others a_p0_land_worths a_p0_land_hangs : Nat) (p0_places : Int32) (p0_wool : Int32) (p0_sworn : Int32) (p0_worth : Int32) (p0_day : Int32) (p0_land_persons : Int32) (p0_land_skies : Int32) (p0_land_oaths : Int32) (p0_land_kinds : Nat → Int32) (p0_land_clapPlaces : Nat → Int32) (p0_land_louds : Nat → Int32) (p0_land_ones : Nat → Int32) (p0_land_others : Nat → Int32) (p0_land_worths : Nat → Int32) (p0_land_hangs : Nat → Int32) (v1 : Int32) (q : Int32 × Int32 × Int32 × Int32) (hf : f_X4_passDay v1 p0_places p0_wool p0_sworn p0_worth p0_day p0_land_persons p0_land_skies p0_land_oaths p0_land_kinds p0_land_clapPlaces p0_land_louds p0_land_ones p0_land_others p0_land_worths p0_land_hangs = some q) : CtI l D cI cZ yX4_passDay wsX4_passDay 3 70 [.ref a_p0, .int v1] [(a_p0, .inr (4, [.ref a_p0_land, .int p0_places, .int p0_wool, .int p0_sworn, .int p0_worth, .int p0_day])), (a_p0_land, .inr (1, [.ref a_p0_land_places, .ref a_p0_land_kinds, .ref a_p0_land_clapPlaces, .ref a_p0_land_louds, .ref a_p0_land_ones, .ref a_p0_land_others, .ref a_p0_land_worths, .ref a_p0_land_hangs, .int p0_land_persons, .int p0_land_skies, .int p0_land_oaths])), (a_p0_land_kinds, .inl (cI, 5, .inl p0_land_kinds)), (a_p0_land_clapPlaces, .inl (cI, 5, .inl p0_land_clapPlaces)), (a_p0_land_louds, .inl (cI, 5, .inl p0_land_louds)), (a_p0_land_ones, .inl (cI, 5, .inl p0_land_ones)), (a_p0_land_others, .inl (cI, 5, .inl p0_land_others)), (a_p0_land_worths, .inl (cI, 5, .inl p0_land_worths)), (a_p0_land_hangs, .inl (cI, 5, .inl p0_land_hangs))] (fun q => [(a_p0, .inr (4, [.ref a_p0_land, .int p0_places, .int p0_wool, .int q.2.1, .int q.2.2.1, .int q.2.2.2])), (a_p0_land, .inr (1, [.ref a_p0_land_places, .ref a_p0_land_kinds, .ref a_p0_land_clapPlaces, .ref a_p0_land_louds, .ref a_p0_land_ones, .ref a_p0_land_others, .ref a_p0_land_worths, .ref a_p0_land_hangs, .int p0_land_persons, .int p0_land_skies, .int p0_land_oaths])), (a_p0_land_kinds, .inl (cI, 5, .inl p0_land_kinds)), (a_p0_land_clapPlaces, .inl (cI, 5, .inl p0_land_clapPlaces)), (a_p0_land_louds, .inl (cI, 5, .inl p0_land_louds)), (a_p0_land_ones, .inl (cI, 5, .inl p0_land_ones)), (a_p0_land_others, .inl (cI, 5, .inl p0_land_others)), (a_p0_land_worths, .inl (cI, 5, .inl p0_land_worths)), (a_p0_land_hangs, .inl (cI, 5, .inl p0_land_hangs))]) (fun q => q.1) q := by
  refine CtI.of (cc := cX4_passDay) (maxL := 3) (plainFor_of_name (by decide)) rfl (Nat.le_of_ble_eq_true rfl) ?_
  intro p e s m args below meth c A Q H ls hB hE hW hl
  have hx := hB.1
  have hb := hB.2.1
  have hml := hB.2.2.2.1
  have hown : s.vm.findClass RX4 = some m.cls := hB.2.2.2.2.1
  have hts := hB.2.2.2.2.2.1
  have hK := hB.2.2.2.2.2.2.2.1.1
  have hl : lv_has ls 3 [(0, .ref a_p0), (1, .int v1)] := hl
  have in_X4 : ∀ w ∈ wsX40, w ∈ wsX4_passDay := fun w h => List.mem_cons_of_mem _ (List.mem_append_left _ (List.mem_append_right _ h))
  have fl_9 : (Cond.fieldLink RX4 9 (TX4 0).1 (TX4 0).2.1 (TX4 0).2.2.1).before args s = true := hts (.fieldLink RX4 9 "ClapOaths$Standing" "land" "LClapOaths$County;") (by decide +kernel)
  have fl_22 : (Cond.fieldLink RX4 22 (TX4 3).1 (TX4 3).2.1 (TX4 3).2.2.1).before args s = true := hts (.fieldLink RX4 22 "ClapOaths$Standing" "sworn" "I") (by decide +kernel)
  have fl_25 : (Cond.fieldLink RX4 25 (TX4 4).1 (TX4 4).2.1 (TX4 4).2.2.1).before args s = true := hts (.fieldLink RX4 25 "ClapOaths$Standing" "worth" "I") (by decide +kernel)
  have fl_28 : (Cond.fieldLink RX4 28 (TX4 5).1 (TX4 5).2.1 (TX4 5).2.2.1).before args s = true := hts (.fieldLink RX4 28 "ClapOaths$Standing" "day" "I") (by decide +kernel)
  unfold f_X4_passDay at hf
  refine lv_iload_n hx hb dX4_passDay_0 rfl (lv_at hl 1 rfl) ?_
  refine lv_if_eq (tgt := 15) hx hb dX4_passDay_1 (by decide) (fun c_1 => ?_) (fun c_1 => ?_)
  · have hf := it_t c_1 hf
    refine lv_iconst (v := 0) hx hb dX4_passDay_15 (by decide) ?_
    refine lv_istore_n (lv' := [(2, .int (0 : Int32)), (0, .ref a_p0), (1, .int v1)]) hx hb dX4_passDay_16 rfl hl (by decide) rfl (fun ls hl => ?_)
    refine lv_aload_n hx hb dX4_passDay_17 rfl (lv_at hl 1 rfl) ?_
    refine lv_sipush (v := 9999) hx hb dX4_passDay_18 (by decide) ?_
    refine lv_aload_n hx hb dX4_passDay_21 rfl (lv_at hl 1 rfl) ?_
    refine q_get hB hW 4 in_X4 0 rfl rfl 4 (by decide) fl_25 (v := .int p0_worth) rfl dX4_passDay_22 ?_
    refine lv_aload_n hx hb dX4_passDay_25 rfl (lv_at hl 1 rfl) ?_
    refine q_get hB hW 4 in_X4 0 rfl rfl 0 (by decide) fl_9 (v := .ref a_p0_land) rfl dX4_passDay_26 ?_
    refine lv_aload_n hx hb dX4_passDay_29 rfl (lv_at hl 1 rfl) ?_
    refine q_get hB hW 4 in_X4 0 rfl rfl 3 (by decide) fl_22 (v := .int p0_sworn) rfl dX4_passDay_30 ?_
    obtain ⟨r_2, hr_2, hf⟩ := bnd hf
    refine q_callVI hB hW (ci := 1) (q0 := 0) rfl rfl rfl (As := [.int p0_sworn]) (rest := [.int p0_worth, .int (9999 : Int32), .ref a_p0]) (ws' := [(a_p0, .inr (4, [.ref a_p0_land, .int p0_places, .int p0_wool, .int p0_sworn, .int p0_worth, .int p0_day])), (a_p0_land, .inr (1, [.ref a_p0_land_places, .ref a_p0_land_kinds, .ref a_p0_land_clapPlaces, .ref a_p0_land_louds, .ref a_p0_land_ones, .ref a_p0_land_others, .ref a_p0_land_worths, .ref a_p0_land_hangs, .int p0_land_persons, .int p0_land_skies, .int p0_land_oaths])), (a_p0_land_kinds, .inl (cI, 5, .inl p0_land_kinds)), (a_p0_land_clapPlaces, .inl (cI, 5, .inl p0_land_clapPlaces)), (a_p0_land_louds, .inl (cI, 5, .inl p0_land_louds)), (a_p0_land_ones, .inl (cI, 5, .inl p0_land_ones)), (a_p0_land_others, .inl (cI, 5, .inl p0_land_others)), (a_p0_land_worths, .inl (cI, 5, .inl p0_land_worths)), (a_p0_land_hangs, .inl (cI, 5, .inl p0_land_hangs))]) (c_X1_worthOf l D cI cZ a_p0_land a_p0_land_places a_p0_land_kinds a_p0_land_clapPlaces a_p0_land_louds a_p0_land_ones a_p0_land_others a_p0_land_worths a_p0_land_hangs p0_land_persons p0_land_skies p0_land_oaths p0_land_worths p0_sworn r_2 hr_2) (cwV 1 hts gX4_passDay_X1_worthOf rfl rfl rfl (by decide +kernel) ⟨Nat.le_of_ble_eq_true rfl, Nat.le_of_ble_eq_true rfl⟩) [1, 7] rfl rfl rfl rfl rfl hl.1 rfl (Nat.le_of_ble_eq_true rfl) ⟨Nat.le_of_ble_eq_true rfl, Nat.le_of_ble_eq_true rfl⟩ dX4_passDay_33 (fun H locs hW => ?_)
    refine lv_iadd hx hb dX4_passDay_36 ?_
    refine va_mmin hx hb (hml.trans hl.1.symm) hown (hts (.methodLink RX4 137 Lib.Math.min.name) (by decide +kernel)) (hts (.static Lib.Math.min.name) (by decide +kernel)) (hts (.initialized "java/lang/Math") (by decide +kernel)) (hts (.code Lib.Math.min.name Lib.Math.min.code 2 (some .int)) (by decide +kernel)) (Nat.le_of_ble_eq_true rfl) (Nat.le_of_ble_eq_true rfl) (Nat.le_of_ble_eq_true rfl) (Nat.le_of_ble_eq_true rfl) dX4_passDay_37 ?_
    obtain ⟨w_3, hw_3, hf⟩ := bnd hf
    refine q_nmI hw_3 ?_
    refine q_put hB hW 4 in_X4 tyX4 tyX4_ok nmX4 0 rfl rfl 4 (by decide) fl_25 rfl (by first | rfl | decide) (by first | rfl | decide) (Nat.le_of_ble_eq_true rfl) (ws' := [(a_p0, .inr (4, [.ref a_p0_land, .int p0_places, .int p0_wool, .int p0_sworn, .int w_3, .int p0_day])), (a_p0_land, .inr (1, [.ref a_p0_land_places, .ref a_p0_land_kinds, .ref a_p0_land_clapPlaces, .ref a_p0_land_louds, .ref a_p0_land_ones, .ref a_p0_land_others, .ref a_p0_land_worths, .ref a_p0_land_hangs, .int p0_land_persons, .int p0_land_skies, .int p0_land_oaths])), (a_p0_land_kinds, .inl (cI, 5, .inl p0_land_kinds)), (a_p0_land_clapPlaces, .inl (cI, 5, .inl p0_land_clapPlaces)), (a_p0_land_louds, .inl (cI, 5, .inl p0_land_louds)), (a_p0_land_ones, .inl (cI, 5, .inl p0_land_ones)), (a_p0_land_others, .inl (cI, 5, .inl p0_land_others)), (a_p0_land_worths, .inl (cI, 5, .inl p0_land_worths)), (a_p0_land_hangs, .inl (cI, 5, .inl p0_land_hangs))]) rfl dX4_passDay_40 (fun H locs hW => ?_)
    refine lv_aload_n hx hb dX4_passDay_43 rfl (lv_at hl 1 rfl) ?_
    refine lv_dup hx hb dX4_passDay_44 rfl ?_
    refine q_get hB hW 4 in_X4 0 rfl rfl 5 (by decide) fl_28 (v := .int p0_day) rfl dX4_passDay_45 ?_
    refine lv_iconst (v := 1) hx hb dX4_passDay_48 (by decide) ?_
    refine lv_iadd hx hb dX4_passDay_49 ?_
    obtain ⟨w_4, hw_4, hf⟩ := bnd hf
    refine q_nmI hw_4 ?_
    refine q_put hB hW 4 in_X4 tyX4 tyX4_ok nmX4 0 rfl rfl 5 (by decide) fl_28 rfl (by first | rfl | decide) (by first | rfl | decide) (Nat.le_of_ble_eq_true rfl) (ws' := [(a_p0, .inr (4, [.ref a_p0_land, .int p0_places, .int p0_wool, .int p0_sworn, .int w_3, .int w_4])), (a_p0_land, .inr (1, [.ref a_p0_land_places, .ref a_p0_land_kinds, .ref a_p0_land_clapPlaces, .ref a_p0_land_louds, .ref a_p0_land_ones, .ref a_p0_land_others, .ref a_p0_land_worths, .ref a_p0_land_hangs, .int p0_land_persons, .int p0_land_skies, .int p0_land_oaths])), (a_p0_land_kinds, .inl (cI, 5, .inl p0_land_kinds)), (a_p0_land_clapPlaces, .inl (cI, 5, .inl p0_land_clapPlaces)), (a_p0_land_louds, .inl (cI, 5, .inl p0_land_louds)), (a_p0_land_ones, .inl (cI, 5, .inl p0_land_ones)), (a_p0_land_others, .inl (cI, 5, .inl p0_land_others)), (a_p0_land_worths, .inl (cI, 5, .inl p0_land_worths)), (a_p0_land_hangs, .inl (cI, 5, .inl p0_land_hangs))]) rfl dX4_passDay_50 (fun H locs hW => ?_)
    refine lv_iload_n hx hb dX4_passDay_53 rfl (lv_at hl 0 rfl) ?_
    exact hE _ _ _ _ _ ((0 : Int32), p0_sworn, w_3, w_4) (sm hf) hW rfl dX4_passDay_54
  · have hf := it_f c_1 hf
    refine lv_aload_n hx hb dX4_passDay_4 rfl (lv_at hl 0 rfl) ?_
    refine lv_aload_n hx hb dX4_passDay_5 rfl (lv_at hl 0 rfl) ?_
    obtain ⟨r_5, hr_5, hf⟩ := bnd hf
    refine q_callVI hB hW (ci := 4) (q0 := 0) rfl rfl rfl (As := []) (rest := [.ref a_p0]) (ws' := [(a_p0, .inr (4, [.ref a_p0_land, .int p0_places, .int p0_wool, .int p0_sworn, .int p0_worth, .int p0_day])), (a_p0_land, .inr (1, [.ref a_p0_land_places, .ref a_p0_land_kinds, .ref a_p0_land_clapPlaces, .ref a_p0_land_louds, .ref a_p0_land_ones, .ref a_p0_land_others, .ref a_p0_land_worths, .ref a_p0_land_hangs, .int p0_land_persons, .int p0_land_skies, .int p0_land_oaths])), (a_p0_land_kinds, .inl (cI, 5, .inl p0_land_kinds)), (a_p0_land_clapPlaces, .inl (cI, 5, .inl p0_land_clapPlaces)), (a_p0_land_louds, .inl (cI, 5, .inl p0_land_louds)), (a_p0_land_ones, .inl (cI, 5, .inl p0_land_ones)), (a_p0_land_others, .inl (cI, 5, .inl p0_land_others)), (a_p0_land_worths, .inl (cI, 5, .inl p0_land_worths)), (a_p0_land_hangs, .inl (cI, 5, .inl p0_land_hangs))]) (c_X4_skyHearers l D cI cZ a_p0 a_p0_land a_p0_land_places a_p0_land_kinds a_p0_land_clapPlaces a_p0_land_louds a_p0_land_ones a_p0_land_others a_p0_land_worths a_p0_land_hangs p0_places p0_wool p0_sworn p0_worth p0_day p0_land_persons p0_land_skies p0_land_oaths p0_land_kinds p0_land_clapPlaces p0_land_louds r_5 hr_5) (cwV 0 hts gX4_passDay_X4_skyHearers rfl rfl rfl (by decide +kernel) ⟨Nat.le_of_ble_eq_true rfl, Nat.le_of_ble_eq_true rfl⟩) [0, 1, 2, 3, 4] rfl rfl rfl rfl rfl hl.1 rfl (Nat.le_of_ble_eq_true rfl) ⟨Nat.le_of_ble_eq_true rfl, Nat.le_of_ble_eq_true rfl⟩ dX4_passDay_6 (fun H locs hW => ?_)
    obtain ⟨r_6, hr_6, hf⟩ := bnd hf
    refine q_callVI hB hW (ci := 4) (q0 := 0) rfl rfl rfl (As := [.int r_5]) (rest := []) (ws' := [(a_p0, .inr (4, [.ref a_p0_land, .int p0_places, .int p0_wool, .int r_6.2, .int p0_worth, .int p0_day])), (a_p0_land, .inr (1, [.ref a_p0_land_places, .ref a_p0_land_kinds, .ref a_p0_land_clapPlaces, .ref a_p0_land_louds, .ref a_p0_land_ones, .ref a_p0_land_others, .ref a_p0_land_worths, .ref a_p0_land_hangs, .int p0_land_persons, .int p0_land_skies, .int p0_land_oaths])), (a_p0_land_kinds, .inl (cI, 5, .inl p0_land_kinds)), (a_p0_land_clapPlaces, .inl (cI, 5, .inl p0_land_clapPlaces)), (a_p0_land_louds, .inl (cI, 5, .inl p0_land_louds)), (a_p0_land_ones, .inl (cI, 5, .inl p0_land_ones)), (a_p0_land_others, .inl (cI, 5, .inl p0_land_others)), (a_p0_land_worths, .inl (cI, 5, .inl p0_land_worths)), (a_p0_land_hangs, .inl (cI, 5, .inl p0_land_hangs))]) (c_X4_freeBy l D cI cZ a_p0 a_p0_land a_p0_land_places a_p0_land_kinds a_p0_land_clapPlaces a_p0_land_louds a_p0_land_ones a_p0_land_others a_p0_land_worths a_p0_land_hangs p0_places p0_wool p0_sworn p0_worth p0_day p0_land_persons p0_land_skies p0_land_oaths p0_land_kinds p0_land_ones p0_land_others p0_land_hangs r_5 r_6 hr_6) (cwV 1 hts gX4_passDay_X4_freeBy rfl rfl rfl (by decide +kernel) ⟨Nat.le_of_ble_eq_true rfl, Nat.le_of_ble_eq_true rfl⟩) [0, 1, 2, 5, 6, 8] rfl rfl rfl rfl rfl hl.1 rfl (Nat.le_of_ble_eq_true rfl) ⟨Nat.le_of_ble_eq_true rfl, Nat.le_of_ble_eq_true rfl⟩ dX4_passDay_9 (fun H locs hW => ?_)
    refine lv_goto (tgt := 16) hx hb dX4_passDay_12 (by decide) ?_
    refine lv_istore_n (lv' := [(2, .int r_6.1), (0, .ref a_p0), (1, .int v1)]) hx hb dX4_passDay_16 rfl hl (by decide) rfl (fun ls hl => ?_)
    refine lv_aload_n hx hb dX4_passDay_17 rfl (lv_at hl 1 rfl) ?_
    refine lv_sipush (v := 9999) hx hb dX4_passDay_18 (by decide) ?_
    refine lv_aload_n hx hb dX4_passDay_21 rfl (lv_at hl 1 rfl) ?_
    refine q_get hB hW 4 in_X4 0 rfl rfl 4 (by decide) fl_25 (v := .int p0_worth) rfl dX4_passDay_22 ?_
    refine lv_aload_n hx hb dX4_passDay_25 rfl (lv_at hl 1 rfl) ?_
    refine q_get hB hW 4 in_X4 0 rfl rfl 0 (by decide) fl_9 (v := .ref a_p0_land) rfl dX4_passDay_26 ?_
    refine lv_aload_n hx hb dX4_passDay_29 rfl (lv_at hl 1 rfl) ?_
    refine q_get hB hW 4 in_X4 0 rfl rfl 3 (by decide) fl_22 (v := .int r_6.2) rfl dX4_passDay_30 ?_
    obtain ⟨r_7, hr_7, hf⟩ := bnd hf
    refine q_callVI hB hW (ci := 1) (q0 := 0) rfl rfl rfl (As := [.int r_6.2]) (rest := [.int p0_worth, .int (9999 : Int32), .ref a_p0]) (ws' := [(a_p0, .inr (4, [.ref a_p0_land, .int p0_places, .int p0_wool, .int r_6.2, .int p0_worth, .int p0_day])), (a_p0_land, .inr (1, [.ref a_p0_land_places, .ref a_p0_land_kinds, .ref a_p0_land_clapPlaces, .ref a_p0_land_louds, .ref a_p0_land_ones, .ref a_p0_land_others, .ref a_p0_land_worths, .ref a_p0_land_hangs, .int p0_land_persons, .int p0_land_skies, .int p0_land_oaths])), (a_p0_land_kinds, .inl (cI, 5, .inl p0_land_kinds)), (a_p0_land_clapPlaces, .inl (cI, 5, .inl p0_land_clapPlaces)), (a_p0_land_louds, .inl (cI, 5, .inl p0_land_louds)), (a_p0_land_ones, .inl (cI, 5, .inl p0_land_ones)), (a_p0_land_others, .inl (cI, 5, .inl p0_land_others)), (a_p0_land_worths, .inl (cI, 5, .inl p0_land_worths)), (a_p0_land_hangs, .inl (cI, 5, .inl p0_land_hangs))]) (c_X1_worthOf l D cI cZ a_p0_land a_p0_land_places a_p0_land_kinds a_p0_land_clapPlaces a_p0_land_louds a_p0_land_ones a_p0_land_others a_p0_land_worths a_p0_land_hangs p0_land_persons p0_land_skies p0_land_oaths p0_land_worths r_6.2 r_7 hr_7) (cwV 1 hts gX4_passDay_X1_worthOf rfl rfl rfl (by decide +kernel) ⟨Nat.le_of_ble_eq_true rfl, Nat.le_of_ble_eq_true rfl⟩) [1, 7] rfl rfl rfl rfl rfl hl.1 rfl (Nat.le_of_ble_eq_true rfl) ⟨Nat.le_of_ble_eq_true rfl, Nat.le_of_ble_eq_true rfl⟩ dX4_passDay_33 (fun H locs hW => ?_)
    refine lv_iadd hx hb dX4_passDay_36 ?_
    refine va_mmin hx hb (hml.trans hl.1.symm) hown (hts (.methodLink RX4 137 Lib.Math.min.name) (by decide +kernel)) (hts (.static Lib.Math.min.name) (by decide +kernel)) (hts (.initialized "java/lang/Math") (by decide +kernel)) (hts (.code Lib.Math.min.name Lib.Math.min.code 2 (some .int)) (by decide +kernel)) (Nat.le_of_ble_eq_true rfl) (Nat.le_of_ble_eq_true rfl) (Nat.le_of_ble_eq_true rfl) (Nat.le_of_ble_eq_true rfl) dX4_passDay_37 ?_
    obtain ⟨w_8, hw_8, hf⟩ := bnd hf
    refine q_nmI hw_8 ?_
    refine q_put hB hW 4 in_X4 tyX4 tyX4_ok nmX4 0 rfl rfl 4 (by decide) fl_25 rfl (by first | rfl | decide) (by first | rfl | decide) (Nat.le_of_ble_eq_true rfl) (ws' := [(a_p0, .inr (4, [.ref a_p0_land, .int p0_places, .int p0_wool, .int r_6.2, .int w_8, .int p0_day])), (a_p0_land, .inr (1, [.ref a_p0_land_places, .ref a_p0_land_kinds, .ref a_p0_land_clapPlaces, .ref a_p0_land_louds, .ref a_p0_land_ones, .ref a_p0_land_others, .ref a_p0_land_worths, .ref a_p0_land_hangs, .int p0_land_persons, .int p0_land_skies, .int p0_land_oaths])), (a_p0_land_kinds, .inl (cI, 5, .inl p0_land_kinds)), (a_p0_land_clapPlaces, .inl (cI, 5, .inl p0_land_clapPlaces)), (a_p0_land_louds, .inl (cI, 5, .inl p0_land_louds)), (a_p0_land_ones, .inl (cI, 5, .inl p0_land_ones)), (a_p0_land_others, .inl (cI, 5, .inl p0_land_others)), (a_p0_land_worths, .inl (cI, 5, .inl p0_land_worths)), (a_p0_land_hangs, .inl (cI, 5, .inl p0_land_hangs))]) rfl dX4_passDay_40 (fun H locs hW => ?_)
    refine lv_aload_n hx hb dX4_passDay_43 rfl (lv_at hl 1 rfl) ?_
    refine lv_dup hx hb dX4_passDay_44 rfl ?_
    refine q_get hB hW 4 in_X4 0 rfl rfl 5 (by decide) fl_28 (v := .int p0_day) rfl dX4_passDay_45 ?_
    refine lv_iconst (v := 1) hx hb dX4_passDay_48 (by decide) ?_
    refine lv_iadd hx hb dX4_passDay_49 ?_
    obtain ⟨w_9, hw_9, hf⟩ := bnd hf
    refine q_nmI hw_9 ?_
    refine q_put hB hW 4 in_X4 tyX4 tyX4_ok nmX4 0 rfl rfl 5 (by decide) fl_28 rfl (by first | rfl | decide) (by first | rfl | decide) (Nat.le_of_ble_eq_true rfl) (ws' := [(a_p0, .inr (4, [.ref a_p0_land, .int p0_places, .int p0_wool, .int r_6.2, .int w_8, .int w_9])), (a_p0_land, .inr (1, [.ref a_p0_land_places, .ref a_p0_land_kinds, .ref a_p0_land_clapPlaces, .ref a_p0_land_louds, .ref a_p0_land_ones, .ref a_p0_land_others, .ref a_p0_land_worths, .ref a_p0_land_hangs, .int p0_land_persons, .int p0_land_skies, .int p0_land_oaths])), (a_p0_land_kinds, .inl (cI, 5, .inl p0_land_kinds)), (a_p0_land_clapPlaces, .inl (cI, 5, .inl p0_land_clapPlaces)), (a_p0_land_louds, .inl (cI, 5, .inl p0_land_louds)), (a_p0_land_ones, .inl (cI, 5, .inl p0_land_ones)), (a_p0_land_others, .inl (cI, 5, .inl p0_land_others)), (a_p0_land_worths, .inl (cI, 5, .inl p0_land_worths)), (a_p0_land_hangs, .inl (cI, 5, .inl p0_land_hangs))]) rfl dX4_passDay_50 (fun H locs hW => ?_)
    refine lv_iload_n hx hb dX4_passDay_53 rfl (lv_at hl 0 rfl) ?_
    exact hE _ _ _ _ _ (r_6.1, r_6.2, w_8, w_9) (sm hf) hW rfl dX4_passDay_54
def f_X6_day (p0_land_persons : Int32) (p0_land_skies : Int32) (p0_land_oaths : Int32) (p0_now_places : Int32) (p0_now_wool : Int32) (p0_now_sworn : Int32) (p0_now_worth : Int32) (p0_now_day : Int32) (p0_acts_length : Int32) (p0_land_kinds : Nat → Int32) (p0_land_clapPlaces : Nat → Int32) (p0_land_louds : Nat → Int32) (p0_land_ones : Nat → Int32) (p0_land_others : Nat → Int32) (p0_land_worths : Nat → Int32) (p0_land_hangs : Nat → Int32) (p0_acts_row : Nat → Int32) : Option (Int32 × Int32 × Int32 × Int32 × Int32 × (Nat → Int32)) := (f_X0_push p0_acts_length p0_acts_row p0_now_places p0_now_wool p0_now_sworn p0_now_worth p0_now_day).bind fun r_1 => (f_X4_passDay (1 : Int32) p0_now_places p0_now_wool p0_now_sworn p0_now_worth p0_now_day p0_land_persons p0_land_skies p0_land_oaths p0_land_kinds p0_land_clapPlaces p0_land_louds p0_land_ones p0_land_others p0_land_worths p0_land_hangs).bind fun r_2 => some (r_2.1, r_2.2.1, r_2.2.2.1, r_2.2.2.2, r_1.1, r_1.2)
set_option maxHeartbeats 4000000 in
set_option maxRecDepth 100000 in
theorem c_X6_day (l : Launch) (D : va_G) (cI cZ : ClassId) (a_p0 a_p0_text a_p0_reader a_p0_draft a_p0_land a_p0_now a_p0_trial a_p0_acts a_p0_hearings a_p0_kept a_p0_land_places a_p0_land_kinds a_p0_land_clapPlaces a_p0_land_louds a_p0_land_ones a_p0_land_others a_p0_land_worths a_p0_land_hangs a_p0_acts_row : Nat) (p0_keptSlots : Int32) (p0_seedNow : Int64) (p0_land_persons : Int32) (p0_land_skies : Int32) (p0_land_oaths : Int32) (p0_now_places : Int32) (p0_now_wool : Int32) (p0_now_sworn : Int32) (p0_now_worth : Int32) (p0_now_day : Int32) (p0_acts_length : Int32) (p0_land_kinds : Nat → Int32) (p0_land_clapPlaces : Nat → Int32) (p0_land_louds : Nat → Int32) (p0_land_ones : Nat → Int32) (p0_land_others : Nat → Int32) (p0_land_worths : Nat → Int32) (p0_land_hangs : Nat → Int32) (p0_acts_row : Nat → Int32) (q : Int32 × Int32 × Int32 × Int32 × Int32 × (Nat → Int32)) (hf : f_X6_day p0_land_persons p0_land_skies p0_land_oaths p0_now_places p0_now_wool p0_now_sworn p0_now_worth p0_now_day p0_acts_length p0_land_kinds p0_land_clapPlaces p0_land_louds p0_land_ones p0_land_others p0_land_worths p0_land_hangs p0_acts_row = some q) : CtI l D cI cZ yX6_day wsX6_day 4 92 [.ref a_p0] [(a_p0, .inr (6, [.ref a_p0_text, .ref a_p0_reader, .ref a_p0_draft, .ref a_p0_land, .ref a_p0_now, .ref a_p0_trial, .ref a_p0_acts, .ref a_p0_hearings, .ref a_p0_kept, .int p0_keptSlots, .long p0_seedNow])), (a_p0_land, .inr (1, [.ref a_p0_land_places, .ref a_p0_land_kinds, .ref a_p0_land_clapPlaces, .ref a_p0_land_louds, .ref a_p0_land_ones, .ref a_p0_land_others, .ref a_p0_land_worths, .ref a_p0_land_hangs, .int p0_land_persons, .int p0_land_skies, .int p0_land_oaths])), (a_p0_now, .inr (4, [.ref a_p0_land, .int p0_now_places, .int p0_now_wool, .int p0_now_sworn, .int p0_now_worth, .int p0_now_day])), (a_p0_acts, .inr (0, [.ref a_p0_acts_row, .int p0_acts_length])), (a_p0_land_kinds, .inl (cI, 5, .inl p0_land_kinds)), (a_p0_land_clapPlaces, .inl (cI, 5, .inl p0_land_clapPlaces)), (a_p0_land_louds, .inl (cI, 5, .inl p0_land_louds)), (a_p0_land_ones, .inl (cI, 5, .inl p0_land_ones)), (a_p0_land_others, .inl (cI, 5, .inl p0_land_others)), (a_p0_land_worths, .inl (cI, 5, .inl p0_land_worths)), (a_p0_land_hangs, .inl (cI, 5, .inl p0_land_hangs)), (a_p0_acts_row, .inl (cI, 70, .inl p0_acts_row))] (fun q => [(a_p0, .inr (6, [.ref a_p0_text, .ref a_p0_reader, .ref a_p0_draft, .ref a_p0_land, .ref a_p0_now, .ref a_p0_trial, .ref a_p0_acts, .ref a_p0_hearings, .ref a_p0_kept, .int p0_keptSlots, .long p0_seedNow])), (a_p0_land, .inr (1, [.ref a_p0_land_places, .ref a_p0_land_kinds, .ref a_p0_land_clapPlaces, .ref a_p0_land_louds, .ref a_p0_land_ones, .ref a_p0_land_others, .ref a_p0_land_worths, .ref a_p0_land_hangs, .int p0_land_persons, .int p0_land_skies, .int p0_land_oaths])), (a_p0_now, .inr (4, [.ref a_p0_land, .int p0_now_places, .int p0_now_wool, .int q.2.1, .int q.2.2.1, .int q.2.2.2.1])), (a_p0_acts, .inr (0, [.ref a_p0_acts_row, .int q.2.2.2.2.1])), (a_p0_land_kinds, .inl (cI, 5, .inl p0_land_kinds)), (a_p0_land_clapPlaces, .inl (cI, 5, .inl p0_land_clapPlaces)), (a_p0_land_louds, .inl (cI, 5, .inl p0_land_louds)), (a_p0_land_ones, .inl (cI, 5, .inl p0_land_ones)), (a_p0_land_others, .inl (cI, 5, .inl p0_land_others)), (a_p0_land_worths, .inl (cI, 5, .inl p0_land_worths)), (a_p0_land_hangs, .inl (cI, 5, .inl p0_land_hangs)), (a_p0_acts_row, .inl (cI, 70, .inl q.2.2.2.2.2))]) (fun q => q.1) q := by
  refine CtI.of (cc := cX6_day) (maxL := 1) (plainFor_of_name (by decide)) rfl (Nat.le_of_ble_eq_true rfl) ?_
  intro p e s m args below meth c A Q H ls hB hE hW hl
  have hx := hB.1
  have hb := hB.2.1
  have hml := hB.2.2.2.1
  have hown : s.vm.findClass RX6 = some m.cls := hB.2.2.2.2.1
  have hts := hB.2.2.2.2.2.1
  have hK := hB.2.2.2.2.2.2.2.1.1
  have hl : lv_has ls 1 [(0, .ref a_p0)] := hl
  have in_X6 : ∀ w ∈ wsX60, w ∈ wsX6_day := fun w h => List.mem_cons_of_mem _ (List.mem_append_left _ (List.mem_append_left _ (List.mem_append_left _ (List.mem_append_right _ h))))
  have fl_40 : (Cond.fieldLink RX6 40 (TX6 4).1 (TX6 4).2.1 (TX6 4).2.2.1).before args s = true := hts (.fieldLink RX6 40 "ClapOaths" "now" "LClapOaths$Standing;") (by decide +kernel)
  have fl_50 : (Cond.fieldLink RX6 50 (TX6 6).1 (TX6 6).2.1 (TX6 6).2.2.1).before args s = true := hts (.fieldLink RX6 50 "ClapOaths" "acts" "LClapOaths$Acts;") (by decide +kernel)
  unfold f_X6_day at hf
  refine lv_aload_n hx hb dX6_day_0 rfl (lv_at hl 0 rfl) ?_
  refine q_get hB hW 6 in_X6 0 rfl rfl 6 (by decide) fl_50 (v := .ref a_p0_acts) rfl dX6_day_1 ?_
  refine lv_aload_n hx hb dX6_day_4 rfl (lv_at hl 0 rfl) ?_
  refine q_get hB hW 6 in_X6 0 rfl rfl 4 (by decide) fl_40 (v := .ref a_p0_now) rfl dX6_day_5 ?_
  obtain ⟨r_1, hr_1, hf⟩ := bnd hf
  refine q_callVV hB hW (ci := 0) (q0 := 0) rfl rfl rfl (As := [.ref a_p0_now]) (rest := []) (ws' := [(a_p0, .inr (6, [.ref a_p0_text, .ref a_p0_reader, .ref a_p0_draft, .ref a_p0_land, .ref a_p0_now, .ref a_p0_trial, .ref a_p0_acts, .ref a_p0_hearings, .ref a_p0_kept, .int p0_keptSlots, .long p0_seedNow])), (a_p0_land, .inr (1, [.ref a_p0_land_places, .ref a_p0_land_kinds, .ref a_p0_land_clapPlaces, .ref a_p0_land_louds, .ref a_p0_land_ones, .ref a_p0_land_others, .ref a_p0_land_worths, .ref a_p0_land_hangs, .int p0_land_persons, .int p0_land_skies, .int p0_land_oaths])), (a_p0_now, .inr (4, [.ref a_p0_land, .int p0_now_places, .int p0_now_wool, .int p0_now_sworn, .int p0_now_worth, .int p0_now_day])), (a_p0_acts, .inr (0, [.ref a_p0_acts_row, .int r_1.1])), (a_p0_land_kinds, .inl (cI, 5, .inl p0_land_kinds)), (a_p0_land_clapPlaces, .inl (cI, 5, .inl p0_land_clapPlaces)), (a_p0_land_louds, .inl (cI, 5, .inl p0_land_louds)), (a_p0_land_ones, .inl (cI, 5, .inl p0_land_ones)), (a_p0_land_others, .inl (cI, 5, .inl p0_land_others)), (a_p0_land_worths, .inl (cI, 5, .inl p0_land_worths)), (a_p0_land_hangs, .inl (cI, 5, .inl p0_land_hangs)), (a_p0_acts_row, .inl (cI, 70, .inl r_1.2))]) (c_X0_push l D cI cZ a_p0_acts a_p0_now a_p0_acts_row a_p0_land p0_acts_length p0_acts_row p0_now_places p0_now_wool p0_now_sworn p0_now_worth p0_now_day r_1 hr_1) (cwV 1 hts gX6_day_X0_push rfl rfl rfl (by decide +kernel) ⟨Nat.le_of_ble_eq_true rfl, Nat.le_of_ble_eq_true rfl⟩) [3, 11, 2] rfl rfl rfl rfl rfl hl.1 rfl (Nat.le_of_ble_eq_true rfl) ⟨Nat.le_of_ble_eq_true rfl, Nat.le_of_ble_eq_true rfl⟩ dX6_day_8 (fun H locs hW => ?_)
  refine lv_aload_n hx hb dX6_day_11 rfl (lv_at hl 0 rfl) ?_
  refine q_get hB hW 6 in_X6 0 rfl rfl 4 (by decide) fl_40 (v := .ref a_p0_now) rfl dX6_day_12 ?_
  refine lv_iconst (v := 1) hx hb dX6_day_15 (by decide) ?_
  obtain ⟨r_2, hr_2, hf⟩ := bnd hf
  refine q_callVI hB hW (ci := 4) (q0 := 0) rfl rfl rfl (As := [.int (1 : Int32)]) (rest := []) (ws' := [(a_p0, .inr (6, [.ref a_p0_text, .ref a_p0_reader, .ref a_p0_draft, .ref a_p0_land, .ref a_p0_now, .ref a_p0_trial, .ref a_p0_acts, .ref a_p0_hearings, .ref a_p0_kept, .int p0_keptSlots, .long p0_seedNow])), (a_p0_land, .inr (1, [.ref a_p0_land_places, .ref a_p0_land_kinds, .ref a_p0_land_clapPlaces, .ref a_p0_land_louds, .ref a_p0_land_ones, .ref a_p0_land_others, .ref a_p0_land_worths, .ref a_p0_land_hangs, .int p0_land_persons, .int p0_land_skies, .int p0_land_oaths])), (a_p0_now, .inr (4, [.ref a_p0_land, .int p0_now_places, .int p0_now_wool, .int r_2.2.1, .int r_2.2.2.1, .int r_2.2.2.2])), (a_p0_acts, .inr (0, [.ref a_p0_acts_row, .int r_1.1])), (a_p0_land_kinds, .inl (cI, 5, .inl p0_land_kinds)), (a_p0_land_clapPlaces, .inl (cI, 5, .inl p0_land_clapPlaces)), (a_p0_land_louds, .inl (cI, 5, .inl p0_land_louds)), (a_p0_land_ones, .inl (cI, 5, .inl p0_land_ones)), (a_p0_land_others, .inl (cI, 5, .inl p0_land_others)), (a_p0_land_worths, .inl (cI, 5, .inl p0_land_worths)), (a_p0_land_hangs, .inl (cI, 5, .inl p0_land_hangs)), (a_p0_acts_row, .inl (cI, 70, .inl r_1.2))]) (c_X4_passDay l D cI cZ a_p0_now a_p0_land a_p0_land_places a_p0_land_kinds a_p0_land_clapPlaces a_p0_land_louds a_p0_land_ones a_p0_land_others a_p0_land_worths a_p0_land_hangs p0_now_places p0_now_wool p0_now_sworn p0_now_worth p0_now_day p0_land_persons p0_land_skies p0_land_oaths p0_land_kinds p0_land_clapPlaces p0_land_louds p0_land_ones p0_land_others p0_land_worths p0_land_hangs (1 : Int32) r_2 hr_2) (cwV 1 hts gX6_day_X4_passDay rfl rfl rfl (by decide +kernel) ⟨Nat.le_of_ble_eq_true rfl, Nat.le_of_ble_eq_true rfl⟩) [2, 1, 4, 5, 6, 7, 8, 9, 10] rfl rfl rfl rfl rfl hl.1 rfl (Nat.le_of_ble_eq_true rfl) ⟨Nat.le_of_ble_eq_true rfl, Nat.le_of_ble_eq_true rfl⟩ dX6_day_16 (fun H locs hW => ?_)
  exact hE _ _ _ _ _ (r_2.1, r_2.2.1, r_2.2.2.1, r_2.2.2.2, r_1.1, r_1.2) (sm hf) hW rfl dX6_day_19
def f_X6_isPlace (v0 : Int32) : Option (Int32) := (f_X6_within v0 (0 : Int32) (9 : Int32)).bind fun r_1 => some r_1
set_option maxHeartbeats 4000000 in
set_option maxRecDepth 100000 in
theorem c_X6_isPlace (l : Launch) (D : va_G) (cI cZ : ClassId) (v0 : Int32) (q : Int32) (hf : f_X6_isPlace v0 = some q) : CtZ l D cI cZ yX6_isPlace wsX6_isPlace 1 22 [.int v0] [] (fun q => []) (fun q => q) q := by
  refine CtZ.of (cc := cX6_isPlace) (maxL := 1) (plainFor_of_name (by decide)) rfl (Nat.le_of_ble_eq_true rfl) ?_
  intro p e s m args below meth c A Q H ls hB hE hW hl
  have hx := hB.1
  have hb := hB.2.1
  have hml := hB.2.2.2.1
  have hown : s.vm.findClass RX6 = some m.cls := hB.2.2.2.2.1
  have hts := hB.2.2.2.2.2.1
  have hK := hB.2.2.2.2.2.2.2.1.1
  have hl : lv_has ls 1 [(0, .int v0)] := hl
  unfold f_X6_isPlace at hf
  refine lv_iload_n hx hb dX6_isPlace_0 rfl (lv_at hl 0 rfl) ?_
  refine lv_iconst (v := 0) hx hb dX6_isPlace_1 (by decide) ?_
  refine lv_bipush (v := 9) hx hb dX6_isPlace_2 (by decide) ?_
  obtain ⟨r_1, hr_1, hf⟩ := bnd hf
  refine q_callSZ hB hW (As := [.int v0, .int (0 : Int32), .int (9 : Int32)]) (rest := []) (ws' := []) (c_X6_within l D cI cZ v0 (0 : Int32) (9 : Int32) r_1 hr_1) (va_cwS 3 hts gX6_isPlace_X6_within rfl rfl rfl (by decide +kernel) ⟨Nat.le_of_ble_eq_true rfl, Nat.le_of_ble_eq_true rfl⟩) [] rfl rfl rfl rfl rfl hl.1 rfl (Nat.le_of_ble_eq_true rfl) ⟨Nat.le_of_ble_eq_true rfl, Nat.le_of_ble_eq_true rfl⟩ dX6_isPlace_4 (fun hzr_1 H locs hW => ?_)
  exact hE _ _ _ _ _ r_1 (sm hf) hW rfl hzr_1 dX6_isPlace_7
def f_X6_drum (v1 : Int32) (v2 : Int32) (p0_land_persons : Int32) (p0_land_oaths : Int32) (p0_now_places : Int32) (p0_now_wool : Int32) (p0_now_sworn : Int32) (p0_now_worth : Int32) (p0_now_day : Int32) (p0_acts_length : Int32) (p0_land_kinds : Nat → Int32) (p0_land_ones : Nat → Int32) (p0_land_others : Nat → Int32) (p0_land_hangs : Nat → Int32) (p0_acts_row : Nat → Int32) : Option (Int32 × Int32 × Int32 × (Nat → Int32)) := (f_X6_isPlace v1).bind fun r_1 => if r_1 = (0 : Int32) then some ((-1 : Int32), p0_now_sworn, p0_acts_length, p0_acts_row) else (f_X6_within v2 (0 : Int32) (9 : Int32)).bind fun r_3 => if r_3 = (0 : Int32) then some ((-2 : Int32), p0_now_sworn, p0_acts_length, p0_acts_row) else (f_X0_push p0_acts_length p0_acts_row p0_now_places p0_now_wool p0_now_sworn p0_now_worth p0_now_day).bind fun r_5 => (f_X4_hearers v1 v2 p0_now_places p0_now_wool p0_land_persons p0_land_kinds).bind fun r_6 => (f_X4_freeBy r_6 p0_now_sworn p0_land_oaths p0_land_kinds p0_land_ones p0_land_others p0_land_hangs).bind fun r_7 => some (r_7.1, r_7.2, r_5.1, r_5.2)
set_option maxHeartbeats 4000000 in
set_option maxRecDepth 100000 in
theorem c_X6_drum (l : Launch) (D : va_G) (cI cZ : ClassId) (a_p0 a_p0_text a_p0_reader a_p0_draft a_p0_land a_p0_now a_p0_trial a_p0_acts a_p0_hearings a_p0_kept a_p0_land_places a_p0_land_kinds a_p0_land_clapPlaces a_p0_land_louds a_p0_land_ones a_p0_land_others a_p0_land_worths a_p0_land_hangs a_p0_acts_row : Nat) (p0_keptSlots : Int32) (p0_seedNow : Int64) (p0_land_persons : Int32) (p0_land_skies : Int32) (p0_land_oaths : Int32) (p0_now_places : Int32) (p0_now_wool : Int32) (p0_now_sworn : Int32) (p0_now_worth : Int32) (p0_now_day : Int32) (p0_acts_length : Int32) (p0_land_kinds : Nat → Int32) (p0_land_ones : Nat → Int32) (p0_land_others : Nat → Int32) (p0_land_hangs : Nat → Int32) (p0_acts_row : Nat → Int32) (v1 : Int32) (v2 : Int32) (q : Int32 × Int32 × Int32 × (Nat → Int32)) (hf : f_X6_drum v1 v2 p0_land_persons p0_land_oaths p0_now_places p0_now_wool p0_now_sworn p0_now_worth p0_now_day p0_acts_length p0_land_kinds p0_land_ones p0_land_others p0_land_hangs p0_acts_row = some q) : CtI l D cI cZ yX6_drum wsX6_drum 3 70 [.ref a_p0, .int v1, .int v2] [(a_p0, .inr (6, [.ref a_p0_text, .ref a_p0_reader, .ref a_p0_draft, .ref a_p0_land, .ref a_p0_now, .ref a_p0_trial, .ref a_p0_acts, .ref a_p0_hearings, .ref a_p0_kept, .int p0_keptSlots, .long p0_seedNow])), (a_p0_land, .inr (1, [.ref a_p0_land_places, .ref a_p0_land_kinds, .ref a_p0_land_clapPlaces, .ref a_p0_land_louds, .ref a_p0_land_ones, .ref a_p0_land_others, .ref a_p0_land_worths, .ref a_p0_land_hangs, .int p0_land_persons, .int p0_land_skies, .int p0_land_oaths])), (a_p0_now, .inr (4, [.ref a_p0_land, .int p0_now_places, .int p0_now_wool, .int p0_now_sworn, .int p0_now_worth, .int p0_now_day])), (a_p0_acts, .inr (0, [.ref a_p0_acts_row, .int p0_acts_length])), (a_p0_land_kinds, .inl (cI, 5, .inl p0_land_kinds)), (a_p0_land_ones, .inl (cI, 5, .inl p0_land_ones)), (a_p0_land_others, .inl (cI, 5, .inl p0_land_others)), (a_p0_land_hangs, .inl (cI, 5, .inl p0_land_hangs)), (a_p0_acts_row, .inl (cI, 70, .inl p0_acts_row))] (fun q => [(a_p0, .inr (6, [.ref a_p0_text, .ref a_p0_reader, .ref a_p0_draft, .ref a_p0_land, .ref a_p0_now, .ref a_p0_trial, .ref a_p0_acts, .ref a_p0_hearings, .ref a_p0_kept, .int p0_keptSlots, .long p0_seedNow])), (a_p0_land, .inr (1, [.ref a_p0_land_places, .ref a_p0_land_kinds, .ref a_p0_land_clapPlaces, .ref a_p0_land_louds, .ref a_p0_land_ones, .ref a_p0_land_others, .ref a_p0_land_worths, .ref a_p0_land_hangs, .int p0_land_persons, .int p0_land_skies, .int p0_land_oaths])), (a_p0_now, .inr (4, [.ref a_p0_land, .int p0_now_places, .int p0_now_wool, .int q.2.1, .int p0_now_worth, .int p0_now_day])), (a_p0_acts, .inr (0, [.ref a_p0_acts_row, .int q.2.2.1])), (a_p0_land_kinds, .inl (cI, 5, .inl p0_land_kinds)), (a_p0_land_ones, .inl (cI, 5, .inl p0_land_ones)), (a_p0_land_others, .inl (cI, 5, .inl p0_land_others)), (a_p0_land_hangs, .inl (cI, 5, .inl p0_land_hangs)), (a_p0_acts_row, .inl (cI, 70, .inl q.2.2.2))]) (fun q => q.1) q := by
  refine CtI.of (cc := cX6_drum) (maxL := 3) (plainFor_of_name (by decide)) rfl (Nat.le_of_ble_eq_true rfl) ?_
  intro p e s m args below meth c A Q H ls hB hE hW hl
  have hx := hB.1
  have hb := hB.2.1
  have hml := hB.2.2.2.1
  have hown : s.vm.findClass RX6 = some m.cls := hB.2.2.2.2.1
  have hts := hB.2.2.2.2.2.1
  have hK := hB.2.2.2.2.2.2.2.1.1
  have hl : lv_has ls 3 [(0, .ref a_p0), (1, .int v1), (2, .int v2)] := hl
  have in_X6 : ∀ w ∈ wsX60, w ∈ wsX6_drum := fun w h => List.mem_cons_of_mem _ (List.mem_append_left _ (List.mem_append_left _ (List.mem_append_left _ (List.mem_append_right _ h))))
  have fl_40 : (Cond.fieldLink RX6 40 (TX6 4).1 (TX6 4).2.1 (TX6 4).2.2.1).before args s = true := hts (.fieldLink RX6 40 "ClapOaths" "now" "LClapOaths$Standing;") (by decide +kernel)
  have fl_50 : (Cond.fieldLink RX6 50 (TX6 6).1 (TX6 6).2.1 (TX6 6).2.2.1).before args s = true := hts (.fieldLink RX6 50 "ClapOaths" "acts" "LClapOaths$Acts;") (by decide +kernel)
  unfold f_X6_drum at hf
  refine lv_iload_n hx hb dX6_drum_0 rfl (lv_at hl 1 rfl) ?_
  obtain ⟨r_1, hr_1, hf⟩ := bnd hf
  refine q_callSZ hB hW (As := [.int v1]) (rest := []) (ws' := [(a_p0, .inr (6, [.ref a_p0_text, .ref a_p0_reader, .ref a_p0_draft, .ref a_p0_land, .ref a_p0_now, .ref a_p0_trial, .ref a_p0_acts, .ref a_p0_hearings, .ref a_p0_kept, .int p0_keptSlots, .long p0_seedNow])), (a_p0_land, .inr (1, [.ref a_p0_land_places, .ref a_p0_land_kinds, .ref a_p0_land_clapPlaces, .ref a_p0_land_louds, .ref a_p0_land_ones, .ref a_p0_land_others, .ref a_p0_land_worths, .ref a_p0_land_hangs, .int p0_land_persons, .int p0_land_skies, .int p0_land_oaths])), (a_p0_now, .inr (4, [.ref a_p0_land, .int p0_now_places, .int p0_now_wool, .int p0_now_sworn, .int p0_now_worth, .int p0_now_day])), (a_p0_acts, .inr (0, [.ref a_p0_acts_row, .int p0_acts_length])), (a_p0_land_kinds, .inl (cI, 5, .inl p0_land_kinds)), (a_p0_land_ones, .inl (cI, 5, .inl p0_land_ones)), (a_p0_land_others, .inl (cI, 5, .inl p0_land_others)), (a_p0_land_hangs, .inl (cI, 5, .inl p0_land_hangs)), (a_p0_acts_row, .inl (cI, 70, .inl p0_acts_row))]) (c_X6_isPlace l D cI cZ v1 r_1 hr_1) (va_cwS 1 hts gX6_drum_X6_isPlace rfl rfl rfl (by decide +kernel) ⟨Nat.le_of_ble_eq_true rfl, Nat.le_of_ble_eq_true rfl⟩) [] rfl rfl rfl rfl rfl hl.1 rfl (Nat.le_of_ble_eq_true rfl) ⟨Nat.le_of_ble_eq_true rfl, Nat.le_of_ble_eq_true rfl⟩ dX6_drum_1 (fun hzr_1 H locs hW => ?_)
  refine lv_if_ne (tgt := 9) hx hb dX6_drum_4 (by decide) (fun c_2 => ?_) (fun c_2 => ?_)
  · have hf := it_f c_2 hf
    refine lv_iload_n hx hb dX6_drum_9 rfl (lv_at hl 2 rfl) ?_
    refine lv_iconst (v := 0) hx hb dX6_drum_10 (by decide) ?_
    refine lv_bipush (v := 9) hx hb dX6_drum_11 (by decide) ?_
    obtain ⟨r_3, hr_3, hf⟩ := bnd hf
    refine q_callSZ hB hW (As := [.int v2, .int (0 : Int32), .int (9 : Int32)]) (rest := []) (ws' := [(a_p0, .inr (6, [.ref a_p0_text, .ref a_p0_reader, .ref a_p0_draft, .ref a_p0_land, .ref a_p0_now, .ref a_p0_trial, .ref a_p0_acts, .ref a_p0_hearings, .ref a_p0_kept, .int p0_keptSlots, .long p0_seedNow])), (a_p0_land, .inr (1, [.ref a_p0_land_places, .ref a_p0_land_kinds, .ref a_p0_land_clapPlaces, .ref a_p0_land_louds, .ref a_p0_land_ones, .ref a_p0_land_others, .ref a_p0_land_worths, .ref a_p0_land_hangs, .int p0_land_persons, .int p0_land_skies, .int p0_land_oaths])), (a_p0_now, .inr (4, [.ref a_p0_land, .int p0_now_places, .int p0_now_wool, .int p0_now_sworn, .int p0_now_worth, .int p0_now_day])), (a_p0_acts, .inr (0, [.ref a_p0_acts_row, .int p0_acts_length])), (a_p0_land_kinds, .inl (cI, 5, .inl p0_land_kinds)), (a_p0_land_ones, .inl (cI, 5, .inl p0_land_ones)), (a_p0_land_others, .inl (cI, 5, .inl p0_land_others)), (a_p0_land_hangs, .inl (cI, 5, .inl p0_land_hangs)), (a_p0_acts_row, .inl (cI, 70, .inl p0_acts_row))]) (c_X6_within l D cI cZ v2 (0 : Int32) (9 : Int32) r_3 hr_3) (va_cwS 3 hts gX6_drum_X6_within rfl rfl rfl (by decide +kernel) ⟨Nat.le_of_ble_eq_true rfl, Nat.le_of_ble_eq_true rfl⟩) [] rfl rfl rfl rfl rfl hl.1 rfl (Nat.le_of_ble_eq_true rfl) ⟨Nat.le_of_ble_eq_true rfl, Nat.le_of_ble_eq_true rfl⟩ dX6_drum_13 (fun hzr_3 H locs hW => ?_)
    refine lv_if_ne (tgt := 22) hx hb dX6_drum_16 (by decide) (fun c_4 => ?_) (fun c_4 => ?_)
    · have hf := it_f c_4 hf
      refine lv_aload_n hx hb dX6_drum_22 rfl (lv_at hl 0 rfl) ?_
      refine q_get hB hW 6 in_X6 0 rfl rfl 6 (by decide) fl_50 (v := .ref a_p0_acts) rfl dX6_drum_23 ?_
      refine lv_aload_n hx hb dX6_drum_26 rfl (lv_at hl 0 rfl) ?_
      refine q_get hB hW 6 in_X6 0 rfl rfl 4 (by decide) fl_40 (v := .ref a_p0_now) rfl dX6_drum_27 ?_
      obtain ⟨r_5, hr_5, hf⟩ := bnd hf
      refine q_callVV hB hW (ci := 0) (q0 := 0) rfl rfl rfl (As := [.ref a_p0_now]) (rest := []) (ws' := [(a_p0, .inr (6, [.ref a_p0_text, .ref a_p0_reader, .ref a_p0_draft, .ref a_p0_land, .ref a_p0_now, .ref a_p0_trial, .ref a_p0_acts, .ref a_p0_hearings, .ref a_p0_kept, .int p0_keptSlots, .long p0_seedNow])), (a_p0_land, .inr (1, [.ref a_p0_land_places, .ref a_p0_land_kinds, .ref a_p0_land_clapPlaces, .ref a_p0_land_louds, .ref a_p0_land_ones, .ref a_p0_land_others, .ref a_p0_land_worths, .ref a_p0_land_hangs, .int p0_land_persons, .int p0_land_skies, .int p0_land_oaths])), (a_p0_now, .inr (4, [.ref a_p0_land, .int p0_now_places, .int p0_now_wool, .int p0_now_sworn, .int p0_now_worth, .int p0_now_day])), (a_p0_acts, .inr (0, [.ref a_p0_acts_row, .int r_5.1])), (a_p0_land_kinds, .inl (cI, 5, .inl p0_land_kinds)), (a_p0_land_ones, .inl (cI, 5, .inl p0_land_ones)), (a_p0_land_others, .inl (cI, 5, .inl p0_land_others)), (a_p0_land_hangs, .inl (cI, 5, .inl p0_land_hangs)), (a_p0_acts_row, .inl (cI, 70, .inl r_5.2))]) (c_X0_push l D cI cZ a_p0_acts a_p0_now a_p0_acts_row a_p0_land p0_acts_length p0_acts_row p0_now_places p0_now_wool p0_now_sworn p0_now_worth p0_now_day r_5 hr_5) (cwV 1 hts gX6_drum_X0_push rfl rfl rfl (by decide +kernel) ⟨Nat.le_of_ble_eq_true rfl, Nat.le_of_ble_eq_true rfl⟩) [3, 8, 2] rfl rfl rfl rfl rfl hl.1 rfl (Nat.le_of_ble_eq_true rfl) ⟨Nat.le_of_ble_eq_true rfl, Nat.le_of_ble_eq_true rfl⟩ dX6_drum_30 (fun H locs hW => ?_)
      refine lv_aload_n hx hb dX6_drum_33 rfl (lv_at hl 0 rfl) ?_
      refine q_get hB hW 6 in_X6 0 rfl rfl 4 (by decide) fl_40 (v := .ref a_p0_now) rfl dX6_drum_34 ?_
      refine lv_aload_n hx hb dX6_drum_37 rfl (lv_at hl 0 rfl) ?_
      refine q_get hB hW 6 in_X6 0 rfl rfl 4 (by decide) fl_40 (v := .ref a_p0_now) rfl dX6_drum_38 ?_
      refine lv_iload_n hx hb dX6_drum_41 rfl (lv_at hl 1 rfl) ?_
      refine lv_iload_n hx hb dX6_drum_42 rfl (lv_at hl 2 rfl) ?_
      obtain ⟨r_6, hr_6, hf⟩ := bnd hf
      refine q_callVI hB hW (ci := 4) (q0 := 0) rfl rfl rfl (As := [.int v1, .int v2]) (rest := [.ref a_p0_now]) (ws' := [(a_p0, .inr (6, [.ref a_p0_text, .ref a_p0_reader, .ref a_p0_draft, .ref a_p0_land, .ref a_p0_now, .ref a_p0_trial, .ref a_p0_acts, .ref a_p0_hearings, .ref a_p0_kept, .int p0_keptSlots, .long p0_seedNow])), (a_p0_land, .inr (1, [.ref a_p0_land_places, .ref a_p0_land_kinds, .ref a_p0_land_clapPlaces, .ref a_p0_land_louds, .ref a_p0_land_ones, .ref a_p0_land_others, .ref a_p0_land_worths, .ref a_p0_land_hangs, .int p0_land_persons, .int p0_land_skies, .int p0_land_oaths])), (a_p0_now, .inr (4, [.ref a_p0_land, .int p0_now_places, .int p0_now_wool, .int p0_now_sworn, .int p0_now_worth, .int p0_now_day])), (a_p0_acts, .inr (0, [.ref a_p0_acts_row, .int r_5.1])), (a_p0_land_kinds, .inl (cI, 5, .inl p0_land_kinds)), (a_p0_land_ones, .inl (cI, 5, .inl p0_land_ones)), (a_p0_land_others, .inl (cI, 5, .inl p0_land_others)), (a_p0_land_hangs, .inl (cI, 5, .inl p0_land_hangs)), (a_p0_acts_row, .inl (cI, 70, .inl r_5.2))]) (c_X4_hearers l D cI cZ a_p0_now a_p0_land a_p0_land_places a_p0_land_kinds a_p0_land_clapPlaces a_p0_land_louds a_p0_land_ones a_p0_land_others a_p0_land_worths a_p0_land_hangs p0_now_places p0_now_wool p0_now_sworn p0_now_worth p0_now_day p0_land_persons p0_land_skies p0_land_oaths p0_land_kinds v1 v2 r_6 hr_6) (cwV 2 hts gX6_drum_X4_hearers rfl rfl rfl (by decide +kernel) ⟨Nat.le_of_ble_eq_true rfl, Nat.le_of_ble_eq_true rfl⟩) [2, 1, 4] rfl rfl rfl rfl rfl hl.1 rfl (Nat.le_of_ble_eq_true rfl) ⟨Nat.le_of_ble_eq_true rfl, Nat.le_of_ble_eq_true rfl⟩ dX6_drum_43 (fun H locs hW => ?_)
      obtain ⟨r_7, hr_7, hf⟩ := bnd hf
      refine q_callVI hB hW (ci := 4) (q0 := 0) rfl rfl rfl (As := [.int r_6]) (rest := []) (ws' := [(a_p0, .inr (6, [.ref a_p0_text, .ref a_p0_reader, .ref a_p0_draft, .ref a_p0_land, .ref a_p0_now, .ref a_p0_trial, .ref a_p0_acts, .ref a_p0_hearings, .ref a_p0_kept, .int p0_keptSlots, .long p0_seedNow])), (a_p0_land, .inr (1, [.ref a_p0_land_places, .ref a_p0_land_kinds, .ref a_p0_land_clapPlaces, .ref a_p0_land_louds, .ref a_p0_land_ones, .ref a_p0_land_others, .ref a_p0_land_worths, .ref a_p0_land_hangs, .int p0_land_persons, .int p0_land_skies, .int p0_land_oaths])), (a_p0_now, .inr (4, [.ref a_p0_land, .int p0_now_places, .int p0_now_wool, .int r_7.2, .int p0_now_worth, .int p0_now_day])), (a_p0_acts, .inr (0, [.ref a_p0_acts_row, .int r_5.1])), (a_p0_land_kinds, .inl (cI, 5, .inl p0_land_kinds)), (a_p0_land_ones, .inl (cI, 5, .inl p0_land_ones)), (a_p0_land_others, .inl (cI, 5, .inl p0_land_others)), (a_p0_land_hangs, .inl (cI, 5, .inl p0_land_hangs)), (a_p0_acts_row, .inl (cI, 70, .inl r_5.2))]) (c_X4_freeBy l D cI cZ a_p0_now a_p0_land a_p0_land_places a_p0_land_kinds a_p0_land_clapPlaces a_p0_land_louds a_p0_land_ones a_p0_land_others a_p0_land_worths a_p0_land_hangs p0_now_places p0_now_wool p0_now_sworn p0_now_worth p0_now_day p0_land_persons p0_land_skies p0_land_oaths p0_land_kinds p0_land_ones p0_land_others p0_land_hangs r_6 r_7 hr_7) (cwV 1 hts gX6_drum_X4_freeBy rfl rfl rfl (by decide +kernel) ⟨Nat.le_of_ble_eq_true rfl, Nat.le_of_ble_eq_true rfl⟩) [2, 1, 4, 5, 6, 7] rfl rfl rfl rfl rfl hl.1 rfl (Nat.le_of_ble_eq_true rfl) ⟨Nat.le_of_ble_eq_true rfl, Nat.le_of_ble_eq_true rfl⟩ dX6_drum_46 (fun H locs hW => ?_)
      exact hE _ _ _ _ _ (r_7.1, r_7.2, r_5.1, r_5.2) (sm hf) hW rfl dX6_drum_49
    · have hf := it_t c_4 hf
      refine lv_bipush (v := -2) hx hb dX6_drum_19 (by decide) ?_
      exact hE _ _ _ _ _ ((-2 : Int32), p0_now_sworn, p0_acts_length, p0_acts_row) (sm hf) hW rfl dX6_drum_21
  · have hf := it_t c_2 hf
    refine lv_iconst (v := -1) hx hb dX6_drum_7 (by decide) ?_
    exact hE _ _ _ _ _ ((-1 : Int32), p0_now_sworn, p0_acts_length, p0_acts_row) (sm hf) hW rfl dX6_drum_8
def f_X4_isSworn (v1 : Int32) (p0_sworn : Int32) (p0_land_oaths : Int32) : Option (Int32) := (f_X1_hasOath v1 p0_land_oaths).bind fun r_1 => if r_1 = (0 : Int32) then some (0 : Int32) else (f_X6_bit p0_sworn v1).bind fun r_3 => if r_3 = (1 : Int32) then some (1 : Int32) else some (0 : Int32)
set_option maxHeartbeats 4000000 in
set_option maxRecDepth 100000 in
theorem c_X4_isSworn (l : Launch) (D : va_G) (cI cZ : ClassId) (a_p0 a_p0_land a_p0_land_places a_p0_land_kinds a_p0_land_clapPlaces a_p0_land_louds a_p0_land_ones a_p0_land_others a_p0_land_worths a_p0_land_hangs : Nat) (p0_places : Int32) (p0_wool : Int32) (p0_sworn : Int32) (p0_worth : Int32) (p0_day : Int32) (p0_land_persons : Int32) (p0_land_skies : Int32) (p0_land_oaths : Int32) (v1 : Int32) (q : Int32) (hf : f_X4_isSworn v1 p0_sworn p0_land_oaths = some q) : CtZ l D cI cZ yX4_isSworn wsX4_isSworn 2 43 [.ref a_p0, .int v1] [(a_p0, .inr (4, [.ref a_p0_land, .int p0_places, .int p0_wool, .int p0_sworn, .int p0_worth, .int p0_day])), (a_p0_land, .inr (1, [.ref a_p0_land_places, .ref a_p0_land_kinds, .ref a_p0_land_clapPlaces, .ref a_p0_land_louds, .ref a_p0_land_ones, .ref a_p0_land_others, .ref a_p0_land_worths, .ref a_p0_land_hangs, .int p0_land_persons, .int p0_land_skies, .int p0_land_oaths]))] (fun q => [(a_p0, .inr (4, [.ref a_p0_land, .int p0_places, .int p0_wool, .int p0_sworn, .int p0_worth, .int p0_day])), (a_p0_land, .inr (1, [.ref a_p0_land_places, .ref a_p0_land_kinds, .ref a_p0_land_clapPlaces, .ref a_p0_land_louds, .ref a_p0_land_ones, .ref a_p0_land_others, .ref a_p0_land_worths, .ref a_p0_land_hangs, .int p0_land_persons, .int p0_land_skies, .int p0_land_oaths]))]) (fun q => q) q := by
  refine CtZ.of (cc := cX4_isSworn) (maxL := 2) (plainFor_of_name (by decide)) rfl (Nat.le_of_ble_eq_true rfl) ?_
  intro p e s m args below meth c A Q H ls hB hE hW hl
  have hx := hB.1
  have hb := hB.2.1
  have hml := hB.2.2.2.1
  have hown : s.vm.findClass RX4 = some m.cls := hB.2.2.2.2.1
  have hts := hB.2.2.2.2.2.1
  have hK := hB.2.2.2.2.2.2.2.1.1
  have hl : lv_has ls 2 [(0, .ref a_p0), (1, .int v1)] := hl
  have in_X4 : ∀ w ∈ wsX40, w ∈ wsX4_isSworn := fun w h => List.mem_cons_of_mem _ (List.mem_append_left _ (List.mem_append_right _ h))
  have fl_9 : (Cond.fieldLink RX4 9 (TX4 0).1 (TX4 0).2.1 (TX4 0).2.2.1).before args s = true := hts (.fieldLink RX4 9 "ClapOaths$Standing" "land" "LClapOaths$County;") (by decide +kernel)
  have fl_22 : (Cond.fieldLink RX4 22 (TX4 3).1 (TX4 3).2.1 (TX4 3).2.2.1).before args s = true := hts (.fieldLink RX4 22 "ClapOaths$Standing" "sworn" "I") (by decide +kernel)
  unfold f_X4_isSworn at hf
  refine lv_aload_n hx hb dX4_isSworn_0 rfl (lv_at hl 0 rfl) ?_
  refine q_get hB hW 4 in_X4 0 rfl rfl 0 (by decide) fl_9 (v := .ref a_p0_land) rfl dX4_isSworn_1 ?_
  refine lv_iload_n hx hb dX4_isSworn_4 rfl (lv_at hl 1 rfl) ?_
  obtain ⟨r_1, hr_1, hf⟩ := bnd hf
  refine q_callVZ hB hW (ci := 1) (q0 := 0) rfl rfl rfl (As := [.int v1]) (rest := []) (ws' := [(a_p0, .inr (4, [.ref a_p0_land, .int p0_places, .int p0_wool, .int p0_sworn, .int p0_worth, .int p0_day])), (a_p0_land, .inr (1, [.ref a_p0_land_places, .ref a_p0_land_kinds, .ref a_p0_land_clapPlaces, .ref a_p0_land_louds, .ref a_p0_land_ones, .ref a_p0_land_others, .ref a_p0_land_worths, .ref a_p0_land_hangs, .int p0_land_persons, .int p0_land_skies, .int p0_land_oaths]))]) (c_X1_hasOath l D cI cZ a_p0_land a_p0_land_places a_p0_land_kinds a_p0_land_clapPlaces a_p0_land_louds a_p0_land_ones a_p0_land_others a_p0_land_worths a_p0_land_hangs p0_land_persons p0_land_skies p0_land_oaths v1 r_1 hr_1) (cwV 1 hts gX4_isSworn_X1_hasOath rfl rfl rfl (by decide +kernel) ⟨Nat.le_of_ble_eq_true rfl, Nat.le_of_ble_eq_true rfl⟩) [1] rfl rfl rfl rfl rfl hl.1 rfl (Nat.le_of_ble_eq_true rfl) ⟨Nat.le_of_ble_eq_true rfl, Nat.le_of_ble_eq_true rfl⟩ dX4_isSworn_5 (fun hzr_1 H locs hW => ?_)
  refine lv_if_eq (tgt := 27) hx hb dX4_isSworn_8 (by decide) (fun c_2 => ?_) (fun c_2 => ?_)
  · have hf := it_t c_2 hf
    refine lv_iconst (v := 0) hx hb dX4_isSworn_27 (by decide) ?_
    exact hE _ _ _ _ _ (0 : Int32) (sm hf) hW rfl nz_0 dX4_isSworn_28
  · have hf := it_f c_2 hf
    refine lv_aload_n hx hb dX4_isSworn_11 rfl (lv_at hl 0 rfl) ?_
    refine q_get hB hW 4 in_X4 0 rfl rfl 3 (by decide) fl_22 (v := .int p0_sworn) rfl dX4_isSworn_12 ?_
    refine lv_iload_n hx hb dX4_isSworn_15 rfl (lv_at hl 1 rfl) ?_
    obtain ⟨r_3, hr_3, hf⟩ := bnd hf
    refine q_callNI hB hW (As := [.int p0_sworn, .int v1]) (rest := []) (ws' := [(a_p0, .inr (4, [.ref a_p0_land, .int p0_places, .int p0_wool, .int p0_sworn, .int p0_worth, .int p0_day])), (a_p0_land, .inr (1, [.ref a_p0_land_places, .ref a_p0_land_kinds, .ref a_p0_land_clapPlaces, .ref a_p0_land_louds, .ref a_p0_land_ones, .ref a_p0_land_others, .ref a_p0_land_worths, .ref a_p0_land_hangs, .int p0_land_persons, .int p0_land_skies, .int p0_land_oaths]))]) (c_X6_bit l D cI cZ p0_sworn v1 r_3 hr_3) ⟨va_cnB 2 hts gX4_isSworn_X6_bit_n61 rfl rfl rfl (hB.2.2.2.2.2.2.2.1.2 (RX4, 61, yX6_bit, RX6) (by decide +kernel)) (hts (.initialized RX6) (by decide +kernel)) (by decide +kernel) ⟨Nat.le_of_ble_eq_true rfl, Nat.le_of_ble_eq_true rfl⟩, hts (.static yX6_bit) (by decide +kernel), trivial⟩ [] rfl rfl rfl rfl rfl hl.1 rfl (Nat.le_of_ble_eq_true rfl) ⟨Nat.le_of_ble_eq_true rfl, Nat.le_of_ble_eq_true rfl⟩ dX4_isSworn_16 (fun H locs hW => ?_)
    refine lv_iconst (v := 1) hx hb dX4_isSworn_19 (by decide) ?_
    refine lv_icmp_ne (tgt := 27) hx hb dX4_isSworn_20 (by decide) (fun c_4 => ?_) (fun c_4 => ?_)
    · have hf := it_f c_4 hf
      refine lv_iconst (v := 0) hx hb dX4_isSworn_27 (by decide) ?_
      exact hE _ _ _ _ _ (0 : Int32) (sm hf) hW rfl nz_0 dX4_isSworn_28
    · have hf := it_t c_4 hf
      refine lv_iconst (v := 1) hx hb dX4_isSworn_23 (by decide) ?_
      refine lv_goto (tgt := 28) hx hb dX4_isSworn_24 (by decide) ?_
      exact hE _ _ _ _ _ (1 : Int32) (sm hf) hW rfl nz_1 dX4_isSworn_28
def f_X4_canSwear (v1 : Int32) (p0_sworn : Int32) (p0_land_oaths : Int32) (p0_land_hangs : Nat → Int32) : Option (Int32) := (f_X1_hasOath v1 p0_land_oaths).bind fun r_1 => if r_1 = (0 : Int32) then some (0 : Int32) else (f_X4_isSworn v1 p0_sworn p0_land_oaths).bind fun r_3 => if r_3 = (0 : Int32) then (f_X6_at 5 v1 p0_land_hangs).bind fun r_5 => if r_5 = (-9 : Int32) then some (1 : Int32) else (f_X4_isSworn r_5 p0_sworn p0_land_oaths).bind fun r_7 => if r_7 = (0 : Int32) then some (0 : Int32) else some (1 : Int32) else some (0 : Int32)
set_option maxHeartbeats 4000000 in
set_option maxRecDepth 100000 in
theorem c_X4_canSwear (l : Launch) (D : va_G) (cI cZ : ClassId) (a_p0 a_p0_land a_p0_land_places a_p0_land_kinds a_p0_land_clapPlaces a_p0_land_louds a_p0_land_ones a_p0_land_others a_p0_land_worths a_p0_land_hangs : Nat) (p0_places : Int32) (p0_wool : Int32) (p0_sworn : Int32) (p0_worth : Int32) (p0_day : Int32) (p0_land_persons : Int32) (p0_land_skies : Int32) (p0_land_oaths : Int32) (p0_land_hangs : Nat → Int32) (v1 : Int32) (q : Int32) (hf : f_X4_canSwear v1 p0_sworn p0_land_oaths p0_land_hangs = some q) : CtZ l D cI cZ yX4_canSwear wsX4_canSwear 3 64 [.ref a_p0, .int v1] [(a_p0, .inr (4, [.ref a_p0_land, .int p0_places, .int p0_wool, .int p0_sworn, .int p0_worth, .int p0_day])), (a_p0_land, .inr (1, [.ref a_p0_land_places, .ref a_p0_land_kinds, .ref a_p0_land_clapPlaces, .ref a_p0_land_louds, .ref a_p0_land_ones, .ref a_p0_land_others, .ref a_p0_land_worths, .ref a_p0_land_hangs, .int p0_land_persons, .int p0_land_skies, .int p0_land_oaths])), (a_p0_land_hangs, .inl (cI, 5, .inl p0_land_hangs))] (fun q => [(a_p0, .inr (4, [.ref a_p0_land, .int p0_places, .int p0_wool, .int p0_sworn, .int p0_worth, .int p0_day])), (a_p0_land, .inr (1, [.ref a_p0_land_places, .ref a_p0_land_kinds, .ref a_p0_land_clapPlaces, .ref a_p0_land_louds, .ref a_p0_land_ones, .ref a_p0_land_others, .ref a_p0_land_worths, .ref a_p0_land_hangs, .int p0_land_persons, .int p0_land_skies, .int p0_land_oaths])), (a_p0_land_hangs, .inl (cI, 5, .inl p0_land_hangs))]) (fun q => q) q := by
  refine CtZ.of (cc := cX4_canSwear) (maxL := 3) (plainFor_of_name (by decide)) rfl (Nat.le_of_ble_eq_true rfl) ?_
  intro p e s m args below meth c A Q H ls hB hE hW hl
  have hx := hB.1
  have hb := hB.2.1
  have hml := hB.2.2.2.1
  have hown : s.vm.findClass RX4 = some m.cls := hB.2.2.2.2.1
  have hts := hB.2.2.2.2.2.1
  have hK := hB.2.2.2.2.2.2.2.1.1
  have hl : lv_has ls 3 [(0, .ref a_p0), (1, .int v1)] := hl
  have in_X1 : ∀ w ∈ wsX10, w ∈ wsX4_canSwear := fun w h => List.mem_cons_of_mem _ (List.mem_append_right _ h)
  have in_X4 : ∀ w ∈ wsX40, w ∈ wsX4_canSwear := fun w h => List.mem_cons_of_mem _ (List.mem_append_left _ (List.mem_append_right _ h))
  have fl_9 : (Cond.fieldLink RX4 9 (TX4 0).1 (TX4 0).2.1 (TX4 0).2.2.1).before args s = true := hts (.fieldLink RX4 9 "ClapOaths$Standing" "land" "LClapOaths$County;") (by decide +kernel)
  have fl_68 : (Cond.fieldLink RX4 68 (TX1 7).1 (TX1 7).2.1 (TX1 7).2.2.1).before args s = true := hts (.fieldLink RX4 68 "ClapOaths$County" "hangs" "[I") (by decide +kernel)
  unfold f_X4_canSwear at hf
  refine lv_aload_n hx hb dX4_canSwear_0 rfl (lv_at hl 0 rfl) ?_
  refine q_get hB hW 4 in_X4 0 rfl rfl 0 (by decide) fl_9 (v := .ref a_p0_land) rfl dX4_canSwear_1 ?_
  refine lv_iload_n hx hb dX4_canSwear_4 rfl (lv_at hl 1 rfl) ?_
  obtain ⟨r_1, hr_1, hf⟩ := bnd hf
  refine q_callVZ hB hW (ci := 1) (q0 := 0) rfl rfl rfl (As := [.int v1]) (rest := []) (ws' := [(a_p0, .inr (4, [.ref a_p0_land, .int p0_places, .int p0_wool, .int p0_sworn, .int p0_worth, .int p0_day])), (a_p0_land, .inr (1, [.ref a_p0_land_places, .ref a_p0_land_kinds, .ref a_p0_land_clapPlaces, .ref a_p0_land_louds, .ref a_p0_land_ones, .ref a_p0_land_others, .ref a_p0_land_worths, .ref a_p0_land_hangs, .int p0_land_persons, .int p0_land_skies, .int p0_land_oaths])), (a_p0_land_hangs, .inl (cI, 5, .inl p0_land_hangs))]) (c_X1_hasOath l D cI cZ a_p0_land a_p0_land_places a_p0_land_kinds a_p0_land_clapPlaces a_p0_land_louds a_p0_land_ones a_p0_land_others a_p0_land_worths a_p0_land_hangs p0_land_persons p0_land_skies p0_land_oaths v1 r_1 hr_1) (cwV 1 hts gX4_canSwear_X1_hasOath rfl rfl rfl (by decide +kernel) ⟨Nat.le_of_ble_eq_true rfl, Nat.le_of_ble_eq_true rfl⟩) [1] rfl rfl rfl rfl rfl hl.1 rfl (Nat.le_of_ble_eq_true rfl) ⟨Nat.le_of_ble_eq_true rfl, Nat.le_of_ble_eq_true rfl⟩ dX4_canSwear_5 (fun hzr_1 H locs hW => ?_)
  refine lv_if_eq (tgt := 19) hx hb dX4_canSwear_8 (by decide) (fun c_2 => ?_) (fun c_2 => ?_)
  · have hf := it_t c_2 hf
    refine lv_iconst (v := 0) hx hb dX4_canSwear_19 (by decide) ?_
    exact hE _ _ _ _ _ (0 : Int32) (sm hf) hW rfl nz_0 dX4_canSwear_20
  · have hf := it_f c_2 hf
    refine lv_aload_n hx hb dX4_canSwear_11 rfl (lv_at hl 0 rfl) ?_
    refine lv_iload_n hx hb dX4_canSwear_12 rfl (lv_at hl 1 rfl) ?_
    obtain ⟨r_3, hr_3, hf⟩ := bnd hf
    refine q_callVZ hB hW (ci := 4) (q0 := 0) rfl rfl rfl (As := [.int v1]) (rest := []) (ws' := [(a_p0, .inr (4, [.ref a_p0_land, .int p0_places, .int p0_wool, .int p0_sworn, .int p0_worth, .int p0_day])), (a_p0_land, .inr (1, [.ref a_p0_land_places, .ref a_p0_land_kinds, .ref a_p0_land_clapPlaces, .ref a_p0_land_louds, .ref a_p0_land_ones, .ref a_p0_land_others, .ref a_p0_land_worths, .ref a_p0_land_hangs, .int p0_land_persons, .int p0_land_skies, .int p0_land_oaths])), (a_p0_land_hangs, .inl (cI, 5, .inl p0_land_hangs))]) (c_X4_isSworn l D cI cZ a_p0 a_p0_land a_p0_land_places a_p0_land_kinds a_p0_land_clapPlaces a_p0_land_louds a_p0_land_ones a_p0_land_others a_p0_land_worths a_p0_land_hangs p0_places p0_wool p0_sworn p0_worth p0_day p0_land_persons p0_land_skies p0_land_oaths v1 r_3 hr_3) (cwV 1 hts gX4_canSwear_X4_isSworn rfl rfl rfl (by decide +kernel) ⟨Nat.le_of_ble_eq_true rfl, Nat.le_of_ble_eq_true rfl⟩) [0, 1] rfl rfl rfl rfl rfl hl.1 rfl (Nat.le_of_ble_eq_true rfl) ⟨Nat.le_of_ble_eq_true rfl, Nat.le_of_ble_eq_true rfl⟩ dX4_canSwear_13 (fun hzr_3 H locs hW => ?_)
    refine lv_if_eq (tgt := 21) hx hb dX4_canSwear_16 (by decide) (fun c_4 => ?_) (fun c_4 => ?_)
    · have hf := it_t c_4 hf
      refine lv_aload_n hx hb dX4_canSwear_21 rfl (lv_at hl 0 rfl) ?_
      refine q_get hB hW 4 in_X4 0 rfl rfl 0 (by decide) fl_9 (v := .ref a_p0_land) rfl dX4_canSwear_22 ?_
      refine q_get hB hW 1 in_X1 1 rfl rfl 7 (by decide) fl_68 (v := .ref a_p0_land_hangs) rfl dX4_canSwear_25 ?_
      refine lv_iload_n hx hb dX4_canSwear_28 rfl (lv_at hl 1 rfl) ?_
      obtain ⟨r_5, hr_5, hf⟩ := bnd hf
      refine q_callNI hB hW (As := [.ref a_p0_land_hangs, .int v1]) (rest := []) (ws' := [(a_p0, .inr (4, [.ref a_p0_land, .int p0_places, .int p0_wool, .int p0_sworn, .int p0_worth, .int p0_day])), (a_p0_land, .inr (1, [.ref a_p0_land_places, .ref a_p0_land_kinds, .ref a_p0_land_clapPlaces, .ref a_p0_land_louds, .ref a_p0_land_ones, .ref a_p0_land_others, .ref a_p0_land_worths, .ref a_p0_land_hangs, .int p0_land_persons, .int p0_land_skies, .int p0_land_oaths])), (a_p0_land_hangs, .inl (cI, 5, .inl p0_land_hangs))]) (c_X6_at l D cI cZ a_p0_land_hangs 5 p0_land_hangs v1 r_5 hr_5) ⟨va_cnB 2 hts gX4_canSwear_X6_at_n39 rfl rfl rfl (hB.2.2.2.2.2.2.2.1.2 (RX4, 39, yX6_at, RX6) (by decide +kernel)) (hts (.initialized RX6) (by decide +kernel)) (by decide +kernel) ⟨Nat.le_of_ble_eq_true rfl, Nat.le_of_ble_eq_true rfl⟩, hts (.static yX6_at) (by decide +kernel), trivial⟩ [2] rfl rfl rfl rfl rfl hl.1 rfl (Nat.le_of_ble_eq_true rfl) ⟨Nat.le_of_ble_eq_true rfl, Nat.le_of_ble_eq_true rfl⟩ dX4_canSwear_29 (fun H locs hW => ?_)
      refine lv_istore_n (lv' := [(2, .int r_5), (0, .ref a_p0), (1, .int v1)]) hx hb dX4_canSwear_32 rfl hl (by decide) rfl (fun ls hl => ?_)
      refine lv_iload_n hx hb dX4_canSwear_33 rfl (lv_at hl 0 rfl) ?_
      refine lv_bipush (v := -9) hx hb dX4_canSwear_34 (by decide) ?_
      refine lv_icmp_eq (tgt := 47) hx hb dX4_canSwear_36 (by decide) (fun c_6 => ?_) (fun c_6 => ?_)
      · have hf := it_t c_6 hf
        refine lv_iconst (v := 1) hx hb dX4_canSwear_47 (by decide) ?_
        refine lv_goto (tgt := 52) hx hb dX4_canSwear_48 (by decide) ?_
        exact hE _ _ _ _ _ (1 : Int32) (sm hf) hW rfl nz_1 dX4_canSwear_52
      · have hf := it_f c_6 hf
        refine lv_aload_n hx hb dX4_canSwear_39 rfl (lv_at hl 1 rfl) ?_
        refine lv_iload_n hx hb dX4_canSwear_40 rfl (lv_at hl 0 rfl) ?_
        obtain ⟨r_7, hr_7, hf⟩ := bnd hf
        refine q_callVZ hB hW (ci := 4) (q0 := 0) rfl rfl rfl (As := [.int r_5]) (rest := []) (ws' := [(a_p0, .inr (4, [.ref a_p0_land, .int p0_places, .int p0_wool, .int p0_sworn, .int p0_worth, .int p0_day])), (a_p0_land, .inr (1, [.ref a_p0_land_places, .ref a_p0_land_kinds, .ref a_p0_land_clapPlaces, .ref a_p0_land_louds, .ref a_p0_land_ones, .ref a_p0_land_others, .ref a_p0_land_worths, .ref a_p0_land_hangs, .int p0_land_persons, .int p0_land_skies, .int p0_land_oaths])), (a_p0_land_hangs, .inl (cI, 5, .inl p0_land_hangs))]) (c_X4_isSworn l D cI cZ a_p0 a_p0_land a_p0_land_places a_p0_land_kinds a_p0_land_clapPlaces a_p0_land_louds a_p0_land_ones a_p0_land_others a_p0_land_worths a_p0_land_hangs p0_places p0_wool p0_sworn p0_worth p0_day p0_land_persons p0_land_skies p0_land_oaths r_5 r_7 hr_7) (cwV 1 hts gX4_canSwear_X4_isSworn rfl rfl rfl (by decide +kernel) ⟨Nat.le_of_ble_eq_true rfl, Nat.le_of_ble_eq_true rfl⟩) [0, 1] rfl rfl rfl rfl rfl hl.1 rfl (Nat.le_of_ble_eq_true rfl) ⟨Nat.le_of_ble_eq_true rfl, Nat.le_of_ble_eq_true rfl⟩ dX4_canSwear_41 (fun hzr_7 H locs hW => ?_)
        refine lv_if_eq (tgt := 51) hx hb dX4_canSwear_44 (by decide) (fun c_8 => ?_) (fun c_8 => ?_)
        · have hf := it_t c_8 hf
          refine lv_iconst (v := 0) hx hb dX4_canSwear_51 (by decide) ?_
          exact hE _ _ _ _ _ (0 : Int32) (sm hf) hW rfl nz_0 dX4_canSwear_52
        · have hf := it_f c_8 hf
          refine lv_iconst (v := 1) hx hb dX4_canSwear_47 (by decide) ?_
          refine lv_goto (tgt := 52) hx hb dX4_canSwear_48 (by decide) ?_
          exact hE _ _ _ _ _ (1 : Int32) (sm hf) hW rfl nz_1 dX4_canSwear_52
    · have hf := it_f c_4 hf
      refine lv_iconst (v := 0) hx hb dX4_canSwear_19 (by decide) ?_
      exact hE _ _ _ _ _ (0 : Int32) (sm hf) hW rfl nz_0 dX4_canSwear_20
def f_X6_swear (v1 : Int32) (p0_land_oaths : Int32) (p0_now_places : Int32) (p0_now_wool : Int32) (p0_now_sworn : Int32) (p0_now_worth : Int32) (p0_now_day : Int32) (p0_acts_length : Int32) (p0_land_hangs : Nat → Int32) (p0_acts_row : Nat → Int32) : Option (Int32 × Int32 × Int32 × (Nat → Int32)) := (f_X1_hasOath v1 p0_land_oaths).bind fun r_1 => if r_1 = (0 : Int32) then some ((-1 : Int32), p0_now_sworn, p0_acts_length, p0_acts_row) else (f_X4_canSwear v1 p0_now_sworn p0_land_oaths p0_land_hangs).bind fun r_3 => if r_3 = (0 : Int32) then some ((-3 : Int32), p0_now_sworn, p0_acts_length, p0_acts_row) else (f_X0_push p0_acts_length p0_acts_row p0_now_places p0_now_wool p0_now_sworn p0_now_worth p0_now_day).bind fun r_5 => (some (p0_now_sworn ||| ((1 : Int32) <<< (v1 &&& 31)))).bind fun w_6 => (f_J6_bitCount_0f7a4 w_6).bind fun r_7 => some (r_7, w_6, r_5.1, r_5.2)
set_option maxHeartbeats 4000000 in
set_option maxRecDepth 100000 in
theorem c_X6_swear (l : Launch) (D : va_G) (cI cZ : ClassId) (a_p0 a_p0_text a_p0_reader a_p0_draft a_p0_land a_p0_now a_p0_trial a_p0_acts a_p0_hearings a_p0_kept a_p0_land_places a_p0_land_kinds a_p0_land_clapPlaces a_p0_land_louds a_p0_land_ones a_p0_land_others a_p0_land_worths a_p0_land_hangs a_p0_acts_row : Nat) (p0_keptSlots : Int32) (p0_seedNow : Int64) (p0_land_persons : Int32) (p0_land_skies : Int32) (p0_land_oaths : Int32) (p0_now_places : Int32) (p0_now_wool : Int32) (p0_now_sworn : Int32) (p0_now_worth : Int32) (p0_now_day : Int32) (p0_acts_length : Int32) (p0_land_hangs : Nat → Int32) (p0_acts_row : Nat → Int32) (v1 : Int32) (q : Int32 × Int32 × Int32 × (Nat → Int32)) (hf : f_X6_swear v1 p0_land_oaths p0_now_places p0_now_wool p0_now_sworn p0_now_worth p0_now_day p0_acts_length p0_land_hangs p0_acts_row = some q) : CtI l D cI cZ yX6_swear wsX6_swear 4 86 [.ref a_p0, .int v1] [(a_p0, .inr (6, [.ref a_p0_text, .ref a_p0_reader, .ref a_p0_draft, .ref a_p0_land, .ref a_p0_now, .ref a_p0_trial, .ref a_p0_acts, .ref a_p0_hearings, .ref a_p0_kept, .int p0_keptSlots, .long p0_seedNow])), (a_p0_land, .inr (1, [.ref a_p0_land_places, .ref a_p0_land_kinds, .ref a_p0_land_clapPlaces, .ref a_p0_land_louds, .ref a_p0_land_ones, .ref a_p0_land_others, .ref a_p0_land_worths, .ref a_p0_land_hangs, .int p0_land_persons, .int p0_land_skies, .int p0_land_oaths])), (a_p0_now, .inr (4, [.ref a_p0_land, .int p0_now_places, .int p0_now_wool, .int p0_now_sworn, .int p0_now_worth, .int p0_now_day])), (a_p0_acts, .inr (0, [.ref a_p0_acts_row, .int p0_acts_length])), (a_p0_land_hangs, .inl (cI, 5, .inl p0_land_hangs)), (a_p0_acts_row, .inl (cI, 70, .inl p0_acts_row))] (fun q => [(a_p0, .inr (6, [.ref a_p0_text, .ref a_p0_reader, .ref a_p0_draft, .ref a_p0_land, .ref a_p0_now, .ref a_p0_trial, .ref a_p0_acts, .ref a_p0_hearings, .ref a_p0_kept, .int p0_keptSlots, .long p0_seedNow])), (a_p0_land, .inr (1, [.ref a_p0_land_places, .ref a_p0_land_kinds, .ref a_p0_land_clapPlaces, .ref a_p0_land_louds, .ref a_p0_land_ones, .ref a_p0_land_others, .ref a_p0_land_worths, .ref a_p0_land_hangs, .int p0_land_persons, .int p0_land_skies, .int p0_land_oaths])), (a_p0_now, .inr (4, [.ref a_p0_land, .int p0_now_places, .int p0_now_wool, .int q.2.1, .int p0_now_worth, .int p0_now_day])), (a_p0_acts, .inr (0, [.ref a_p0_acts_row, .int q.2.2.1])), (a_p0_land_hangs, .inl (cI, 5, .inl p0_land_hangs)), (a_p0_acts_row, .inl (cI, 70, .inl q.2.2.2))]) (fun q => q.1) q := by
  refine CtI.of (cc := cX6_swear) (maxL := 2) (plainFor_of_name (by decide)) rfl (Nat.le_of_ble_eq_true rfl) ?_
  intro p e s m args below meth c A Q H ls hB hE hW hl
  have hx := hB.1
  have hb := hB.2.1
  have hml := hB.2.2.2.1
  have hown : s.vm.findClass RX6 = some m.cls := hB.2.2.2.2.1
  have hts := hB.2.2.2.2.2.1
  have hK := hB.2.2.2.2.2.2.2.1.1
  have hl : lv_has ls 2 [(0, .ref a_p0), (1, .int v1)] := hl
  have in_X4 : ∀ w ∈ wsX40, w ∈ wsX6_swear := fun w h => List.mem_cons_of_mem _ (List.mem_append_left _ (List.mem_append_left _ (List.mem_append_right _ h)))
  have in_X6 : ∀ w ∈ wsX60, w ∈ wsX6_swear := fun w h => List.mem_cons_of_mem _ (List.mem_append_left _ (List.mem_append_left _ (List.mem_append_left _ (List.mem_append_right _ h))))
  have fl_32 : (Cond.fieldLink RX6 32 (TX6 3).1 (TX6 3).2.1 (TX6 3).2.2.1).before args s = true := hts (.fieldLink RX6 32 "ClapOaths" "land" "LClapOaths$County;") (by decide +kernel)
  have fl_40 : (Cond.fieldLink RX6 40 (TX6 4).1 (TX6 4).2.1 (TX6 4).2.2.1).before args s = true := hts (.fieldLink RX6 40 "ClapOaths" "now" "LClapOaths$Standing;") (by decide +kernel)
  have fl_50 : (Cond.fieldLink RX6 50 (TX6 6).1 (TX6 6).2.1 (TX6 6).2.2.1).before args s = true := hts (.fieldLink RX6 50 "ClapOaths" "acts" "LClapOaths$Acts;") (by decide +kernel)
  have fl_125 : (Cond.fieldLink RX6 125 (TX4 3).1 (TX4 3).2.1 (TX4 3).2.2.1).before args s = true := hts (.fieldLink RX6 125 "ClapOaths$Standing" "sworn" "I") (by decide +kernel)
  unfold f_X6_swear at hf
  refine lv_aload_n hx hb dX6_swear_0 rfl (lv_at hl 0 rfl) ?_
  refine q_get hB hW 6 in_X6 0 rfl rfl 3 (by decide) fl_32 (v := .ref a_p0_land) rfl dX6_swear_1 ?_
  refine lv_iload_n hx hb dX6_swear_4 rfl (lv_at hl 1 rfl) ?_
  obtain ⟨r_1, hr_1, hf⟩ := bnd hf
  refine q_callVZ hB hW (ci := 1) (q0 := 0) rfl rfl rfl (As := [.int v1]) (rest := []) (ws' := [(a_p0, .inr (6, [.ref a_p0_text, .ref a_p0_reader, .ref a_p0_draft, .ref a_p0_land, .ref a_p0_now, .ref a_p0_trial, .ref a_p0_acts, .ref a_p0_hearings, .ref a_p0_kept, .int p0_keptSlots, .long p0_seedNow])), (a_p0_land, .inr (1, [.ref a_p0_land_places, .ref a_p0_land_kinds, .ref a_p0_land_clapPlaces, .ref a_p0_land_louds, .ref a_p0_land_ones, .ref a_p0_land_others, .ref a_p0_land_worths, .ref a_p0_land_hangs, .int p0_land_persons, .int p0_land_skies, .int p0_land_oaths])), (a_p0_now, .inr (4, [.ref a_p0_land, .int p0_now_places, .int p0_now_wool, .int p0_now_sworn, .int p0_now_worth, .int p0_now_day])), (a_p0_acts, .inr (0, [.ref a_p0_acts_row, .int p0_acts_length])), (a_p0_land_hangs, .inl (cI, 5, .inl p0_land_hangs)), (a_p0_acts_row, .inl (cI, 70, .inl p0_acts_row))]) (c_X1_hasOath l D cI cZ a_p0_land a_p0_land_places a_p0_land_kinds a_p0_land_clapPlaces a_p0_land_louds a_p0_land_ones a_p0_land_others a_p0_land_worths a_p0_land_hangs p0_land_persons p0_land_skies p0_land_oaths v1 r_1 hr_1) (cwV 1 hts gX6_swear_X1_hasOath rfl rfl rfl (by decide +kernel) ⟨Nat.le_of_ble_eq_true rfl, Nat.le_of_ble_eq_true rfl⟩) [1] rfl rfl rfl rfl rfl hl.1 rfl (Nat.le_of_ble_eq_true rfl) ⟨Nat.le_of_ble_eq_true rfl, Nat.le_of_ble_eq_true rfl⟩ dX6_swear_5 (fun hzr_1 H locs hW => ?_)
  refine lv_if_ne (tgt := 13) hx hb dX6_swear_8 (by decide) (fun c_2 => ?_) (fun c_2 => ?_)
  · have hf := it_f c_2 hf
    refine lv_aload_n hx hb dX6_swear_13 rfl (lv_at hl 0 rfl) ?_
    refine q_get hB hW 6 in_X6 0 rfl rfl 4 (by decide) fl_40 (v := .ref a_p0_now) rfl dX6_swear_14 ?_
    refine lv_iload_n hx hb dX6_swear_17 rfl (lv_at hl 1 rfl) ?_
    obtain ⟨r_3, hr_3, hf⟩ := bnd hf
    refine q_callVZ hB hW (ci := 4) (q0 := 0) rfl rfl rfl (As := [.int v1]) (rest := []) (ws' := [(a_p0, .inr (6, [.ref a_p0_text, .ref a_p0_reader, .ref a_p0_draft, .ref a_p0_land, .ref a_p0_now, .ref a_p0_trial, .ref a_p0_acts, .ref a_p0_hearings, .ref a_p0_kept, .int p0_keptSlots, .long p0_seedNow])), (a_p0_land, .inr (1, [.ref a_p0_land_places, .ref a_p0_land_kinds, .ref a_p0_land_clapPlaces, .ref a_p0_land_louds, .ref a_p0_land_ones, .ref a_p0_land_others, .ref a_p0_land_worths, .ref a_p0_land_hangs, .int p0_land_persons, .int p0_land_skies, .int p0_land_oaths])), (a_p0_now, .inr (4, [.ref a_p0_land, .int p0_now_places, .int p0_now_wool, .int p0_now_sworn, .int p0_now_worth, .int p0_now_day])), (a_p0_acts, .inr (0, [.ref a_p0_acts_row, .int p0_acts_length])), (a_p0_land_hangs, .inl (cI, 5, .inl p0_land_hangs)), (a_p0_acts_row, .inl (cI, 70, .inl p0_acts_row))]) (c_X4_canSwear l D cI cZ a_p0_now a_p0_land a_p0_land_places a_p0_land_kinds a_p0_land_clapPlaces a_p0_land_louds a_p0_land_ones a_p0_land_others a_p0_land_worths a_p0_land_hangs p0_now_places p0_now_wool p0_now_sworn p0_now_worth p0_now_day p0_land_persons p0_land_skies p0_land_oaths p0_land_hangs v1 r_3 hr_3) (cwV 1 hts gX6_swear_X4_canSwear rfl rfl rfl (by decide +kernel) ⟨Nat.le_of_ble_eq_true rfl, Nat.le_of_ble_eq_true rfl⟩) [2, 1, 4] rfl rfl rfl rfl rfl hl.1 rfl (Nat.le_of_ble_eq_true rfl) ⟨Nat.le_of_ble_eq_true rfl, Nat.le_of_ble_eq_true rfl⟩ dX6_swear_18 (fun hzr_3 H locs hW => ?_)
    refine lv_if_ne (tgt := 27) hx hb dX6_swear_21 (by decide) (fun c_4 => ?_) (fun c_4 => ?_)
    · have hf := it_f c_4 hf
      refine lv_aload_n hx hb dX6_swear_27 rfl (lv_at hl 0 rfl) ?_
      refine q_get hB hW 6 in_X6 0 rfl rfl 6 (by decide) fl_50 (v := .ref a_p0_acts) rfl dX6_swear_28 ?_
      refine lv_aload_n hx hb dX6_swear_31 rfl (lv_at hl 0 rfl) ?_
      refine q_get hB hW 6 in_X6 0 rfl rfl 4 (by decide) fl_40 (v := .ref a_p0_now) rfl dX6_swear_32 ?_
      obtain ⟨r_5, hr_5, hf⟩ := bnd hf
      refine q_callVV hB hW (ci := 0) (q0 := 0) rfl rfl rfl (As := [.ref a_p0_now]) (rest := []) (ws' := [(a_p0, .inr (6, [.ref a_p0_text, .ref a_p0_reader, .ref a_p0_draft, .ref a_p0_land, .ref a_p0_now, .ref a_p0_trial, .ref a_p0_acts, .ref a_p0_hearings, .ref a_p0_kept, .int p0_keptSlots, .long p0_seedNow])), (a_p0_land, .inr (1, [.ref a_p0_land_places, .ref a_p0_land_kinds, .ref a_p0_land_clapPlaces, .ref a_p0_land_louds, .ref a_p0_land_ones, .ref a_p0_land_others, .ref a_p0_land_worths, .ref a_p0_land_hangs, .int p0_land_persons, .int p0_land_skies, .int p0_land_oaths])), (a_p0_now, .inr (4, [.ref a_p0_land, .int p0_now_places, .int p0_now_wool, .int p0_now_sworn, .int p0_now_worth, .int p0_now_day])), (a_p0_acts, .inr (0, [.ref a_p0_acts_row, .int r_5.1])), (a_p0_land_hangs, .inl (cI, 5, .inl p0_land_hangs)), (a_p0_acts_row, .inl (cI, 70, .inl r_5.2))]) (c_X0_push l D cI cZ a_p0_acts a_p0_now a_p0_acts_row a_p0_land p0_acts_length p0_acts_row p0_now_places p0_now_wool p0_now_sworn p0_now_worth p0_now_day r_5 hr_5) (cwV 1 hts gX6_swear_X0_push rfl rfl rfl (by decide +kernel) ⟨Nat.le_of_ble_eq_true rfl, Nat.le_of_ble_eq_true rfl⟩) [3, 5, 2] rfl rfl rfl rfl rfl hl.1 rfl (Nat.le_of_ble_eq_true rfl) ⟨Nat.le_of_ble_eq_true rfl, Nat.le_of_ble_eq_true rfl⟩ dX6_swear_35 (fun H locs hW => ?_)
      refine lv_aload_n hx hb dX6_swear_38 rfl (lv_at hl 0 rfl) ?_
      refine q_get hB hW 6 in_X6 0 rfl rfl 4 (by decide) fl_40 (v := .ref a_p0_now) rfl dX6_swear_39 ?_
      refine lv_dup hx hb dX6_swear_42 rfl ?_
      refine q_get hB hW 4 in_X4 2 rfl rfl 3 (by decide) fl_125 (v := .int p0_now_sworn) rfl dX6_swear_43 ?_
      refine lv_iconst (v := 1) hx hb dX6_swear_46 (by decide) ?_
      refine lv_iload_n hx hb dX6_swear_47 rfl (lv_at hl 1 rfl) ?_
      refine lv_ishl hx hb dX6_swear_48 ?_
      refine lv_ior hx hb dX6_swear_49 ?_
      obtain ⟨w_6, hw_6, hf⟩ := bnd hf
      refine q_nmI hw_6 ?_
      refine q_put hB hW 4 in_X4 tyX4 tyX4_ok nmX4 2 rfl rfl 3 (by decide) fl_125 rfl (by first | rfl | decide) (by first | rfl | decide) (Nat.le_of_ble_eq_true rfl) (ws' := [(a_p0, .inr (6, [.ref a_p0_text, .ref a_p0_reader, .ref a_p0_draft, .ref a_p0_land, .ref a_p0_now, .ref a_p0_trial, .ref a_p0_acts, .ref a_p0_hearings, .ref a_p0_kept, .int p0_keptSlots, .long p0_seedNow])), (a_p0_land, .inr (1, [.ref a_p0_land_places, .ref a_p0_land_kinds, .ref a_p0_land_clapPlaces, .ref a_p0_land_louds, .ref a_p0_land_ones, .ref a_p0_land_others, .ref a_p0_land_worths, .ref a_p0_land_hangs, .int p0_land_persons, .int p0_land_skies, .int p0_land_oaths])), (a_p0_now, .inr (4, [.ref a_p0_land, .int p0_now_places, .int p0_now_wool, .int w_6, .int p0_now_worth, .int p0_now_day])), (a_p0_acts, .inr (0, [.ref a_p0_acts_row, .int r_5.1])), (a_p0_land_hangs, .inl (cI, 5, .inl p0_land_hangs)), (a_p0_acts_row, .inl (cI, 70, .inl r_5.2))]) rfl dX6_swear_50 (fun H locs hW => ?_)
      refine lv_aload_n hx hb dX6_swear_53 rfl (lv_at hl 0 rfl) ?_
      refine q_get hB hW 6 in_X6 0 rfl rfl 4 (by decide) fl_40 (v := .ref a_p0_now) rfl dX6_swear_54 ?_
      refine q_get hB hW 4 in_X4 2 rfl rfl 3 (by decide) fl_125 (v := .int w_6) rfl dX6_swear_57 ?_
      obtain ⟨r_7, hr_7, hf⟩ := bnd hf
      refine q_callSI hB hW (As := [.int w_6]) (rest := []) (ws' := [(a_p0, .inr (6, [.ref a_p0_text, .ref a_p0_reader, .ref a_p0_draft, .ref a_p0_land, .ref a_p0_now, .ref a_p0_trial, .ref a_p0_acts, .ref a_p0_hearings, .ref a_p0_kept, .int p0_keptSlots, .long p0_seedNow])), (a_p0_land, .inr (1, [.ref a_p0_land_places, .ref a_p0_land_kinds, .ref a_p0_land_clapPlaces, .ref a_p0_land_louds, .ref a_p0_land_ones, .ref a_p0_land_others, .ref a_p0_land_worths, .ref a_p0_land_hangs, .int p0_land_persons, .int p0_land_skies, .int p0_land_oaths])), (a_p0_now, .inr (4, [.ref a_p0_land, .int p0_now_places, .int p0_now_wool, .int w_6, .int p0_now_worth, .int p0_now_day])), (a_p0_acts, .inr (0, [.ref a_p0_acts_row, .int r_5.1])), (a_p0_land_hangs, .inl (cI, 5, .inl p0_land_hangs)), (a_p0_acts_row, .inl (cI, 70, .inl r_5.2))]) (c_J6_bitCount_0f7a4 l D cI cZ w_6 r_7 hr_7) (va_cwS 1 hts gX6_swear_J6_bitCount_0f7a4 rfl rfl rfl (by decide +kernel) ⟨Nat.le_of_ble_eq_true rfl, Nat.le_of_ble_eq_true rfl⟩) [] rfl rfl rfl rfl rfl hl.1 rfl (Nat.le_of_ble_eq_true rfl) ⟨Nat.le_of_ble_eq_true rfl, Nat.le_of_ble_eq_true rfl⟩ dX6_swear_60 (fun H locs hW => ?_)
      exact hE _ _ _ _ _ (r_7, w_6, r_5.1, r_5.2) (sm hf) hW rfl dX6_swear_63
    · have hf := it_t c_4 hf
      refine lv_bipush (v := -3) hx hb dX6_swear_24 (by decide) ?_
      exact hE _ _ _ _ _ ((-3 : Int32), p0_now_sworn, p0_acts_length, p0_acts_row) (sm hf) hW rfl dX6_swear_26
  · have hf := it_t c_2 hf
    refine lv_iconst (v := -1) hx hb dX6_swear_11 (by decide) ?_
    exact hE _ _ _ _ _ ((-1 : Int32), p0_now_sworn, p0_acts_length, p0_acts_row) (sm hf) hW rfl dX6_swear_12
def f_X4_letOff (v1 : Int32) (p0_sworn : Int32) (p0_land_oaths : Int32) (p0_land_hangs : Nat → Int32) : Option (Int32 × Int32) := (some (p0_sworn &&& (((1 : Int32) <<< (v1 &&& 31)) ^^^ (-1 : Int32)))).bind fun w_1 => (f_X4_freeHanging p0_sworn w_1 p0_land_oaths p0_land_hangs).bind fun r_2 => some (r_2.1, r_2.2)
set_option maxHeartbeats 4000000 in
set_option maxRecDepth 100000 in
theorem c_X4_letOff (l : Launch) (D : va_G) (cI cZ : ClassId) (a_p0 a_p0_land a_p0_land_places a_p0_land_kinds a_p0_land_clapPlaces a_p0_land_louds a_p0_land_ones a_p0_land_others a_p0_land_worths a_p0_land_hangs : Nat) (p0_places : Int32) (p0_wool : Int32) (p0_sworn : Int32) (p0_worth : Int32) (p0_day : Int32) (p0_land_persons : Int32) (p0_land_skies : Int32) (p0_land_oaths : Int32) (p0_land_hangs : Nat → Int32) (v1 : Int32) (q : Int32 × Int32) (hf : f_X4_letOff v1 p0_sworn p0_land_oaths p0_land_hangs = some q) : CtI l D cI cZ yX4_letOff wsX4_letOff 2 44 [.ref a_p0, .int v1] [(a_p0, .inr (4, [.ref a_p0_land, .int p0_places, .int p0_wool, .int p0_sworn, .int p0_worth, .int p0_day])), (a_p0_land, .inr (1, [.ref a_p0_land_places, .ref a_p0_land_kinds, .ref a_p0_land_clapPlaces, .ref a_p0_land_louds, .ref a_p0_land_ones, .ref a_p0_land_others, .ref a_p0_land_worths, .ref a_p0_land_hangs, .int p0_land_persons, .int p0_land_skies, .int p0_land_oaths])), (a_p0_land_hangs, .inl (cI, 5, .inl p0_land_hangs))] (fun q => [(a_p0, .inr (4, [.ref a_p0_land, .int p0_places, .int p0_wool, .int q.2, .int p0_worth, .int p0_day])), (a_p0_land, .inr (1, [.ref a_p0_land_places, .ref a_p0_land_kinds, .ref a_p0_land_clapPlaces, .ref a_p0_land_louds, .ref a_p0_land_ones, .ref a_p0_land_others, .ref a_p0_land_worths, .ref a_p0_land_hangs, .int p0_land_persons, .int p0_land_skies, .int p0_land_oaths])), (a_p0_land_hangs, .inl (cI, 5, .inl p0_land_hangs))]) (fun q => q.1) q := by
  refine CtI.of (cc := cX4_letOff) (maxL := 3) (plainFor_of_name (by decide)) rfl (Nat.le_of_ble_eq_true rfl) ?_
  intro p e s m args below meth c A Q H ls hB hE hW hl
  have hx := hB.1
  have hb := hB.2.1
  have hml := hB.2.2.2.1
  have hown : s.vm.findClass RX4 = some m.cls := hB.2.2.2.2.1
  have hts := hB.2.2.2.2.2.1
  have hK := hB.2.2.2.2.2.2.2.1.1
  have hl : lv_has ls 3 [(0, .ref a_p0), (1, .int v1)] := hl
  have in_X4 : ∀ w ∈ wsX40, w ∈ wsX4_letOff := fun w h => List.mem_cons_of_mem _ (List.mem_append_left _ (List.mem_append_right _ h))
  have fl_22 : (Cond.fieldLink RX4 22 (TX4 3).1 (TX4 3).2.1 (TX4 3).2.2.1).before args s = true := hts (.fieldLink RX4 22 "ClapOaths$Standing" "sworn" "I") (by decide +kernel)
  unfold f_X4_letOff at hf
  refine lv_aload_n hx hb dX4_letOff_0 rfl (lv_at hl 0 rfl) ?_
  refine q_get hB hW 4 in_X4 0 rfl rfl 3 (by decide) fl_22 (v := .int p0_sworn) rfl dX4_letOff_1 ?_
  refine lv_istore_n (lv' := [(2, .int p0_sworn), (0, .ref a_p0), (1, .int v1)]) hx hb dX4_letOff_4 rfl hl (by decide) rfl (fun ls hl => ?_)
  refine lv_aload_n hx hb dX4_letOff_5 rfl (lv_at hl 1 rfl) ?_
  refine lv_dup hx hb dX4_letOff_6 rfl ?_
  refine q_get hB hW 4 in_X4 0 rfl rfl 3 (by decide) fl_22 (v := .int p0_sworn) rfl dX4_letOff_7 ?_
  refine lv_iconst (v := 1) hx hb dX4_letOff_10 (by decide) ?_
  refine lv_iload_n hx hb dX4_letOff_11 rfl (lv_at hl 2 rfl) ?_
  refine lv_ishl hx hb dX4_letOff_12 ?_
  refine lv_iconst (v := -1) hx hb dX4_letOff_13 (by decide) ?_
  refine lv_ixor hx hb dX4_letOff_14 ?_
  refine lv_iand hx hb dX4_letOff_15 ?_
  obtain ⟨w_1, hw_1, hf⟩ := bnd hf
  refine q_nmI hw_1 ?_
  refine q_put hB hW 4 in_X4 tyX4 tyX4_ok nmX4 0 rfl rfl 3 (by decide) fl_22 rfl (by first | rfl | decide) (by first | rfl | decide) (Nat.le_of_ble_eq_true rfl) (ws' := [(a_p0, .inr (4, [.ref a_p0_land, .int p0_places, .int p0_wool, .int w_1, .int p0_worth, .int p0_day])), (a_p0_land, .inr (1, [.ref a_p0_land_places, .ref a_p0_land_kinds, .ref a_p0_land_clapPlaces, .ref a_p0_land_louds, .ref a_p0_land_ones, .ref a_p0_land_others, .ref a_p0_land_worths, .ref a_p0_land_hangs, .int p0_land_persons, .int p0_land_skies, .int p0_land_oaths])), (a_p0_land_hangs, .inl (cI, 5, .inl p0_land_hangs))]) rfl dX4_letOff_16 (fun H locs hW => ?_)
  refine lv_aload_n hx hb dX4_letOff_19 rfl (lv_at hl 1 rfl) ?_
  refine lv_iload_n hx hb dX4_letOff_20 rfl (lv_at hl 0 rfl) ?_
  obtain ⟨r_2, hr_2, hf⟩ := bnd hf
  refine q_callVI hB hW (ci := 4) (q0 := 0) rfl rfl rfl (As := [.int p0_sworn]) (rest := []) (ws' := [(a_p0, .inr (4, [.ref a_p0_land, .int p0_places, .int p0_wool, .int r_2.2, .int p0_worth, .int p0_day])), (a_p0_land, .inr (1, [.ref a_p0_land_places, .ref a_p0_land_kinds, .ref a_p0_land_clapPlaces, .ref a_p0_land_louds, .ref a_p0_land_ones, .ref a_p0_land_others, .ref a_p0_land_worths, .ref a_p0_land_hangs, .int p0_land_persons, .int p0_land_skies, .int p0_land_oaths])), (a_p0_land_hangs, .inl (cI, 5, .inl p0_land_hangs))]) (c_X4_freeHanging l D cI cZ a_p0 a_p0_land a_p0_land_places a_p0_land_kinds a_p0_land_clapPlaces a_p0_land_louds a_p0_land_ones a_p0_land_others a_p0_land_worths a_p0_land_hangs p0_places p0_wool w_1 p0_worth p0_day p0_land_persons p0_land_skies p0_land_oaths p0_land_hangs p0_sworn r_2 hr_2) (cwV 1 hts gX4_letOff_X4_freeHanging rfl rfl rfl (by decide +kernel) ⟨Nat.le_of_ble_eq_true rfl, Nat.le_of_ble_eq_true rfl⟩) [0, 1, 2] rfl rfl rfl rfl rfl hl.1 rfl (Nat.le_of_ble_eq_true rfl) ⟨Nat.le_of_ble_eq_true rfl, Nat.le_of_ble_eq_true rfl⟩ dX4_letOff_21 (fun H locs hW => ?_)
  exact hE _ _ _ _ _ (r_2.1, r_2.2) (sm hf) hW rfl dX4_letOff_24
def f_X6_form (v1 : Int32) (p0_land_oaths : Int32) (p0_now_places : Int32) (p0_now_wool : Int32) (p0_now_sworn : Int32) (p0_now_worth : Int32) (p0_now_day : Int32) (p0_acts_length : Int32) (p0_land_hangs : Nat → Int32) (p0_acts_row : Nat → Int32) : Option (Int32 × Int32 × Int32 × (Nat → Int32)) := (f_X1_hasOath v1 p0_land_oaths).bind fun r_1 => if r_1 = (0 : Int32) then some ((-1 : Int32), p0_now_sworn, p0_acts_length, p0_acts_row) else (f_X4_isSworn v1 p0_now_sworn p0_land_oaths).bind fun r_3 => if r_3 = (0 : Int32) then some ((-3 : Int32), p0_now_sworn, p0_acts_length, p0_acts_row) else (f_X0_push p0_acts_length p0_acts_row p0_now_places p0_now_wool p0_now_sworn p0_now_worth p0_now_day).bind fun r_5 => (f_X4_letOff v1 p0_now_sworn p0_land_oaths p0_land_hangs).bind fun r_6 => some (r_6.1, r_6.2, r_5.1, r_5.2)
set_option maxHeartbeats 4000000 in
set_option maxRecDepth 100000 in
theorem c_X6_form (l : Launch) (D : va_G) (cI cZ : ClassId) (a_p0 a_p0_text a_p0_reader a_p0_draft a_p0_land a_p0_now a_p0_trial a_p0_acts a_p0_hearings a_p0_kept a_p0_land_places a_p0_land_kinds a_p0_land_clapPlaces a_p0_land_louds a_p0_land_ones a_p0_land_others a_p0_land_worths a_p0_land_hangs a_p0_acts_row : Nat) (p0_keptSlots : Int32) (p0_seedNow : Int64) (p0_land_persons : Int32) (p0_land_skies : Int32) (p0_land_oaths : Int32) (p0_now_places : Int32) (p0_now_wool : Int32) (p0_now_sworn : Int32) (p0_now_worth : Int32) (p0_now_day : Int32) (p0_acts_length : Int32) (p0_land_hangs : Nat → Int32) (p0_acts_row : Nat → Int32) (v1 : Int32) (q : Int32 × Int32 × Int32 × (Nat → Int32)) (hf : f_X6_form v1 p0_land_oaths p0_now_places p0_now_wool p0_now_sworn p0_now_worth p0_now_day p0_acts_length p0_land_hangs p0_acts_row = some q) : CtI l D cI cZ yX6_form wsX6_form 3 66 [.ref a_p0, .int v1] [(a_p0, .inr (6, [.ref a_p0_text, .ref a_p0_reader, .ref a_p0_draft, .ref a_p0_land, .ref a_p0_now, .ref a_p0_trial, .ref a_p0_acts, .ref a_p0_hearings, .ref a_p0_kept, .int p0_keptSlots, .long p0_seedNow])), (a_p0_land, .inr (1, [.ref a_p0_land_places, .ref a_p0_land_kinds, .ref a_p0_land_clapPlaces, .ref a_p0_land_louds, .ref a_p0_land_ones, .ref a_p0_land_others, .ref a_p0_land_worths, .ref a_p0_land_hangs, .int p0_land_persons, .int p0_land_skies, .int p0_land_oaths])), (a_p0_now, .inr (4, [.ref a_p0_land, .int p0_now_places, .int p0_now_wool, .int p0_now_sworn, .int p0_now_worth, .int p0_now_day])), (a_p0_acts, .inr (0, [.ref a_p0_acts_row, .int p0_acts_length])), (a_p0_land_hangs, .inl (cI, 5, .inl p0_land_hangs)), (a_p0_acts_row, .inl (cI, 70, .inl p0_acts_row))] (fun q => [(a_p0, .inr (6, [.ref a_p0_text, .ref a_p0_reader, .ref a_p0_draft, .ref a_p0_land, .ref a_p0_now, .ref a_p0_trial, .ref a_p0_acts, .ref a_p0_hearings, .ref a_p0_kept, .int p0_keptSlots, .long p0_seedNow])), (a_p0_land, .inr (1, [.ref a_p0_land_places, .ref a_p0_land_kinds, .ref a_p0_land_clapPlaces, .ref a_p0_land_louds, .ref a_p0_land_ones, .ref a_p0_land_others, .ref a_p0_land_worths, .ref a_p0_land_hangs, .int p0_land_persons, .int p0_land_skies, .int p0_land_oaths])), (a_p0_now, .inr (4, [.ref a_p0_land, .int p0_now_places, .int p0_now_wool, .int q.2.1, .int p0_now_worth, .int p0_now_day])), (a_p0_acts, .inr (0, [.ref a_p0_acts_row, .int q.2.2.1])), (a_p0_land_hangs, .inl (cI, 5, .inl p0_land_hangs)), (a_p0_acts_row, .inl (cI, 70, .inl q.2.2.2))]) (fun q => q.1) q := by
  refine CtI.of (cc := cX6_form) (maxL := 2) (plainFor_of_name (by decide)) rfl (Nat.le_of_ble_eq_true rfl) ?_
  intro p e s m args below meth c A Q H ls hB hE hW hl
  have hx := hB.1
  have hb := hB.2.1
  have hml := hB.2.2.2.1
  have hown : s.vm.findClass RX6 = some m.cls := hB.2.2.2.2.1
  have hts := hB.2.2.2.2.2.1
  have hK := hB.2.2.2.2.2.2.2.1.1
  have hl : lv_has ls 2 [(0, .ref a_p0), (1, .int v1)] := hl
  have in_X6 : ∀ w ∈ wsX60, w ∈ wsX6_form := fun w h => List.mem_cons_of_mem _ (List.mem_append_left _ (List.mem_append_left _ (List.mem_append_left _ (List.mem_append_right _ h))))
  have fl_32 : (Cond.fieldLink RX6 32 (TX6 3).1 (TX6 3).2.1 (TX6 3).2.2.1).before args s = true := hts (.fieldLink RX6 32 "ClapOaths" "land" "LClapOaths$County;") (by decide +kernel)
  have fl_40 : (Cond.fieldLink RX6 40 (TX6 4).1 (TX6 4).2.1 (TX6 4).2.2.1).before args s = true := hts (.fieldLink RX6 40 "ClapOaths" "now" "LClapOaths$Standing;") (by decide +kernel)
  have fl_50 : (Cond.fieldLink RX6 50 (TX6 6).1 (TX6 6).2.1 (TX6 6).2.2.1).before args s = true := hts (.fieldLink RX6 50 "ClapOaths" "acts" "LClapOaths$Acts;") (by decide +kernel)
  unfold f_X6_form at hf
  refine lv_aload_n hx hb dX6_form_0 rfl (lv_at hl 0 rfl) ?_
  refine q_get hB hW 6 in_X6 0 rfl rfl 3 (by decide) fl_32 (v := .ref a_p0_land) rfl dX6_form_1 ?_
  refine lv_iload_n hx hb dX6_form_4 rfl (lv_at hl 1 rfl) ?_
  obtain ⟨r_1, hr_1, hf⟩ := bnd hf
  refine q_callVZ hB hW (ci := 1) (q0 := 0) rfl rfl rfl (As := [.int v1]) (rest := []) (ws' := [(a_p0, .inr (6, [.ref a_p0_text, .ref a_p0_reader, .ref a_p0_draft, .ref a_p0_land, .ref a_p0_now, .ref a_p0_trial, .ref a_p0_acts, .ref a_p0_hearings, .ref a_p0_kept, .int p0_keptSlots, .long p0_seedNow])), (a_p0_land, .inr (1, [.ref a_p0_land_places, .ref a_p0_land_kinds, .ref a_p0_land_clapPlaces, .ref a_p0_land_louds, .ref a_p0_land_ones, .ref a_p0_land_others, .ref a_p0_land_worths, .ref a_p0_land_hangs, .int p0_land_persons, .int p0_land_skies, .int p0_land_oaths])), (a_p0_now, .inr (4, [.ref a_p0_land, .int p0_now_places, .int p0_now_wool, .int p0_now_sworn, .int p0_now_worth, .int p0_now_day])), (a_p0_acts, .inr (0, [.ref a_p0_acts_row, .int p0_acts_length])), (a_p0_land_hangs, .inl (cI, 5, .inl p0_land_hangs)), (a_p0_acts_row, .inl (cI, 70, .inl p0_acts_row))]) (c_X1_hasOath l D cI cZ a_p0_land a_p0_land_places a_p0_land_kinds a_p0_land_clapPlaces a_p0_land_louds a_p0_land_ones a_p0_land_others a_p0_land_worths a_p0_land_hangs p0_land_persons p0_land_skies p0_land_oaths v1 r_1 hr_1) (cwV 1 hts gX6_form_X1_hasOath rfl rfl rfl (by decide +kernel) ⟨Nat.le_of_ble_eq_true rfl, Nat.le_of_ble_eq_true rfl⟩) [1] rfl rfl rfl rfl rfl hl.1 rfl (Nat.le_of_ble_eq_true rfl) ⟨Nat.le_of_ble_eq_true rfl, Nat.le_of_ble_eq_true rfl⟩ dX6_form_5 (fun hzr_1 H locs hW => ?_)
  refine lv_if_ne (tgt := 13) hx hb dX6_form_8 (by decide) (fun c_2 => ?_) (fun c_2 => ?_)
  · have hf := it_f c_2 hf
    refine lv_aload_n hx hb dX6_form_13 rfl (lv_at hl 0 rfl) ?_
    refine q_get hB hW 6 in_X6 0 rfl rfl 4 (by decide) fl_40 (v := .ref a_p0_now) rfl dX6_form_14 ?_
    refine lv_iload_n hx hb dX6_form_17 rfl (lv_at hl 1 rfl) ?_
    obtain ⟨r_3, hr_3, hf⟩ := bnd hf
    refine q_callVZ hB hW (ci := 4) (q0 := 0) rfl rfl rfl (As := [.int v1]) (rest := []) (ws' := [(a_p0, .inr (6, [.ref a_p0_text, .ref a_p0_reader, .ref a_p0_draft, .ref a_p0_land, .ref a_p0_now, .ref a_p0_trial, .ref a_p0_acts, .ref a_p0_hearings, .ref a_p0_kept, .int p0_keptSlots, .long p0_seedNow])), (a_p0_land, .inr (1, [.ref a_p0_land_places, .ref a_p0_land_kinds, .ref a_p0_land_clapPlaces, .ref a_p0_land_louds, .ref a_p0_land_ones, .ref a_p0_land_others, .ref a_p0_land_worths, .ref a_p0_land_hangs, .int p0_land_persons, .int p0_land_skies, .int p0_land_oaths])), (a_p0_now, .inr (4, [.ref a_p0_land, .int p0_now_places, .int p0_now_wool, .int p0_now_sworn, .int p0_now_worth, .int p0_now_day])), (a_p0_acts, .inr (0, [.ref a_p0_acts_row, .int p0_acts_length])), (a_p0_land_hangs, .inl (cI, 5, .inl p0_land_hangs)), (a_p0_acts_row, .inl (cI, 70, .inl p0_acts_row))]) (c_X4_isSworn l D cI cZ a_p0_now a_p0_land a_p0_land_places a_p0_land_kinds a_p0_land_clapPlaces a_p0_land_louds a_p0_land_ones a_p0_land_others a_p0_land_worths a_p0_land_hangs p0_now_places p0_now_wool p0_now_sworn p0_now_worth p0_now_day p0_land_persons p0_land_skies p0_land_oaths v1 r_3 hr_3) (cwV 1 hts gX6_form_X4_isSworn rfl rfl rfl (by decide +kernel) ⟨Nat.le_of_ble_eq_true rfl, Nat.le_of_ble_eq_true rfl⟩) [2, 1] rfl rfl rfl rfl rfl hl.1 rfl (Nat.le_of_ble_eq_true rfl) ⟨Nat.le_of_ble_eq_true rfl, Nat.le_of_ble_eq_true rfl⟩ dX6_form_18 (fun hzr_3 H locs hW => ?_)
    refine lv_if_ne (tgt := 27) hx hb dX6_form_21 (by decide) (fun c_4 => ?_) (fun c_4 => ?_)
    · have hf := it_f c_4 hf
      refine lv_aload_n hx hb dX6_form_27 rfl (lv_at hl 0 rfl) ?_
      refine q_get hB hW 6 in_X6 0 rfl rfl 6 (by decide) fl_50 (v := .ref a_p0_acts) rfl dX6_form_28 ?_
      refine lv_aload_n hx hb dX6_form_31 rfl (lv_at hl 0 rfl) ?_
      refine q_get hB hW 6 in_X6 0 rfl rfl 4 (by decide) fl_40 (v := .ref a_p0_now) rfl dX6_form_32 ?_
      obtain ⟨r_5, hr_5, hf⟩ := bnd hf
      refine q_callVV hB hW (ci := 0) (q0 := 0) rfl rfl rfl (As := [.ref a_p0_now]) (rest := []) (ws' := [(a_p0, .inr (6, [.ref a_p0_text, .ref a_p0_reader, .ref a_p0_draft, .ref a_p0_land, .ref a_p0_now, .ref a_p0_trial, .ref a_p0_acts, .ref a_p0_hearings, .ref a_p0_kept, .int p0_keptSlots, .long p0_seedNow])), (a_p0_land, .inr (1, [.ref a_p0_land_places, .ref a_p0_land_kinds, .ref a_p0_land_clapPlaces, .ref a_p0_land_louds, .ref a_p0_land_ones, .ref a_p0_land_others, .ref a_p0_land_worths, .ref a_p0_land_hangs, .int p0_land_persons, .int p0_land_skies, .int p0_land_oaths])), (a_p0_now, .inr (4, [.ref a_p0_land, .int p0_now_places, .int p0_now_wool, .int p0_now_sworn, .int p0_now_worth, .int p0_now_day])), (a_p0_acts, .inr (0, [.ref a_p0_acts_row, .int r_5.1])), (a_p0_land_hangs, .inl (cI, 5, .inl p0_land_hangs)), (a_p0_acts_row, .inl (cI, 70, .inl r_5.2))]) (c_X0_push l D cI cZ a_p0_acts a_p0_now a_p0_acts_row a_p0_land p0_acts_length p0_acts_row p0_now_places p0_now_wool p0_now_sworn p0_now_worth p0_now_day r_5 hr_5) (cwV 1 hts gX6_form_X0_push rfl rfl rfl (by decide +kernel) ⟨Nat.le_of_ble_eq_true rfl, Nat.le_of_ble_eq_true rfl⟩) [3, 5, 2] rfl rfl rfl rfl rfl hl.1 rfl (Nat.le_of_ble_eq_true rfl) ⟨Nat.le_of_ble_eq_true rfl, Nat.le_of_ble_eq_true rfl⟩ dX6_form_35 (fun H locs hW => ?_)
      refine lv_aload_n hx hb dX6_form_38 rfl (lv_at hl 0 rfl) ?_
      refine q_get hB hW 6 in_X6 0 rfl rfl 4 (by decide) fl_40 (v := .ref a_p0_now) rfl dX6_form_39 ?_
      refine lv_iload_n hx hb dX6_form_42 rfl (lv_at hl 1 rfl) ?_
      obtain ⟨r_6, hr_6, hf⟩ := bnd hf
      refine q_callVI hB hW (ci := 4) (q0 := 0) rfl rfl rfl (As := [.int v1]) (rest := []) (ws' := [(a_p0, .inr (6, [.ref a_p0_text, .ref a_p0_reader, .ref a_p0_draft, .ref a_p0_land, .ref a_p0_now, .ref a_p0_trial, .ref a_p0_acts, .ref a_p0_hearings, .ref a_p0_kept, .int p0_keptSlots, .long p0_seedNow])), (a_p0_land, .inr (1, [.ref a_p0_land_places, .ref a_p0_land_kinds, .ref a_p0_land_clapPlaces, .ref a_p0_land_louds, .ref a_p0_land_ones, .ref a_p0_land_others, .ref a_p0_land_worths, .ref a_p0_land_hangs, .int p0_land_persons, .int p0_land_skies, .int p0_land_oaths])), (a_p0_now, .inr (4, [.ref a_p0_land, .int p0_now_places, .int p0_now_wool, .int r_6.2, .int p0_now_worth, .int p0_now_day])), (a_p0_acts, .inr (0, [.ref a_p0_acts_row, .int r_5.1])), (a_p0_land_hangs, .inl (cI, 5, .inl p0_land_hangs)), (a_p0_acts_row, .inl (cI, 70, .inl r_5.2))]) (c_X4_letOff l D cI cZ a_p0_now a_p0_land a_p0_land_places a_p0_land_kinds a_p0_land_clapPlaces a_p0_land_louds a_p0_land_ones a_p0_land_others a_p0_land_worths a_p0_land_hangs p0_now_places p0_now_wool p0_now_sworn p0_now_worth p0_now_day p0_land_persons p0_land_skies p0_land_oaths p0_land_hangs v1 r_6 hr_6) (cwV 1 hts gX6_form_X4_letOff rfl rfl rfl (by decide +kernel) ⟨Nat.le_of_ble_eq_true rfl, Nat.le_of_ble_eq_true rfl⟩) [2, 1, 4] rfl rfl rfl rfl rfl hl.1 rfl (Nat.le_of_ble_eq_true rfl) ⟨Nat.le_of_ble_eq_true rfl, Nat.le_of_ble_eq_true rfl⟩ dX6_form_43 (fun H locs hW => ?_)
      exact hE _ _ _ _ _ (r_6.1, r_6.2, r_5.1, r_5.2) (sm hf) hW rfl dX6_form_46
    · have hf := it_t c_4 hf
      refine lv_bipush (v := -3) hx hb dX6_form_24 (by decide) ?_
      exact hE _ _ _ _ _ ((-3 : Int32), p0_now_sworn, p0_acts_length, p0_acts_row) (sm hf) hW rfl dX6_form_26
  · have hf := it_t c_2 hf
    refine lv_iconst (v := -1) hx hb dX6_form_11 (by decide) ?_
    exact hE _ _ _ _ _ ((-1 : Int32), p0_now_sworn, p0_acts_length, p0_acts_row) (sm hf) hW rfl dX6_form_12
def f_X6_move (v1 : Int32) (v2 : Int32) (p0_land_persons : Int32) (p0_now_places : Int32) (p0_now_wool : Int32) (p0_now_sworn : Int32) (p0_now_worth : Int32) (p0_now_day : Int32) (p0_acts_length : Int32) (p0_acts_row : Nat → Int32) : Option (Int32 × Int32 × Int32 × (Nat → Int32)) := (f_X1_hasPerson v1 p0_land_persons).bind fun r_1 => if r_1 = (0 : Int32) then some ((-1 : Int32), p0_now_places, p0_acts_length, p0_acts_row) else (f_X6_isPlace v2).bind fun r_3 => if r_3 = (0 : Int32) then some ((-1 : Int32), p0_now_places, p0_acts_length, p0_acts_row) else (f_X4_placeOf v1 p0_now_places).bind fun r_5 => if r_5 = v2 then some ((-3 : Int32), p0_now_places, p0_acts_length, p0_acts_row) else (f_X0_push p0_acts_length p0_acts_row p0_now_places p0_now_wool p0_now_sworn p0_now_worth p0_now_day).bind fun r_7 => (f_X4_putAt v1 v2 p0_now_places).bind fun r_8 => some (r_5, r_8, r_7.1, r_7.2)
set_option maxHeartbeats 4000000 in
set_option maxRecDepth 100000 in
theorem c_X6_move (l : Launch) (D : va_G) (cI cZ : ClassId) (a_p0 a_p0_text a_p0_reader a_p0_draft a_p0_land a_p0_now a_p0_trial a_p0_acts a_p0_hearings a_p0_kept a_p0_land_places a_p0_land_kinds a_p0_land_clapPlaces a_p0_land_louds a_p0_land_ones a_p0_land_others a_p0_land_worths a_p0_land_hangs a_p0_acts_row : Nat) (p0_keptSlots : Int32) (p0_seedNow : Int64) (p0_land_persons : Int32) (p0_land_skies : Int32) (p0_land_oaths : Int32) (p0_now_places : Int32) (p0_now_wool : Int32) (p0_now_sworn : Int32) (p0_now_worth : Int32) (p0_now_day : Int32) (p0_acts_length : Int32) (p0_acts_row : Nat → Int32) (v1 : Int32) (v2 : Int32) (q : Int32 × Int32 × Int32 × (Nat → Int32)) (hf : f_X6_move v1 v2 p0_land_persons p0_now_places p0_now_wool p0_now_sworn p0_now_worth p0_now_day p0_acts_length p0_acts_row = some q) : CtI l D cI cZ yX6_move wsX6_move 3 66 [.ref a_p0, .int v1, .int v2] [(a_p0, .inr (6, [.ref a_p0_text, .ref a_p0_reader, .ref a_p0_draft, .ref a_p0_land, .ref a_p0_now, .ref a_p0_trial, .ref a_p0_acts, .ref a_p0_hearings, .ref a_p0_kept, .int p0_keptSlots, .long p0_seedNow])), (a_p0_land, .inr (1, [.ref a_p0_land_places, .ref a_p0_land_kinds, .ref a_p0_land_clapPlaces, .ref a_p0_land_louds, .ref a_p0_land_ones, .ref a_p0_land_others, .ref a_p0_land_worths, .ref a_p0_land_hangs, .int p0_land_persons, .int p0_land_skies, .int p0_land_oaths])), (a_p0_now, .inr (4, [.ref a_p0_land, .int p0_now_places, .int p0_now_wool, .int p0_now_sworn, .int p0_now_worth, .int p0_now_day])), (a_p0_acts, .inr (0, [.ref a_p0_acts_row, .int p0_acts_length])), (a_p0_acts_row, .inl (cI, 70, .inl p0_acts_row))] (fun q => [(a_p0, .inr (6, [.ref a_p0_text, .ref a_p0_reader, .ref a_p0_draft, .ref a_p0_land, .ref a_p0_now, .ref a_p0_trial, .ref a_p0_acts, .ref a_p0_hearings, .ref a_p0_kept, .int p0_keptSlots, .long p0_seedNow])), (a_p0_land, .inr (1, [.ref a_p0_land_places, .ref a_p0_land_kinds, .ref a_p0_land_clapPlaces, .ref a_p0_land_louds, .ref a_p0_land_ones, .ref a_p0_land_others, .ref a_p0_land_worths, .ref a_p0_land_hangs, .int p0_land_persons, .int p0_land_skies, .int p0_land_oaths])), (a_p0_now, .inr (4, [.ref a_p0_land, .int q.2.1, .int p0_now_wool, .int p0_now_sworn, .int p0_now_worth, .int p0_now_day])), (a_p0_acts, .inr (0, [.ref a_p0_acts_row, .int q.2.2.1])), (a_p0_acts_row, .inl (cI, 70, .inl q.2.2.2))]) (fun q => q.1) q := by
  refine CtI.of (cc := cX6_move) (maxL := 4) (plainFor_of_name (by decide)) rfl (Nat.le_of_ble_eq_true rfl) ?_
  intro p e s m args below meth c A Q H ls hB hE hW hl
  have hx := hB.1
  have hb := hB.2.1
  have hml := hB.2.2.2.1
  have hown : s.vm.findClass RX6 = some m.cls := hB.2.2.2.2.1
  have hts := hB.2.2.2.2.2.1
  have hK := hB.2.2.2.2.2.2.2.1.1
  have hl : lv_has ls 4 [(0, .ref a_p0), (1, .int v1), (2, .int v2)] := hl
  have in_X6 : ∀ w ∈ wsX60, w ∈ wsX6_move := fun w h => List.mem_cons_of_mem _ (List.mem_append_left _ (List.mem_append_left _ (List.mem_append_left _ (List.mem_append_right _ h))))
  have fl_32 : (Cond.fieldLink RX6 32 (TX6 3).1 (TX6 3).2.1 (TX6 3).2.2.1).before args s = true := hts (.fieldLink RX6 32 "ClapOaths" "land" "LClapOaths$County;") (by decide +kernel)
  have fl_40 : (Cond.fieldLink RX6 40 (TX6 4).1 (TX6 4).2.1 (TX6 4).2.2.1).before args s = true := hts (.fieldLink RX6 40 "ClapOaths" "now" "LClapOaths$Standing;") (by decide +kernel)
  have fl_50 : (Cond.fieldLink RX6 50 (TX6 6).1 (TX6 6).2.1 (TX6 6).2.2.1).before args s = true := hts (.fieldLink RX6 50 "ClapOaths" "acts" "LClapOaths$Acts;") (by decide +kernel)
  unfold f_X6_move at hf
  refine lv_aload_n hx hb dX6_move_0 rfl (lv_at hl 0 rfl) ?_
  refine q_get hB hW 6 in_X6 0 rfl rfl 3 (by decide) fl_32 (v := .ref a_p0_land) rfl dX6_move_1 ?_
  refine lv_iload_n hx hb dX6_move_4 rfl (lv_at hl 1 rfl) ?_
  obtain ⟨r_1, hr_1, hf⟩ := bnd hf
  refine q_callVZ hB hW (ci := 1) (q0 := 0) rfl rfl rfl (As := [.int v1]) (rest := []) (ws' := [(a_p0, .inr (6, [.ref a_p0_text, .ref a_p0_reader, .ref a_p0_draft, .ref a_p0_land, .ref a_p0_now, .ref a_p0_trial, .ref a_p0_acts, .ref a_p0_hearings, .ref a_p0_kept, .int p0_keptSlots, .long p0_seedNow])), (a_p0_land, .inr (1, [.ref a_p0_land_places, .ref a_p0_land_kinds, .ref a_p0_land_clapPlaces, .ref a_p0_land_louds, .ref a_p0_land_ones, .ref a_p0_land_others, .ref a_p0_land_worths, .ref a_p0_land_hangs, .int p0_land_persons, .int p0_land_skies, .int p0_land_oaths])), (a_p0_now, .inr (4, [.ref a_p0_land, .int p0_now_places, .int p0_now_wool, .int p0_now_sworn, .int p0_now_worth, .int p0_now_day])), (a_p0_acts, .inr (0, [.ref a_p0_acts_row, .int p0_acts_length])), (a_p0_acts_row, .inl (cI, 70, .inl p0_acts_row))]) (c_X1_hasPerson l D cI cZ a_p0_land a_p0_land_places a_p0_land_kinds a_p0_land_clapPlaces a_p0_land_louds a_p0_land_ones a_p0_land_others a_p0_land_worths a_p0_land_hangs p0_land_persons p0_land_skies p0_land_oaths v1 r_1 hr_1) (cwV 1 hts gX6_move_X1_hasPerson rfl rfl rfl (by decide +kernel) ⟨Nat.le_of_ble_eq_true rfl, Nat.le_of_ble_eq_true rfl⟩) [1] rfl rfl rfl rfl rfl hl.1 rfl (Nat.le_of_ble_eq_true rfl) ⟨Nat.le_of_ble_eq_true rfl, Nat.le_of_ble_eq_true rfl⟩ dX6_move_5 (fun hzr_1 H locs hW => ?_)
  refine lv_if_eq (tgt := 18) hx hb dX6_move_8 (by decide) (fun c_2 => ?_) (fun c_2 => ?_)
  · have hf := it_t c_2 hf
    refine lv_iconst (v := -1) hx hb dX6_move_18 (by decide) ?_
    exact hE _ _ _ _ _ ((-1 : Int32), p0_now_places, p0_acts_length, p0_acts_row) (sm hf) hW rfl dX6_move_19
  · have hf := it_f c_2 hf
    refine lv_iload_n hx hb dX6_move_11 rfl (lv_at hl 2 rfl) ?_
    obtain ⟨r_3, hr_3, hf⟩ := bnd hf
    refine q_callSZ hB hW (As := [.int v2]) (rest := []) (ws' := [(a_p0, .inr (6, [.ref a_p0_text, .ref a_p0_reader, .ref a_p0_draft, .ref a_p0_land, .ref a_p0_now, .ref a_p0_trial, .ref a_p0_acts, .ref a_p0_hearings, .ref a_p0_kept, .int p0_keptSlots, .long p0_seedNow])), (a_p0_land, .inr (1, [.ref a_p0_land_places, .ref a_p0_land_kinds, .ref a_p0_land_clapPlaces, .ref a_p0_land_louds, .ref a_p0_land_ones, .ref a_p0_land_others, .ref a_p0_land_worths, .ref a_p0_land_hangs, .int p0_land_persons, .int p0_land_skies, .int p0_land_oaths])), (a_p0_now, .inr (4, [.ref a_p0_land, .int p0_now_places, .int p0_now_wool, .int p0_now_sworn, .int p0_now_worth, .int p0_now_day])), (a_p0_acts, .inr (0, [.ref a_p0_acts_row, .int p0_acts_length])), (a_p0_acts_row, .inl (cI, 70, .inl p0_acts_row))]) (c_X6_isPlace l D cI cZ v2 r_3 hr_3) (va_cwS 1 hts gX6_move_X6_isPlace rfl rfl rfl (by decide +kernel) ⟨Nat.le_of_ble_eq_true rfl, Nat.le_of_ble_eq_true rfl⟩) [] rfl rfl rfl rfl rfl hl.1 rfl (Nat.le_of_ble_eq_true rfl) ⟨Nat.le_of_ble_eq_true rfl, Nat.le_of_ble_eq_true rfl⟩ dX6_move_12 (fun hzr_3 H locs hW => ?_)
    refine lv_if_ne (tgt := 20) hx hb dX6_move_15 (by decide) (fun c_4 => ?_) (fun c_4 => ?_)
    · have hf := it_f c_4 hf
      refine lv_aload_n hx hb dX6_move_20 rfl (lv_at hl 0 rfl) ?_
      refine q_get hB hW 6 in_X6 0 rfl rfl 4 (by decide) fl_40 (v := .ref a_p0_now) rfl dX6_move_21 ?_
      refine lv_iload_n hx hb dX6_move_24 rfl (lv_at hl 1 rfl) ?_
      obtain ⟨r_5, hr_5, hf⟩ := bnd hf
      refine q_callVI hB hW (ci := 4) (q0 := 0) rfl rfl rfl (As := [.int v1]) (rest := []) (ws' := [(a_p0, .inr (6, [.ref a_p0_text, .ref a_p0_reader, .ref a_p0_draft, .ref a_p0_land, .ref a_p0_now, .ref a_p0_trial, .ref a_p0_acts, .ref a_p0_hearings, .ref a_p0_kept, .int p0_keptSlots, .long p0_seedNow])), (a_p0_land, .inr (1, [.ref a_p0_land_places, .ref a_p0_land_kinds, .ref a_p0_land_clapPlaces, .ref a_p0_land_louds, .ref a_p0_land_ones, .ref a_p0_land_others, .ref a_p0_land_worths, .ref a_p0_land_hangs, .int p0_land_persons, .int p0_land_skies, .int p0_land_oaths])), (a_p0_now, .inr (4, [.ref a_p0_land, .int p0_now_places, .int p0_now_wool, .int p0_now_sworn, .int p0_now_worth, .int p0_now_day])), (a_p0_acts, .inr (0, [.ref a_p0_acts_row, .int p0_acts_length])), (a_p0_acts_row, .inl (cI, 70, .inl p0_acts_row))]) (c_X4_placeOf l D cI cZ a_p0_now a_p0_land p0_now_places p0_now_wool p0_now_sworn p0_now_worth p0_now_day v1 r_5 hr_5) (cwV 1 hts gX6_move_X4_placeOf rfl rfl rfl (by decide +kernel) ⟨Nat.le_of_ble_eq_true rfl, Nat.le_of_ble_eq_true rfl⟩) [2] rfl rfl rfl rfl rfl hl.1 rfl (Nat.le_of_ble_eq_true rfl) ⟨Nat.le_of_ble_eq_true rfl, Nat.le_of_ble_eq_true rfl⟩ dX6_move_25 (fun H locs hW => ?_)
      refine lv_istore_n (lv' := [(3, .int r_5), (0, .ref a_p0), (1, .int v1), (2, .int v2)]) hx hb dX6_move_28 rfl hl (by decide) rfl (fun ls hl => ?_)
      refine lv_iload_n hx hb dX6_move_29 rfl (lv_at hl 0 rfl) ?_
      refine lv_iload_n hx hb dX6_move_30 rfl (lv_at hl 3 rfl) ?_
      refine lv_icmp_ne (tgt := 37) hx hb dX6_move_31 (by decide) (fun c_6 => ?_) (fun c_6 => ?_)
      · have hf := it_f c_6 hf
        refine lv_aload_n hx hb dX6_move_37 rfl (lv_at hl 1 rfl) ?_
        refine q_get hB hW 6 in_X6 0 rfl rfl 6 (by decide) fl_50 (v := .ref a_p0_acts) rfl dX6_move_38 ?_
        refine lv_aload_n hx hb dX6_move_41 rfl (lv_at hl 1 rfl) ?_
        refine q_get hB hW 6 in_X6 0 rfl rfl 4 (by decide) fl_40 (v := .ref a_p0_now) rfl dX6_move_42 ?_
        obtain ⟨r_7, hr_7, hf⟩ := bnd hf
        refine q_callVV hB hW (ci := 0) (q0 := 0) rfl rfl rfl (As := [.ref a_p0_now]) (rest := []) (ws' := [(a_p0, .inr (6, [.ref a_p0_text, .ref a_p0_reader, .ref a_p0_draft, .ref a_p0_land, .ref a_p0_now, .ref a_p0_trial, .ref a_p0_acts, .ref a_p0_hearings, .ref a_p0_kept, .int p0_keptSlots, .long p0_seedNow])), (a_p0_land, .inr (1, [.ref a_p0_land_places, .ref a_p0_land_kinds, .ref a_p0_land_clapPlaces, .ref a_p0_land_louds, .ref a_p0_land_ones, .ref a_p0_land_others, .ref a_p0_land_worths, .ref a_p0_land_hangs, .int p0_land_persons, .int p0_land_skies, .int p0_land_oaths])), (a_p0_now, .inr (4, [.ref a_p0_land, .int p0_now_places, .int p0_now_wool, .int p0_now_sworn, .int p0_now_worth, .int p0_now_day])), (a_p0_acts, .inr (0, [.ref a_p0_acts_row, .int r_7.1])), (a_p0_acts_row, .inl (cI, 70, .inl r_7.2))]) (c_X0_push l D cI cZ a_p0_acts a_p0_now a_p0_acts_row a_p0_land p0_acts_length p0_acts_row p0_now_places p0_now_wool p0_now_sworn p0_now_worth p0_now_day r_7 hr_7) (cwV 1 hts gX6_move_X0_push rfl rfl rfl (by decide +kernel) ⟨Nat.le_of_ble_eq_true rfl, Nat.le_of_ble_eq_true rfl⟩) [3, 4, 2] rfl rfl rfl rfl rfl hl.1 rfl (Nat.le_of_ble_eq_true rfl) ⟨Nat.le_of_ble_eq_true rfl, Nat.le_of_ble_eq_true rfl⟩ dX6_move_45 (fun H locs hW => ?_)
        refine lv_aload_n hx hb dX6_move_48 rfl (lv_at hl 1 rfl) ?_
        refine q_get hB hW 6 in_X6 0 rfl rfl 4 (by decide) fl_40 (v := .ref a_p0_now) rfl dX6_move_49 ?_
        refine lv_iload_n hx hb dX6_move_52 rfl (lv_at hl 2 rfl) ?_
        refine lv_iload_n hx hb dX6_move_53 rfl (lv_at hl 3 rfl) ?_
        obtain ⟨r_8, hr_8, hf⟩ := bnd hf
        refine q_callVV hB hW (ci := 4) (q0 := 0) rfl rfl rfl (As := [.int v1, .int v2]) (rest := []) (ws' := [(a_p0, .inr (6, [.ref a_p0_text, .ref a_p0_reader, .ref a_p0_draft, .ref a_p0_land, .ref a_p0_now, .ref a_p0_trial, .ref a_p0_acts, .ref a_p0_hearings, .ref a_p0_kept, .int p0_keptSlots, .long p0_seedNow])), (a_p0_land, .inr (1, [.ref a_p0_land_places, .ref a_p0_land_kinds, .ref a_p0_land_clapPlaces, .ref a_p0_land_louds, .ref a_p0_land_ones, .ref a_p0_land_others, .ref a_p0_land_worths, .ref a_p0_land_hangs, .int p0_land_persons, .int p0_land_skies, .int p0_land_oaths])), (a_p0_now, .inr (4, [.ref a_p0_land, .int r_8, .int p0_now_wool, .int p0_now_sworn, .int p0_now_worth, .int p0_now_day])), (a_p0_acts, .inr (0, [.ref a_p0_acts_row, .int r_7.1])), (a_p0_acts_row, .inl (cI, 70, .inl r_7.2))]) (c_X4_putAt l D cI cZ a_p0_now a_p0_land p0_now_places p0_now_wool p0_now_sworn p0_now_worth p0_now_day v1 v2 r_8 hr_8) (cwV 2 hts gX6_move_X4_putAt rfl rfl rfl (by decide +kernel) ⟨Nat.le_of_ble_eq_true rfl, Nat.le_of_ble_eq_true rfl⟩) [2] rfl rfl rfl rfl rfl hl.1 rfl (Nat.le_of_ble_eq_true rfl) ⟨Nat.le_of_ble_eq_true rfl, Nat.le_of_ble_eq_true rfl⟩ dX6_move_54 (fun H locs hW => ?_)
        refine lv_iload_n hx hb dX6_move_57 rfl (lv_at hl 0 rfl) ?_
        exact hE _ _ _ _ _ (r_5, r_8, r_7.1, r_7.2) (sm hf) hW rfl dX6_move_58
      · have hf := it_t c_6 hf
        refine lv_bipush (v := -3) hx hb dX6_move_34 (by decide) ?_
        exact hE _ _ _ _ _ ((-3 : Int32), p0_now_places, p0_acts_length, p0_acts_row) (sm hf) hW rfl dX6_move_36
    · have hf := it_t c_4 hf
      refine lv_iconst (v := -1) hx hb dX6_move_18 (by decide) ?_
      exact hE _ _ _ _ _ ((-1 : Int32), p0_now_places, p0_acts_length, p0_acts_row) (sm hf) hW rfl dX6_move_19
def f_X1_canTurnWool (v1 : Int32) (p0_persons : Int32) (p0_kinds : Nat → Int32) : Option (Int32) := (f_X1_isOf v1 (0 : Int32) p0_persons p0_kinds).bind fun r_1 => if r_1 = (0 : Int32) then (f_X1_isOf v1 (3 : Int32) p0_persons p0_kinds).bind fun r_3 => if r_3 = (0 : Int32) then some (0 : Int32) else some (1 : Int32) else some (1 : Int32)
set_option maxHeartbeats 4000000 in
set_option maxRecDepth 100000 in
theorem c_X1_canTurnWool (l : Launch) (D : va_G) (cI cZ : ClassId) (a_p0 a_p0_places a_p0_kinds a_p0_clapPlaces a_p0_louds a_p0_ones a_p0_others a_p0_worths a_p0_hangs : Nat) (p0_persons : Int32) (p0_skies : Int32) (p0_oaths : Int32) (p0_kinds : Nat → Int32) (v1 : Int32) (q : Int32) (hf : f_X1_canTurnWool v1 p0_persons p0_kinds = some q) : CtZ l D cI cZ yX1_canTurnWool wsX1_canTurnWool 3 65 [.ref a_p0, .int v1] [(a_p0, .inr (1, [.ref a_p0_places, .ref a_p0_kinds, .ref a_p0_clapPlaces, .ref a_p0_louds, .ref a_p0_ones, .ref a_p0_others, .ref a_p0_worths, .ref a_p0_hangs, .int p0_persons, .int p0_skies, .int p0_oaths])), (a_p0_kinds, .inl (cI, 5, .inl p0_kinds))] (fun q => [(a_p0, .inr (1, [.ref a_p0_places, .ref a_p0_kinds, .ref a_p0_clapPlaces, .ref a_p0_louds, .ref a_p0_ones, .ref a_p0_others, .ref a_p0_worths, .ref a_p0_hangs, .int p0_persons, .int p0_skies, .int p0_oaths])), (a_p0_kinds, .inl (cI, 5, .inl p0_kinds))]) (fun q => q) q := by
  refine CtZ.of (cc := cX1_canTurnWool) (maxL := 2) (plainFor_of_name (by decide)) rfl (Nat.le_of_ble_eq_true rfl) ?_
  intro p e s m args below meth c A Q H ls hB hE hW hl
  have hx := hB.1
  have hb := hB.2.1
  have hml := hB.2.2.2.1
  have hown : s.vm.findClass RX1 = some m.cls := hB.2.2.2.2.1
  have hts := hB.2.2.2.2.2.1
  have hK := hB.2.2.2.2.2.2.2.1.1
  have hl : lv_has ls 2 [(0, .ref a_p0), (1, .int v1)] := hl
  unfold f_X1_canTurnWool at hf
  refine lv_aload_n hx hb dX1_canTurnWool_0 rfl (lv_at hl 0 rfl) ?_
  refine lv_iload_n hx hb dX1_canTurnWool_1 rfl (lv_at hl 1 rfl) ?_
  refine lv_iconst (v := 0) hx hb dX1_canTurnWool_2 (by decide) ?_
  obtain ⟨r_1, hr_1, hf⟩ := bnd hf
  refine q_callVZ hB hW (ci := 1) (q0 := 0) rfl rfl rfl (As := [.int v1, .int (0 : Int32)]) (rest := []) (ws' := [(a_p0, .inr (1, [.ref a_p0_places, .ref a_p0_kinds, .ref a_p0_clapPlaces, .ref a_p0_louds, .ref a_p0_ones, .ref a_p0_others, .ref a_p0_worths, .ref a_p0_hangs, .int p0_persons, .int p0_skies, .int p0_oaths])), (a_p0_kinds, .inl (cI, 5, .inl p0_kinds))]) (c_X1_isOf l D cI cZ a_p0 a_p0_places a_p0_kinds a_p0_clapPlaces a_p0_louds a_p0_ones a_p0_others a_p0_worths a_p0_hangs p0_persons p0_skies p0_oaths p0_kinds v1 (0 : Int32) r_1 hr_1) (cwV 2 hts gX1_canTurnWool_X1_isOf rfl rfl rfl (by decide +kernel) ⟨Nat.le_of_ble_eq_true rfl, Nat.le_of_ble_eq_true rfl⟩) [0, 1] rfl rfl rfl rfl rfl hl.1 rfl (Nat.le_of_ble_eq_true rfl) ⟨Nat.le_of_ble_eq_true rfl, Nat.le_of_ble_eq_true rfl⟩ dX1_canTurnWool_3 (fun hzr_1 H locs hW => ?_)
  refine lv_if_ne (tgt := 18) hx hb dX1_canTurnWool_6 (by decide) (fun c_2 => ?_) (fun c_2 => ?_)
  · have hf := it_f c_2 hf
    refine lv_iconst (v := 1) hx hb dX1_canTurnWool_18 (by decide) ?_
    refine lv_goto (tgt := 23) hx hb dX1_canTurnWool_19 (by decide) ?_
    exact hE _ _ _ _ _ (1 : Int32) (sm hf) hW rfl nz_1 dX1_canTurnWool_23
  · have hf := it_t c_2 hf
    refine lv_aload_n hx hb dX1_canTurnWool_9 rfl (lv_at hl 0 rfl) ?_
    refine lv_iload_n hx hb dX1_canTurnWool_10 rfl (lv_at hl 1 rfl) ?_
    refine lv_iconst (v := 3) hx hb dX1_canTurnWool_11 (by decide) ?_
    obtain ⟨r_3, hr_3, hf⟩ := bnd hf
    refine q_callVZ hB hW (ci := 1) (q0 := 0) rfl rfl rfl (As := [.int v1, .int (3 : Int32)]) (rest := []) (ws' := [(a_p0, .inr (1, [.ref a_p0_places, .ref a_p0_kinds, .ref a_p0_clapPlaces, .ref a_p0_louds, .ref a_p0_ones, .ref a_p0_others, .ref a_p0_worths, .ref a_p0_hangs, .int p0_persons, .int p0_skies, .int p0_oaths])), (a_p0_kinds, .inl (cI, 5, .inl p0_kinds))]) (c_X1_isOf l D cI cZ a_p0 a_p0_places a_p0_kinds a_p0_clapPlaces a_p0_louds a_p0_ones a_p0_others a_p0_worths a_p0_hangs p0_persons p0_skies p0_oaths p0_kinds v1 (3 : Int32) r_3 hr_3) (cwV 2 hts gX1_canTurnWool_X1_isOf rfl rfl rfl (by decide +kernel) ⟨Nat.le_of_ble_eq_true rfl, Nat.le_of_ble_eq_true rfl⟩) [0, 1] rfl rfl rfl rfl rfl hl.1 rfl (Nat.le_of_ble_eq_true rfl) ⟨Nat.le_of_ble_eq_true rfl, Nat.le_of_ble_eq_true rfl⟩ dX1_canTurnWool_12 (fun hzr_3 H locs hW => ?_)
    refine lv_if_eq (tgt := 22) hx hb dX1_canTurnWool_15 (by decide) (fun c_4 => ?_) (fun c_4 => ?_)
    · have hf := it_t c_4 hf
      refine lv_iconst (v := 0) hx hb dX1_canTurnWool_22 (by decide) ?_
      exact hE _ _ _ _ _ (0 : Int32) (sm hf) hW rfl nz_0 dX1_canTurnWool_23
    · have hf := it_f c_4 hf
      refine lv_iconst (v := 1) hx hb dX1_canTurnWool_18 (by decide) ?_
      refine lv_goto (tgt := 23) hx hb dX1_canTurnWool_19 (by decide) ?_
      exact hE _ _ _ _ _ (1 : Int32) (sm hf) hW rfl nz_1 dX1_canTurnWool_23
def f_X6_wool (v1 : Int32) (p0_land_persons : Int32) (p0_now_places : Int32) (p0_now_wool : Int32) (p0_now_sworn : Int32) (p0_now_worth : Int32) (p0_now_day : Int32) (p0_acts_length : Int32) (p0_land_kinds : Nat → Int32) (p0_acts_row : Nat → Int32) : Option (Int32 × Int32 × Int32 × (Nat → Int32)) := (f_X1_hasPerson v1 p0_land_persons).bind fun r_1 => if r_1 = (0 : Int32) then some ((-1 : Int32), p0_now_wool, p0_acts_length, p0_acts_row) else (f_X1_canTurnWool v1 p0_land_persons p0_land_kinds).bind fun r_3 => if r_3 = (0 : Int32) then some ((-3 : Int32), p0_now_wool, p0_acts_length, p0_acts_row) else (f_X0_push p0_acts_length p0_acts_row p0_now_places p0_now_wool p0_now_sworn p0_now_worth p0_now_day).bind fun r_5 => (some (p0_now_wool ^^^ ((1 : Int32) <<< (v1 &&& 31)))).bind fun w_6 => (f_X6_bit w_6 v1).bind fun r_7 => some (r_7, w_6, r_5.1, r_5.2)
set_option maxHeartbeats 4000000 in
set_option maxRecDepth 100000 in
theorem c_X6_wool (l : Launch) (D : va_G) (cI cZ : ClassId) (a_p0 a_p0_text a_p0_reader a_p0_draft a_p0_land a_p0_now a_p0_trial a_p0_acts a_p0_hearings a_p0_kept a_p0_land_places a_p0_land_kinds a_p0_land_clapPlaces a_p0_land_louds a_p0_land_ones a_p0_land_others a_p0_land_worths a_p0_land_hangs a_p0_acts_row : Nat) (p0_keptSlots : Int32) (p0_seedNow : Int64) (p0_land_persons : Int32) (p0_land_skies : Int32) (p0_land_oaths : Int32) (p0_now_places : Int32) (p0_now_wool : Int32) (p0_now_sworn : Int32) (p0_now_worth : Int32) (p0_now_day : Int32) (p0_acts_length : Int32) (p0_land_kinds : Nat → Int32) (p0_acts_row : Nat → Int32) (v1 : Int32) (q : Int32 × Int32 × Int32 × (Nat → Int32)) (hf : f_X6_wool v1 p0_land_persons p0_now_places p0_now_wool p0_now_sworn p0_now_worth p0_now_day p0_acts_length p0_land_kinds p0_acts_row = some q) : CtI l D cI cZ yX6_wool wsX6_wool 4 86 [.ref a_p0, .int v1] [(a_p0, .inr (6, [.ref a_p0_text, .ref a_p0_reader, .ref a_p0_draft, .ref a_p0_land, .ref a_p0_now, .ref a_p0_trial, .ref a_p0_acts, .ref a_p0_hearings, .ref a_p0_kept, .int p0_keptSlots, .long p0_seedNow])), (a_p0_land, .inr (1, [.ref a_p0_land_places, .ref a_p0_land_kinds, .ref a_p0_land_clapPlaces, .ref a_p0_land_louds, .ref a_p0_land_ones, .ref a_p0_land_others, .ref a_p0_land_worths, .ref a_p0_land_hangs, .int p0_land_persons, .int p0_land_skies, .int p0_land_oaths])), (a_p0_now, .inr (4, [.ref a_p0_land, .int p0_now_places, .int p0_now_wool, .int p0_now_sworn, .int p0_now_worth, .int p0_now_day])), (a_p0_acts, .inr (0, [.ref a_p0_acts_row, .int p0_acts_length])), (a_p0_land_kinds, .inl (cI, 5, .inl p0_land_kinds)), (a_p0_acts_row, .inl (cI, 70, .inl p0_acts_row))] (fun q => [(a_p0, .inr (6, [.ref a_p0_text, .ref a_p0_reader, .ref a_p0_draft, .ref a_p0_land, .ref a_p0_now, .ref a_p0_trial, .ref a_p0_acts, .ref a_p0_hearings, .ref a_p0_kept, .int p0_keptSlots, .long p0_seedNow])), (a_p0_land, .inr (1, [.ref a_p0_land_places, .ref a_p0_land_kinds, .ref a_p0_land_clapPlaces, .ref a_p0_land_louds, .ref a_p0_land_ones, .ref a_p0_land_others, .ref a_p0_land_worths, .ref a_p0_land_hangs, .int p0_land_persons, .int p0_land_skies, .int p0_land_oaths])), (a_p0_now, .inr (4, [.ref a_p0_land, .int p0_now_places, .int q.2.1, .int p0_now_sworn, .int p0_now_worth, .int p0_now_day])), (a_p0_acts, .inr (0, [.ref a_p0_acts_row, .int q.2.2.1])), (a_p0_land_kinds, .inl (cI, 5, .inl p0_land_kinds)), (a_p0_acts_row, .inl (cI, 70, .inl q.2.2.2))]) (fun q => q.1) q := by
  refine CtI.of (cc := cX6_wool) (maxL := 2) (plainFor_of_name (by decide)) rfl (Nat.le_of_ble_eq_true rfl) ?_
  intro p e s m args below meth c A Q H ls hB hE hW hl
  have hx := hB.1
  have hb := hB.2.1
  have hml := hB.2.2.2.1
  have hown : s.vm.findClass RX6 = some m.cls := hB.2.2.2.2.1
  have hts := hB.2.2.2.2.2.1
  have hK := hB.2.2.2.2.2.2.2.1.1
  have hl : lv_has ls 2 [(0, .ref a_p0), (1, .int v1)] := hl
  have in_X4 : ∀ w ∈ wsX40, w ∈ wsX6_wool := fun w h => List.mem_cons_of_mem _ (List.mem_append_left _ (List.mem_append_left _ (List.mem_append_right _ h)))
  have in_X6 : ∀ w ∈ wsX60, w ∈ wsX6_wool := fun w h => List.mem_cons_of_mem _ (List.mem_append_left _ (List.mem_append_left _ (List.mem_append_left _ (List.mem_append_right _ h))))
  have fl_32 : (Cond.fieldLink RX6 32 (TX6 3).1 (TX6 3).2.1 (TX6 3).2.2.1).before args s = true := hts (.fieldLink RX6 32 "ClapOaths" "land" "LClapOaths$County;") (by decide +kernel)
  have fl_40 : (Cond.fieldLink RX6 40 (TX6 4).1 (TX6 4).2.1 (TX6 4).2.2.1).before args s = true := hts (.fieldLink RX6 40 "ClapOaths" "now" "LClapOaths$Standing;") (by decide +kernel)
  have fl_50 : (Cond.fieldLink RX6 50 (TX6 6).1 (TX6 6).2.1 (TX6 6).2.2.1).before args s = true := hts (.fieldLink RX6 50 "ClapOaths" "acts" "LClapOaths$Acts;") (by decide +kernel)
  have fl_115 : (Cond.fieldLink RX6 115 (TX4 2).1 (TX4 2).2.1 (TX4 2).2.2.1).before args s = true := hts (.fieldLink RX6 115 "ClapOaths$Standing" "wool" "I") (by decide +kernel)
  unfold f_X6_wool at hf
  refine lv_aload_n hx hb dX6_wool_0 rfl (lv_at hl 0 rfl) ?_
  refine q_get hB hW 6 in_X6 0 rfl rfl 3 (by decide) fl_32 (v := .ref a_p0_land) rfl dX6_wool_1 ?_
  refine lv_iload_n hx hb dX6_wool_4 rfl (lv_at hl 1 rfl) ?_
  obtain ⟨r_1, hr_1, hf⟩ := bnd hf
  refine q_callVZ hB hW (ci := 1) (q0 := 0) rfl rfl rfl (As := [.int v1]) (rest := []) (ws' := [(a_p0, .inr (6, [.ref a_p0_text, .ref a_p0_reader, .ref a_p0_draft, .ref a_p0_land, .ref a_p0_now, .ref a_p0_trial, .ref a_p0_acts, .ref a_p0_hearings, .ref a_p0_kept, .int p0_keptSlots, .long p0_seedNow])), (a_p0_land, .inr (1, [.ref a_p0_land_places, .ref a_p0_land_kinds, .ref a_p0_land_clapPlaces, .ref a_p0_land_louds, .ref a_p0_land_ones, .ref a_p0_land_others, .ref a_p0_land_worths, .ref a_p0_land_hangs, .int p0_land_persons, .int p0_land_skies, .int p0_land_oaths])), (a_p0_now, .inr (4, [.ref a_p0_land, .int p0_now_places, .int p0_now_wool, .int p0_now_sworn, .int p0_now_worth, .int p0_now_day])), (a_p0_acts, .inr (0, [.ref a_p0_acts_row, .int p0_acts_length])), (a_p0_land_kinds, .inl (cI, 5, .inl p0_land_kinds)), (a_p0_acts_row, .inl (cI, 70, .inl p0_acts_row))]) (c_X1_hasPerson l D cI cZ a_p0_land a_p0_land_places a_p0_land_kinds a_p0_land_clapPlaces a_p0_land_louds a_p0_land_ones a_p0_land_others a_p0_land_worths a_p0_land_hangs p0_land_persons p0_land_skies p0_land_oaths v1 r_1 hr_1) (cwV 1 hts gX6_wool_X1_hasPerson rfl rfl rfl (by decide +kernel) ⟨Nat.le_of_ble_eq_true rfl, Nat.le_of_ble_eq_true rfl⟩) [1] rfl rfl rfl rfl rfl hl.1 rfl (Nat.le_of_ble_eq_true rfl) ⟨Nat.le_of_ble_eq_true rfl, Nat.le_of_ble_eq_true rfl⟩ dX6_wool_5 (fun hzr_1 H locs hW => ?_)
  refine lv_if_ne (tgt := 13) hx hb dX6_wool_8 (by decide) (fun c_2 => ?_) (fun c_2 => ?_)
  · have hf := it_f c_2 hf
    refine lv_aload_n hx hb dX6_wool_13 rfl (lv_at hl 0 rfl) ?_
    refine q_get hB hW 6 in_X6 0 rfl rfl 3 (by decide) fl_32 (v := .ref a_p0_land) rfl dX6_wool_14 ?_
    refine lv_iload_n hx hb dX6_wool_17 rfl (lv_at hl 1 rfl) ?_
    obtain ⟨r_3, hr_3, hf⟩ := bnd hf
    refine q_callVZ hB hW (ci := 1) (q0 := 0) rfl rfl rfl (As := [.int v1]) (rest := []) (ws' := [(a_p0, .inr (6, [.ref a_p0_text, .ref a_p0_reader, .ref a_p0_draft, .ref a_p0_land, .ref a_p0_now, .ref a_p0_trial, .ref a_p0_acts, .ref a_p0_hearings, .ref a_p0_kept, .int p0_keptSlots, .long p0_seedNow])), (a_p0_land, .inr (1, [.ref a_p0_land_places, .ref a_p0_land_kinds, .ref a_p0_land_clapPlaces, .ref a_p0_land_louds, .ref a_p0_land_ones, .ref a_p0_land_others, .ref a_p0_land_worths, .ref a_p0_land_hangs, .int p0_land_persons, .int p0_land_skies, .int p0_land_oaths])), (a_p0_now, .inr (4, [.ref a_p0_land, .int p0_now_places, .int p0_now_wool, .int p0_now_sworn, .int p0_now_worth, .int p0_now_day])), (a_p0_acts, .inr (0, [.ref a_p0_acts_row, .int p0_acts_length])), (a_p0_land_kinds, .inl (cI, 5, .inl p0_land_kinds)), (a_p0_acts_row, .inl (cI, 70, .inl p0_acts_row))]) (c_X1_canTurnWool l D cI cZ a_p0_land a_p0_land_places a_p0_land_kinds a_p0_land_clapPlaces a_p0_land_louds a_p0_land_ones a_p0_land_others a_p0_land_worths a_p0_land_hangs p0_land_persons p0_land_skies p0_land_oaths p0_land_kinds v1 r_3 hr_3) (cwV 1 hts gX6_wool_X1_canTurnWool rfl rfl rfl (by decide +kernel) ⟨Nat.le_of_ble_eq_true rfl, Nat.le_of_ble_eq_true rfl⟩) [1, 4] rfl rfl rfl rfl rfl hl.1 rfl (Nat.le_of_ble_eq_true rfl) ⟨Nat.le_of_ble_eq_true rfl, Nat.le_of_ble_eq_true rfl⟩ dX6_wool_18 (fun hzr_3 H locs hW => ?_)
    refine lv_if_ne (tgt := 27) hx hb dX6_wool_21 (by decide) (fun c_4 => ?_) (fun c_4 => ?_)
    · have hf := it_f c_4 hf
      refine lv_aload_n hx hb dX6_wool_27 rfl (lv_at hl 0 rfl) ?_
      refine q_get hB hW 6 in_X6 0 rfl rfl 6 (by decide) fl_50 (v := .ref a_p0_acts) rfl dX6_wool_28 ?_
      refine lv_aload_n hx hb dX6_wool_31 rfl (lv_at hl 0 rfl) ?_
      refine q_get hB hW 6 in_X6 0 rfl rfl 4 (by decide) fl_40 (v := .ref a_p0_now) rfl dX6_wool_32 ?_
      obtain ⟨r_5, hr_5, hf⟩ := bnd hf
      refine q_callVV hB hW (ci := 0) (q0 := 0) rfl rfl rfl (As := [.ref a_p0_now]) (rest := []) (ws' := [(a_p0, .inr (6, [.ref a_p0_text, .ref a_p0_reader, .ref a_p0_draft, .ref a_p0_land, .ref a_p0_now, .ref a_p0_trial, .ref a_p0_acts, .ref a_p0_hearings, .ref a_p0_kept, .int p0_keptSlots, .long p0_seedNow])), (a_p0_land, .inr (1, [.ref a_p0_land_places, .ref a_p0_land_kinds, .ref a_p0_land_clapPlaces, .ref a_p0_land_louds, .ref a_p0_land_ones, .ref a_p0_land_others, .ref a_p0_land_worths, .ref a_p0_land_hangs, .int p0_land_persons, .int p0_land_skies, .int p0_land_oaths])), (a_p0_now, .inr (4, [.ref a_p0_land, .int p0_now_places, .int p0_now_wool, .int p0_now_sworn, .int p0_now_worth, .int p0_now_day])), (a_p0_acts, .inr (0, [.ref a_p0_acts_row, .int r_5.1])), (a_p0_land_kinds, .inl (cI, 5, .inl p0_land_kinds)), (a_p0_acts_row, .inl (cI, 70, .inl r_5.2))]) (c_X0_push l D cI cZ a_p0_acts a_p0_now a_p0_acts_row a_p0_land p0_acts_length p0_acts_row p0_now_places p0_now_wool p0_now_sworn p0_now_worth p0_now_day r_5 hr_5) (cwV 1 hts gX6_wool_X0_push rfl rfl rfl (by decide +kernel) ⟨Nat.le_of_ble_eq_true rfl, Nat.le_of_ble_eq_true rfl⟩) [3, 5, 2] rfl rfl rfl rfl rfl hl.1 rfl (Nat.le_of_ble_eq_true rfl) ⟨Nat.le_of_ble_eq_true rfl, Nat.le_of_ble_eq_true rfl⟩ dX6_wool_35 (fun H locs hW => ?_)
      refine lv_aload_n hx hb dX6_wool_38 rfl (lv_at hl 0 rfl) ?_
      refine q_get hB hW 6 in_X6 0 rfl rfl 4 (by decide) fl_40 (v := .ref a_p0_now) rfl dX6_wool_39 ?_
      refine lv_dup hx hb dX6_wool_42 rfl ?_
      refine q_get hB hW 4 in_X4 2 rfl rfl 2 (by decide) fl_115 (v := .int p0_now_wool) rfl dX6_wool_43 ?_
      refine lv_iconst (v := 1) hx hb dX6_wool_46 (by decide) ?_
      refine lv_iload_n hx hb dX6_wool_47 rfl (lv_at hl 1 rfl) ?_
      refine lv_ishl hx hb dX6_wool_48 ?_
      refine lv_ixor hx hb dX6_wool_49 ?_
      obtain ⟨w_6, hw_6, hf⟩ := bnd hf
      refine q_nmI hw_6 ?_
      refine q_put hB hW 4 in_X4 tyX4 tyX4_ok nmX4 2 rfl rfl 2 (by decide) fl_115 rfl (by first | rfl | decide) (by first | rfl | decide) (Nat.le_of_ble_eq_true rfl) (ws' := [(a_p0, .inr (6, [.ref a_p0_text, .ref a_p0_reader, .ref a_p0_draft, .ref a_p0_land, .ref a_p0_now, .ref a_p0_trial, .ref a_p0_acts, .ref a_p0_hearings, .ref a_p0_kept, .int p0_keptSlots, .long p0_seedNow])), (a_p0_land, .inr (1, [.ref a_p0_land_places, .ref a_p0_land_kinds, .ref a_p0_land_clapPlaces, .ref a_p0_land_louds, .ref a_p0_land_ones, .ref a_p0_land_others, .ref a_p0_land_worths, .ref a_p0_land_hangs, .int p0_land_persons, .int p0_land_skies, .int p0_land_oaths])), (a_p0_now, .inr (4, [.ref a_p0_land, .int p0_now_places, .int w_6, .int p0_now_sworn, .int p0_now_worth, .int p0_now_day])), (a_p0_acts, .inr (0, [.ref a_p0_acts_row, .int r_5.1])), (a_p0_land_kinds, .inl (cI, 5, .inl p0_land_kinds)), (a_p0_acts_row, .inl (cI, 70, .inl r_5.2))]) rfl dX6_wool_50 (fun H locs hW => ?_)
      refine lv_aload_n hx hb dX6_wool_53 rfl (lv_at hl 0 rfl) ?_
      refine q_get hB hW 6 in_X6 0 rfl rfl 4 (by decide) fl_40 (v := .ref a_p0_now) rfl dX6_wool_54 ?_
      refine q_get hB hW 4 in_X4 2 rfl rfl 2 (by decide) fl_115 (v := .int w_6) rfl dX6_wool_57 ?_
      refine lv_iload_n hx hb dX6_wool_60 rfl (lv_at hl 1 rfl) ?_
      obtain ⟨r_7, hr_7, hf⟩ := bnd hf
      refine q_callSI hB hW (As := [.int w_6, .int v1]) (rest := []) (ws' := [(a_p0, .inr (6, [.ref a_p0_text, .ref a_p0_reader, .ref a_p0_draft, .ref a_p0_land, .ref a_p0_now, .ref a_p0_trial, .ref a_p0_acts, .ref a_p0_hearings, .ref a_p0_kept, .int p0_keptSlots, .long p0_seedNow])), (a_p0_land, .inr (1, [.ref a_p0_land_places, .ref a_p0_land_kinds, .ref a_p0_land_clapPlaces, .ref a_p0_land_louds, .ref a_p0_land_ones, .ref a_p0_land_others, .ref a_p0_land_worths, .ref a_p0_land_hangs, .int p0_land_persons, .int p0_land_skies, .int p0_land_oaths])), (a_p0_now, .inr (4, [.ref a_p0_land, .int p0_now_places, .int w_6, .int p0_now_sworn, .int p0_now_worth, .int p0_now_day])), (a_p0_acts, .inr (0, [.ref a_p0_acts_row, .int r_5.1])), (a_p0_land_kinds, .inl (cI, 5, .inl p0_land_kinds)), (a_p0_acts_row, .inl (cI, 70, .inl r_5.2))]) (c_X6_bit l D cI cZ w_6 v1 r_7 hr_7) (va_cwS 2 hts gX6_wool_X6_bit rfl rfl rfl (by decide +kernel) ⟨Nat.le_of_ble_eq_true rfl, Nat.le_of_ble_eq_true rfl⟩) [] rfl rfl rfl rfl rfl hl.1 rfl (Nat.le_of_ble_eq_true rfl) ⟨Nat.le_of_ble_eq_true rfl, Nat.le_of_ble_eq_true rfl⟩ dX6_wool_61 (fun H locs hW => ?_)
      exact hE _ _ _ _ _ (r_7, w_6, r_5.1, r_5.2) (sm hf) hW rfl dX6_wool_64
    · have hf := it_t c_4 hf
      refine lv_bipush (v := -3) hx hb dX6_wool_24 (by decide) ?_
      exact hE _ _ _ _ _ ((-3 : Int32), p0_now_wool, p0_acts_length, p0_acts_row) (sm hf) hW rfl dX6_wool_26
  · have hf := it_t c_2 hf
    refine lv_iconst (v := -1) hx hb dX6_wool_11 (by decide) ?_
    exact hE _ _ _ _ _ ((-1 : Int32), p0_now_wool, p0_acts_length, p0_acts_row) (sm hf) hW rfl dX6_wool_12
def f_X4_loadFrom (n_p1 : Nat) (v2 : Int32) (p0_places : Int32) (p0_wool : Int32) (p0_sworn : Int32) (p0_worth : Int32) (p0_day : Int32) (p1 : Nat → Int32) : Option (Int32 × Int32 × Int32 × Int32 × Int32) := (some (v2 * (5 : Int32))).bind fun w_1 => (f_X6_at n_p1 w_1 p1).bind fun r_2 => (f_X6_at n_p1 (w_1 + (1 : Int32)) p1).bind fun r_3 => (f_X6_at n_p1 (w_1 + (2 : Int32)) p1).bind fun r_4 => (f_X6_at n_p1 (w_1 + (3 : Int32)) p1).bind fun r_5 => (f_X6_at n_p1 (w_1 + (4 : Int32)) p1).bind fun r_6 => some (r_2, r_3, r_4, r_5, r_6)
set_option maxHeartbeats 4000000 in
set_option maxRecDepth 100000 in
theorem c_X4_loadFrom (l : Launch) (D : va_G) (cI cZ : ClassId) (a_p0 a_p1 a_p0_land : Nat) (n_p1 : Nat) (p0_places : Int32) (p0_wool : Int32) (p0_sworn : Int32) (p0_worth : Int32) (p0_day : Int32) (p1 : Nat → Int32) (v2 : Int32) (q : Int32 × Int32 × Int32 × Int32 × Int32) (hf : f_X4_loadFrom n_p1 v2 p0_places p0_wool p0_sworn p0_worth p0_day p1 = some q) : CtV l D cI cZ yX4_loadFrom wsX4_loadFrom 1 21 [.ref a_p0, .ref a_p1, .int v2] [(a_p0, .inr (4, [.ref a_p0_land, .int p0_places, .int p0_wool, .int p0_sworn, .int p0_worth, .int p0_day])), (a_p1, .inl (cI, n_p1, .inl p1))] (fun q => [(a_p0, .inr (4, [.ref a_p0_land, .int q.1, .int q.2.1, .int q.2.2.1, .int q.2.2.2.1, .int q.2.2.2.2])), (a_p1, .inl (cI, n_p1, .inl p1))]) q := by
  refine CtV.of (cc := cX4_loadFrom) (maxL := 4) (plainFor_of_name (by decide)) rfl (Nat.le_of_ble_eq_true rfl) ?_
  intro p e s m args below meth c A Q H ls hB hE hW hl
  have hx := hB.1
  have hb := hB.2.1
  have hml := hB.2.2.2.1
  have hown : s.vm.findClass RX4 = some m.cls := hB.2.2.2.2.1
  have hts := hB.2.2.2.2.2.1
  have hK := hB.2.2.2.2.2.2.2.1.1
  have hl : lv_has ls 4 [(0, .ref a_p0), (1, .ref a_p1), (2, .int v2)] := hl
  have in_X4 : ∀ w ∈ wsX40, w ∈ wsX4_loadFrom := fun w h => List.mem_cons_of_mem _ (List.mem_append_right _ h)
  have fl_15 : (Cond.fieldLink RX4 15 (TX4 1).1 (TX4 1).2.1 (TX4 1).2.2.1).before args s = true := hts (.fieldLink RX4 15 "ClapOaths$Standing" "places" "I") (by decide +kernel)
  have fl_19 : (Cond.fieldLink RX4 19 (TX4 2).1 (TX4 2).2.1 (TX4 2).2.2.1).before args s = true := hts (.fieldLink RX4 19 "ClapOaths$Standing" "wool" "I") (by decide +kernel)
  have fl_22 : (Cond.fieldLink RX4 22 (TX4 3).1 (TX4 3).2.1 (TX4 3).2.2.1).before args s = true := hts (.fieldLink RX4 22 "ClapOaths$Standing" "sworn" "I") (by decide +kernel)
  have fl_25 : (Cond.fieldLink RX4 25 (TX4 4).1 (TX4 4).2.1 (TX4 4).2.2.1).before args s = true := hts (.fieldLink RX4 25 "ClapOaths$Standing" "worth" "I") (by decide +kernel)
  have fl_28 : (Cond.fieldLink RX4 28 (TX4 5).1 (TX4 5).2.1 (TX4 5).2.2.1).before args s = true := hts (.fieldLink RX4 28 "ClapOaths$Standing" "day" "I") (by decide +kernel)
  unfold f_X4_loadFrom at hf
  refine lv_iload_n hx hb dX4_loadFrom_0 rfl (lv_at hl 2 rfl) ?_
  refine lv_iconst (v := 5) hx hb dX4_loadFrom_1 (by decide) ?_
  refine lv_imul hx hb dX4_loadFrom_2 ?_
  obtain ⟨w_1, hw_1, hf⟩ := bnd hf
  refine q_nmI hw_1 ?_
  refine lv_istore_n (lv' := [(3, .int w_1), (0, .ref a_p0), (1, .ref a_p1), (2, .int v2)]) hx hb dX4_loadFrom_3 rfl hl (by decide) rfl (fun ls hl => ?_)
  refine lv_aload_n hx hb dX4_loadFrom_4 rfl (lv_at hl 1 rfl) ?_
  refine lv_aload_n hx hb dX4_loadFrom_5 rfl (lv_at hl 2 rfl) ?_
  refine lv_iload_n hx hb dX4_loadFrom_6 rfl (lv_at hl 0 rfl) ?_
  obtain ⟨r_2, hr_2, hf⟩ := bnd hf
  refine q_callNI hB hW (As := [.ref a_p1, .int w_1]) (rest := [.ref a_p0]) (ws' := [(a_p0, .inr (4, [.ref a_p0_land, .int p0_places, .int p0_wool, .int p0_sworn, .int p0_worth, .int p0_day])), (a_p1, .inl (cI, n_p1, .inl p1))]) (c_X6_at l D cI cZ a_p1 n_p1 p1 w_1 r_2 hr_2) ⟨va_cnB 2 hts gX4_loadFrom_X6_at_n39 rfl rfl rfl (hB.2.2.2.2.2.2.2.1.2 (RX4, 39, yX6_at, RX6) (by decide +kernel)) (hts (.initialized RX6) (by decide +kernel)) (by decide +kernel) ⟨Nat.le_of_ble_eq_true rfl, Nat.le_of_ble_eq_true rfl⟩, hts (.static yX6_at) (by decide +kernel), trivial⟩ [1] rfl rfl rfl rfl rfl hl.1 rfl (Nat.le_of_ble_eq_true rfl) ⟨Nat.le_of_ble_eq_true rfl, Nat.le_of_ble_eq_true rfl⟩ dX4_loadFrom_7 (fun H locs hW => ?_)
  refine q_put hB hW 4 in_X4 tyX4 tyX4_ok nmX4 0 rfl rfl 1 (by decide) fl_15 rfl (by first | rfl | decide) (by first | rfl | decide) (Nat.le_of_ble_eq_true rfl) (ws' := [(a_p0, .inr (4, [.ref a_p0_land, .int r_2, .int p0_wool, .int p0_sworn, .int p0_worth, .int p0_day])), (a_p1, .inl (cI, n_p1, .inl p1))]) rfl dX4_loadFrom_10 (fun H locs hW => ?_)
  refine lv_aload_n hx hb dX4_loadFrom_13 rfl (lv_at hl 1 rfl) ?_
  refine lv_aload_n hx hb dX4_loadFrom_14 rfl (lv_at hl 2 rfl) ?_
  refine lv_iload_n hx hb dX4_loadFrom_15 rfl (lv_at hl 0 rfl) ?_
  refine lv_iconst (v := 1) hx hb dX4_loadFrom_16 (by decide) ?_
  refine lv_iadd hx hb dX4_loadFrom_17 ?_
  obtain ⟨r_3, hr_3, hf⟩ := bnd hf
  refine q_callNI hB hW (As := [.ref a_p1, .int (w_1 + (1 : Int32))]) (rest := [.ref a_p0]) (ws' := [(a_p0, .inr (4, [.ref a_p0_land, .int r_2, .int p0_wool, .int p0_sworn, .int p0_worth, .int p0_day])), (a_p1, .inl (cI, n_p1, .inl p1))]) (c_X6_at l D cI cZ a_p1 n_p1 p1 (w_1 + (1 : Int32)) r_3 hr_3) ⟨va_cnB 2 hts gX4_loadFrom_X6_at_n39 rfl rfl rfl (hB.2.2.2.2.2.2.2.1.2 (RX4, 39, yX6_at, RX6) (by decide +kernel)) (hts (.initialized RX6) (by decide +kernel)) (by decide +kernel) ⟨Nat.le_of_ble_eq_true rfl, Nat.le_of_ble_eq_true rfl⟩, hts (.static yX6_at) (by decide +kernel), trivial⟩ [1] rfl rfl rfl rfl rfl hl.1 rfl (Nat.le_of_ble_eq_true rfl) ⟨Nat.le_of_ble_eq_true rfl, Nat.le_of_ble_eq_true rfl⟩ dX4_loadFrom_18 (fun H locs hW => ?_)
  refine q_put hB hW 4 in_X4 tyX4 tyX4_ok nmX4 0 rfl rfl 2 (by decide) fl_19 rfl (by first | rfl | decide) (by first | rfl | decide) (Nat.le_of_ble_eq_true rfl) (ws' := [(a_p0, .inr (4, [.ref a_p0_land, .int r_2, .int r_3, .int p0_sworn, .int p0_worth, .int p0_day])), (a_p1, .inl (cI, n_p1, .inl p1))]) rfl dX4_loadFrom_21 (fun H locs hW => ?_)
  refine lv_aload_n hx hb dX4_loadFrom_24 rfl (lv_at hl 1 rfl) ?_
  refine lv_aload_n hx hb dX4_loadFrom_25 rfl (lv_at hl 2 rfl) ?_
  refine lv_iload_n hx hb dX4_loadFrom_26 rfl (lv_at hl 0 rfl) ?_
  refine lv_iconst (v := 2) hx hb dX4_loadFrom_27 (by decide) ?_
  refine lv_iadd hx hb dX4_loadFrom_28 ?_
  obtain ⟨r_4, hr_4, hf⟩ := bnd hf
  refine q_callNI hB hW (As := [.ref a_p1, .int (w_1 + (2 : Int32))]) (rest := [.ref a_p0]) (ws' := [(a_p0, .inr (4, [.ref a_p0_land, .int r_2, .int r_3, .int p0_sworn, .int p0_worth, .int p0_day])), (a_p1, .inl (cI, n_p1, .inl p1))]) (c_X6_at l D cI cZ a_p1 n_p1 p1 (w_1 + (2 : Int32)) r_4 hr_4) ⟨va_cnB 2 hts gX4_loadFrom_X6_at_n39 rfl rfl rfl (hB.2.2.2.2.2.2.2.1.2 (RX4, 39, yX6_at, RX6) (by decide +kernel)) (hts (.initialized RX6) (by decide +kernel)) (by decide +kernel) ⟨Nat.le_of_ble_eq_true rfl, Nat.le_of_ble_eq_true rfl⟩, hts (.static yX6_at) (by decide +kernel), trivial⟩ [1] rfl rfl rfl rfl rfl hl.1 rfl (Nat.le_of_ble_eq_true rfl) ⟨Nat.le_of_ble_eq_true rfl, Nat.le_of_ble_eq_true rfl⟩ dX4_loadFrom_29 (fun H locs hW => ?_)
  refine q_put hB hW 4 in_X4 tyX4 tyX4_ok nmX4 0 rfl rfl 3 (by decide) fl_22 rfl (by first | rfl | decide) (by first | rfl | decide) (Nat.le_of_ble_eq_true rfl) (ws' := [(a_p0, .inr (4, [.ref a_p0_land, .int r_2, .int r_3, .int r_4, .int p0_worth, .int p0_day])), (a_p1, .inl (cI, n_p1, .inl p1))]) rfl dX4_loadFrom_32 (fun H locs hW => ?_)
  refine lv_aload_n hx hb dX4_loadFrom_35 rfl (lv_at hl 1 rfl) ?_
  refine lv_aload_n hx hb dX4_loadFrom_36 rfl (lv_at hl 2 rfl) ?_
  refine lv_iload_n hx hb dX4_loadFrom_37 rfl (lv_at hl 0 rfl) ?_
  refine lv_iconst (v := 3) hx hb dX4_loadFrom_38 (by decide) ?_
  refine lv_iadd hx hb dX4_loadFrom_39 ?_
  obtain ⟨r_5, hr_5, hf⟩ := bnd hf
  refine q_callNI hB hW (As := [.ref a_p1, .int (w_1 + (3 : Int32))]) (rest := [.ref a_p0]) (ws' := [(a_p0, .inr (4, [.ref a_p0_land, .int r_2, .int r_3, .int r_4, .int p0_worth, .int p0_day])), (a_p1, .inl (cI, n_p1, .inl p1))]) (c_X6_at l D cI cZ a_p1 n_p1 p1 (w_1 + (3 : Int32)) r_5 hr_5) ⟨va_cnB 2 hts gX4_loadFrom_X6_at_n39 rfl rfl rfl (hB.2.2.2.2.2.2.2.1.2 (RX4, 39, yX6_at, RX6) (by decide +kernel)) (hts (.initialized RX6) (by decide +kernel)) (by decide +kernel) ⟨Nat.le_of_ble_eq_true rfl, Nat.le_of_ble_eq_true rfl⟩, hts (.static yX6_at) (by decide +kernel), trivial⟩ [1] rfl rfl rfl rfl rfl hl.1 rfl (Nat.le_of_ble_eq_true rfl) ⟨Nat.le_of_ble_eq_true rfl, Nat.le_of_ble_eq_true rfl⟩ dX4_loadFrom_40 (fun H locs hW => ?_)
  refine q_put hB hW 4 in_X4 tyX4 tyX4_ok nmX4 0 rfl rfl 4 (by decide) fl_25 rfl (by first | rfl | decide) (by first | rfl | decide) (Nat.le_of_ble_eq_true rfl) (ws' := [(a_p0, .inr (4, [.ref a_p0_land, .int r_2, .int r_3, .int r_4, .int r_5, .int p0_day])), (a_p1, .inl (cI, n_p1, .inl p1))]) rfl dX4_loadFrom_43 (fun H locs hW => ?_)
  refine lv_aload_n hx hb dX4_loadFrom_46 rfl (lv_at hl 1 rfl) ?_
  refine lv_aload_n hx hb dX4_loadFrom_47 rfl (lv_at hl 2 rfl) ?_
  refine lv_iload_n hx hb dX4_loadFrom_48 rfl (lv_at hl 0 rfl) ?_
  refine lv_iconst (v := 4) hx hb dX4_loadFrom_49 (by decide) ?_
  refine lv_iadd hx hb dX4_loadFrom_50 ?_
  obtain ⟨r_6, hr_6, hf⟩ := bnd hf
  refine q_callNI hB hW (As := [.ref a_p1, .int (w_1 + (4 : Int32))]) (rest := [.ref a_p0]) (ws' := [(a_p0, .inr (4, [.ref a_p0_land, .int r_2, .int r_3, .int r_4, .int r_5, .int p0_day])), (a_p1, .inl (cI, n_p1, .inl p1))]) (c_X6_at l D cI cZ a_p1 n_p1 p1 (w_1 + (4 : Int32)) r_6 hr_6) ⟨va_cnB 2 hts gX4_loadFrom_X6_at_n39 rfl rfl rfl (hB.2.2.2.2.2.2.2.1.2 (RX4, 39, yX6_at, RX6) (by decide +kernel)) (hts (.initialized RX6) (by decide +kernel)) (by decide +kernel) ⟨Nat.le_of_ble_eq_true rfl, Nat.le_of_ble_eq_true rfl⟩, hts (.static yX6_at) (by decide +kernel), trivial⟩ [1] rfl rfl rfl rfl rfl hl.1 rfl (Nat.le_of_ble_eq_true rfl) ⟨Nat.le_of_ble_eq_true rfl, Nat.le_of_ble_eq_true rfl⟩ dX4_loadFrom_51 (fun H locs hW => ?_)
  refine q_put hB hW 4 in_X4 tyX4 tyX4_ok nmX4 0 rfl rfl 5 (by decide) fl_28 rfl (by first | rfl | decide) (by first | rfl | decide) (Nat.le_of_ble_eq_true rfl) (ws' := [(a_p0, .inr (4, [.ref a_p0_land, .int r_2, .int r_3, .int r_4, .int r_5, .int r_6])), (a_p1, .inl (cI, n_p1, .inl p1))]) rfl dX4_loadFrom_54 (fun H locs hW => ?_)
  exact hE _ _ _ _ (r_2, r_3, r_4, r_5, r_6) (sm hf) hW dX4_loadFrom_57
def f_X0_pop (p0_length : Int32) (p0_row : Nat → Int32) (p1_places : Int32) (p1_wool : Int32) (p1_sworn : Int32) (p1_worth : Int32) (p1_day : Int32) : Option (Int32 × Int32 × Int32 × Int32 × Int32 × Int32 × Int32) := if p0_length ≤ (0 : Int32) then some (p0_length, p0_length, p1_places, p1_wool, p1_sworn, p1_worth, p1_day) else (some (p0_length - (1 : Int32))).bind fun w_2 => (f_X4_loadFrom 70 w_2 p1_places p1_wool p1_sworn p1_worth p1_day p0_row).bind fun r_3 => some (w_2, w_2, r_3.1, r_3.2.1, r_3.2.2.1, r_3.2.2.2.1, r_3.2.2.2.2)
set_option maxHeartbeats 4000000 in
set_option maxRecDepth 100000 in
theorem c_X0_pop (l : Launch) (D : va_G) (cI cZ : ClassId) (a_p0 a_p1 a_p0_row a_p1_land : Nat) (p0_length : Int32) (p0_row : Nat → Int32) (p1_places : Int32) (p1_wool : Int32) (p1_sworn : Int32) (p1_worth : Int32) (p1_day : Int32) (q : Int32 × Int32 × Int32 × Int32 × Int32 × Int32 × Int32) (hf : f_X0_pop p0_length p0_row p1_places p1_wool p1_sworn p1_worth p1_day = some q) : CtI l D cI cZ yX0_pop wsX0_pop 2 44 [.ref a_p0, .ref a_p1] [(a_p0, .inr (0, [.ref a_p0_row, .int p0_length])), (a_p0_row, .inl (cI, 70, .inl p0_row)), (a_p1, .inr (4, [.ref a_p1_land, .int p1_places, .int p1_wool, .int p1_sworn, .int p1_worth, .int p1_day]))] (fun q => [(a_p0, .inr (0, [.ref a_p0_row, .int q.2.1])), (a_p0_row, .inl (cI, 70, .inl p0_row)), (a_p1, .inr (4, [.ref a_p1_land, .int q.2.2.1, .int q.2.2.2.1, .int q.2.2.2.2.1, .int q.2.2.2.2.2.1, .int q.2.2.2.2.2.2]))]) (fun q => q.1) q := by
  refine CtI.of (cc := cX0_pop) (maxL := 2) (plainFor_of_name (by decide)) rfl (Nat.le_of_ble_eq_true rfl) ?_
  intro p e s m args below meth c A Q H ls hB hE hW hl
  have hx := hB.1
  have hb := hB.2.1
  have hml := hB.2.2.2.1
  have hown : s.vm.findClass RX0 = some m.cls := hB.2.2.2.2.1
  have hts := hB.2.2.2.2.2.1
  have hK := hB.2.2.2.2.2.2.2.1.1
  have hl : lv_has ls 2 [(0, .ref a_p0), (1, .ref a_p1)] := hl
  have in_X0 : ∀ w ∈ wsX00, w ∈ wsX0_pop := fun w h => List.mem_cons_of_mem _ (List.mem_append_left _ (List.mem_append_right _ h))
  have fl_11 : (Cond.fieldLink RX0 11 (TX0 0).1 (TX0 0).2.1 (TX0 0).2.2.1).before args s = true := hts (.fieldLink RX0 11 "ClapOaths$Acts" "row" "[I") (by decide +kernel)
  have fl_17 : (Cond.fieldLink RX0 17 (TX0 1).1 (TX0 1).2.1 (TX0 1).2.2.1).before args s = true := hts (.fieldLink RX0 17 "ClapOaths$Acts" "length" "I") (by decide +kernel)
  unfold f_X0_pop at hf
  refine lv_aload_n hx hb dX0_pop_0 rfl (lv_at hl 0 rfl) ?_
  refine q_get hB hW 0 in_X0 0 rfl rfl 1 (by decide) fl_17 (v := .int p0_length) rfl dX0_pop_1 ?_
  refine lv_if_le (tgt := 29) hx hb dX0_pop_4 (by decide) (fun c_1 => ?_) (fun c_1 => ?_)
  · have hf := it_t c_1 hf
    refine lv_aload_n hx hb dX0_pop_29 rfl (lv_at hl 0 rfl) ?_
    refine q_get hB hW 0 in_X0 0 rfl rfl 1 (by decide) fl_17 (v := .int p0_length) rfl dX0_pop_30 ?_
    exact hE _ _ _ _ _ (p0_length, p0_length, p1_places, p1_wool, p1_sworn, p1_worth, p1_day) (sm hf) hW rfl dX0_pop_33
  · have hf := it_f c_1 hf
    refine lv_aload_n hx hb dX0_pop_7 rfl (lv_at hl 0 rfl) ?_
    refine lv_dup hx hb dX0_pop_8 rfl ?_
    refine q_get hB hW 0 in_X0 0 rfl rfl 1 (by decide) fl_17 (v := .int p0_length) rfl dX0_pop_9 ?_
    refine lv_iconst (v := 1) hx hb dX0_pop_12 (by decide) ?_
    refine lv_isub hx hb dX0_pop_13 ?_
    obtain ⟨w_2, hw_2, hf⟩ := bnd hf
    refine q_nmI hw_2 ?_
    refine q_put hB hW 0 in_X0 tyX0 tyX0_ok nmX0 0 rfl rfl 1 (by decide) fl_17 rfl (by first | rfl | decide) (by first | rfl | decide) (Nat.le_of_ble_eq_true rfl) (ws' := [(a_p0, .inr (0, [.ref a_p0_row, .int w_2])), (a_p0_row, .inl (cI, 70, .inl p0_row)), (a_p1, .inr (4, [.ref a_p1_land, .int p1_places, .int p1_wool, .int p1_sworn, .int p1_worth, .int p1_day]))]) rfl dX0_pop_14 (fun H locs hW => ?_)
    refine lv_aload_n hx hb dX0_pop_17 rfl (lv_at hl 1 rfl) ?_
    refine lv_aload_n hx hb dX0_pop_18 rfl (lv_at hl 0 rfl) ?_
    refine q_get hB hW 0 in_X0 0 rfl rfl 0 (by decide) fl_11 (v := .ref a_p0_row) rfl dX0_pop_19 ?_
    refine lv_aload_n hx hb dX0_pop_22 rfl (lv_at hl 0 rfl) ?_
    refine q_get hB hW 0 in_X0 0 rfl rfl 1 (by decide) fl_17 (v := .int w_2) rfl dX0_pop_23 ?_
    obtain ⟨r_3, hr_3, hf⟩ := bnd hf
    refine q_callVV hB hW (ci := 4) (q0 := 0) rfl rfl rfl (As := [.ref a_p0_row, .int w_2]) (rest := []) (ws' := [(a_p0, .inr (0, [.ref a_p0_row, .int w_2])), (a_p0_row, .inl (cI, 70, .inl p0_row)), (a_p1, .inr (4, [.ref a_p1_land, .int r_3.1, .int r_3.2.1, .int r_3.2.2.1, .int r_3.2.2.2.1, .int r_3.2.2.2.2]))]) (c_X4_loadFrom l D cI cZ a_p1 a_p0_row a_p1_land 70 p1_places p1_wool p1_sworn p1_worth p1_day p0_row w_2 r_3 hr_3) (cwV 2 hts gX0_pop_X4_loadFrom rfl rfl rfl (by decide +kernel) ⟨Nat.le_of_ble_eq_true rfl, Nat.le_of_ble_eq_true rfl⟩) [2, 1] rfl rfl rfl rfl rfl hl.1 rfl (Nat.le_of_ble_eq_true rfl) ⟨Nat.le_of_ble_eq_true rfl, Nat.le_of_ble_eq_true rfl⟩ dX0_pop_26 (fun H locs hW => ?_)
    refine lv_aload_n hx hb dX0_pop_29 rfl (lv_at hl 0 rfl) ?_
    refine q_get hB hW 0 in_X0 0 rfl rfl 1 (by decide) fl_17 (v := .int w_2) rfl dX0_pop_30 ?_
    exact hE _ _ _ _ _ (w_2, w_2, r_3.1, r_3.2.1, r_3.2.2.1, r_3.2.2.2.1, r_3.2.2.2.2) (sm hf) hW rfl dX0_pop_33
def f_X6_undo (p0_now_places : Int32) (p0_now_wool : Int32) (p0_now_sworn : Int32) (p0_now_worth : Int32) (p0_now_day : Int32) (p0_acts_length : Int32) (p0_acts_row : Nat → Int32) : Option (Int32 × Int32 × Int32 × Int32 × Int32 × Int32 × Int32) := if p0_acts_length = (0 : Int32) then some ((-3 : Int32), p0_now_places, p0_now_wool, p0_now_sworn, p0_now_worth, p0_now_day, p0_acts_length) else (f_X0_pop p0_acts_length p0_acts_row p0_now_places p0_now_wool p0_now_sworn p0_now_worth p0_now_day).bind fun r_2 => some (r_2.1, r_2.2.2.1, r_2.2.2.2.1, r_2.2.2.2.2.1, r_2.2.2.2.2.2.1, r_2.2.2.2.2.2.2, r_2.2.1)
set_option maxHeartbeats 4000000 in
set_option maxRecDepth 100000 in
theorem c_X6_undo (l : Launch) (D : va_G) (cI cZ : ClassId) (a_p0 a_p0_text a_p0_reader a_p0_draft a_p0_land a_p0_now a_p0_trial a_p0_acts a_p0_hearings a_p0_kept a_p0_acts_row : Nat) (p0_keptSlots : Int32) (p0_seedNow : Int64) (p0_now_places : Int32) (p0_now_wool : Int32) (p0_now_sworn : Int32) (p0_now_worth : Int32) (p0_now_day : Int32) (p0_acts_length : Int32) (p0_acts_row : Nat → Int32) (q : Int32 × Int32 × Int32 × Int32 × Int32 × Int32 × Int32) (hf : f_X6_undo p0_now_places p0_now_wool p0_now_sworn p0_now_worth p0_now_day p0_acts_length p0_acts_row = some q) : CtI l D cI cZ yX6_undo wsX6_undo 3 65 [.ref a_p0] [(a_p0, .inr (6, [.ref a_p0_text, .ref a_p0_reader, .ref a_p0_draft, .ref a_p0_land, .ref a_p0_now, .ref a_p0_trial, .ref a_p0_acts, .ref a_p0_hearings, .ref a_p0_kept, .int p0_keptSlots, .long p0_seedNow])), (a_p0_now, .inr (4, [.ref a_p0_land, .int p0_now_places, .int p0_now_wool, .int p0_now_sworn, .int p0_now_worth, .int p0_now_day])), (a_p0_acts, .inr (0, [.ref a_p0_acts_row, .int p0_acts_length])), (a_p0_acts_row, .inl (cI, 70, .inl p0_acts_row))] (fun q => [(a_p0, .inr (6, [.ref a_p0_text, .ref a_p0_reader, .ref a_p0_draft, .ref a_p0_land, .ref a_p0_now, .ref a_p0_trial, .ref a_p0_acts, .ref a_p0_hearings, .ref a_p0_kept, .int p0_keptSlots, .long p0_seedNow])), (a_p0_now, .inr (4, [.ref a_p0_land, .int q.2.1, .int q.2.2.1, .int q.2.2.2.1, .int q.2.2.2.2.1, .int q.2.2.2.2.2.1])), (a_p0_acts, .inr (0, [.ref a_p0_acts_row, .int q.2.2.2.2.2.2])), (a_p0_acts_row, .inl (cI, 70, .inl p0_acts_row))]) (fun q => q.1) q := by
  refine CtI.of (cc := cX6_undo) (maxL := 1) (plainFor_of_name (by decide)) rfl (Nat.le_of_ble_eq_true rfl) ?_
  intro p e s m args below meth c A Q H ls hB hE hW hl
  have hx := hB.1
  have hb := hB.2.1
  have hml := hB.2.2.2.1
  have hown : s.vm.findClass RX6 = some m.cls := hB.2.2.2.2.1
  have hts := hB.2.2.2.2.2.1
  have hK := hB.2.2.2.2.2.2.2.1.1
  have hl : lv_has ls 1 [(0, .ref a_p0)] := hl
  have in_X0 : ∀ w ∈ wsX00, w ∈ wsX6_undo := fun w h => List.mem_cons_of_mem _ (List.mem_append_left _ (List.mem_append_right _ h))
  have in_X6 : ∀ w ∈ wsX60, w ∈ wsX6_undo := fun w h => List.mem_cons_of_mem _ (List.mem_append_left _ (List.mem_append_left _ (List.mem_append_right _ h)))
  have fl_40 : (Cond.fieldLink RX6 40 (TX6 4).1 (TX6 4).2.1 (TX6 4).2.2.1).before args s = true := hts (.fieldLink RX6 40 "ClapOaths" "now" "LClapOaths$Standing;") (by decide +kernel)
  have fl_50 : (Cond.fieldLink RX6 50 (TX6 6).1 (TX6 6).2.1 (TX6 6).2.2.1).before args s = true := hts (.fieldLink RX6 50 "ClapOaths" "acts" "LClapOaths$Acts;") (by decide +kernel)
  have fl_91 : (Cond.fieldLink RX6 91 (TX0 1).1 (TX0 1).2.1 (TX0 1).2.2.1).before args s = true := hts (.fieldLink RX6 91 "ClapOaths$Acts" "length" "I") (by decide +kernel)
  unfold f_X6_undo at hf
  refine lv_aload_n hx hb dX6_undo_0 rfl (lv_at hl 0 rfl) ?_
  refine q_get hB hW 6 in_X6 0 rfl rfl 6 (by decide) fl_50 (v := .ref a_p0_acts) rfl dX6_undo_1 ?_
  refine q_get hB hW 0 in_X0 2 rfl rfl 1 (by decide) fl_91 (v := .int p0_acts_length) rfl dX6_undo_4 ?_
  refine lv_if_ne (tgt := 13) hx hb dX6_undo_7 (by decide) (fun c_1 => ?_) (fun c_1 => ?_)
  · have hf := it_f c_1 hf
    refine lv_aload_n hx hb dX6_undo_13 rfl (lv_at hl 0 rfl) ?_
    refine q_get hB hW 6 in_X6 0 rfl rfl 6 (by decide) fl_50 (v := .ref a_p0_acts) rfl dX6_undo_14 ?_
    refine lv_aload_n hx hb dX6_undo_17 rfl (lv_at hl 0 rfl) ?_
    refine q_get hB hW 6 in_X6 0 rfl rfl 4 (by decide) fl_40 (v := .ref a_p0_now) rfl dX6_undo_18 ?_
    obtain ⟨r_2, hr_2, hf⟩ := bnd hf
    refine q_callVI hB hW (ci := 0) (q0 := 0) rfl rfl rfl (As := [.ref a_p0_now]) (rest := []) (ws' := [(a_p0, .inr (6, [.ref a_p0_text, .ref a_p0_reader, .ref a_p0_draft, .ref a_p0_land, .ref a_p0_now, .ref a_p0_trial, .ref a_p0_acts, .ref a_p0_hearings, .ref a_p0_kept, .int p0_keptSlots, .long p0_seedNow])), (a_p0_now, .inr (4, [.ref a_p0_land, .int r_2.2.2.1, .int r_2.2.2.2.1, .int r_2.2.2.2.2.1, .int r_2.2.2.2.2.2.1, .int r_2.2.2.2.2.2.2])), (a_p0_acts, .inr (0, [.ref a_p0_acts_row, .int r_2.2.1])), (a_p0_acts_row, .inl (cI, 70, .inl p0_acts_row))]) (c_X0_pop l D cI cZ a_p0_acts a_p0_now a_p0_acts_row a_p0_land p0_acts_length p0_acts_row p0_now_places p0_now_wool p0_now_sworn p0_now_worth p0_now_day r_2 hr_2) (cwV 1 hts gX6_undo_X0_pop rfl rfl rfl (by decide +kernel) ⟨Nat.le_of_ble_eq_true rfl, Nat.le_of_ble_eq_true rfl⟩) [2, 3, 1] rfl rfl rfl rfl rfl hl.1 rfl (Nat.le_of_ble_eq_true rfl) ⟨Nat.le_of_ble_eq_true rfl, Nat.le_of_ble_eq_true rfl⟩ dX6_undo_21 (fun H locs hW => ?_)
    exact hE _ _ _ _ _ (r_2.1, r_2.2.2.1, r_2.2.2.2.1, r_2.2.2.2.2.1, r_2.2.2.2.2.2.1, r_2.2.2.2.2.2.2, r_2.2.1) (sm hf) hW rfl dX6_undo_24
  · have hf := it_t c_1 hf
    refine lv_bipush (v := -3) hx hb dX6_undo_10 (by decide) ?_
    exact hE _ _ _ _ _ ((-3 : Int32), p0_now_places, p0_now_wool, p0_now_sworn, p0_now_worth, p0_now_day, p0_acts_length) (sm hf) hW rfl dX6_undo_12
