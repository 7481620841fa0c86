def b_X7_oathsOf_4 (v1 : Int32) (p0_oaths : Int32) (p0_one : Nat → Int32) (p0_other : Nat → Int32) (v2 : Int32) (v3 : Int32) : Option ((Int32 × Int32) ⊕ (Int32)) := if p0_oaths ≤ v3 then some (.inr v2) else (ald p0_one 5 v3).bind fun r_506 => if r_506 = v1 then (some (v2 ||| ((1 : Int32) <<< (v3 &&& 31)))).bind fun w_508 => some (.inl (w_508, (v3 + (1 : Int32)))) else (ald p0_other 5 v3).bind fun r_509 => if r_509 = v1 then (some (v2 ||| ((1 : Int32) <<< (v3 &&& 31)))).bind fun w_512 => some (.inl (w_512, (v3 + (1 : Int32)))) else (some (v2 ||| (0 : Int32))).bind fun w_511 => some (.inl (w_511, (v3 + (1 : Int32))))
def f_X7_oathsOf (v1 : Int32) (p0_oaths : Int32) (p0_one : Nat → Int32) (p0_other : Nat → Int32) : Option (Int32) := (itr (fun s => b_X7_oathsOf_4 v1 p0_oaths p0_one p0_other s.1 s.2) FU ((0 : Int32), (0 : Int32))).bind fun x_4 => some x_4
set_option maxHeartbeats 4000000 in
set_option maxRecDepth 100000 in
theorem c_X7_oathsOf (l : Launch) (D : va_G) (cI cZ : ClassId) (a_p0 a_p0_kind a_p0_skyAt a_p0_skyLoud a_p0_one a_p0_other a_p0_worth a_p0_hangs a_p0_now a_p0_readPerson a_p0_readSky a_p0_readOath a_p0_text a_p0_row a_p0_toldAt a_p0_toldWool a_p0_toldHeard a_p0_isKept a_p0_kept : Nat) (p0_persons : Int32) (p0_skies : Int32) (p0_oaths : Int32) (p0_readPersons : Int32) (p0_readSkies : Int32) (p0_readOaths : Int32) (p0_length : Int32) (p0_at : Int32) (p0_faultAt : Int32) (p0_acts : Int32) (p0_next : Int32) (p0_told : Int32) (p0_seed : Int64) (p0_one : Nat → Int32) (p0_other : Nat → Int32) (v1 : Int32) (q : Int32) (hf : f_X7_oathsOf v1 p0_oaths p0_one p0_other = some q) : CtI l D cI cZ yX7_oathsOf wsX7_oathsOf 0 0 [.ref a_p0, .int v1] [(a_p0, .inr (7, [.int p0_persons, .int p0_skies, .int p0_oaths, .ref a_p0_kind, .ref a_p0_skyAt, .ref a_p0_skyLoud, .ref a_p0_one, .ref a_p0_other, .ref a_p0_worth, .ref a_p0_hangs, .ref a_p0_now, .ref a_p0_readPerson, .ref a_p0_readSky, .ref a_p0_readOath, .int p0_readPersons, .int p0_readSkies, .int p0_readOaths, .ref a_p0_text, .int p0_length, .int p0_at, .int p0_faultAt, .int p0_acts, .int p0_next, .ref a_p0_row, .int p0_told, .ref a_p0_toldAt, .ref a_p0_toldWool, .ref a_p0_toldHeard, .long p0_seed, .ref a_p0_isKept, .ref a_p0_kept])), (a_p0_one, .inl (cI, 5, .inl p0_one)), (a_p0_other, .inl (cI, 5, .inl p0_other))] (fun q => [(a_p0, .inr (7, [.int p0_persons, .int p0_skies, .int p0_oaths, .ref a_p0_kind, .ref a_p0_skyAt, .ref a_p0_skyLoud, .ref a_p0_one, .ref a_p0_other, .ref a_p0_worth, .ref a_p0_hangs, .ref a_p0_now, .ref a_p0_readPerson, .ref a_p0_readSky, .ref a_p0_readOath, .int p0_readPersons, .int p0_readSkies, .int p0_readOaths, .ref a_p0_text, .int p0_length, .int p0_at, .int p0_faultAt, .int p0_acts, .int p0_next, .ref a_p0_row, .int p0_told, .ref a_p0_toldAt, .ref a_p0_toldWool, .ref a_p0_toldHeard, .long p0_seed, .ref a_p0_isKept, .ref a_p0_kept])), (a_p0_one, .inl (cI, 5, .inl p0_one)), (a_p0_other, .inl (cI, 5, .inl p0_other))]) (fun q => q) q := by
  refine CtI.of (cc := cX7_oathsOf) (maxL := 4) (plainFor_of_name (by decide)) rfl (Nat.le_of_ble_eq_true rfl) ?_
  intro p e s m args below meth c A Q H ls hB hE hW hl
  have hx := hB.1
  have hb := hB.2.1
  have hml := hB.2.2.2.1
  have hown : s.vm.findClass RX7 = some m.cls := hB.2.2.2.2.1
  have hts := hB.2.2.2.2.2.1
  have hK := hB.2.2.2.2.2.2.2.1.1
  have hl : lv_has ls 4 [(0, .ref a_p0), (1, .int v1)] := hl
  have in_X7 : ∀ w ∈ wsX70, w ∈ wsX7_oathsOf := fun w h => List.mem_cons_of_mem _ (List.mem_append_right _ h)
  have fl_19 : (Cond.fieldLink RX7 19 (TX7 6).1 (TX7 6).2.1 (TX7 6).2.2.1).before args s = true := hts (.fieldLink RX7 19 "ClapOathsModel" "one" "[I") (by decide +kernel)
  have fl_22 : (Cond.fieldLink RX7 22 (TX7 7).1 (TX7 7).2.1 (TX7 7).2.2.1).before args s = true := hts (.fieldLink RX7 22 "ClapOathsModel" "other" "[I") (by decide +kernel)
  have fl_111 : (Cond.fieldLink RX7 111 (TX7 2).1 (TX7 2).2.1 (TX7 2).2.2.1).before args s = true := hts (.fieldLink RX7 111 "ClapOathsModel" "oaths" "I") (by decide +kernel)
  unfold f_X7_oathsOf at hf
  refine lv_iconst (v := 0) hx hb dX7_oathsOf_0 (by decide) ?_
  refine lv_istore_n (lv' := [(2, .int (0 : Int32)), (0, .ref a_p0), (1, .int v1)]) hx hb dX7_oathsOf_1 rfl hl (by decide) rfl (fun ls hl => ?_)
  refine lv_iconst (v := 0) hx hb dX7_oathsOf_2 (by decide) ?_
  refine lv_istore_n (lv' := [(3, .int (0 : Int32)), (2, .int (0 : Int32)), (0, .ref a_p0), (1, .int v1)]) hx hb dX7_oathsOf_3 rfl hl (by decide) rfl (fun ls hl => ?_)
  obtain ⟨e_4, hl_4, hk_4⟩ := bnd hf
  have K_4 : ∀ x_4 : Int32, x_4 = e_4 → ∀ (H : Heap) (locs : List Loc) (ls : Array Slot), Wl D A s.heap [(a_p0, .inr (7, [.int p0_persons, .int p0_skies, .int p0_oaths, .ref a_p0_kind, .ref a_p0_skyAt, .ref a_p0_skyLoud, .ref a_p0_one, .ref a_p0_other, .ref a_p0_worth, .ref a_p0_hangs, .ref a_p0_now, .ref a_p0_readPerson, .ref a_p0_readSky, .ref a_p0_readOath, .int p0_readPersons, .int p0_readSkies, .int p0_readOaths, .ref a_p0_text, .int p0_length, .int p0_at, .int p0_faultAt, .int p0_acts, .int p0_next, .ref a_p0_row, .int p0_told, .ref a_p0_toldAt, .ref a_p0_toldWool, .ref a_p0_toldHeard, .long p0_seed, .ref a_p0_isKept, .ref a_p0_kept])), (a_p0_one, .inl (cI, 5, .inl p0_one)), (a_p0_other, .inl (cI, 5, .inl p0_other))] H locs → lv_has ls 4 [(2, .int x_4)] → W p l e (Rm 0 0) s m args below meth c H locs 0 0 Q (F0 m 48 ls []) := by
    intro x_4 hx_4 H locs ls hW hl
    have hf := hk_4
    rw [← hx_4] at hf
    refine lv_iload_n hx hb dX7_oathsOf_48 rfl (lv_at hl 0 rfl) ?_
    exact hE _ _ _ _ _ x_4 (sm hf) hW rfl dX7_oathsOf_49
  have L_4 : ∀ (n : Nat) (y4_2 : Int32) (y4_3 : Int32) (H : Heap) (locs : List Loc) (ls : Array Slot), itr (fun s => b_X7_oathsOf_4 v1 p0_oaths p0_one p0_other s.1 s.2) n (y4_2, y4_3) = some e_4 → Wl D A s.heap [(a_p0, .inr (7, [.int p0_persons, .int p0_skies, .int p0_oaths, .ref a_p0_kind, .ref a_p0_skyAt, .ref a_p0_skyLoud, .ref a_p0_one, .ref a_p0_other, .ref a_p0_worth, .ref a_p0_hangs, .ref a_p0_now, .ref a_p0_readPerson, .ref a_p0_readSky, .ref a_p0_readOath, .int p0_readPersons, .int p0_readSkies, .int p0_readOaths, .ref a_p0_text, .int p0_length, .int p0_at, .int p0_faultAt, .int p0_acts, .int p0_next, .ref a_p0_row, .int p0_told, .ref a_p0_toldAt, .ref a_p0_toldWool, .ref a_p0_toldHeard, .long p0_seed, .ref a_p0_isKept, .ref a_p0_kept])), (a_p0_one, .inl (cI, 5, .inl p0_one)), (a_p0_other, .inl (cI, 5, .inl p0_other))] H locs → lv_has ls 4 [(0, .ref a_p0), (1, .int v1), (2, .int y4_2), (3, .int y4_3)] → W p l e (Rm 0 0) s m args below meth c H locs 0 0 Q (F0 m 4 ls []) := by
    intro n
    induction n with
    | zero => intro y4_2 y4_3 H locs ls h9; exact itr_0 h9
    | succ n ih =>
      intro y4_2 y4_3 H locs ls hf hW hl
      obtain ⟨o_4, hf, ho_4⟩ := itr_inv hf
      have hf : b_X7_oathsOf_4 v1 p0_oaths p0_one p0_other y4_2 y4_3 = some o_4 := hf
      unfold b_X7_oathsOf_4 at hf
      refine lv_iload_n hx hb dX7_oathsOf_4 rfl (lv_at hl 3 rfl) ?_
      refine lv_aload_n hx hb dX7_oathsOf_5 rfl (lv_at hl 0 rfl) ?_
      refine q_get hB hW 7 in_X7 0 rfl rfl 2 (by decide) fl_111 (v := .int p0_oaths) rfl dX7_oathsOf_6 ?_
      refine lv_icmp_ge (tgt := 48) hx hb dX7_oathsOf_9 (by decide) (fun c_1 => ?_) (fun c_1 => ?_)
      · have hf := it_t c_1 hf
        have h9 := o_inr hf ho_4
        exact K_4 y4_2 h9 _ _ _ hW (lv_sub hl [2] rfl)
      · have hf := it_f c_1 hf
        refine lv_iload_n hx hb dX7_oathsOf_12 rfl (lv_at hl 2 rfl) ?_
        refine lv_aload_n hx hb dX7_oathsOf_13 rfl (lv_at hl 0 rfl) ?_
        refine q_get hB hW 7 in_X7 0 rfl rfl 6 (by decide) fl_19 (v := .ref a_p0_one) rfl dX7_oathsOf_14 ?_
        refine lv_iload_n hx hb dX7_oathsOf_17 rfl (lv_at hl 3 rfl) ?_
        obtain ⟨r_2, hr_2, hf⟩ := bnd hf
        refine q_iald hB hW 1 rfl hr_2 dX7_oathsOf_18 ?_
        refine lv_iload_n hx hb dX7_oathsOf_19 rfl (lv_at hl 1 rfl) ?_
        refine lv_icmp_eq (tgt := 33) hx hb dX7_oathsOf_20 (by decide) (fun c_3 => ?_) (fun c_3 => ?_)
        · have hf := it_t c_3 hf
          refine lv_iconst (v := 1) hx hb dX7_oathsOf_33 (by decide) ?_
          refine lv_iload_n hx hb dX7_oathsOf_34 rfl (lv_at hl 3 rfl) ?_
          refine lv_ishl hx hb dX7_oathsOf_35 ?_
          refine lv_goto (tgt := 40) hx hb dX7_oathsOf_36 (by decide) ?_
          refine lv_ior hx hb dX7_oathsOf_40 ?_
          obtain ⟨w_4, hw_4, hf⟩ := bnd hf
          refine q_nmI hw_4 ?_
          refine lv_istore_n (lv' := [(2, .int w_4), (0, .ref a_p0), (1, .int v1), (3, .int y4_3)]) hx hb dX7_oathsOf_41 rfl hl (by decide) rfl (fun ls hl => ?_)
          refine lv_iinc (v := (y4_3 + (1 : Int32))) (lv' := [(3, .int (y4_3 + (1 : Int32))), (2, .int w_4), (0, .ref a_p0), (1, .int v1)]) hx hb dX7_oathsOf_42 hl (k := 3) rfl rfl (by decide) rfl (fun ls hl => ?_)
          refine lv_goto (tgt := 4) hx hb dX7_oathsOf_45 (by decide) ?_
          have h9 := o_inl hf ho_4
          exact ih w_4 (y4_3 + (1 : Int32)) _ _ _ h9 hW (lv_sub hl [2, 3, 1, 0] rfl)
        · have hf := it_f c_3 hf
          refine lv_aload_n hx hb dX7_oathsOf_23 rfl (lv_at hl 0 rfl) ?_
          refine q_get hB hW 7 in_X7 0 rfl rfl 7 (by decide) fl_22 (v := .ref a_p0_other) rfl dX7_oathsOf_24 ?_
          refine lv_iload_n hx hb dX7_oathsOf_27 rfl (lv_at hl 3 rfl) ?_
          obtain ⟨r_5, hr_5, hf⟩ := bnd hf
          refine q_iald hB hW 2 rfl hr_5 dX7_oathsOf_28 ?_
          refine lv_iload_n hx hb dX7_oathsOf_29 rfl (lv_at hl 1 rfl) ?_
          refine lv_icmp_ne (tgt := 39) hx hb dX7_oathsOf_30 (by decide) (fun c_6 => ?_) (fun c_6 => ?_)
          · have hf := it_f c_6 hf
            refine lv_iconst (v := 0) hx hb dX7_oathsOf_39 (by decide) ?_
            refine lv_ior hx hb dX7_oathsOf_40 ?_
            obtain ⟨w_7, hw_7, hf⟩ := bnd hf
            refine q_nmI hw_7 ?_
            refine lv_istore_n (lv' := [(2, .int w_7), (0, .ref a_p0), (1, .int v1), (3, .int y4_3)]) hx hb dX7_oathsOf_41 rfl hl (by decide) rfl (fun ls hl => ?_)
            refine lv_iinc (v := (y4_3 + (1 : Int32))) (lv' := [(3, .int (y4_3 + (1 : Int32))), (2, .int w_7), (0, .ref a_p0), (1, .int v1)]) hx hb dX7_oathsOf_42 hl (k := 3) rfl rfl (by decide) rfl (fun ls hl => ?_)
            refine lv_goto (tgt := 4) hx hb dX7_oathsOf_45 (by decide) ?_
            have h9 := o_inl hf ho_4
            exact ih w_7 (y4_3 + (1 : Int32)) _ _ _ h9 hW (lv_sub hl [2, 3, 1, 0] rfl)
          · have hf := it_t c_6 hf
            refine lv_iconst (v := 1) hx hb dX7_oathsOf_33 (by decide) ?_
            refine lv_iload_n hx hb dX7_oathsOf_34 rfl (lv_at hl 3 rfl) ?_
            refine lv_ishl hx hb dX7_oathsOf_35 ?_
            refine lv_goto (tgt := 40) hx hb dX7_oathsOf_36 (by decide) ?_
            refine lv_ior hx hb dX7_oathsOf_40 ?_
            obtain ⟨w_8, hw_8, hf⟩ := bnd hf
            refine q_nmI hw_8 ?_
            refine lv_istore_n (lv' := [(2, .int w_8), (0, .ref a_p0), (1, .int v1), (3, .int y4_3)]) hx hb dX7_oathsOf_41 rfl hl (by decide) rfl (fun ls hl => ?_)
            refine lv_iinc (v := (y4_3 + (1 : Int32))) (lv' := [(3, .int (y4_3 + (1 : Int32))), (2, .int w_8), (0, .ref a_p0), (1, .int v1)]) hx hb dX7_oathsOf_42 hl (k := 3) rfl rfl (by decide) rfl (fun ls hl => ?_)
            refine lv_goto (tgt := 4) hx hb dX7_oathsOf_45 (by decide) ?_
            have h9 := o_inl hf ho_4
            exact ih w_8 (y4_3 + (1 : Int32)) _ _ _ h9 hW (lv_sub hl [2, 3, 1, 0] rfl)
  exact L_4 FU (0 : Int32) (0 : Int32) _ _ _ hl_4 hW (lv_sub hl [2, 3, 1, 0] rfl)
def f_X7_hearNow (p0_persons : Int32) (p0_skies : Int32) (p0_kind : Nat → Int32) (p0_skyAt : Nat → Int32) (p0_skyLoud : Nat → Int32) (p0_now : Nat → Int32) : Option (Int32) := (ald p0_now 18 (8 : Int32)).bind fun r_1 => (f_X7_skyOf r_1 p0_skies p0_skyAt).bind fun r_2 => (ald p0_now 18 (8 : Int32)).bind fun r_3 => (f_X7_loudOf r_3 p0_skies p0_skyLoud).bind fun r_4 => (f_X7_hearers (0 : Int32) r_2 r_4 p0_persons p0_kind p0_now).bind fun r_5 => some r_5
set_option maxHeartbeats 4000000 in
set_option maxRecDepth 100000 in
theorem c_X7_hearNow (l : Launch) (D : va_G) (cI cZ : ClassId) (a_p0 a_p0_kind a_p0_skyAt a_p0_skyLoud a_p0_one a_p0_other a_p0_worth a_p0_hangs a_p0_now a_p0_readPerson a_p0_readSky a_p0_readOath a_p0_text a_p0_row a_p0_toldAt a_p0_toldWool a_p0_toldHeard a_p0_isKept a_p0_kept : Nat) (p0_persons : Int32) (p0_skies : Int32) (p0_oaths : Int32) (p0_readPersons : Int32) (p0_readSkies : Int32) (p0_readOaths : Int32) (p0_length : Int32) (p0_at : Int32) (p0_faultAt : Int32) (p0_acts : Int32) (p0_next : Int32) (p0_told : Int32) (p0_seed : Int64) (p0_kind : Nat → Int32) (p0_skyAt : Nat → Int32) (p0_skyLoud : Nat → Int32) (p0_now : Nat → Int32) (q : Int32) (hf : f_X7_hearNow p0_persons p0_skies p0_kind p0_skyAt p0_skyLoud p0_now = some q) : CtI l D cI cZ yX7_hearNow wsX7_hearNow 3 71 [.ref a_p0] [(a_p0, .inr (7, [.int p0_persons, .int p0_skies, .int p0_oaths, .ref a_p0_kind, .ref a_p0_skyAt, .ref a_p0_skyLoud, .ref a_p0_one, .ref a_p0_other, .ref a_p0_worth, .ref a_p0_hangs, .ref a_p0_now, .ref a_p0_readPerson, .ref a_p0_readSky, .ref a_p0_readOath, .int p0_readPersons, .int p0_readSkies, .int p0_readOaths, .ref a_p0_text, .int p0_length, .int p0_at, .int p0_faultAt, .int p0_acts, .int p0_next, .ref a_p0_row, .int p0_told, .ref a_p0_toldAt, .ref a_p0_toldWool, .ref a_p0_toldHeard, .long p0_seed, .ref a_p0_isKept, .ref a_p0_kept])), (a_p0_kind, .inl (cI, 5, .inl p0_kind)), (a_p0_skyAt, .inl (cI, 5, .inl p0_skyAt)), (a_p0_skyLoud, .inl (cI, 5, .inl p0_skyLoud)), (a_p0_now, .inl (cI, 18, .inl p0_now))] (fun q => [(a_p0, .inr (7, [.int p0_persons, .int p0_skies, .int p0_oaths, .ref a_p0_kind, .ref a_p0_skyAt, .ref a_p0_skyLoud, .ref a_p0_one, .ref a_p0_other, .ref a_p0_worth, .ref a_p0_hangs, .ref a_p0_now, .ref a_p0_readPerson, .ref a_p0_readSky, .ref a_p0_readOath, .int p0_readPersons, .int p0_readSkies, .int p0_readOaths, .ref a_p0_text, .int p0_length, .int p0_at, .int p0_faultAt, .int p0_acts, .int p0_next, .ref a_p0_row, .int p0_told, .ref a_p0_toldAt, .ref a_p0_toldWool, .ref a_p0_toldHeard, .long p0_seed, .ref a_p0_isKept, .ref a_p0_kept])), (a_p0_kind, .inl (cI, 5, .inl p0_kind)), (a_p0_skyAt, .inl (cI, 5, .inl p0_skyAt)), (a_p0_skyLoud, .inl (cI, 5, .inl p0_skyLoud)), (a_p0_now, .inl (cI, 18, .inl p0_now))]) (fun q => q) q := by
  refine CtI.of (cc := cX7_hearNow) (maxL := 1) (plainFor_of_name (by decide)) rfl (Nat.le_of_ble_eq_true rfl) ?_
  intro p e s m args below meth c A Q H ls hB hE hW hl
  have hx := hB.1
  have hb := hB.2.1
  have hml := hB.2.2.2.1
  have hown : s.vm.findClass RX7 = some m.cls := hB.2.2.2.2.1
  have hts := hB.2.2.2.2.2.1
  have hK := hB.2.2.2.2.2.2.2.1.1
  have hl : lv_has ls 1 [(0, .ref a_p0)] := hl
  have in_X7 : ∀ w ∈ wsX70, w ∈ wsX7_hearNow := fun w h => List.mem_cons_of_mem _ (List.mem_append_right _ h)
  have fl_31 : (Cond.fieldLink RX7 31 (TX7 10).1 (TX7 10).2.1 (TX7 10).2.2.1).before args s = true := hts (.fieldLink RX7 31 "ClapOathsModel" "now" "[I") (by decide +kernel)
  unfold f_X7_hearNow at hf
  refine lv_aload_n hx hb dX7_hearNow_0 rfl (lv_at hl 0 rfl) ?_
  refine lv_iconst (v := 0) hx hb dX7_hearNow_1 (by decide) ?_
  refine lv_aload_n hx hb dX7_hearNow_2 rfl (lv_at hl 0 rfl) ?_
  refine lv_aload_n hx hb dX7_hearNow_3 rfl (lv_at hl 0 rfl) ?_
  refine q_get hB hW 7 in_X7 0 rfl rfl 10 (by decide) fl_31 (v := .ref a_p0_now) rfl dX7_hearNow_4 ?_
  refine lv_bipush (v := 8) hx hb dX7_hearNow_7 (by decide) ?_
  obtain ⟨r_1, hr_1, hf⟩ := bnd hf
  refine q_iald hB hW 4 rfl hr_1 dX7_hearNow_9 ?_
  obtain ⟨r_2, hr_2, hf⟩ := bnd hf
  refine q_callVI hB hW (ci := 7) (q0 := 0) rfl rfl rfl (As := [.int r_1]) (rest := [.int (0 : Int32), .ref a_p0]) (ws' := [(a_p0, .inr (7, [.int p0_persons, .int p0_skies, .int p0_oaths, .ref a_p0_kind, .ref a_p0_skyAt, .ref a_p0_skyLoud, .ref a_p0_one, .ref a_p0_other, .ref a_p0_worth, .ref a_p0_hangs, .ref a_p0_now, .ref a_p0_readPerson, .ref a_p0_readSky, .ref a_p0_readOath, .int p0_readPersons, .int p0_readSkies, .int p0_readOaths, .ref a_p0_text, .int p0_length, .int p0_at, .int p0_faultAt, .int p0_acts, .int p0_next, .ref a_p0_row, .int p0_told, .ref a_p0_toldAt, .ref a_p0_toldWool, .ref a_p0_toldHeard, .long p0_seed, .ref a_p0_isKept, .ref a_p0_kept])), (a_p0_kind, .inl (cI, 5, .inl p0_kind)), (a_p0_skyAt, .inl (cI, 5, .inl p0_skyAt)), (a_p0_skyLoud, .inl (cI, 5, .inl p0_skyLoud)), (a_p0_now, .inl (cI, 18, .inl p0_now))]) (c_X7_skyOf l D cI cZ a_p0 a_p0_kind a_p0_skyAt a_p0_skyLoud a_p0_one a_p0_other a_p0_worth a_p0_hangs a_p0_now a_p0_readPerson a_p0_readSky a_p0_readOath a_p0_text a_p0_row a_p0_toldAt a_p0_toldWool a_p0_toldHeard a_p0_isKept a_p0_kept p0_persons p0_skies p0_oaths p0_readPersons p0_readSkies p0_readOaths p0_length p0_at p0_faultAt p0_acts p0_next p0_told p0_seed p0_skyAt r_1 r_2 hr_2) (cwV 1 hts gX7_hearNow_X7_skyOf rfl rfl rfl (by decide +kernel) ⟨Nat.le_of_ble_eq_true rfl, Nat.le_of_ble_eq_true rfl⟩) [0, 2] rfl rfl rfl rfl rfl hl.1 rfl (Nat.le_of_ble_eq_true rfl) ⟨Nat.le_of_ble_eq_true rfl, Nat.le_of_ble_eq_true rfl⟩ dX7_hearNow_10 (fun H locs hW => ?_)
  refine lv_aload_n hx hb dX7_hearNow_13 rfl (lv_at hl 0 rfl) ?_
  refine lv_aload_n hx hb dX7_hearNow_14 rfl (lv_at hl 0 rfl) ?_
  refine q_get hB hW 7 in_X7 0 rfl rfl 10 (by decide) fl_31 (v := .ref a_p0_now) rfl dX7_hearNow_15 ?_
  refine lv_bipush (v := 8) hx hb dX7_hearNow_18 (by decide) ?_
  obtain ⟨r_3, hr_3, hf⟩ := bnd hf
  refine q_iald hB hW 4 rfl hr_3 dX7_hearNow_20 ?_
  obtain ⟨r_4, hr_4, hf⟩ := bnd hf
  refine q_callVI hB hW (ci := 7) (q0 := 0) rfl rfl rfl (As := [.int r_3]) (rest := [.int r_2, .int (0 : Int32), .ref a_p0]) (ws' := [(a_p0, .inr (7, [.int p0_persons, .int p0_skies, .int p0_oaths, .ref a_p0_kind, .ref a_p0_skyAt, .ref a_p0_skyLoud, .ref a_p0_one, .ref a_p0_other, .ref a_p0_worth, .ref a_p0_hangs, .ref a_p0_now, .ref a_p0_readPerson, .ref a_p0_readSky, .ref a_p0_readOath, .int p0_readPersons, .int p0_readSkies, .int p0_readOaths, .ref a_p0_text, .int p0_length, .int p0_at, .int p0_faultAt, .int p0_acts, .int p0_next, .ref a_p0_row, .int p0_told, .ref a_p0_toldAt, .ref a_p0_toldWool, .ref a_p0_toldHeard, .long p0_seed, .ref a_p0_isKept, .ref a_p0_kept])), (a_p0_kind, .inl (cI, 5, .inl p0_kind)), (a_p0_skyAt, .inl (cI, 5, .inl p0_skyAt)), (a_p0_skyLoud, .inl (cI, 5, .inl p0_skyLoud)), (a_p0_now, .inl (cI, 18, .inl p0_now))]) (c_X7_loudOf l D cI cZ a_p0 a_p0_kind a_p0_skyAt a_p0_skyLoud a_p0_one a_p0_other a_p0_worth a_p0_hangs a_p0_now a_p0_readPerson a_p0_readSky a_p0_readOath a_p0_text a_p0_row a_p0_toldAt a_p0_toldWool a_p0_toldHeard a_p0_isKept a_p0_kept p0_persons p0_skies p0_oaths p0_readPersons p0_readSkies p0_readOaths p0_length p0_at p0_faultAt p0_acts p0_next p0_told p0_seed p0_skyLoud r_3 r_4 hr_4) (cwV 1 hts gX7_hearNow_X7_loudOf rfl rfl rfl (by decide +kernel) ⟨Nat.le_of_ble_eq_true rfl, Nat.le_of_ble_eq_true rfl⟩) [0, 3] rfl rfl rfl rfl rfl hl.1 rfl (Nat.le_of_ble_eq_true rfl) ⟨Nat.le_of_ble_eq_true rfl, Nat.le_of_ble_eq_true rfl⟩ dX7_hearNow_21 (fun H locs hW => ?_)
  obtain ⟨r_5, hr_5, hf⟩ := bnd hf
  refine q_callVI hB hW (ci := 7) (q0 := 0) rfl rfl rfl (As := [.int (0 : Int32), .int r_2, .int r_4]) (rest := []) (ws' := [(a_p0, .inr (7, [.int p0_persons, .int p0_skies, .int p0_oaths, .ref a_p0_kind, .ref a_p0_skyAt, .ref a_p0_skyLoud, .ref a_p0_one, .ref a_p0_other, .ref a_p0_worth, .ref a_p0_hangs, .ref a_p0_now, .ref a_p0_readPerson, .ref a_p0_readSky, .ref a_p0_readOath, .int p0_readPersons, .int p0_readSkies, .int p0_readOaths, .ref a_p0_text, .int p0_length, .int p0_at, .int p0_faultAt, .int p0_acts, .int p0_next, .ref a_p0_row, .int p0_told, .ref a_p0_toldAt, .ref a_p0_toldWool, .ref a_p0_toldHeard, .long p0_seed, .ref a_p0_isKept, .ref a_p0_kept])), (a_p0_kind, .inl (cI, 5, .inl p0_kind)), (a_p0_skyAt, .inl (cI, 5, .inl p0_skyAt)), (a_p0_skyLoud, .inl (cI, 5, .inl p0_skyLoud)), (a_p0_now, .inl (cI, 18, .inl p0_now))]) (c_X7_hearers l D cI cZ a_p0 a_p0_kind a_p0_skyAt a_p0_skyLoud a_p0_one a_p0_other a_p0_worth a_p0_hangs a_p0_now a_p0_readPerson a_p0_readSky a_p0_readOath a_p0_text a_p0_row a_p0_toldAt a_p0_toldWool a_p0_toldHeard a_p0_isKept a_p0_kept p0_persons p0_skies p0_oaths p0_readPersons p0_readSkies p0_readOaths p0_length p0_at p0_faultAt p0_acts p0_next p0_told p0_seed p0_kind p0_now (0 : Int32) r_2 r_4 r_5 hr_5) (cwV 3 hts gX7_hearNow_X7_hearers rfl rfl rfl (by decide +kernel) ⟨Nat.le_of_ble_eq_true rfl, Nat.le_of_ble_eq_true rfl⟩) [0, 1, 4] rfl rfl rfl rfl rfl hl.1 rfl (Nat.le_of_ble_eq_true rfl) ⟨Nat.le_of_ble_eq_true rfl, Nat.le_of_ble_eq_true rfl⟩ dX7_hearNow_24 (fun H locs hW => ?_)
  exact hE _ _ _ _ _ r_5 (sm hf) hW rfl dX7_hearNow_27
def f_X7_person (v1 : Int32) (v2 : Int32) (p0_persons : Int32) (p0_skies : Int32) (p0_oaths : Int32) (p0_kind : Nat → Int32) (p0_skyAt : Nat → Int32) (p0_skyLoud : Nat → Int32) (p0_one : Nat → Int32) (p0_other : Nat → Int32) (p0_now : Nat → Int32) : Option (Int32) := (f_X7_isPerson v1 p0_persons).bind fun r_1 => if r_1 = (0 : Int32) then some (-1 : Int32) else if v2 = (0 : Int32) then (ald p0_now 18 v1).bind fun r_4 => some r_4 else if v2 = (1 : Int32) then (ald p0_kind 5 v1).bind fun r_6 => some r_6 else if v2 = (2 : Int32) then (ald p0_now 18 (5 : Int32)).bind fun r_8 => some ((r_8 >>> (v1 &&& 31)) &&& (1 : Int32)) else if v2 = (3 : Int32) then (f_X7_oathsOf v1 p0_oaths p0_one p0_other).bind fun r_10 => some r_10 else if v2 = (4 : Int32) then (f_X7_oathsOf v1 p0_oaths p0_one p0_other).bind fun r_12 => (ald p0_now 18 (6 : Int32)).bind fun r_13 => some (r_12 &&& r_13) else if v2 = (5 : Int32) then (f_X7_hearNow p0_persons p0_skies p0_kind p0_skyAt p0_skyLoud p0_now).bind fun r_15 => some ((r_15 >>> (v1 &&& 31)) &&& (1 : Int32)) else some (-2 : Int32)
set_option maxHeartbeats 4000000 in
set_option maxRecDepth 100000 in
theorem c_X7_person (l : Launch) (D : va_G) (cI cZ : ClassId) (a_p0 a_p0_kind a_p0_skyAt a_p0_skyLoud a_p0_one a_p0_other a_p0_worth a_p0_hangs a_p0_now a_p0_readPerson a_p0_readSky a_p0_readOath a_p0_text a_p0_row a_p0_toldAt a_p0_toldWool a_p0_toldHeard a_p0_isKept a_p0_kept : Nat) (p0_persons : Int32) (p0_skies : Int32) (p0_oaths : Int32) (p0_readPersons : Int32) (p0_readSkies : Int32) (p0_readOaths : Int32) (p0_length : Int32) (p0_at : Int32) (p0_faultAt : Int32) (p0_acts : Int32) (p0_next : Int32) (p0_told : Int32) (p0_seed : Int64) (p0_kind : Nat → Int32) (p0_skyAt : Nat → Int32) (p0_skyLoud : Nat → Int32) (p0_one : Nat → Int32) (p0_other : Nat → Int32) (p0_now : Nat → Int32) (v1 : Int32) (v2 : Int32) (q : Int32) (hf : f_X7_person v1 v2 p0_persons p0_skies p0_oaths p0_kind p0_skyAt p0_skyLoud p0_one p0_other p0_now = some q) : CtI l D cI cZ yX7_person wsX7_person 4 91 [.ref a_p0, .int v1, .int v2] [(a_p0, .inr (7, [.int p0_persons, .int p0_skies, .int p0_oaths, .ref a_p0_kind, .ref a_p0_skyAt, .ref a_p0_skyLoud, .ref a_p0_one, .ref a_p0_other, .ref a_p0_worth, .ref a_p0_hangs, .ref a_p0_now, .ref a_p0_readPerson, .ref a_p0_readSky, .ref a_p0_readOath, .int p0_readPersons, .int p0_readSkies, .int p0_readOaths, .ref a_p0_text, .int p0_length, .int p0_at, .int p0_faultAt, .int p0_acts, .int p0_next, .ref a_p0_row, .int p0_told, .ref a_p0_toldAt, .ref a_p0_toldWool, .ref a_p0_toldHeard, .long p0_seed, .ref a_p0_isKept, .ref a_p0_kept])), (a_p0_kind, .inl (cI, 5, .inl p0_kind)), (a_p0_skyAt, .inl (cI, 5, .inl p0_skyAt)), (a_p0_skyLoud, .inl (cI, 5, .inl p0_skyLoud)), (a_p0_one, .inl (cI, 5, .inl p0_one)), (a_p0_other, .inl (cI, 5, .inl p0_other)), (a_p0_now, .inl (cI, 18, .inl p0_now))] (fun q => [(a_p0, .inr (7, [.int p0_persons, .int p0_skies, .int p0_oaths, .ref a_p0_kind, .ref a_p0_skyAt, .ref a_p0_skyLoud, .ref a_p0_one, .ref a_p0_other, .ref a_p0_worth, .ref a_p0_hangs, .ref a_p0_now, .ref a_p0_readPerson, .ref a_p0_readSky, .ref a_p0_readOath, .int p0_readPersons, .int p0_readSkies, .int p0_readOaths, .ref a_p0_text, .int p0_length, .int p0_at, .int p0_faultAt, .int p0_acts, .int p0_next, .ref a_p0_row, .int p0_told, .ref a_p0_toldAt, .ref a_p0_toldWool, .ref a_p0_toldHeard, .long p0_seed, .ref a_p0_isKept, .ref a_p0_kept])), (a_p0_kind, .inl (cI, 5, .inl p0_kind)), (a_p0_skyAt, .inl (cI, 5, .inl p0_skyAt)), (a_p0_skyLoud, .inl (cI, 5, .inl p0_skyLoud)), (a_p0_one, .inl (cI, 5, .inl p0_one)), (a_p0_other, .inl (cI, 5, .inl p0_other)), (a_p0_now, .inl (cI, 18, .inl p0_now))]) (fun q => q) q := by
  refine CtI.of (cc := cX7_person) (maxL := 3) (plainFor_of_name (by decide)) rfl (Nat.le_of_ble_eq_true rfl) ?_
  intro p e s m args below meth c A Q H ls hB hE hW hl
  have hx := hB.1
  have hb := hB.2.1
  have hml := hB.2.2.2.1
  have hown : s.vm.findClass RX7 = some m.cls := hB.2.2.2.2.1
  have hts := hB.2.2.2.2.2.1
  have hK := hB.2.2.2.2.2.2.2.1.1
  have hl : lv_has ls 3 [(0, .ref a_p0), (1, .int v1), (2, .int v2)] := hl
  have in_X7 : ∀ w ∈ wsX70, w ∈ wsX7_person := fun w h => List.mem_cons_of_mem _ (List.mem_append_right _ h)
  have fl_7 : (Cond.fieldLink RX7 7 (TX7 3).1 (TX7 3).2.1 (TX7 3).2.2.1).before args s = true := hts (.fieldLink RX7 7 "ClapOathsModel" "kind" "[I") (by decide +kernel)
  have fl_31 : (Cond.fieldLink RX7 31 (TX7 10).1 (TX7 10).2.1 (TX7 10).2.2.1).before args s = true := hts (.fieldLink RX7 31 "ClapOathsModel" "now" "[I") (by decide +kernel)
  unfold f_X7_person at hf
  refine lv_aload_n hx hb dX7_person_0 rfl (lv_at hl 0 rfl) ?_
  refine lv_iload_n hx hb dX7_person_1 rfl (lv_at hl 1 rfl) ?_
  obtain ⟨r_1, hr_1, hf⟩ := bnd hf
  refine q_callVZ hB hW (ci := 7) (q0 := 0) rfl rfl rfl (As := [.int v1]) (rest := []) (ws' := [(a_p0, .inr (7, [.int p0_persons, .int p0_skies, .int p0_oaths, .ref a_p0_kind, .ref a_p0_skyAt, .ref a_p0_skyLoud, .ref a_p0_one, .ref a_p0_other, .ref a_p0_worth, .ref a_p0_hangs, .ref a_p0_now, .ref a_p0_readPerson, .ref a_p0_readSky, .ref a_p0_readOath, .int p0_readPersons, .int p0_readSkies, .int p0_readOaths, .ref a_p0_text, .int p0_length, .int p0_at, .int p0_faultAt, .int p0_acts, .int p0_next, .ref a_p0_row, .int p0_told, .ref a_p0_toldAt, .ref a_p0_toldWool, .ref a_p0_toldHeard, .long p0_seed, .ref a_p0_isKept, .ref a_p0_kept])), (a_p0_kind, .inl (cI, 5, .inl p0_kind)), (a_p0_skyAt, .inl (cI, 5, .inl p0_skyAt)), (a_p0_skyLoud, .inl (cI, 5, .inl p0_skyLoud)), (a_p0_one, .inl (cI, 5, .inl p0_one)), (a_p0_other, .inl (cI, 5, .inl p0_other)), (a_p0_now, .inl (cI, 18, .inl p0_now))]) (c_X7_isPerson l D cI cZ a_p0 a_p0_kind a_p0_skyAt a_p0_skyLoud a_p0_one a_p0_other a_p0_worth a_p0_hangs a_p0_now a_p0_readPerson a_p0_readSky a_p0_readOath a_p0_text a_p0_row a_p0_toldAt a_p0_toldWool a_p0_toldHeard a_p0_isKept a_p0_kept p0_persons p0_skies p0_oaths p0_readPersons p0_readSkies p0_readOaths p0_length p0_at p0_faultAt p0_acts p0_next p0_told p0_seed v1 r_1 hr_1) (cwV 1 hts gX7_person_X7_isPerson rfl rfl rfl (by decide +kernel) ⟨Nat.le_of_ble_eq_true rfl, Nat.le_of_ble_eq_true rfl⟩) [0] rfl rfl rfl rfl rfl hl.1 rfl (Nat.le_of_ble_eq_true rfl) ⟨Nat.le_of_ble_eq_true rfl, Nat.le_of_ble_eq_true rfl⟩ dX7_person_2 (fun hzr_1 H locs hW => ?_)
  refine lv_if_ne (tgt := 10) hx hb dX7_person_5 (by decide) (fun c_2 => ?_) (fun c_2 => ?_)
  · have hf := it_f c_2 hf
    refine lv_iload_n hx hb dX7_person_10 rfl (lv_at hl 2 rfl) ?_
    by_cases c_3 : v2 = (0 : Int32)
    · have hf := it_t c_3 hf
      refine lv_tableIn (tgt := 48) (off := 37) hx hb dX7_person_11 (by rw [c_3]; decide) (by rw [c_3]; decide) (by rw [c_3]; rfl) (by decide) ?_
      refine lv_aload_n hx hb dX7_person_48 rfl (lv_at hl 0 rfl) ?_
      refine q_get hB hW 7 in_X7 0 rfl rfl 10 (by decide) fl_31 (v := .ref a_p0_now) rfl dX7_person_49 ?_
      refine lv_iload_n hx hb dX7_person_52 rfl (lv_at hl 1 rfl) ?_
      obtain ⟨r_4, hr_4, hf⟩ := bnd hf
      refine q_iald hB hW 6 rfl hr_4 dX7_person_53 ?_
      exact hE _ _ _ _ _ r_4 (sm hf) hW rfl dX7_person_54
    have hf := it_f c_3 hf
    by_cases c_5 : v2 = (1 : Int32)
    · have hf := it_t c_5 hf
      refine lv_tableIn (tgt := 55) (off := 44) hx hb dX7_person_11 (by rw [c_5]; decide) (by rw [c_5]; decide) (by rw [c_5]; rfl) (by decide) ?_
      refine lv_aload_n hx hb dX7_person_55 rfl (lv_at hl 0 rfl) ?_
      refine q_get hB hW 7 in_X7 0 rfl rfl 3 (by decide) fl_7 (v := .ref a_p0_kind) rfl dX7_person_56 ?_
      refine lv_iload_n hx hb dX7_person_59 rfl (lv_at hl 1 rfl) ?_
      obtain ⟨r_6, hr_6, hf⟩ := bnd hf
      refine q_iald hB hW 1 rfl hr_6 dX7_person_60 ?_
      exact hE _ _ _ _ _ r_6 (sm hf) hW rfl dX7_person_61
    have hf := it_f c_5 hf
    by_cases c_7 : v2 = (2 : Int32)
    · have hf := it_t c_7 hf
      refine lv_tableIn (tgt := 62) (off := 51) hx hb dX7_person_11 (by rw [c_7]; decide) (by rw [c_7]; decide) (by rw [c_7]; rfl) (by decide) ?_
      refine lv_aload_n hx hb dX7_person_62 rfl (lv_at hl 0 rfl) ?_
      refine q_get hB hW 7 in_X7 0 rfl rfl 10 (by decide) fl_31 (v := .ref a_p0_now) rfl dX7_person_63 ?_
      refine lv_iconst (v := 5) hx hb dX7_person_66 (by decide) ?_
      obtain ⟨r_8, hr_8, hf⟩ := bnd hf
      refine q_iald hB hW 6 rfl hr_8 dX7_person_67 ?_
      refine lv_iload_n hx hb dX7_person_68 rfl (lv_at hl 1 rfl) ?_
      refine lv_ishr hx hb dX7_person_69 ?_
      refine lv_iconst (v := 1) hx hb dX7_person_70 (by decide) ?_
      refine lv_iand hx hb dX7_person_71 ?_
      exact hE _ _ _ _ _ ((r_8 >>> (v1 &&& 31)) &&& (1 : Int32)) (sm hf) hW rfl dX7_person_72
    have hf := it_f c_7 hf
    by_cases c_9 : v2 = (3 : Int32)
    · have hf := it_t c_9 hf
      refine lv_tableIn (tgt := 73) (off := 62) hx hb dX7_person_11 (by rw [c_9]; decide) (by rw [c_9]; decide) (by rw [c_9]; rfl) (by decide) ?_
      refine lv_aload_n hx hb dX7_person_73 rfl (lv_at hl 0 rfl) ?_
      refine lv_iload_n hx hb dX7_person_74 rfl (lv_at hl 1 rfl) ?_
      obtain ⟨r_10, hr_10, hf⟩ := bnd hf
      refine q_callVI hB hW (ci := 7) (q0 := 0) rfl rfl rfl (As := [.int v1]) (rest := []) (ws' := [(a_p0, .inr (7, [.int p0_persons, .int p0_skies, .int p0_oaths, .ref a_p0_kind, .ref a_p0_skyAt, .ref a_p0_skyLoud, .ref a_p0_one, .ref a_p0_other, .ref a_p0_worth, .ref a_p0_hangs, .ref a_p0_now, .ref a_p0_readPerson, .ref a_p0_readSky, .ref a_p0_readOath, .int p0_readPersons, .int p0_readSkies, .int p0_readOaths, .ref a_p0_text, .int p0_length, .int p0_at, .int p0_faultAt, .int p0_acts, .int p0_next, .ref a_p0_row, .int p0_told, .ref a_p0_toldAt, .ref a_p0_toldWool, .ref a_p0_toldHeard, .long p0_seed, .ref a_p0_isKept, .ref a_p0_kept])), (a_p0_kind, .inl (cI, 5, .inl p0_kind)), (a_p0_skyAt, .inl (cI, 5, .inl p0_skyAt)), (a_p0_skyLoud, .inl (cI, 5, .inl p0_skyLoud)), (a_p0_one, .inl (cI, 5, .inl p0_one)), (a_p0_other, .inl (cI, 5, .inl p0_other)), (a_p0_now, .inl (cI, 18, .inl p0_now))]) (c_X7_oathsOf l D cI cZ a_p0 a_p0_kind a_p0_skyAt a_p0_skyLoud a_p0_one a_p0_other a_p0_worth a_p0_hangs a_p0_now a_p0_readPerson a_p0_readSky a_p0_readOath a_p0_text a_p0_row a_p0_toldAt a_p0_toldWool a_p0_toldHeard a_p0_isKept a_p0_kept p0_persons p0_skies p0_oaths p0_readPersons p0_readSkies p0_readOaths p0_length p0_at p0_faultAt p0_acts p0_next p0_told p0_seed p0_one p0_other v1 r_10 hr_10) (cwV 1 hts gX7_person_X7_oathsOf rfl rfl rfl (by decide +kernel) ⟨Nat.le_of_ble_eq_true rfl, Nat.le_of_ble_eq_true rfl⟩) [0, 4, 5] rfl rfl rfl rfl rfl hl.1 rfl (Nat.le_of_ble_eq_true rfl) ⟨Nat.le_of_ble_eq_true rfl, Nat.le_of_ble_eq_true rfl⟩ dX7_person_75 (fun H locs hW => ?_)
      exact hE _ _ _ _ _ r_10 (sm hf) hW rfl dX7_person_78
    have hf := it_f c_9 hf
    by_cases c_11 : v2 = (4 : Int32)
    · have hf := it_t c_11 hf
      refine lv_tableIn (tgt := 79) (off := 68) hx hb dX7_person_11 (by rw [c_11]; decide) (by rw [c_11]; decide) (by rw [c_11]; rfl) (by decide) ?_
      refine lv_aload_n hx hb dX7_person_79 rfl (lv_at hl 0 rfl) ?_
      refine lv_iload_n hx hb dX7_person_80 rfl (lv_at hl 1 rfl) ?_
      obtain ⟨r_12, hr_12, hf⟩ := bnd hf
      refine q_callVI hB hW (ci := 7) (q0 := 0) rfl rfl rfl (As := [.int v1]) (rest := []) (ws' := [(a_p0, .inr (7, [.int p0_persons, .int p0_skies, .int p0_oaths, .ref a_p0_kind, .ref a_p0_skyAt, .ref a_p0_skyLoud, .ref a_p0_one, .ref a_p0_other, .ref a_p0_worth, .ref a_p0_hangs, .ref a_p0_now, .ref a_p0_readPerson, .ref a_p0_readSky, .ref a_p0_readOath, .int p0_readPersons, .int p0_readSkies, .int p0_readOaths, .ref a_p0_text, .int p0_length, .int p0_at, .int p0_faultAt, .int p0_acts, .int p0_next, .ref a_p0_row, .int p0_told, .ref a_p0_toldAt, .ref a_p0_toldWool, .ref a_p0_toldHeard, .long p0_seed, .ref a_p0_isKept, .ref a_p0_kept])), (a_p0_kind, .inl (cI, 5, .inl p0_kind)), (a_p0_skyAt, .inl (cI, 5, .inl p0_skyAt)), (a_p0_skyLoud, .inl (cI, 5, .inl p0_skyLoud)), (a_p0_one, .inl (cI, 5, .inl p0_one)), (a_p0_other, .inl (cI, 5, .inl p0_other)), (a_p0_now, .inl (cI, 18, .inl p0_now))]) (c_X7_oathsOf l D cI cZ a_p0 a_p0_kind a_p0_skyAt a_p0_skyLoud a_p0_one a_p0_other a_p0_worth a_p0_hangs a_p0_now a_p0_readPerson a_p0_readSky a_p0_readOath a_p0_text a_p0_row a_p0_toldAt a_p0_toldWool a_p0_toldHeard a_p0_isKept a_p0_kept p0_persons p0_skies p0_oaths p0_readPersons p0_readSkies p0_readOaths p0_length p0_at p0_faultAt p0_acts p0_next p0_told p0_seed p0_one p0_other v1 r_12 hr_12) (cwV 1 hts gX7_person_X7_oathsOf rfl rfl rfl (by decide +kernel) ⟨Nat.le_of_ble_eq_true rfl, Nat.le_of_ble_eq_true rfl⟩) [0, 4, 5] rfl rfl rfl rfl rfl hl.1 rfl (Nat.le_of_ble_eq_true rfl) ⟨Nat.le_of_ble_eq_true rfl, Nat.le_of_ble_eq_true rfl⟩ dX7_person_81 (fun H locs hW => ?_)
      refine lv_aload_n hx hb dX7_person_84 rfl (lv_at hl 0 rfl) ?_
      refine q_get hB hW 7 in_X7 0 rfl rfl 10 (by decide) fl_31 (v := .ref a_p0_now) rfl dX7_person_85 ?_
      refine lv_bipush (v := 6) hx hb dX7_person_88 (by decide) ?_
      obtain ⟨r_13, hr_13, hf⟩ := bnd hf
      refine q_iald hB hW 6 rfl hr_13 dX7_person_90 ?_
      refine lv_iand hx hb dX7_person_91 ?_
      exact hE _ _ _ _ _ (r_12 &&& r_13) (sm hf) hW rfl dX7_person_92
    have hf := it_f c_11 hf
    by_cases c_14 : v2 = (5 : Int32)
    · have hf := it_t c_14 hf
      refine lv_tableIn (tgt := 93) (off := 82) hx hb dX7_person_11 (by rw [c_14]; decide) (by rw [c_14]; decide) (by rw [c_14]; rfl) (by decide) ?_
      refine lv_aload_n hx hb dX7_person_93 rfl (lv_at hl 0 rfl) ?_
      obtain ⟨r_15, hr_15, hf⟩ := bnd hf
      refine q_callVI hB hW (ci := 7) (q0 := 0) rfl rfl rfl (As := []) (rest := []) (ws' := [(a_p0, .inr (7, [.int p0_persons, .int p0_skies, .int p0_oaths, .ref a_p0_kind, .ref a_p0_skyAt, .ref a_p0_skyLoud, .ref a_p0_one, .ref a_p0_other, .ref a_p0_worth, .ref a_p0_hangs, .ref a_p0_now, .ref a_p0_readPerson, .ref a_p0_readSky, .ref a_p0_readOath, .int p0_readPersons, .int p0_readSkies, .int p0_readOaths, .ref a_p0_text, .int p0_length, .int p0_at, .int p0_faultAt, .int p0_acts, .int p0_next, .ref a_p0_row, .int p0_told, .ref a_p0_toldAt, .ref a_p0_toldWool, .ref a_p0_toldHeard, .long p0_seed, .ref a_p0_isKept, .ref a_p0_kept])), (a_p0_kind, .inl (cI, 5, .inl p0_kind)), (a_p0_skyAt, .inl (cI, 5, .inl p0_skyAt)), (a_p0_skyLoud, .inl (cI, 5, .inl p0_skyLoud)), (a_p0_one, .inl (cI, 5, .inl p0_one)), (a_p0_other, .inl (cI, 5, .inl p0_other)), (a_p0_now, .inl (cI, 18, .inl p0_now))]) (c_X7_hearNow l D cI cZ a_p0 a_p0_kind a_p0_skyAt a_p0_skyLoud a_p0_one a_p0_other a_p0_worth a_p0_hangs a_p0_now a_p0_readPerson a_p0_readSky a_p0_readOath a_p0_text a_p0_row a_p0_toldAt a_p0_toldWool a_p0_toldHeard a_p0_isKept a_p0_kept p0_persons p0_skies p0_oaths p0_readPersons p0_readSkies p0_readOaths p0_length p0_at p0_faultAt p0_acts p0_next p0_told p0_seed p0_kind p0_skyAt p0_skyLoud p0_now r_15 hr_15) (cwV 0 hts gX7_person_X7_hearNow rfl rfl rfl (by decide +kernel) ⟨Nat.le_of_ble_eq_true rfl, Nat.le_of_ble_eq_true rfl⟩) [0, 1, 2, 3, 6] rfl rfl rfl rfl rfl hl.1 rfl (Nat.le_of_ble_eq_true rfl) ⟨Nat.le_of_ble_eq_true rfl, Nat.le_of_ble_eq_true rfl⟩ dX7_person_94 (fun H locs hW => ?_)
      refine lv_iload_n hx hb dX7_person_97 rfl (lv_at hl 1 rfl) ?_
      refine lv_ishr hx hb dX7_person_98 ?_
      refine lv_iconst (v := 1) hx hb dX7_person_99 (by decide) ?_
      refine lv_iand hx hb dX7_person_100 ?_
      exact hE _ _ _ _ _ ((r_15 >>> (v1 &&& 31)) &&& (1 : Int32)) (sm hf) hW rfl dX7_person_101
    have hf := it_f c_14 hf
    refine lv_tableOut (tgt := 102) hx hb dX7_person_11 (sw_out 5 (by decide) (fun j hj => match j, hj with | 0, _ => c_3 | 1, _ => c_5 | 2, _ => c_7 | 3, _ => c_9 | 4, _ => c_11 | 5, _ => c_14 | _ + 6, hj => absurd hj (by omega))) (by decide) ?_
    refine lv_bipush (v := -2) hx hb dX7_person_102 (by decide) ?_
    exact hE _ _ _ _ _ (-2 : Int32) (sm hf) hW rfl dX7_person_104
  · have hf := it_t c_2 hf
    refine lv_iconst (v := -1) hx hb dX7_person_8 (by decide) ?_
    exact hE _ _ _ _ _ (-1 : Int32) (sm hf) hW rfl dX7_person_9
def f_X7_oath (v1 : Int32) (v2 : Int32) (p0_oaths : Int32) (p0_one : Nat → Int32) (p0_other : Nat → Int32) (p0_worth : Nat → Int32) (p0_hangs : Nat → Int32) (p0_now : Nat → Int32) : Option (Int32) := (f_X7_isOath v1 p0_oaths).bind fun r_1 => if r_1 = (0 : Int32) then some (-1 : Int32) else if v2 = (0 : Int32) then (ald p0_one 5 v1).bind fun r_4 => some r_4 else if v2 = (1 : Int32) then (ald p0_other 5 v1).bind fun r_6 => some r_6 else if v2 = (2 : Int32) then (ald p0_worth 5 v1).bind fun r_8 => some r_8 else if v2 = (3 : Int32) then (ald p0_hangs 5 v1).bind fun r_10 => some r_10 else if v2 = (4 : Int32) then (ald p0_now 18 (6 : Int32)).bind fun r_12 => some ((r_12 >>> (v1 &&& 31)) &&& (1 : Int32)) else some (-2 : Int32)
set_option maxHeartbeats 4000000 in
set_option maxRecDepth 100000 in
theorem c_X7_oath (l : Launch) (D : va_G) (cI cZ : ClassId) (a_p0 a_p0_kind a_p0_skyAt a_p0_skyLoud a_p0_one a_p0_other a_p0_worth a_p0_hangs a_p0_now a_p0_readPerson a_p0_readSky a_p0_readOath a_p0_text a_p0_row a_p0_toldAt a_p0_toldWool a_p0_toldHeard a_p0_isKept a_p0_kept : Nat) (p0_persons : Int32) (p0_skies : Int32) (p0_oaths : Int32) (p0_readPersons : Int32) (p0_readSkies : Int32) (p0_readOaths : Int32) (p0_length : Int32) (p0_at : Int32) (p0_faultAt : Int32) (p0_acts : Int32) (p0_next : Int32) (p0_told : Int32) (p0_seed : Int64) (p0_one : Nat → Int32) (p0_other : Nat → Int32) (p0_worth : Nat → Int32) (p0_hangs : Nat → Int32) (p0_now : Nat → Int32) (v1 : Int32) (v2 : Int32) (q : Int32) (hf : f_X7_oath v1 v2 p0_oaths p0_one p0_other p0_worth p0_hangs p0_now = some q) : CtI l D cI cZ yX7_oath wsX7_oath 2 46 [.ref a_p0, .int v1, .int v2] [(a_p0, .inr (7, [.int p0_persons, .int p0_skies, .int p0_oaths, .ref a_p0_kind, .ref a_p0_skyAt, .ref a_p0_skyLoud, .ref a_p0_one, .ref a_p0_other, .ref a_p0_worth, .ref a_p0_hangs, .ref a_p0_now, .ref a_p0_readPerson, .ref a_p0_readSky, .ref a_p0_readOath, .int p0_readPersons, .int p0_readSkies, .int p0_readOaths, .ref a_p0_text, .int p0_length, .int p0_at, .int p0_faultAt, .int p0_acts, .int p0_next, .ref a_p0_row, .int p0_told, .ref a_p0_toldAt, .ref a_p0_toldWool, .ref a_p0_toldHeard, .long p0_seed, .ref a_p0_isKept, .ref a_p0_kept])), (a_p0_one, .inl (cI, 5, .inl p0_one)), (a_p0_other, .inl (cI, 5, .inl p0_other)), (a_p0_worth, .inl (cI, 5, .inl p0_worth)), (a_p0_hangs, .inl (cI, 5, .inl p0_hangs)), (a_p0_now, .inl (cI, 18, .inl p0_now))] (fun q => [(a_p0, .inr (7, [.int p0_persons, .int p0_skies, .int p0_oaths, .ref a_p0_kind, .ref a_p0_skyAt, .ref a_p0_skyLoud, .ref a_p0_one, .ref a_p0_other, .ref a_p0_worth, .ref a_p0_hangs, .ref a_p0_now, .ref a_p0_readPerson, .ref a_p0_readSky, .ref a_p0_readOath, .int p0_readPersons, .int p0_readSkies, .int p0_readOaths, .ref a_p0_text, .int p0_length, .int p0_at, .int p0_faultAt, .int p0_acts, .int p0_next, .ref a_p0_row, .int p0_told, .ref a_p0_toldAt, .ref a_p0_toldWool, .ref a_p0_toldHeard, .long p0_seed, .ref a_p0_isKept, .ref a_p0_kept])), (a_p0_one, .inl (cI, 5, .inl p0_one)), (a_p0_other, .inl (cI, 5, .inl p0_other)), (a_p0_worth, .inl (cI, 5, .inl p0_worth)), (a_p0_hangs, .inl (cI, 5, .inl p0_hangs)), (a_p0_now, .inl (cI, 18, .inl p0_now))]) (fun q => q) q := by
  refine CtI.of (cc := cX7_oath) (maxL := 3) (plainFor_of_name (by decide)) rfl (Nat.le_of_ble_eq_true rfl) ?_
  intro p e s m args below meth c A Q H ls hB hE hW hl
  have hx := hB.1
  have hb := hB.2.1
  have hml := hB.2.2.2.1
  have hown : s.vm.findClass RX7 = some m.cls := hB.2.2.2.2.1
  have hts := hB.2.2.2.2.2.1
  have hK := hB.2.2.2.2.2.2.2.1.1
  have hl : lv_has ls 3 [(0, .ref a_p0), (1, .int v1), (2, .int v2)] := hl
  have in_X7 : ∀ w ∈ wsX70, w ∈ wsX7_oath := fun w h => List.mem_cons_of_mem _ (List.mem_append_right _ h)
  have fl_19 : (Cond.fieldLink RX7 19 (TX7 6).1 (TX7 6).2.1 (TX7 6).2.2.1).before args s = true := hts (.fieldLink RX7 19 "ClapOathsModel" "one" "[I") (by decide +kernel)
  have fl_22 : (Cond.fieldLink RX7 22 (TX7 7).1 (TX7 7).2.1 (TX7 7).2.2.1).before args s = true := hts (.fieldLink RX7 22 "ClapOathsModel" "other" "[I") (by decide +kernel)
  have fl_25 : (Cond.fieldLink RX7 25 (TX7 8).1 (TX7 8).2.1 (TX7 8).2.2.1).before args s = true := hts (.fieldLink RX7 25 "ClapOathsModel" "worth" "[I") (by decide +kernel)
  have fl_28 : (Cond.fieldLink RX7 28 (TX7 9).1 (TX7 9).2.1 (TX7 9).2.2.1).before args s = true := hts (.fieldLink RX7 28 "ClapOathsModel" "hangs" "[I") (by decide +kernel)
  have fl_31 : (Cond.fieldLink RX7 31 (TX7 10).1 (TX7 10).2.1 (TX7 10).2.2.1).before args s = true := hts (.fieldLink RX7 31 "ClapOathsModel" "now" "[I") (by decide +kernel)
  unfold f_X7_oath at hf
  refine lv_aload_n hx hb dX7_oath_0 rfl (lv_at hl 0 rfl) ?_
  refine lv_iload_n hx hb dX7_oath_1 rfl (lv_at hl 1 rfl) ?_
  obtain ⟨r_1, hr_1, hf⟩ := bnd hf
  refine q_callVZ hB hW (ci := 7) (q0 := 0) rfl rfl rfl (As := [.int v1]) (rest := []) (ws' := [(a_p0, .inr (7, [.int p0_persons, .int p0_skies, .int p0_oaths, .ref a_p0_kind, .ref a_p0_skyAt, .ref a_p0_skyLoud, .ref a_p0_one, .ref a_p0_other, .ref a_p0_worth, .ref a_p0_hangs, .ref a_p0_now, .ref a_p0_readPerson, .ref a_p0_readSky, .ref a_p0_readOath, .int p0_readPersons, .int p0_readSkies, .int p0_readOaths, .ref a_p0_text, .int p0_length, .int p0_at, .int p0_faultAt, .int p0_acts, .int p0_next, .ref a_p0_row, .int p0_told, .ref a_p0_toldAt, .ref a_p0_toldWool, .ref a_p0_toldHeard, .long p0_seed, .ref a_p0_isKept, .ref a_p0_kept])), (a_p0_one, .inl (cI, 5, .inl p0_one)), (a_p0_other, .inl (cI, 5, .inl p0_other)), (a_p0_worth, .inl (cI, 5, .inl p0_worth)), (a_p0_hangs, .inl (cI, 5, .inl p0_hangs)), (a_p0_now, .inl (cI, 18, .inl p0_now))]) (c_X7_isOath l D cI cZ a_p0 a_p0_kind a_p0_skyAt a_p0_skyLoud a_p0_one a_p0_other a_p0_worth a_p0_hangs a_p0_now a_p0_readPerson a_p0_readSky a_p0_readOath a_p0_text a_p0_row a_p0_toldAt a_p0_toldWool a_p0_toldHeard a_p0_isKept a_p0_kept p0_persons p0_skies p0_oaths p0_readPersons p0_readSkies p0_readOaths p0_length p0_at p0_faultAt p0_acts p0_next p0_told p0_seed v1 r_1 hr_1) (cwV 1 hts gX7_oath_X7_isOath rfl rfl rfl (by decide +kernel) ⟨Nat.le_of_ble_eq_true rfl, Nat.le_of_ble_eq_true rfl⟩) [0] rfl rfl rfl rfl rfl hl.1 rfl (Nat.le_of_ble_eq_true rfl) ⟨Nat.le_of_ble_eq_true rfl, Nat.le_of_ble_eq_true rfl⟩ dX7_oath_2 (fun hzr_1 H locs hW => ?_)
  refine lv_if_ne (tgt := 10) hx hb dX7_oath_5 (by decide) (fun c_2 => ?_) (fun c_2 => ?_)
  · have hf := it_f c_2 hf
    refine lv_iload_n hx hb dX7_oath_10 rfl (lv_at hl 2 rfl) ?_
    by_cases c_3 : v2 = (0 : Int32)
    · have hf := it_t c_3 hf
      refine lv_tableIn (tgt := 44) (off := 33) hx hb dX7_oath_11 (by rw [c_3]; decide) (by rw [c_3]; decide) (by rw [c_3]; rfl) (by decide) ?_
      refine lv_aload_n hx hb dX7_oath_44 rfl (lv_at hl 0 rfl) ?_
      refine q_get hB hW 7 in_X7 0 rfl rfl 6 (by decide) fl_19 (v := .ref a_p0_one) rfl dX7_oath_45 ?_
      refine lv_iload_n hx hb dX7_oath_48 rfl (lv_at hl 1 rfl) ?_
      obtain ⟨r_4, hr_4, hf⟩ := bnd hf
      refine q_iald hB hW 1 rfl hr_4 dX7_oath_49 ?_
      exact hE _ _ _ _ _ r_4 (sm hf) hW rfl dX7_oath_50
    have hf := it_f c_3 hf
    by_cases c_5 : v2 = (1 : Int32)
    · have hf := it_t c_5 hf
      refine lv_tableIn (tgt := 51) (off := 40) hx hb dX7_oath_11 (by rw [c_5]; decide) (by rw [c_5]; decide) (by rw [c_5]; rfl) (by decide) ?_
      refine lv_aload_n hx hb dX7_oath_51 rfl (lv_at hl 0 rfl) ?_
      refine q_get hB hW 7 in_X7 0 rfl rfl 7 (by decide) fl_22 (v := .ref a_p0_other) rfl dX7_oath_52 ?_
      refine lv_iload_n hx hb dX7_oath_55 rfl (lv_at hl 1 rfl) ?_
      obtain ⟨r_6, hr_6, hf⟩ := bnd hf
      refine q_iald hB hW 2 rfl hr_6 dX7_oath_56 ?_
      exact hE _ _ _ _ _ r_6 (sm hf) hW rfl dX7_oath_57
    have hf := it_f c_5 hf
    by_cases c_7 : v2 = (2 : Int32)
    · have hf := it_t c_7 hf
      refine lv_tableIn (tgt := 58) (off := 47) hx hb dX7_oath_11 (by rw [c_7]; decide) (by rw [c_7]; decide) (by rw [c_7]; rfl) (by decide) ?_
      refine lv_aload_n hx hb dX7_oath_58 rfl (lv_at hl 0 rfl) ?_
      refine q_get hB hW 7 in_X7 0 rfl rfl 8 (by decide) fl_25 (v := .ref a_p0_worth) rfl dX7_oath_59 ?_
      refine lv_iload_n hx hb dX7_oath_62 rfl (lv_at hl 1 rfl) ?_
      obtain ⟨r_8, hr_8, hf⟩ := bnd hf
      refine q_iald hB hW 3 rfl hr_8 dX7_oath_63 ?_
      exact hE _ _ _ _ _ r_8 (sm hf) hW rfl dX7_oath_64
    have hf := it_f c_7 hf
    by_cases c_9 : v2 = (3 : Int32)
    · have hf := it_t c_9 hf
      refine lv_tableIn (tgt := 65) (off := 54) hx hb dX7_oath_11 (by rw [c_9]; decide) (by rw [c_9]; decide) (by rw [c_9]; rfl) (by decide) ?_
      refine lv_aload_n hx hb dX7_oath_65 rfl (lv_at hl 0 rfl) ?_
      refine q_get hB hW 7 in_X7 0 rfl rfl 9 (by decide) fl_28 (v := .ref a_p0_hangs) rfl dX7_oath_66 ?_
      refine lv_iload_n hx hb dX7_oath_69 rfl (lv_at hl 1 rfl) ?_
      obtain ⟨r_10, hr_10, hf⟩ := bnd hf
      refine q_iald hB hW 4 rfl hr_10 dX7_oath_70 ?_
      exact hE _ _ _ _ _ r_10 (sm hf) hW rfl dX7_oath_71
    have hf := it_f c_9 hf
    by_cases c_11 : v2 = (4 : Int32)
    · have hf := it_t c_11 hf
      refine lv_tableIn (tgt := 72) (off := 61) hx hb dX7_oath_11 (by rw [c_11]; decide) (by rw [c_11]; decide) (by rw [c_11]; rfl) (by decide) ?_
      refine lv_aload_n hx hb dX7_oath_72 rfl (lv_at hl 0 rfl) ?_
      refine q_get hB hW 7 in_X7 0 rfl rfl 10 (by decide) fl_31 (v := .ref a_p0_now) rfl dX7_oath_73 ?_
      refine lv_bipush (v := 6) hx hb dX7_oath_76 (by decide) ?_
      obtain ⟨r_12, hr_12, hf⟩ := bnd hf
      refine q_iald hB hW 5 rfl hr_12 dX7_oath_78 ?_
      refine lv_iload_n hx hb dX7_oath_79 rfl (lv_at hl 1 rfl) ?_
      refine lv_ishr hx hb dX7_oath_80 ?_
      refine lv_iconst (v := 1) hx hb dX7_oath_81 (by decide) ?_
      refine lv_iand hx hb dX7_oath_82 ?_
      exact hE _ _ _ _ _ ((r_12 >>> (v1 &&& 31)) &&& (1 : Int32)) (sm hf) hW rfl dX7_oath_83
    have hf := it_f c_11 hf
    refine lv_tableOut (tgt := 84) hx hb dX7_oath_11 (sw_out 4 (by decide) (fun j hj => match j, hj with | 0, _ => c_3 | 1, _ => c_5 | 2, _ => c_7 | 3, _ => c_9 | 4, _ => c_11 | _ + 5, hj => absurd hj (by omega))) (by decide) ?_
    refine lv_bipush (v := -2) hx hb dX7_oath_84 (by decide) ?_
    exact hE _ _ _ _ _ (-2 : Int32) (sm hf) hW rfl dX7_oath_86
  · have hf := it_t c_2 hf
    refine lv_iconst (v := -1) hx hb dX7_oath_8 (by decide) ?_
    exact hE _ _ _ _ _ (-1 : Int32) (sm hf) hW rfl dX7_oath_9
def b_X7_keepAct_2 (p0_next : Int32) (p0_now : Nat → Int32) (v1 : Int32) (p0_row : Nat → Int32) : Option ((Int32 × (Nat → Int32)) ⊕ (Nat → Int32)) := if (9 : Int32) ≤ v1 then some (.inr p0_row) else (ald p0_now 18 v1).bind fun r_504 => (ast p0_row 126 (((9 : Int32) * p0_next) + v1) r_504).bind fun r_505 => some (.inl ((v1 + (1 : Int32)), r_505))
def f_X7_keepAct (p0_acts : Int32) (p0_next : Int32) (p0_now : Nat → Int32) (p0_row : Nat → Int32) : Option (Int32 × Int32 × (Nat → Int32)) := (itr (fun s => b_X7_keepAct_2 p0_next p0_now s.1 s.2) FU ((0 : Int32), p0_row)).bind fun x_2 => (some ((p0_next + (1 : Int32)) - (p0_next + (1 : Int32)) / (14 : Int32) * (14 : Int32))).bind fun w_1 => if (14 : Int32) ≤ p0_acts then some ((14 : Int32), w_1, x_2) else (some (p0_acts + (1 : Int32))).bind fun w_3 => some (w_3, w_1, x_2)
set_option maxHeartbeats 4000000 in
set_option maxRecDepth 100000 in
theorem c_X7_keepAct (l : Launch) (D : va_G) (cI cZ : ClassId) (a_p0 a_p0_kind a_p0_skyAt a_p0_skyLoud a_p0_one a_p0_other a_p0_worth a_p0_hangs a_p0_now a_p0_readPerson a_p0_readSky a_p0_readOath a_p0_text a_p0_row a_p0_toldAt a_p0_toldWool a_p0_toldHeard a_p0_isKept a_p0_kept : Nat) (p0_persons : Int32) (p0_skies : Int32) (p0_oaths : Int32) (p0_readPersons : Int32) (p0_readSkies : Int32) (p0_readOaths : Int32) (p0_length : Int32) (p0_at : Int32) (p0_faultAt : Int32) (p0_acts : Int32) (p0_next : Int32) (p0_told : Int32) (p0_seed : Int64) (p0_now : Nat → Int32) (p0_row : Nat → Int32) (q : Int32 × Int32 × (Nat → Int32)) (hf : f_X7_keepAct p0_acts p0_next p0_now p0_row = some q) : CtV l D cI cZ yX7_keepAct wsX7_keepAct 0 0 [.ref a_p0] [(a_p0, .inr (7, [.int p0_persons, .int p0_skies, .int p0_oaths, .ref a_p0_kind, .ref a_p0_skyAt, .ref a_p0_skyLoud, .ref a_p0_one, .ref a_p0_other, .ref a_p0_worth, .ref a_p0_hangs, .ref a_p0_now, .ref a_p0_readPerson, .ref a_p0_readSky, .ref a_p0_readOath, .int p0_readPersons, .int p0_readSkies, .int p0_readOaths, .ref a_p0_text, .int p0_length, .int p0_at, .int p0_faultAt, .int p0_acts, .int p0_next, .ref a_p0_row, .int p0_told, .ref a_p0_toldAt, .ref a_p0_toldWool, .ref a_p0_toldHeard, .long p0_seed, .ref a_p0_isKept, .ref a_p0_kept])), (a_p0_now, .inl (cI, 18, .inl p0_now)), (a_p0_row, .inl (cI, 126, .inl p0_row))] (fun q => [(a_p0, .inr (7, [.int p0_persons, .int p0_skies, .int p0_oaths, .ref a_p0_kind, .ref a_p0_skyAt, .ref a_p0_skyLoud, .ref a_p0_one, .ref a_p0_other, .ref a_p0_worth, .ref a_p0_hangs, .ref a_p0_now, .ref a_p0_readPerson, .ref a_p0_readSky, .ref a_p0_readOath, .int p0_readPersons, .int p0_readSkies, .int p0_readOaths, .ref a_p0_text, .int p0_length, .int p0_at, .int p0_faultAt, .int q.1, .int q.2.1, .ref a_p0_row, .int p0_told, .ref a_p0_toldAt, .ref a_p0_toldWool, .ref a_p0_toldHeard, .long p0_seed, .ref a_p0_isKept, .ref a_p0_kept])), (a_p0_now, .inl (cI, 18, .inl p0_now)), (a_p0_row, .inl (cI, 126, .inl q.2.2))]) q := by
  refine CtV.of (cc := cX7_keepAct) (maxL := 2) (plainFor_of_name (by decide)) rfl (Nat.le_of_ble_eq_true rfl) ?_
  intro p e s m args below meth c A Q H ls hB hE hW hl
  have hx := hB.1
  have hb := hB.2.1
  have hml := hB.2.2.2.1
  have hown : s.vm.findClass RX7 = some m.cls := hB.2.2.2.2.1
  have hts := hB.2.2.2.2.2.1
  have hK := hB.2.2.2.2.2.2.2.1.1
  have hl : lv_has ls 2 [(0, .ref a_p0)] := hl
  have in_X7 : ∀ w ∈ wsX70, w ∈ wsX7_keepAct := fun w h => List.mem_cons_of_mem _ (List.mem_append_right _ h)
  have fl_31 : (Cond.fieldLink RX7 31 (TX7 10).1 (TX7 10).2.1 (TX7 10).2.2.1).before args s = true := hts (.fieldLink RX7 31 "ClapOathsModel" "now" "[I") (by decide +kernel)
  have fl_46 : (Cond.fieldLink RX7 46 (TX7 23).1 (TX7 23).2.1 (TX7 23).2.2.1).before args s = true := hts (.fieldLink RX7 46 "ClapOathsModel" "row" "[I") (by decide +kernel)
  have fl_114 : (Cond.fieldLink RX7 114 (TX7 21).1 (TX7 21).2.1 (TX7 21).2.2.1).before args s = true := hts (.fieldLink RX7 114 "ClapOathsModel" "acts" "I") (by decide +kernel)
  have fl_166 : (Cond.fieldLink RX7 166 (TX7 22).1 (TX7 22).2.1 (TX7 22).2.2.1).before args s = true := hts (.fieldLink RX7 166 "ClapOathsModel" "next" "I") (by decide +kernel)
  unfold f_X7_keepAct at hf
  refine lv_iconst (v := 0) hx hb dX7_keepAct_0 (by decide) ?_
  refine lv_istore_n (lv' := [(1, .int (0 : Int32)), (0, .ref a_p0)]) hx hb dX7_keepAct_1 rfl hl (by decide) rfl (fun ls hl => ?_)
  obtain ⟨e_2, hl_2, hk_2⟩ := bnd hf
  have K_2 : ∀ x_2 : Nat → Int32, x_2 = e_2 → ∀ (H : Heap) (locs : List Loc) (ls : Array Slot), Wl D A s.heap [(a_p0, .inr (7, [.int p0_persons, .int p0_skies, .int p0_oaths, .ref a_p0_kind, .ref a_p0_skyAt, .ref a_p0_skyLoud, .ref a_p0_one, .ref a_p0_other, .ref a_p0_worth, .ref a_p0_hangs, .ref a_p0_now, .ref a_p0_readPerson, .ref a_p0_readSky, .ref a_p0_readOath, .int p0_readPersons, .int p0_readSkies, .int p0_readOaths, .ref a_p0_text, .int p0_length, .int p0_at, .int p0_faultAt, .int p0_acts, .int p0_next, .ref a_p0_row, .int p0_told, .ref a_p0_toldAt, .ref a_p0_toldWool, .ref a_p0_toldHeard, .long p0_seed, .ref a_p0_isKept, .ref a_p0_kept])), (a_p0_now, .inl (cI, 18, .inl p0_now)), (a_p0_row, .inl (cI, 126, .inl x_2))] H locs → lv_has ls 2 [(0, .ref a_p0)] → W p l e (Rm 0 0) s m args below meth c H locs 0 0 Q (F0 m 34 ls []) := by
    intro x_2 hx_2 H locs ls hW hl
    have hf := hk_2
    rw [← hx_2] at hf
    refine lv_aload_n hx hb dX7_keepAct_34 rfl (lv_at hl 0 rfl) ?_
    refine lv_aload_n hx hb dX7_keepAct_35 rfl (lv_at hl 0 rfl) ?_
    refine q_get hB hW 7 in_X7 0 rfl rfl 22 (by decide) fl_166 (v := .int p0_next) rfl dX7_keepAct_36 ?_
    refine lv_iconst (v := 1) hx hb dX7_keepAct_39 (by decide) ?_
    refine lv_iadd hx hb dX7_keepAct_40 ?_
    refine lv_bipush (v := 14) hx hb dX7_keepAct_41 (by decide) ?_
    refine lv_irem hx hb dX7_keepAct_43 (by decide) ?_
    obtain ⟨w_1, hw_1, hf⟩ := bnd hf
    refine q_nmI hw_1 ?_
    refine q_put hB hW 7 in_X7 tyX7 tyX7_ok nmX7 0 rfl rfl 22 (by decide) fl_166 rfl (by first | rfl | decide) (by first | rfl | decide) (Nat.le_of_ble_eq_true rfl) (ws' := [(a_p0, .inr (7, [.int p0_persons, .int p0_skies, .int p0_oaths, .ref a_p0_kind, .ref a_p0_skyAt, .ref a_p0_skyLoud, .ref a_p0_one, .ref a_p0_other, .ref a_p0_worth, .ref a_p0_hangs, .ref a_p0_now, .ref a_p0_readPerson, .ref a_p0_readSky, .ref a_p0_readOath, .int p0_readPersons, .int p0_readSkies, .int p0_readOaths, .ref a_p0_text, .int p0_length, .int p0_at, .int p0_faultAt, .int p0_acts, .int w_1, .ref a_p0_row, .int p0_told, .ref a_p0_toldAt, .ref a_p0_toldWool, .ref a_p0_toldHeard, .long p0_seed, .ref a_p0_isKept, .ref a_p0_kept])), (a_p0_now, .inl (cI, 18, .inl p0_now)), (a_p0_row, .inl (cI, 126, .inl x_2))]) rfl dX7_keepAct_44 (fun H locs hW => ?_)
    refine lv_aload_n hx hb dX7_keepAct_47 rfl (lv_at hl 0 rfl) ?_
    refine lv_aload_n hx hb dX7_keepAct_48 rfl (lv_at hl 0 rfl) ?_
    refine q_get hB hW 7 in_X7 0 rfl rfl 21 (by decide) fl_114 (v := .int p0_acts) rfl dX7_keepAct_49 ?_
    refine lv_bipush (v := 14) hx hb dX7_keepAct_52 (by decide) ?_
    refine lv_icmp_ge (tgt := 66) hx hb dX7_keepAct_54 (by decide) (fun c_2 => ?_) (fun c_2 => ?_)
    · have hf := it_t c_2 hf
      refine lv_bipush (v := 14) hx hb dX7_keepAct_66 (by decide) ?_
      refine q_put hB hW 7 in_X7 tyX7 tyX7_ok nmX7 0 rfl rfl 21 (by decide) fl_114 rfl (by first | rfl | decide) (by first | rfl | decide) (Nat.le_of_ble_eq_true rfl) (ws' := [(a_p0, .inr (7, [.int p0_persons, .int p0_skies, .int p0_oaths, .ref a_p0_kind, .ref a_p0_skyAt, .ref a_p0_skyLoud, .ref a_p0_one, .ref a_p0_other, .ref a_p0_worth, .ref a_p0_hangs, .ref a_p0_now, .ref a_p0_readPerson, .ref a_p0_readSky, .ref a_p0_readOath, .int p0_readPersons, .int p0_readSkies, .int p0_readOaths, .ref a_p0_text, .int p0_length, .int p0_at, .int p0_faultAt, .int (14 : Int32), .int w_1, .ref a_p0_row, .int p0_told, .ref a_p0_toldAt, .ref a_p0_toldWool, .ref a_p0_toldHeard, .long p0_seed, .ref a_p0_isKept, .ref a_p0_kept])), (a_p0_now, .inl (cI, 18, .inl p0_now)), (a_p0_row, .inl (cI, 126, .inl x_2))]) rfl dX7_keepAct_68 (fun H locs hW => ?_)
      exact hE _ _ _ _ ((14 : Int32), w_1, x_2) (sm hf) hW dX7_keepAct_71
    · have hf := it_f c_2 hf
      refine lv_aload_n hx hb dX7_keepAct_57 rfl (lv_at hl 0 rfl) ?_
      refine q_get hB hW 7 in_X7 0 rfl rfl 21 (by decide) fl_114 (v := .int p0_acts) rfl dX7_keepAct_58 ?_
      refine lv_iconst (v := 1) hx hb dX7_keepAct_61 (by decide) ?_
      refine lv_iadd hx hb dX7_keepAct_62 ?_
      refine lv_goto (tgt := 68) hx hb dX7_keepAct_63 (by decide) ?_
      obtain ⟨w_3, hw_3, hf⟩ := bnd hf
      refine q_nmI hw_3 ?_
      refine q_put hB hW 7 in_X7 tyX7 tyX7_ok nmX7 0 rfl rfl 21 (by decide) fl_114 rfl (by first | rfl | decide) (by first | rfl | decide) (Nat.le_of_ble_eq_true rfl) (ws' := [(a_p0, .inr (7, [.int p0_persons, .int p0_skies, .int p0_oaths, .ref a_p0_kind, .ref a_p0_skyAt, .ref a_p0_skyLoud, .ref a_p0_one, .ref a_p0_other, .ref a_p0_worth, .ref a_p0_hangs, .ref a_p0_now, .ref a_p0_readPerson, .ref a_p0_readSky, .ref a_p0_readOath, .int p0_readPersons, .int p0_readSkies, .int p0_readOaths, .ref a_p0_text, .int p0_length, .int p0_at, .int p0_faultAt, .int w_3, .int w_1, .ref a_p0_row, .int p0_told, .ref a_p0_toldAt, .ref a_p0_toldWool, .ref a_p0_toldHeard, .long p0_seed, .ref a_p0_isKept, .ref a_p0_kept])), (a_p0_now, .inl (cI, 18, .inl p0_now)), (a_p0_row, .inl (cI, 126, .inl x_2))]) rfl dX7_keepAct_68 (fun H locs hW => ?_)
      exact hE _ _ _ _ (w_3, w_1, x_2) (sm hf) hW dX7_keepAct_71
  have L_2 : ∀ (n : Nat) (y2_1 : Int32) (y2_p0_row : Nat → Int32) (H : Heap) (locs : List Loc) (ls : Array Slot), itr (fun s => b_X7_keepAct_2 p0_next p0_now s.1 s.2) n (y2_1, y2_p0_row) = some e_2 → Wl D A s.heap [(a_p0, .inr (7, [.int p0_persons, .int p0_skies, .int p0_oaths, .ref a_p0_kind, .ref a_p0_skyAt, .ref a_p0_skyLoud, .ref a_p0_one, .ref a_p0_other, .ref a_p0_worth, .ref a_p0_hangs, .ref a_p0_now, .ref a_p0_readPerson, .ref a_p0_readSky, .ref a_p0_readOath, .int p0_readPersons, .int p0_readSkies, .int p0_readOaths, .ref a_p0_text, .int p0_length, .int p0_at, .int p0_faultAt, .int p0_acts, .int p0_next, .ref a_p0_row, .int p0_told, .ref a_p0_toldAt, .ref a_p0_toldWool, .ref a_p0_toldHeard, .long p0_seed, .ref a_p0_isKept, .ref a_p0_kept])), (a_p0_now, .inl (cI, 18, .inl p0_now)), (a_p0_row, .inl (cI, 126, .inl y2_p0_row))] H locs → lv_has ls 2 [(0, .ref a_p0), (1, .int y2_1)] → W p l e (Rm 0 0) s m args below meth c H locs 0 0 Q (F0 m 2 ls []) := by
    intro n
    induction n with
    | zero => intro y2_1 y2_p0_row H locs ls h9; exact itr_0 h9
    | succ n ih =>
      intro y2_1 y2_p0_row H locs ls hf hW hl
      obtain ⟨o_2, hf, ho_2⟩ := itr_inv hf
      have hf : b_X7_keepAct_2 p0_next p0_now y2_1 y2_p0_row = some o_2 := hf
      unfold b_X7_keepAct_2 at hf
      refine lv_iload_n hx hb dX7_keepAct_2 rfl (lv_at hl 1 rfl) ?_
      refine lv_bipush (v := 9) hx hb dX7_keepAct_3 (by decide) ?_
      refine lv_icmp_ge (tgt := 34) hx hb dX7_keepAct_5 (by decide) (fun c_4 => ?_) (fun c_4 => ?_)
      · have hf := it_t c_4 hf
        have h9 := o_inr hf ho_2
        exact K_2 y2_p0_row h9 _ _ _ hW (lv_sub hl [0] rfl)
      · have hf := it_f c_4 hf
        refine lv_aload_n hx hb dX7_keepAct_8 rfl (lv_at hl 0 rfl) ?_
        refine q_get hB hW 7 in_X7 0 rfl rfl 23 (by decide) fl_46 (v := .ref a_p0_row) rfl dX7_keepAct_9 ?_
        refine lv_bipush (v := 9) hx hb dX7_keepAct_12 (by decide) ?_
        refine lv_aload_n hx hb dX7_keepAct_14 rfl (lv_at hl 0 rfl) ?_
        refine q_get hB hW 7 in_X7 0 rfl rfl 22 (by decide) fl_166 (v := .int p0_next) rfl dX7_keepAct_15 ?_
        refine lv_imul hx hb dX7_keepAct_18 ?_
        refine lv_iload_n hx hb dX7_keepAct_19 rfl (lv_at hl 1 rfl) ?_
        refine lv_iadd hx hb dX7_keepAct_20 ?_
        refine lv_aload_n hx hb dX7_keepAct_21 rfl (lv_at hl 0 rfl) ?_
        refine q_get hB hW 7 in_X7 0 rfl rfl 10 (by decide) fl_31 (v := .ref a_p0_now) rfl dX7_keepAct_22 ?_
        refine lv_iload_n hx hb dX7_keepAct_25 rfl (lv_at hl 1 rfl) ?_
        obtain ⟨r_5, hr_5, hf⟩ := bnd hf
        refine q_iald hB hW 1 rfl hr_5 dX7_keepAct_26 ?_
        obtain ⟨r_6, hr_6, hf⟩ := bnd hf
        refine q_iast hB hW 2 rfl hr_6 (ws' := [(a_p0, .inr (7, [.int p0_persons, .int p0_skies, .int p0_oaths, .ref a_p0_kind, .ref a_p0_skyAt, .ref a_p0_skyLoud, .ref a_p0_one, .ref a_p0_other, .ref a_p0_worth, .ref a_p0_hangs, .ref a_p0_now, .ref a_p0_readPerson, .ref a_p0_readSky, .ref a_p0_readOath, .int p0_readPersons, .int p0_readSkies, .int p0_readOaths, .ref a_p0_text, .int p0_length, .int p0_at, .int p0_faultAt, .int p0_acts, .int p0_next, .ref a_p0_row, .int p0_told, .ref a_p0_toldAt, .ref a_p0_toldWool, .ref a_p0_toldHeard, .long p0_seed, .ref a_p0_isKept, .ref a_p0_kept])), (a_p0_now, .inl (cI, 18, .inl p0_now)), (a_p0_row, .inl (cI, 126, .inl r_6))]) rfl dX7_keepAct_27 (fun H locs hW => ?_)
        refine lv_iinc (v := (y2_1 + (1 : Int32))) (lv' := [(1, .int (y2_1 + (1 : Int32))), (0, .ref a_p0)]) hx hb dX7_keepAct_28 hl (k := 1) rfl rfl (by decide) rfl (fun ls hl => ?_)
        refine lv_goto (tgt := 2) hx hb dX7_keepAct_31 (by decide) ?_
        have h9 := o_inl hf ho_2
        exact ih (y2_1 + (1 : Int32)) r_6 _ _ _ h9 hW (lv_sub hl [1, 0] rfl)
  exact L_2 FU (0 : Int32) p0_row _ _ _ hl_2 hW (lv_sub hl [1, 0] rfl)
def f_X7_day (p0_persons : Int32) (p0_skies : Int32) (p0_oaths : Int32) (p0_acts : Int32) (p0_next : Int32) (p0_kind : Nat → Int32) (p0_skyAt : Nat → Int32) (p0_skyLoud : Nat → Int32) (p0_one : Nat → Int32) (p0_other : Nat → Int32) (p0_worth : Nat → Int32) (p0_hangs : Nat → Int32) (p0_now : Nat → Int32) (p0_row : Nat → Int32) : Option (Int32 × Int32 × Int32 × (Nat → Int32) × (Nat → Int32)) := (f_X7_keepAct p0_acts p0_next p0_now p0_row).bind fun r_1 => (f_X7_passOn (0 : Int32) (1 : Int32) p0_persons p0_skies p0_oaths p0_kind p0_skyAt p0_skyLoud p0_one p0_other p0_worth p0_hangs p0_now).bind fun r_2 => some (r_2.1, r_1.1, r_1.2.1, r_2.2, r_1.2.2)
set_option maxHeartbeats 4000000 in
set_option maxRecDepth 100000 in
theorem c_X7_day (l : Launch) (D : va_G) (cI cZ : ClassId) (a_p0 a_p0_kind a_p0_skyAt a_p0_skyLoud a_p0_one a_p0_other a_p0_worth a_p0_hangs a_p0_now a_p0_readPerson a_p0_readSky a_p0_readOath a_p0_text a_p0_row a_p0_toldAt a_p0_toldWool a_p0_toldHeard a_p0_isKept a_p0_kept : Nat) (p0_persons : Int32) (p0_skies : Int32) (p0_oaths : Int32) (p0_readPersons : Int32) (p0_readSkies : Int32) (p0_readOaths : Int32) (p0_length : Int32) (p0_at : Int32) (p0_faultAt : Int32) (p0_acts : Int32) (p0_next : Int32) (p0_told : Int32) (p0_seed : Int64) (p0_kind : Nat → Int32) (p0_skyAt : Nat → Int32) (p0_skyLoud : Nat → Int32) (p0_one : Nat → Int32) (p0_other : Nat → Int32) (p0_worth : Nat → Int32) (p0_hangs : Nat → Int32) (p0_now : Nat → Int32) (p0_row : Nat → Int32) (q : Int32 × Int32 × Int32 × (Nat → Int32) × (Nat → Int32)) (hf : f_X7_day p0_persons p0_skies p0_oaths p0_acts p0_next p0_kind p0_skyAt p0_skyLoud p0_one p0_other p0_worth p0_hangs p0_now p0_row = some q) : CtI l D cI cZ yX7_day wsX7_day 5 126 [.ref a_p0] [(a_p0, .inr (7, [.int p0_persons, .int p0_skies, .int p0_oaths, .ref a_p0_kind, .ref a_p0_skyAt, .ref a_p0_skyLoud, .ref a_p0_one, .ref a_p0_other, .ref a_p0_worth, .ref a_p0_hangs, .ref a_p0_now, .ref a_p0_readPerson, .ref a_p0_readSky, .ref a_p0_readOath, .int p0_readPersons, .int p0_readSkies, .int p0_readOaths, .ref a_p0_text, .int p0_length, .int p0_at, .int p0_faultAt, .int p0_acts, .int p0_next, .ref a_p0_row, .int p0_told, .ref a_p0_toldAt, .ref a_p0_toldWool, .ref a_p0_toldHeard, .long p0_seed, .ref a_p0_isKept, .ref a_p0_kept])), (a_p0_kind, .inl (cI, 5, .inl p0_kind)), (a_p0_skyAt, .inl (cI, 5, .inl p0_skyAt)), (a_p0_skyLoud, .inl (cI, 5, .inl p0_skyLoud)), (a_p0_one, .inl (cI, 5, .inl p0_one)), (a_p0_other, .inl (cI, 5, .inl p0_other)), (a_p0_worth, .inl (cI, 5, .inl p0_worth)), (a_p0_hangs, .inl (cI, 5, .inl p0_hangs)), (a_p0_now, .inl (cI, 18, .inl p0_now)), (a_p0_row, .inl (cI, 126, .inl p0_row))] (fun q => [(a_p0, .inr (7, [.int p0_persons, .int p0_skies, .int p0_oaths, .ref a_p0_kind, .ref a_p0_skyAt, .ref a_p0_skyLoud, .ref a_p0_one, .ref a_p0_other, .ref a_p0_worth, .ref a_p0_hangs, .ref a_p0_now, .ref a_p0_readPerson, .ref a_p0_readSky, .ref a_p0_readOath, .int p0_readPersons, .int p0_readSkies, .int p0_readOaths, .ref a_p0_text, .int p0_length, .int p0_at, .int p0_faultAt, .int q.2.1, .int q.2.2.1, .ref a_p0_row, .int p0_told, .ref a_p0_toldAt, .ref a_p0_toldWool, .ref a_p0_toldHeard, .long p0_seed, .ref a_p0_isKept, .ref a_p0_kept])), (a_p0_kind, .inl (cI, 5, .inl p0_kind)), (a_p0_skyAt, .inl (cI, 5, .inl p0_skyAt)), (a_p0_skyLoud, .inl (cI, 5, .inl p0_skyLoud)), (a_p0_one, .inl (cI, 5, .inl p0_one)), (a_p0_other, .inl (cI, 5, .inl p0_other)), (a_p0_worth, .inl (cI, 5, .inl p0_worth)), (a_p0_hangs, .inl (cI, 5, .inl p0_hangs)), (a_p0_now, .inl (cI, 18, .inl q.2.2.2.1)), (a_p0_row, .inl (cI, 126, .inl q.2.2.2.2))]) (fun q => q.1) q := by
  refine CtI.of (cc := cX7_day) (maxL := 1) (plainFor_of_name (by decide)) rfl (Nat.le_of_ble_eq_true rfl) ?_
  intro p e s m args below meth c A Q H ls hB hE hW hl
  have hx := hB.1
  have hb := hB.2.1
  have hml := hB.2.2.2.1
  have hown : s.vm.findClass RX7 = some m.cls := hB.2.2.2.2.1
  have hts := hB.2.2.2.2.2.1
  have hK := hB.2.2.2.2.2.2.2.1.1
  have hl : lv_has ls 1 [(0, .ref a_p0)] := hl
  unfold f_X7_day at hf
  refine lv_aload_n hx hb dX7_day_0 rfl (lv_at hl 0 rfl) ?_
  obtain ⟨r_1, hr_1, hf⟩ := bnd hf
  refine q_callVV hB hW (ci := 7) (q0 := 0) rfl rfl rfl (As := []) (rest := []) (ws' := [(a_p0, .inr (7, [.int p0_persons, .int p0_skies, .int p0_oaths, .ref a_p0_kind, .ref a_p0_skyAt, .ref a_p0_skyLoud, .ref a_p0_one, .ref a_p0_other, .ref a_p0_worth, .ref a_p0_hangs, .ref a_p0_now, .ref a_p0_readPerson, .ref a_p0_readSky, .ref a_p0_readOath, .int p0_readPersons, .int p0_readSkies, .int p0_readOaths, .ref a_p0_text, .int p0_length, .int p0_at, .int p0_faultAt, .int r_1.1, .int r_1.2.1, .ref a_p0_row, .int p0_told, .ref a_p0_toldAt, .ref a_p0_toldWool, .ref a_p0_toldHeard, .long p0_seed, .ref a_p0_isKept, .ref a_p0_kept])), (a_p0_kind, .inl (cI, 5, .inl p0_kind)), (a_p0_skyAt, .inl (cI, 5, .inl p0_skyAt)), (a_p0_skyLoud, .inl (cI, 5, .inl p0_skyLoud)), (a_p0_one, .inl (cI, 5, .inl p0_one)), (a_p0_other, .inl (cI, 5, .inl p0_other)), (a_p0_worth, .inl (cI, 5, .inl p0_worth)), (a_p0_hangs, .inl (cI, 5, .inl p0_hangs)), (a_p0_now, .inl (cI, 18, .inl p0_now)), (a_p0_row, .inl (cI, 126, .inl r_1.2.2))]) (c_X7_keepAct l D cI cZ a_p0 a_p0_kind a_p0_skyAt a_p0_skyLoud a_p0_one a_p0_other a_p0_worth a_p0_hangs a_p0_now a_p0_readPerson a_p0_readSky a_p0_readOath a_p0_text a_p0_row a_p0_toldAt a_p0_toldWool a_p0_toldHeard a_p0_isKept a_p0_kept p0_persons p0_skies p0_oaths p0_readPersons p0_readSkies p0_readOaths p0_length p0_at p0_faultAt p0_acts p0_next p0_told p0_seed p0_now p0_row r_1 hr_1) (cwV 0 hts gX7_day_X7_keepAct rfl rfl rfl (by decide +kernel) ⟨Nat.le_of_ble_eq_true rfl, Nat.le_of_ble_eq_true rfl⟩) [0, 8, 9] rfl rfl rfl rfl rfl hl.1 rfl (Nat.le_of_ble_eq_true rfl) ⟨Nat.le_of_ble_eq_true rfl, Nat.le_of_ble_eq_true rfl⟩ dX7_day_1 (fun H locs hW => ?_)
  refine lv_aload_n hx hb dX7_day_4 rfl (lv_at hl 0 rfl) ?_
  refine lv_iconst (v := 0) hx hb dX7_day_5 (by decide) ?_
  refine lv_iconst (v := 1) hx hb dX7_day_6 (by decide) ?_
  obtain ⟨r_2, hr_2, hf⟩ := bnd hf
  refine q_callVI hB hW (ci := 7) (q0 := 0) rfl rfl rfl (As := [.int (0 : Int32), .int (1 : Int32)]) (rest := []) (ws' := [(a_p0, .inr (7, [.int p0_persons, .int p0_skies, .int p0_oaths, .ref a_p0_kind, .ref a_p0_skyAt, .ref a_p0_skyLoud, .ref a_p0_one, .ref a_p0_other, .ref a_p0_worth, .ref a_p0_hangs, .ref a_p0_now, .ref a_p0_readPerson, .ref a_p0_readSky, .ref a_p0_readOath, .int p0_readPersons, .int p0_readSkies, .int p0_readOaths, .ref a_p0_text, .int p0_length, .int p0_at, .int p0_faultAt, .int r_1.1, .int r_1.2.1, .ref a_p0_row, .int p0_told, .ref a_p0_toldAt, .ref a_p0_toldWool, .ref a_p0_toldHeard, .long p0_seed, .ref a_p0_isKept, .ref a_p0_kept])), (a_p0_kind, .inl (cI, 5, .inl p0_kind)), (a_p0_skyAt, .inl (cI, 5, .inl p0_skyAt)), (a_p0_skyLoud, .inl (cI, 5, .inl p0_skyLoud)), (a_p0_one, .inl (cI, 5, .inl p0_one)), (a_p0_other, .inl (cI, 5, .inl p0_other)), (a_p0_worth, .inl (cI, 5, .inl p0_worth)), (a_p0_hangs, .inl (cI, 5, .inl p0_hangs)), (a_p0_now, .inl (cI, 18, .inl r_2.2)), (a_p0_row, .inl (cI, 126, .inl r_1.2.2))]) (c_X7_passOn l D cI cZ a_p0 a_p0_kind a_p0_skyAt a_p0_skyLoud a_p0_one a_p0_other a_p0_worth a_p0_hangs a_p0_now a_p0_readPerson a_p0_readSky a_p0_readOath a_p0_text a_p0_row a_p0_toldAt a_p0_toldWool a_p0_toldHeard a_p0_isKept a_p0_kept p0_persons p0_skies p0_oaths p0_readPersons p0_readSkies p0_readOaths p0_length p0_at p0_faultAt r_1.1 r_1.2.1 p0_told p0_seed p0_kind p0_skyAt p0_skyLoud p0_one p0_other p0_worth p0_hangs p0_now (0 : Int32) (1 : Int32) r_2 hr_2) (cwV 2 hts gX7_day_X7_passOn rfl rfl rfl (by decide +kernel) ⟨Nat.le_of_ble_eq_true rfl, Nat.le_of_ble_eq_true rfl⟩) [0, 1, 2, 3, 4, 5, 6, 7, 8] rfl rfl rfl rfl rfl hl.1 rfl (Nat.le_of_ble_eq_true rfl) ⟨Nat.le_of_ble_eq_true rfl, Nat.le_of_ble_eq_true rfl⟩ dX7_day_7 (fun H locs hW => ?_)
  exact hE _ _ _ _ _ (r_2.1, r_1.1, r_1.2.1, r_2.2, r_1.2.2) (sm hf) hW rfl dX7_day_10
def f_X7_drum (v1 : Int32) (v2 : Int32) (p0_persons : Int32) (p0_oaths : Int32) (p0_acts : Int32) (p0_next : Int32) (p0_kind : Nat → Int32) (p0_one : Nat → Int32) (p0_other : Nat → Int32) (p0_hangs : Nat → Int32) (p0_now : Nat → Int32) (p0_row : Nat → Int32) : Option (Int32 × Int32 × Int32 × (Nat → Int32) × (Nat → Int32)) := (f_X7_isPlace v1).bind fun r_1 => if r_1 = (0 : Int32) then some ((-1 : Int32), p0_acts, p0_next, p0_now, p0_row) else (f_X7_in (Int32.toInt64 v2) (0 : Int64) (9 : Int64)).bind fun r_3 => if r_3 = (0 : Int32) then some ((-2 : Int32), p0_acts, p0_next, p0_now, p0_row) else (f_X7_keepAct p0_acts p0_next p0_now p0_row).bind fun r_5 => (f_X7_clapOn (0 : Int32) v1 v2 p0_persons p0_oaths p0_kind p0_one p0_other p0_hangs p0_now).bind fun r_6 => some (r_6.1, r_5.1, r_5.2.1, r_6.2, r_5.2.2)
set_option maxHeartbeats 4000000 in
set_option maxRecDepth 100000 in
theorem c_X7_drum (l : Launch) (D : va_G) (cI cZ : ClassId) (a_p0 a_p0_kind a_p0_skyAt a_p0_skyLoud a_p0_one a_p0_other a_p0_worth a_p0_hangs a_p0_now a_p0_readPerson a_p0_readSky a_p0_readOath a_p0_text a_p0_row a_p0_toldAt a_p0_toldWool a_p0_toldHeard a_p0_isKept a_p0_kept : Nat) (p0_persons : Int32) (p0_skies : Int32) (p0_oaths : Int32) (p0_readPersons : Int32) (p0_readSkies : Int32) (p0_readOaths : Int32) (p0_length : Int32) (p0_at : Int32) (p0_faultAt : Int32) (p0_acts : Int32) (p0_next : Int32) (p0_told : Int32) (p0_seed : Int64) (p0_kind : Nat → Int32) (p0_one : Nat → Int32) (p0_other : Nat → Int32) (p0_hangs : Nat → Int32) (p0_now : Nat → Int32) (p0_row : Nat → Int32) (v1 : Int32) (v2 : Int32) (q : Int32 × Int32 × Int32 × (Nat → Int32) × (Nat → Int32)) (hf : f_X7_drum v1 v2 p0_persons p0_oaths p0_acts p0_next p0_kind p0_one p0_other p0_hangs p0_now p0_row = some q) : CtI l D cI cZ yX7_drum wsX7_drum 4 100 [.ref a_p0, .int v1, .int v2] [(a_p0, .inr (7, [.int p0_persons, .int p0_skies, .int p0_oaths, .ref a_p0_kind, .ref a_p0_skyAt, .ref a_p0_skyLoud, .ref a_p0_one, .ref a_p0_other, .ref a_p0_worth, .ref a_p0_hangs, .ref a_p0_now, .ref a_p0_readPerson, .ref a_p0_readSky, .ref a_p0_readOath, .int p0_readPersons, .int p0_readSkies, .int p0_readOaths, .ref a_p0_text, .int p0_length, .int p0_at, .int p0_faultAt, .int p0_acts, .int p0_next, .ref a_p0_row, .int p0_told, .ref a_p0_toldAt, .ref a_p0_toldWool, .ref a_p0_toldHeard, .long p0_seed, .ref a_p0_isKept, .ref a_p0_kept])), (a_p0_kind, .inl (cI, 5, .inl p0_kind)), (a_p0_one, .inl (cI, 5, .inl p0_one)), (a_p0_other, .inl (cI, 5, .inl p0_other)), (a_p0_hangs, .inl (cI, 5, .inl p0_hangs)), (a_p0_now, .inl (cI, 18, .inl p0_now)), (a_p0_row, .inl (cI, 126, .inl p0_row))] (fun q => [(a_p0, .inr (7, [.int p0_persons, .int p0_skies, .int p0_oaths, .ref a_p0_kind, .ref a_p0_skyAt, .ref a_p0_skyLoud, .ref a_p0_one, .ref a_p0_other, .ref a_p0_worth, .ref a_p0_hangs, .ref a_p0_now, .ref a_p0_readPerson, .ref a_p0_readSky, .ref a_p0_readOath, .int p0_readPersons, .int p0_readSkies, .int p0_readOaths, .ref a_p0_text, .int p0_length, .int p0_at, .int p0_faultAt, .int q.2.1, .int q.2.2.1, .ref a_p0_row, .int p0_told, .ref a_p0_toldAt, .ref a_p0_toldWool, .ref a_p0_toldHeard, .long p0_seed, .ref a_p0_isKept, .ref a_p0_kept])), (a_p0_kind, .inl (cI, 5, .inl p0_kind)), (a_p0_one, .inl (cI, 5, .inl p0_one)), (a_p0_other, .inl (cI, 5, .inl p0_other)), (a_p0_hangs, .inl (cI, 5, .inl p0_hangs)), (a_p0_now, .inl (cI, 18, .inl q.2.2.2.1)), (a_p0_row, .inl (cI, 126, .inl q.2.2.2.2))]) (fun q => q.1) q := by
  refine CtI.of (cc := cX7_drum) (maxL := 3) (plainFor_of_name (by decide)) rfl (Nat.le_of_ble_eq_true rfl) ?_
  intro p e s m args below meth c A Q H ls hB hE hW hl
  have hx := hB.1
  have hb := hB.2.1
  have hml := hB.2.2.2.1
  have hown : s.vm.findClass RX7 = some m.cls := hB.2.2.2.2.1
  have hts := hB.2.2.2.2.2.1
  have hK := hB.2.2.2.2.2.2.2.1.1
  have hl : lv_has ls 3 [(0, .ref a_p0), (1, .int v1), (2, .int v2)] := hl
  unfold f_X7_drum at hf
  refine lv_iload_n hx hb dX7_drum_0 rfl (lv_at hl 1 rfl) ?_
  obtain ⟨r_1, hr_1, hf⟩ := bnd hf
  refine q_callSZ hB hW (As := [.int v1]) (rest := []) (ws' := [(a_p0, .inr (7, [.int p0_persons, .int p0_skies, .int p0_oaths, .ref a_p0_kind, .ref a_p0_skyAt, .ref a_p0_skyLoud, .ref a_p0_one, .ref a_p0_other, .ref a_p0_worth, .ref a_p0_hangs, .ref a_p0_now, .ref a_p0_readPerson, .ref a_p0_readSky, .ref a_p0_readOath, .int p0_readPersons, .int p0_readSkies, .int p0_readOaths, .ref a_p0_text, .int p0_length, .int p0_at, .int p0_faultAt, .int p0_acts, .int p0_next, .ref a_p0_row, .int p0_told, .ref a_p0_toldAt, .ref a_p0_toldWool, .ref a_p0_toldHeard, .long p0_seed, .ref a_p0_isKept, .ref a_p0_kept])), (a_p0_kind, .inl (cI, 5, .inl p0_kind)), (a_p0_one, .inl (cI, 5, .inl p0_one)), (a_p0_other, .inl (cI, 5, .inl p0_other)), (a_p0_hangs, .inl (cI, 5, .inl p0_hangs)), (a_p0_now, .inl (cI, 18, .inl p0_now)), (a_p0_row, .inl (cI, 126, .inl p0_row))]) (c_X7_isPlace l D cI cZ v1 r_1 hr_1) (va_cwS 1 hts gX7_drum_X7_isPlace rfl rfl rfl (by decide +kernel) ⟨Nat.le_of_ble_eq_true rfl, Nat.le_of_ble_eq_true rfl⟩) [] rfl rfl rfl rfl rfl hl.1 rfl (Nat.le_of_ble_eq_true rfl) ⟨Nat.le_of_ble_eq_true rfl, Nat.le_of_ble_eq_true rfl⟩ dX7_drum_1 (fun hzr_1 H locs hW => ?_)
  refine lv_if_ne (tgt := 9) hx hb dX7_drum_4 (by decide) (fun c_2 => ?_) (fun c_2 => ?_)
  · have hf := it_f c_2 hf
    refine lv_iload_n hx hb dX7_drum_9 rfl (lv_at hl 2 rfl) ?_
    refine lv_i2l (v := (Int32.toInt64 v2)) hx hb dX7_drum_10 rfl ?_
    refine lv_lconst (v := 0) hx hb dX7_drum_11 (by decide) ?_
    refine lv_ldc2 (v := 9) hx hb hown (hts (.constantLong RX7 117 (9)) (by decide +kernel)) dX7_drum_12 ?_
    obtain ⟨r_3, hr_3, hf⟩ := bnd hf
    refine q_callSZ hB hW (As := [.long (Int32.toInt64 v2), .long (0 : Int64), .long (9 : Int64)]) (rest := []) (ws' := [(a_p0, .inr (7, [.int p0_persons, .int p0_skies, .int p0_oaths, .ref a_p0_kind, .ref a_p0_skyAt, .ref a_p0_skyLoud, .ref a_p0_one, .ref a_p0_other, .ref a_p0_worth, .ref a_p0_hangs, .ref a_p0_now, .ref a_p0_readPerson, .ref a_p0_readSky, .ref a_p0_readOath, .int p0_readPersons, .int p0_readSkies, .int p0_readOaths, .ref a_p0_text, .int p0_length, .int p0_at, .int p0_faultAt, .int p0_acts, .int p0_next, .ref a_p0_row, .int p0_told, .ref a_p0_toldAt, .ref a_p0_toldWool, .ref a_p0_toldHeard, .long p0_seed, .ref a_p0_isKept, .ref a_p0_kept])), (a_p0_kind, .inl (cI, 5, .inl p0_kind)), (a_p0_one, .inl (cI, 5, .inl p0_one)), (a_p0_other, .inl (cI, 5, .inl p0_other)), (a_p0_hangs, .inl (cI, 5, .inl p0_hangs)), (a_p0_now, .inl (cI, 18, .inl p0_now)), (a_p0_row, .inl (cI, 126, .inl p0_row))]) (c_X7_in l D cI cZ (Int32.toInt64 v2) (0 : Int64) (9 : Int64) r_3 hr_3) (va_cwS 3 hts gX7_drum_X7_in rfl rfl rfl (by decide +kernel) ⟨Nat.le_of_ble_eq_true rfl, Nat.le_of_ble_eq_true rfl⟩) [] rfl rfl rfl rfl rfl hl.1 rfl (Nat.le_of_ble_eq_true rfl) ⟨Nat.le_of_ble_eq_true rfl, Nat.le_of_ble_eq_true rfl⟩ dX7_drum_15 (fun hzr_3 H locs hW => ?_)
    refine lv_if_ne (tgt := 24) hx hb dX7_drum_18 (by decide) (fun c_4 => ?_) (fun c_4 => ?_)
    · have hf := it_f c_4 hf
      refine lv_aload_n hx hb dX7_drum_24 rfl (lv_at hl 0 rfl) ?_
      obtain ⟨r_5, hr_5, hf⟩ := bnd hf
      refine q_callVV hB hW (ci := 7) (q0 := 0) rfl rfl rfl (As := []) (rest := []) (ws' := [(a_p0, .inr (7, [.int p0_persons, .int p0_skies, .int p0_oaths, .ref a_p0_kind, .ref a_p0_skyAt, .ref a_p0_skyLoud, .ref a_p0_one, .ref a_p0_other, .ref a_p0_worth, .ref a_p0_hangs, .ref a_p0_now, .ref a_p0_readPerson, .ref a_p0_readSky, .ref a_p0_readOath, .int p0_readPersons, .int p0_readSkies, .int p0_readOaths, .ref a_p0_text, .int p0_length, .int p0_at, .int p0_faultAt, .int r_5.1, .int r_5.2.1, .ref a_p0_row, .int p0_told, .ref a_p0_toldAt, .ref a_p0_toldWool, .ref a_p0_toldHeard, .long p0_seed, .ref a_p0_isKept, .ref a_p0_kept])), (a_p0_kind, .inl (cI, 5, .inl p0_kind)), (a_p0_one, .inl (cI, 5, .inl p0_one)), (a_p0_other, .inl (cI, 5, .inl p0_other)), (a_p0_hangs, .inl (cI, 5, .inl p0_hangs)), (a_p0_now, .inl (cI, 18, .inl p0_now)), (a_p0_row, .inl (cI, 126, .inl r_5.2.2))]) (c_X7_keepAct l D cI cZ a_p0 a_p0_kind a_p0_skyAt a_p0_skyLoud a_p0_one a_p0_other a_p0_worth a_p0_hangs a_p0_now a_p0_readPerson a_p0_readSky a_p0_readOath a_p0_text a_p0_row a_p0_toldAt a_p0_toldWool a_p0_toldHeard a_p0_isKept a_p0_kept p0_persons p0_skies p0_oaths p0_readPersons p0_readSkies p0_readOaths p0_length p0_at p0_faultAt p0_acts p0_next p0_told p0_seed p0_now p0_row r_5 hr_5) (cwV 0 hts gX7_drum_X7_keepAct rfl rfl rfl (by decide +kernel) ⟨Nat.le_of_ble_eq_true rfl, Nat.le_of_ble_eq_true rfl⟩) [0, 5, 6] rfl rfl rfl rfl rfl hl.1 rfl (Nat.le_of_ble_eq_true rfl) ⟨Nat.le_of_ble_eq_true rfl, Nat.le_of_ble_eq_true rfl⟩ dX7_drum_25 (fun H locs hW => ?_)
      refine lv_aload_n hx hb dX7_drum_28 rfl (lv_at hl 0 rfl) ?_
      refine lv_iconst (v := 0) hx hb dX7_drum_29 (by decide) ?_
      refine lv_iload_n hx hb dX7_drum_30 rfl (lv_at hl 1 rfl) ?_
      refine lv_iload_n hx hb dX7_drum_31 rfl (lv_at hl 2 rfl) ?_
      obtain ⟨r_6, hr_6, hf⟩ := bnd hf
      refine q_callVI hB hW (ci := 7) (q0 := 0) rfl rfl rfl (As := [.int (0 : Int32), .int v1, .int v2]) (rest := []) (ws' := [(a_p0, .inr (7, [.int p0_persons, .int p0_skies, .int p0_oaths, .ref a_p0_kind, .ref a_p0_skyAt, .ref a_p0_skyLoud, .ref a_p0_one, .ref a_p0_other, .ref a_p0_worth, .ref a_p0_hangs, .ref a_p0_now, .ref a_p0_readPerson, .ref a_p0_readSky, .ref a_p0_readOath, .int p0_readPersons, .int p0_readSkies, .int p0_readOaths, .ref a_p0_text, .int p0_length, .int p0_at, .int p0_faultAt, .int r_5.1, .int r_5.2.1, .ref a_p0_row, .int p0_told, .ref a_p0_toldAt, .ref a_p0_toldWool, .ref a_p0_toldHeard, .long p0_seed, .ref a_p0_isKept, .ref a_p0_kept])), (a_p0_kind, .inl (cI, 5, .inl p0_kind)), (a_p0_one, .inl (cI, 5, .inl p0_one)), (a_p0_other, .inl (cI, 5, .inl p0_other)), (a_p0_hangs, .inl (cI, 5, .inl p0_hangs)), (a_p0_now, .inl (cI, 18, .inl r_6.2)), (a_p0_row, .inl (cI, 126, .inl r_5.2.2))]) (c_X7_clapOn l D cI cZ a_p0 a_p0_kind a_p0_skyAt a_p0_skyLoud a_p0_one a_p0_other a_p0_worth a_p0_hangs a_p0_now a_p0_readPerson a_p0_readSky a_p0_readOath a_p0_text a_p0_row a_p0_toldAt a_p0_toldWool a_p0_toldHeard a_p0_isKept a_p0_kept p0_persons p0_skies p0_oaths p0_readPersons p0_readSkies p0_readOaths p0_length p0_at p0_faultAt r_5.1 r_5.2.1 p0_told p0_seed p0_kind p0_one p0_other p0_hangs p0_now (0 : Int32) v1 v2 r_6 hr_6) (cwV 3 hts gX7_drum_X7_clapOn rfl rfl rfl (by decide +kernel) ⟨Nat.le_of_ble_eq_true rfl, Nat.le_of_ble_eq_true rfl⟩) [0, 1, 2, 3, 4, 5] rfl rfl rfl rfl rfl hl.1 rfl (Nat.le_of_ble_eq_true rfl) ⟨Nat.le_of_ble_eq_true rfl, Nat.le_of_ble_eq_true rfl⟩ dX7_drum_32 (fun H locs hW => ?_)
      exact hE _ _ _ _ _ (r_6.1, r_5.1, r_5.2.1, r_6.2, r_5.2.2) (sm hf) hW rfl dX7_drum_35
    · have hf := it_t c_4 hf
      refine lv_bipush (v := -2) hx hb dX7_drum_21 (by decide) ?_
      exact hE _ _ _ _ _ ((-2 : Int32), p0_acts, p0_next, p0_now, p0_row) (sm hf) hW rfl dX7_drum_23
  · have hf := it_t c_2 hf
    refine lv_iconst (v := -1) hx hb dX7_drum_7 (by decide) ?_
    exact hE _ _ _ _ _ ((-1 : Int32), p0_acts, p0_next, p0_now, p0_row) (sm hf) hW rfl dX7_drum_8
def f_X7_swear (v1 : Int32) (p0_oaths : Int32) (p0_acts : Int32) (p0_next : Int32) (p0_hangs : Nat → Int32) (p0_now : Nat → Int32) (p0_row : Nat → Int32) : Option (Int32 × Int32 × Int32 × (Nat → Int32) × (Nat → Int32)) := (f_X7_isOath v1 p0_oaths).bind fun r_1 => if r_1 = (0 : Int32) then some ((-1 : Int32), p0_acts, p0_next, p0_now, p0_row) else (f_X7_canSwear (0 : Int32) v1 p0_oaths p0_hangs p0_now).bind fun r_3 => if r_3 = (0 : Int32) then some ((-3 : Int32), p0_acts, p0_next, p0_now, p0_row) else (f_X7_keepAct p0_acts p0_next p0_now p0_row).bind fun r_5 => (ald p0_now 18 (6 : Int32)).bind fun r_6 => (ast p0_now 18 (6 : Int32) (r_6 ||| ((1 : Int32) <<< (v1 &&& 31)))).bind fun r_7 => (ald r_7 18 (6 : Int32)).bind fun r_8 => (f_X7_ones r_8).bind fun r_9 => some (r_9, r_5.1, r_5.2.1, r_7, r_5.2.2)
set_option maxHeartbeats 4000000 in
set_option maxRecDepth 100000 in
theorem c_X7_swear (l : Launch) (D : va_G) (cI cZ : ClassId) (a_p0 a_p0_kind a_p0_skyAt a_p0_skyLoud a_p0_one a_p0_other a_p0_worth a_p0_hangs a_p0_now a_p0_readPerson a_p0_readSky a_p0_readOath a_p0_text a_p0_row a_p0_toldAt a_p0_toldWool a_p0_toldHeard a_p0_isKept a_p0_kept : Nat) (p0_persons : Int32) (p0_skies : Int32) (p0_oaths : Int32) (p0_readPersons : Int32) (p0_readSkies : Int32) (p0_readOaths : Int32) (p0_length : Int32) (p0_at : Int32) (p0_faultAt : Int32) (p0_acts : Int32) (p0_next : Int32) (p0_told : Int32) (p0_seed : Int64) (p0_hangs : Nat → Int32) (p0_now : Nat → Int32) (p0_row : Nat → Int32) (v1 : Int32) (q : Int32 × Int32 × Int32 × (Nat → Int32) × (Nat → Int32)) (hf : f_X7_swear v1 p0_oaths p0_acts p0_next p0_hangs p0_now p0_row = some q) : CtI l D cI cZ yX7_swear wsX7_swear 3 69 [.ref a_p0, .int v1] [(a_p0, .inr (7, [.int p0_persons, .int p0_skies, .int p0_oaths, .ref a_p0_kind, .ref a_p0_skyAt, .ref a_p0_skyLoud, .ref a_p0_one, .ref a_p0_other, .ref a_p0_worth, .ref a_p0_hangs, .ref a_p0_now, .ref a_p0_readPerson, .ref a_p0_readSky, .ref a_p0_readOath, .int p0_readPersons, .int p0_readSkies, .int p0_readOaths, .ref a_p0_text, .int p0_length, .int p0_at, .int p0_faultAt, .int p0_acts, .int p0_next, .ref a_p0_row, .int p0_told, .ref a_p0_toldAt, .ref a_p0_toldWool, .ref a_p0_toldHeard, .long p0_seed, .ref a_p0_isKept, .ref a_p0_kept])), (a_p0_hangs, .inl (cI, 5, .inl p0_hangs)), (a_p0_now, .inl (cI, 18, .inl p0_now)), (a_p0_row, .inl (cI, 126, .inl p0_row))] (fun q => [(a_p0, .inr (7, [.int p0_persons, .int p0_skies, .int p0_oaths, .ref a_p0_kind, .ref a_p0_skyAt, .ref a_p0_skyLoud, .ref a_p0_one, .ref a_p0_other, .ref a_p0_worth, .ref a_p0_hangs, .ref a_p0_now, .ref a_p0_readPerson, .ref a_p0_readSky, .ref a_p0_readOath, .int p0_readPersons, .int p0_readSkies, .int p0_readOaths, .ref a_p0_text, .int p0_length, .int p0_at, .int p0_faultAt, .int q.2.1, .int q.2.2.1, .ref a_p0_row, .int p0_told, .ref a_p0_toldAt, .ref a_p0_toldWool, .ref a_p0_toldHeard, .long p0_seed, .ref a_p0_isKept, .ref a_p0_kept])), (a_p0_hangs, .inl (cI, 5, .inl p0_hangs)), (a_p0_now, .inl (cI, 18, .inl q.2.2.2.1)), (a_p0_row, .inl (cI, 126, .inl q.2.2.2.2))]) (fun q => q.1) q := by
  refine CtI.of (cc := cX7_swear) (maxL := 2) (plainFor_of_name (by decide)) rfl (Nat.le_of_ble_eq_true rfl) ?_
  intro p e s m args below meth c A Q H ls hB hE hW hl
  have hx := hB.1
  have hb := hB.2.1
  have hml := hB.2.2.2.1
  have hown : s.vm.findClass RX7 = some m.cls := hB.2.2.2.2.1
  have hts := hB.2.2.2.2.2.1
  have hK := hB.2.2.2.2.2.2.2.1.1
  have hl : lv_has ls 2 [(0, .ref a_p0), (1, .int v1)] := hl
  have in_X7 : ∀ w ∈ wsX70, w ∈ wsX7_swear := fun w h => List.mem_cons_of_mem _ (List.mem_append_right _ h)
  have fl_31 : (Cond.fieldLink RX7 31 (TX7 10).1 (TX7 10).2.1 (TX7 10).2.2.1).before args s = true := hts (.fieldLink RX7 31 "ClapOathsModel" "now" "[I") (by decide +kernel)
  unfold f_X7_swear at hf
  refine lv_aload_n hx hb dX7_swear_0 rfl (lv_at hl 0 rfl) ?_
  refine lv_iload_n hx hb dX7_swear_1 rfl (lv_at hl 1 rfl) ?_
  obtain ⟨r_1, hr_1, hf⟩ := bnd hf
  refine q_callVZ hB hW (ci := 7) (q0 := 0) rfl rfl rfl (As := [.int v1]) (rest := []) (ws' := [(a_p0, .inr (7, [.int p0_persons, .int p0_skies, .int p0_oaths, .ref a_p0_kind, .ref a_p0_skyAt, .ref a_p0_skyLoud, .ref a_p0_one, .ref a_p0_other, .ref a_p0_worth, .ref a_p0_hangs, .ref a_p0_now, .ref a_p0_readPerson, .ref a_p0_readSky, .ref a_p0_readOath, .int p0_readPersons, .int p0_readSkies, .int p0_readOaths, .ref a_p0_text, .int p0_length, .int p0_at, .int p0_faultAt, .int p0_acts, .int p0_next, .ref a_p0_row, .int p0_told, .ref a_p0_toldAt, .ref a_p0_toldWool, .ref a_p0_toldHeard, .long p0_seed, .ref a_p0_isKept, .ref a_p0_kept])), (a_p0_hangs, .inl (cI, 5, .inl p0_hangs)), (a_p0_now, .inl (cI, 18, .inl p0_now)), (a_p0_row, .inl (cI, 126, .inl p0_row))]) (c_X7_isOath l D cI cZ a_p0 a_p0_kind a_p0_skyAt a_p0_skyLoud a_p0_one a_p0_other a_p0_worth a_p0_hangs a_p0_now a_p0_readPerson a_p0_readSky a_p0_readOath a_p0_text a_p0_row a_p0_toldAt a_p0_toldWool a_p0_toldHeard a_p0_isKept a_p0_kept p0_persons p0_skies p0_oaths p0_readPersons p0_readSkies p0_readOaths p0_length p0_at p0_faultAt p0_acts p0_next p0_told p0_seed v1 r_1 hr_1) (cwV 1 hts gX7_swear_X7_isOath rfl rfl rfl (by decide +kernel) ⟨Nat.le_of_ble_eq_true rfl, Nat.le_of_ble_eq_true rfl⟩) [0] rfl rfl rfl rfl rfl hl.1 rfl (Nat.le_of_ble_eq_true rfl) ⟨Nat.le_of_ble_eq_true rfl, Nat.le_of_ble_eq_true rfl⟩ dX7_swear_2 (fun hzr_1 H locs hW => ?_)
  refine lv_if_ne (tgt := 10) hx hb dX7_swear_5 (by decide) (fun c_2 => ?_) (fun c_2 => ?_)
  · have hf := it_f c_2 hf
    refine lv_aload_n hx hb dX7_swear_10 rfl (lv_at hl 0 rfl) ?_
    refine lv_iconst (v := 0) hx hb dX7_swear_11 (by decide) ?_
    refine lv_iload_n hx hb dX7_swear_12 rfl (lv_at hl 1 rfl) ?_
    obtain ⟨r_3, hr_3, hf⟩ := bnd hf
    refine q_callVZ hB hW (ci := 7) (q0 := 0) rfl rfl rfl (As := [.int (0 : Int32), .int v1]) (rest := []) (ws' := [(a_p0, .inr (7, [.int p0_persons, .int p0_skies, .int p0_oaths, .ref a_p0_kind, .ref a_p0_skyAt, .ref a_p0_skyLoud, .ref a_p0_one, .ref a_p0_other, .ref a_p0_worth, .ref a_p0_hangs, .ref a_p0_now, .ref a_p0_readPerson, .ref a_p0_readSky, .ref a_p0_readOath, .int p0_readPersons, .int p0_readSkies, .int p0_readOaths, .ref a_p0_text, .int p0_length, .int p0_at, .int p0_faultAt, .int p0_acts, .int p0_next, .ref a_p0_row, .int p0_told, .ref a_p0_toldAt, .ref a_p0_toldWool, .ref a_p0_toldHeard, .long p0_seed, .ref a_p0_isKept, .ref a_p0_kept])), (a_p0_hangs, .inl (cI, 5, .inl p0_hangs)), (a_p0_now, .inl (cI, 18, .inl p0_now)), (a_p0_row, .inl (cI, 126, .inl p0_row))]) (c_X7_canSwear l D cI cZ a_p0 a_p0_kind a_p0_skyAt a_p0_skyLoud a_p0_one a_p0_other a_p0_worth a_p0_hangs a_p0_now a_p0_readPerson a_p0_readSky a_p0_readOath a_p0_text a_p0_row a_p0_toldAt a_p0_toldWool a_p0_toldHeard a_p0_isKept a_p0_kept p0_persons p0_skies p0_oaths p0_readPersons p0_readSkies p0_readOaths p0_length p0_at p0_faultAt p0_acts p0_next p0_told p0_seed p0_hangs p0_now (0 : Int32) v1 r_3 hr_3) (cwV 2 hts gX7_swear_X7_canSwear rfl rfl rfl (by decide +kernel) ⟨Nat.le_of_ble_eq_true rfl, Nat.le_of_ble_eq_true rfl⟩) [0, 1, 2] rfl rfl rfl rfl rfl hl.1 rfl (Nat.le_of_ble_eq_true rfl) ⟨Nat.le_of_ble_eq_true rfl, Nat.le_of_ble_eq_true rfl⟩ dX7_swear_13 (fun hzr_3 H locs hW => ?_)
    refine lv_if_ne (tgt := 22) hx hb dX7_swear_16 (by decide) (fun c_4 => ?_) (fun c_4 => ?_)
    · have hf := it_f c_4 hf
      refine lv_aload_n hx hb dX7_swear_22 rfl (lv_at hl 0 rfl) ?_
      obtain ⟨r_5, hr_5, hf⟩ := bnd hf
      refine q_callVV hB hW (ci := 7) (q0 := 0) rfl rfl rfl (As := []) (rest := []) (ws' := [(a_p0, .inr (7, [.int p0_persons, .int p0_skies, .int p0_oaths, .ref a_p0_kind, .ref a_p0_skyAt, .ref a_p0_skyLoud, .ref a_p0_one, .ref a_p0_other, .ref a_p0_worth, .ref a_p0_hangs, .ref a_p0_now, .ref a_p0_readPerson, .ref a_p0_readSky, .ref a_p0_readOath, .int p0_readPersons, .int p0_readSkies, .int p0_readOaths, .ref a_p0_text, .int p0_length, .int p0_at, .int p0_faultAt, .int r_5.1, .int r_5.2.1, .ref a_p0_row, .int p0_told, .ref a_p0_toldAt, .ref a_p0_toldWool, .ref a_p0_toldHeard, .long p0_seed, .ref a_p0_isKept, .ref a_p0_kept])), (a_p0_hangs, .inl (cI, 5, .inl p0_hangs)), (a_p0_now, .inl (cI, 18, .inl p0_now)), (a_p0_row, .inl (cI, 126, .inl r_5.2.2))]) (c_X7_keepAct l D cI cZ a_p0 a_p0_kind a_p0_skyAt a_p0_skyLoud a_p0_one a_p0_other a_p0_worth a_p0_hangs a_p0_now a_p0_readPerson a_p0_readSky a_p0_readOath a_p0_text a_p0_row a_p0_toldAt a_p0_toldWool a_p0_toldHeard a_p0_isKept a_p0_kept p0_persons p0_skies p0_oaths p0_readPersons p0_readSkies p0_readOaths p0_length p0_at p0_faultAt p0_acts p0_next p0_told p0_seed p0_now p0_row r_5 hr_5) (cwV 0 hts gX7_swear_X7_keepAct rfl rfl rfl (by decide +kernel) ⟨Nat.le_of_ble_eq_true rfl, Nat.le_of_ble_eq_true rfl⟩) [0, 2, 3] rfl rfl rfl rfl rfl hl.1 rfl (Nat.le_of_ble_eq_true rfl) ⟨Nat.le_of_ble_eq_true rfl, Nat.le_of_ble_eq_true rfl⟩ dX7_swear_23 (fun H locs hW => ?_)
      refine lv_aload_n hx hb dX7_swear_26 rfl (lv_at hl 0 rfl) ?_
      refine q_get hB hW 7 in_X7 0 rfl rfl 10 (by decide) fl_31 (v := .ref a_p0_now) rfl dX7_swear_27 ?_
      refine lv_bipush (v := 6) hx hb dX7_swear_30 (by decide) ?_
      refine lv_dup2_11 hx hb dX7_swear_32 rfl rfl ?_
      obtain ⟨r_6, hr_6, hf⟩ := bnd hf
      refine q_iald hB hW 2 rfl hr_6 dX7_swear_33 ?_
      refine lv_iconst (v := 1) hx hb dX7_swear_34 (by decide) ?_
      refine lv_iload_n hx hb dX7_swear_35 rfl (lv_at hl 1 rfl) ?_
      refine lv_ishl hx hb dX7_swear_36 ?_
      refine lv_ior hx hb dX7_swear_37 ?_
      obtain ⟨r_7, hr_7, hf⟩ := bnd hf
      refine q_iast hB hW 2 rfl hr_7 (ws' := [(a_p0, .inr (7, [.int p0_persons, .int p0_skies, .int p0_oaths, .ref a_p0_kind, .ref a_p0_skyAt, .ref a_p0_skyLoud, .ref a_p0_one, .ref a_p0_other, .ref a_p0_worth, .ref a_p0_hangs, .ref a_p0_now, .ref a_p0_readPerson, .ref a_p0_readSky, .ref a_p0_readOath, .int p0_readPersons, .int p0_readSkies, .int p0_readOaths, .ref a_p0_text, .int p0_length, .int p0_at, .int p0_faultAt, .int r_5.1, .int r_5.2.1, .ref a_p0_row, .int p0_told, .ref a_p0_toldAt, .ref a_p0_toldWool, .ref a_p0_toldHeard, .long p0_seed, .ref a_p0_isKept, .ref a_p0_kept])), (a_p0_hangs, .inl (cI, 5, .inl p0_hangs)), (a_p0_now, .inl (cI, 18, .inl r_7)), (a_p0_row, .inl (cI, 126, .inl r_5.2.2))]) rfl dX7_swear_38 (fun H locs hW => ?_)
      refine lv_aload_n hx hb dX7_swear_39 rfl (lv_at hl 0 rfl) ?_
      refine q_get hB hW 7 in_X7 0 rfl rfl 10 (by decide) fl_31 (v := .ref a_p0_now) rfl dX7_swear_40 ?_
      refine lv_bipush (v := 6) hx hb dX7_swear_43 (by decide) ?_
      obtain ⟨r_8, hr_8, hf⟩ := bnd hf
      refine q_iald hB hW 2 rfl hr_8 dX7_swear_45 ?_
      obtain ⟨r_9, hr_9, hf⟩ := bnd hf
      refine q_callSI hB hW (As := [.int r_8]) (rest := []) (ws' := [(a_p0, .inr (7, [.int p0_persons, .int p0_skies, .int p0_oaths, .ref a_p0_kind, .ref a_p0_skyAt, .ref a_p0_skyLoud, .ref a_p0_one, .ref a_p0_other, .ref a_p0_worth, .ref a_p0_hangs, .ref a_p0_now, .ref a_p0_readPerson, .ref a_p0_readSky, .ref a_p0_readOath, .int p0_readPersons, .int p0_readSkies, .int p0_readOaths, .ref a_p0_text, .int p0_length, .int p0_at, .int p0_faultAt, .int r_5.1, .int r_5.2.1, .ref a_p0_row, .int p0_told, .ref a_p0_toldAt, .ref a_p0_toldWool, .ref a_p0_toldHeard, .long p0_seed, .ref a_p0_isKept, .ref a_p0_kept])), (a_p0_hangs, .inl (cI, 5, .inl p0_hangs)), (a_p0_now, .inl (cI, 18, .inl r_7)), (a_p0_row, .inl (cI, 126, .inl r_5.2.2))]) (c_X7_ones l D cI cZ r_8 r_9 hr_9) (va_cwS 1 hts gX7_swear_X7_ones rfl rfl rfl (by decide +kernel) ⟨Nat.le_of_ble_eq_true rfl, Nat.le_of_ble_eq_true rfl⟩) [] rfl rfl rfl rfl rfl hl.1 rfl (Nat.le_of_ble_eq_true rfl) ⟨Nat.le_of_ble_eq_true rfl, Nat.le_of_ble_eq_true rfl⟩ dX7_swear_46 (fun H locs hW => ?_)
      exact hE _ _ _ _ _ (r_9, r_5.1, r_5.2.1, r_7, r_5.2.2) (sm hf) hW rfl dX7_swear_49
    · have hf := it_t c_4 hf
      refine lv_bipush (v := -3) hx hb dX7_swear_19 (by decide) ?_
      exact hE _ _ _ _ _ ((-3 : Int32), p0_acts, p0_next, p0_now, p0_row) (sm hf) hW rfl dX7_swear_21
  · have hf := it_t c_2 hf
    refine lv_iconst (v := -1) hx hb dX7_swear_8 (by decide) ?_
    exact hE _ _ _ _ _ ((-1 : Int32), p0_acts, p0_next, p0_now, p0_row) (sm hf) hW rfl dX7_swear_9
def f_X7_form (v1 : Int32) (p0_oaths : Int32) (p0_acts : Int32) (p0_next : Int32) (p0_hangs : Nat → Int32) (p0_now : Nat → Int32) (p0_row : Nat → Int32) : Option (Int32 × Int32 × Int32 × (Nat → Int32) × (Nat → Int32)) := (f_X7_isOath v1 p0_oaths).bind fun r_1 => if r_1 = (0 : Int32) then some ((-1 : Int32), p0_acts, p0_next, p0_now, p0_row) else (ald p0_now 18 (6 : Int32)).bind fun r_3 => (f_X7_has r_3 v1).bind fun r_4 => if r_4 = (0 : Int32) then some ((-3 : Int32), p0_acts, p0_next, p0_now, p0_row) else (f_X7_keepAct p0_acts p0_next p0_now p0_row).bind fun r_6 => (f_X7_formOn (0 : Int32) v1 p0_oaths p0_hangs p0_now).bind fun r_7 => some (r_7.1, r_6.1, r_6.2.1, r_7.2, r_6.2.2)
set_option maxHeartbeats 4000000 in
set_option maxRecDepth 100000 in
theorem c_X7_form (l : Launch) (D : va_G) (cI cZ : ClassId) (a_p0 a_p0_kind a_p0_skyAt a_p0_skyLoud a_p0_one a_p0_other a_p0_worth a_p0_hangs a_p0_now a_p0_readPerson a_p0_readSky a_p0_readOath a_p0_text a_p0_row a_p0_toldAt a_p0_toldWool a_p0_toldHeard a_p0_isKept a_p0_kept : Nat) (p0_persons : Int32) (p0_skies : Int32) (p0_oaths : Int32) (p0_readPersons : Int32) (p0_readSkies : Int32) (p0_readOaths : Int32) (p0_length : Int32) (p0_at : Int32) (p0_faultAt : Int32) (p0_acts : Int32) (p0_next : Int32) (p0_told : Int32) (p0_seed : Int64) (p0_hangs : Nat → Int32) (p0_now : Nat → Int32) (p0_row : Nat → Int32) (v1 : Int32) (q : Int32 × Int32 × Int32 × (Nat → Int32) × (Nat → Int32)) (hf : f_X7_form v1 p0_oaths p0_acts p0_next p0_hangs p0_now p0_row = some q) : CtI l D cI cZ yX7_form wsX7_form 3 67 [.ref a_p0, .int v1] [(a_p0, .inr (7, [.int p0_persons, .int p0_skies, .int p0_oaths, .ref a_p0_kind, .ref a_p0_skyAt, .ref a_p0_skyLoud, .ref a_p0_one, .ref a_p0_other, .ref a_p0_worth, .ref a_p0_hangs, .ref a_p0_now, .ref a_p0_readPerson, .ref a_p0_readSky, .ref a_p0_readOath, .int p0_readPersons, .int p0_readSkies, .int p0_readOaths, .ref a_p0_text, .int p0_length, .int p0_at, .int p0_faultAt, .int p0_acts, .int p0_next, .ref a_p0_row, .int p0_told, .ref a_p0_toldAt, .ref a_p0_toldWool, .ref a_p0_toldHeard, .long p0_seed, .ref a_p0_isKept, .ref a_p0_kept])), (a_p0_hangs, .inl (cI, 5, .inl p0_hangs)), (a_p0_now, .inl (cI, 18, .inl p0_now)), (a_p0_row, .inl (cI, 126, .inl p0_row))] (fun q => [(a_p0, .inr (7, [.int p0_persons, .int p0_skies, .int p0_oaths, .ref a_p0_kind, .ref a_p0_skyAt, .ref a_p0_skyLoud, .ref a_p0_one, .ref a_p0_other, .ref a_p0_worth, .ref a_p0_hangs, .ref a_p0_now, .ref a_p0_readPerson, .ref a_p0_readSky, .ref a_p0_readOath, .int p0_readPersons, .int p0_readSkies, .int p0_readOaths, .ref a_p0_text, .int p0_length, .int p0_at, .int p0_faultAt, .int q.2.1, .int q.2.2.1, .ref a_p0_row, .int p0_told, .ref a_p0_toldAt, .ref a_p0_toldWool, .ref a_p0_toldHeard, .long p0_seed, .ref a_p0_isKept, .ref a_p0_kept])), (a_p0_hangs, .inl (cI, 5, .inl p0_hangs)), (a_p0_now, .inl (cI, 18, .inl q.2.2.2.1)), (a_p0_row, .inl (cI, 126, .inl q.2.2.2.2))]) (fun q => q.1) q := by
  refine CtI.of (cc := cX7_form) (maxL := 2) (plainFor_of_name (by decide)) rfl (Nat.le_of_ble_eq_true rfl) ?_
  intro p e s m args below meth c A Q H ls hB hE hW hl
  have hx := hB.1
  have hb := hB.2.1
  have hml := hB.2.2.2.1
  have hown : s.vm.findClass RX7 = some m.cls := hB.2.2.2.2.1
  have hts := hB.2.2.2.2.2.1
  have hK := hB.2.2.2.2.2.2.2.1.1
  have hl : lv_has ls 2 [(0, .ref a_p0), (1, .int v1)] := hl
  have in_X7 : ∀ w ∈ wsX70, w ∈ wsX7_form := fun w h => List.mem_cons_of_mem _ (List.mem_append_right _ h)
  have fl_31 : (Cond.fieldLink RX7 31 (TX7 10).1 (TX7 10).2.1 (TX7 10).2.2.1).before args s = true := hts (.fieldLink RX7 31 "ClapOathsModel" "now" "[I") (by decide +kernel)
  unfold f_X7_form at hf
  refine lv_aload_n hx hb dX7_form_0 rfl (lv_at hl 0 rfl) ?_
  refine lv_iload_n hx hb dX7_form_1 rfl (lv_at hl 1 rfl) ?_
  obtain ⟨r_1, hr_1, hf⟩ := bnd hf
  refine q_callVZ hB hW (ci := 7) (q0 := 0) rfl rfl rfl (As := [.int v1]) (rest := []) (ws' := [(a_p0, .inr (7, [.int p0_persons, .int p0_skies, .int p0_oaths, .ref a_p0_kind, .ref a_p0_skyAt, .ref a_p0_skyLoud, .ref a_p0_one, .ref a_p0_other, .ref a_p0_worth, .ref a_p0_hangs, .ref a_p0_now, .ref a_p0_readPerson, .ref a_p0_readSky, .ref a_p0_readOath, .int p0_readPersons, .int p0_readSkies, .int p0_readOaths, .ref a_p0_text, .int p0_length, .int p0_at, .int p0_faultAt, .int p0_acts, .int p0_next, .ref a_p0_row, .int p0_told, .ref a_p0_toldAt, .ref a_p0_toldWool, .ref a_p0_toldHeard, .long p0_seed, .ref a_p0_isKept, .ref a_p0_kept])), (a_p0_hangs, .inl (cI, 5, .inl p0_hangs)), (a_p0_now, .inl (cI, 18, .inl p0_now)), (a_p0_row, .inl (cI, 126, .inl p0_row))]) (c_X7_isOath l D cI cZ a_p0 a_p0_kind a_p0_skyAt a_p0_skyLoud a_p0_one a_p0_other a_p0_worth a_p0_hangs a_p0_now a_p0_readPerson a_p0_readSky a_p0_readOath a_p0_text a_p0_row a_p0_toldAt a_p0_toldWool a_p0_toldHeard a_p0_isKept a_p0_kept p0_persons p0_skies p0_oaths p0_readPersons p0_readSkies p0_readOaths p0_length p0_at p0_faultAt p0_acts p0_next p0_told p0_seed v1 r_1 hr_1) (cwV 1 hts gX7_form_X7_isOath rfl rfl rfl (by decide +kernel) ⟨Nat.le_of_ble_eq_true rfl, Nat.le_of_ble_eq_true rfl⟩) [0] rfl rfl rfl rfl rfl hl.1 rfl (Nat.le_of_ble_eq_true rfl) ⟨Nat.le_of_ble_eq_true rfl, Nat.le_of_ble_eq_true rfl⟩ dX7_form_2 (fun hzr_1 H locs hW => ?_)
  refine lv_if_ne (tgt := 10) hx hb dX7_form_5 (by decide) (fun c_2 => ?_) (fun c_2 => ?_)
  · have hf := it_f c_2 hf
    refine lv_aload_n hx hb dX7_form_10 rfl (lv_at hl 0 rfl) ?_
    refine q_get hB hW 7 in_X7 0 rfl rfl 10 (by decide) fl_31 (v := .ref a_p0_now) rfl dX7_form_11 ?_
    refine lv_bipush (v := 6) hx hb dX7_form_14 (by decide) ?_
    obtain ⟨r_3, hr_3, hf⟩ := bnd hf
    refine q_iald hB hW 2 rfl hr_3 dX7_form_16 ?_
    refine lv_iload_n hx hb dX7_form_17 rfl (lv_at hl 1 rfl) ?_
    obtain ⟨r_4, hr_4, hf⟩ := bnd hf
    refine q_callSZ hB hW (As := [.int r_3, .int v1]) (rest := []) (ws' := [(a_p0, .inr (7, [.int p0_persons, .int p0_skies, .int p0_oaths, .ref a_p0_kind, .ref a_p0_skyAt, .ref a_p0_skyLoud, .ref a_p0_one, .ref a_p0_other, .ref a_p0_worth, .ref a_p0_hangs, .ref a_p0_now, .ref a_p0_readPerson, .ref a_p0_readSky, .ref a_p0_readOath, .int p0_readPersons, .int p0_readSkies, .int p0_readOaths, .ref a_p0_text, .int p0_length, .int p0_at, .int p0_faultAt, .int p0_acts, .int p0_next, .ref a_p0_row, .int p0_told, .ref a_p0_toldAt, .ref a_p0_toldWool, .ref a_p0_toldHeard, .long p0_seed, .ref a_p0_isKept, .ref a_p0_kept])), (a_p0_hangs, .inl (cI, 5, .inl p0_hangs)), (a_p0_now, .inl (cI, 18, .inl p0_now)), (a_p0_row, .inl (cI, 126, .inl p0_row))]) (c_X7_has l D cI cZ r_3 v1 r_4 hr_4) (va_cwS 2 hts gX7_form_X7_has rfl rfl rfl (by decide +kernel) ⟨Nat.le_of_ble_eq_true rfl, Nat.le_of_ble_eq_true rfl⟩) [] rfl rfl rfl rfl rfl hl.1 rfl (Nat.le_of_ble_eq_true rfl) ⟨Nat.le_of_ble_eq_true rfl, Nat.le_of_ble_eq_true rfl⟩ dX7_form_18 (fun hzr_4 H locs hW => ?_)
    refine lv_if_ne (tgt := 27) hx hb dX7_form_21 (by decide) (fun c_5 => ?_) (fun c_5 => ?_)
    · have hf := it_f c_5 hf
      refine lv_aload_n hx hb dX7_form_27 rfl (lv_at hl 0 rfl) ?_
      obtain ⟨r_6, hr_6, hf⟩ := bnd hf
      refine q_callVV hB hW (ci := 7) (q0 := 0) rfl rfl rfl (As := []) (rest := []) (ws' := [(a_p0, .inr (7, [.int p0_persons, .int p0_skies, .int p0_oaths, .ref a_p0_kind, .ref a_p0_skyAt, .ref a_p0_skyLoud, .ref a_p0_one, .ref a_p0_other, .ref a_p0_worth, .ref a_p0_hangs, .ref a_p0_now, .ref a_p0_readPerson, .ref a_p0_readSky, .ref a_p0_readOath, .int p0_readPersons, .int p0_readSkies, .int p0_readOaths, .ref a_p0_text, .int p0_length, .int p0_at, .int p0_faultAt, .int r_6.1, .int r_6.2.1, .ref a_p0_row, .int p0_told, .ref a_p0_toldAt, .ref a_p0_toldWool, .ref a_p0_toldHeard, .long p0_seed, .ref a_p0_isKept, .ref a_p0_kept])), (a_p0_hangs, .inl (cI, 5, .inl p0_hangs)), (a_p0_now, .inl (cI, 18, .inl p0_now)), (a_p0_row, .inl (cI, 126, .inl r_6.2.2))]) (c_X7_keepAct l D cI cZ a_p0 a_p0_kind a_p0_skyAt a_p0_skyLoud a_p0_one a_p0_other a_p0_worth a_p0_hangs a_p0_now a_p0_readPerson a_p0_readSky a_p0_readOath a_p0_text a_p0_row a_p0_toldAt a_p0_toldWool a_p0_toldHeard a_p0_isKept a_p0_kept p0_persons p0_skies p0_oaths p0_readPersons p0_readSkies p0_readOaths p0_length p0_at p0_faultAt p0_acts p0_next p0_told p0_seed p0_now p0_row r_6 hr_6) (cwV 0 hts gX7_form_X7_keepAct rfl rfl rfl (by decide +kernel) ⟨Nat.le_of_ble_eq_true rfl, Nat.le_of_ble_eq_true rfl⟩) [0, 2, 3] rfl rfl rfl rfl rfl hl.1 rfl (Nat.le_of_ble_eq_true rfl) ⟨Nat.le_of_ble_eq_true rfl, Nat.le_of_ble_eq_true rfl⟩ dX7_form_28 (fun H locs hW => ?_)
      refine lv_aload_n hx hb dX7_form_31 rfl (lv_at hl 0 rfl) ?_
      refine lv_iconst (v := 0) hx hb dX7_form_32 (by decide) ?_
      refine lv_iload_n hx hb dX7_form_33 rfl (lv_at hl 1 rfl) ?_
      obtain ⟨r_7, hr_7, hf⟩ := bnd hf
      refine q_callVI hB hW (ci := 7) (q0 := 0) rfl rfl rfl (As := [.int (0 : Int32), .int v1]) (rest := []) (ws' := [(a_p0, .inr (7, [.int p0_persons, .int p0_skies, .int p0_oaths, .ref a_p0_kind, .ref a_p0_skyAt, .ref a_p0_skyLoud, .ref a_p0_one, .ref a_p0_other, .ref a_p0_worth, .ref a_p0_hangs, .ref a_p0_now, .ref a_p0_readPerson, .ref a_p0_readSky, .ref a_p0_readOath, .int p0_readPersons, .int p0_readSkies, .int p0_readOaths, .ref a_p0_text, .int p0_length, .int p0_at, .int p0_faultAt, .int r_6.1, .int r_6.2.1, .ref a_p0_row, .int p0_told, .ref a_p0_toldAt, .ref a_p0_toldWool, .ref a_p0_toldHeard, .long p0_seed, .ref a_p0_isKept, .ref a_p0_kept])), (a_p0_hangs, .inl (cI, 5, .inl p0_hangs)), (a_p0_now, .inl (cI, 18, .inl r_7.2)), (a_p0_row, .inl (cI, 126, .inl r_6.2.2))]) (c_X7_formOn l D cI cZ a_p0 a_p0_kind a_p0_skyAt a_p0_skyLoud a_p0_one a_p0_other a_p0_worth a_p0_hangs a_p0_now a_p0_readPerson a_p0_readSky a_p0_readOath a_p0_text a_p0_row a_p0_toldAt a_p0_toldWool a_p0_toldHeard a_p0_isKept a_p0_kept p0_persons p0_skies p0_oaths p0_readPersons p0_readSkies p0_readOaths p0_length p0_at p0_faultAt r_6.1 r_6.2.1 p0_told p0_seed p0_hangs p0_now (0 : Int32) v1 r_7 hr_7) (cwV 2 hts gX7_form_X7_formOn rfl rfl rfl (by decide +kernel) ⟨Nat.le_of_ble_eq_true rfl, Nat.le_of_ble_eq_true rfl⟩) [0, 1, 2] rfl rfl rfl rfl rfl hl.1 rfl (Nat.le_of_ble_eq_true rfl) ⟨Nat.le_of_ble_eq_true rfl, Nat.le_of_ble_eq_true rfl⟩ dX7_form_34 (fun H locs hW => ?_)
      exact hE _ _ _ _ _ (r_7.1, r_6.1, r_6.2.1, r_7.2, r_6.2.2) (sm hf) hW rfl dX7_form_37
    · have hf := it_t c_5 hf
      refine lv_bipush (v := -3) hx hb dX7_form_24 (by decide) ?_
      exact hE _ _ _ _ _ ((-3 : Int32), p0_acts, p0_next, p0_now, p0_row) (sm hf) hW rfl dX7_form_26
  · have hf := it_t c_2 hf
    refine lv_iconst (v := -1) hx hb dX7_form_8 (by decide) ?_
    exact hE _ _ _ _ _ ((-1 : Int32), p0_acts, p0_next, p0_now, p0_row) (sm hf) hW rfl dX7_form_9
def f_X7_move (v1 : Int32) (v2 : Int32) (p0_persons : Int32) (p0_acts : Int32) (p0_next : Int32) (p0_now : Nat → Int32) (p0_row : Nat → Int32) : Option (Int32 × Int32 × Int32 × (Nat → Int32) × (Nat → Int32)) := (f_X7_isPerson v1 p0_persons).bind fun r_1 => if r_1 = (0 : Int32) then some ((-1 : Int32), p0_acts, p0_next, p0_now, p0_row) else (f_X7_isPlace v2).bind fun r_3 => if r_3 = (0 : Int32) then some ((-1 : Int32), p0_acts, p0_next, p0_now, p0_row) else (ald p0_now 18 v1).bind fun r_5 => if r_5 = v2 then some ((-3 : Int32), p0_acts, p0_next, p0_now, p0_row) else (f_X7_keepAct p0_acts p0_next p0_now p0_row).bind fun r_7 => (ald p0_now 18 v1).bind fun r_8 => (ast p0_now 18 v1 v2).bind fun r_9 => some (r_8, r_7.1, r_7.2.1, r_9, r_7.2.2)
set_option maxHeartbeats 4000000 in
set_option maxRecDepth 100000 in
theorem c_X7_move (l : Launch) (D : va_G) (cI cZ : ClassId) (a_p0 a_p0_kind a_p0_skyAt a_p0_skyLoud a_p0_one a_p0_other a_p0_worth a_p0_hangs a_p0_now a_p0_readPerson a_p0_readSky a_p0_readOath a_p0_text a_p0_row a_p0_toldAt a_p0_toldWool a_p0_toldHeard a_p0_isKept a_p0_kept : Nat) (p0_persons : Int32) (p0_skies : Int32) (p0_oaths : Int32) (p0_readPersons : Int32) (p0_readSkies : Int32) (p0_readOaths : Int32) (p0_length : Int32) (p0_at : Int32) (p0_faultAt : Int32) (p0_acts : Int32) (p0_next : Int32) (p0_told : Int32) (p0_seed : Int64) (p0_now : Nat → Int32) (p0_row : Nat → Int32) (v1 : Int32) (v2 : Int32) (q : Int32 × Int32 × Int32 × (Nat → Int32) × (Nat → Int32)) (hf : f_X7_move v1 v2 p0_persons p0_acts p0_next p0_now p0_row = some q) : CtI l D cI cZ yX7_move wsX7_move 2 46 [.ref a_p0, .int v1, .int v2] [(a_p0, .inr (7, [.int p0_persons, .int p0_skies, .int p0_oaths, .ref a_p0_kind, .ref a_p0_skyAt, .ref a_p0_skyLoud, .ref a_p0_one, .ref a_p0_other, .ref a_p0_worth, .ref a_p0_hangs, .ref a_p0_now, .ref a_p0_readPerson, .ref a_p0_readSky, .ref a_p0_readOath, .int p0_readPersons, .int p0_readSkies, .int p0_readOaths, .ref a_p0_text, .int p0_length, .int p0_at, .int p0_faultAt, .int p0_acts, .int p0_next, .ref a_p0_row, .int p0_told, .ref a_p0_toldAt, .ref a_p0_toldWool, .ref a_p0_toldHeard, .long p0_seed, .ref a_p0_isKept, .ref a_p0_kept])), (a_p0_now, .inl (cI, 18, .inl p0_now)), (a_p0_row, .inl (cI, 126, .inl p0_row))] (fun q => [(a_p0, .inr (7, [.int p0_persons, .int p0_skies, .int p0_oaths, .ref a_p0_kind, .ref a_p0_skyAt, .ref a_p0_skyLoud, .ref a_p0_one, .ref a_p0_other, .ref a_p0_worth, .ref a_p0_hangs, .ref a_p0_now, .ref a_p0_readPerson, .ref a_p0_readSky, .ref a_p0_readOath, .int p0_readPersons, .int p0_readSkies, .int p0_readOaths, .ref a_p0_text, .int p0_length, .int p0_at, .int p0_faultAt, .int q.2.1, .int q.2.2.1, .ref a_p0_row, .int p0_told, .ref a_p0_toldAt, .ref a_p0_toldWool, .ref a_p0_toldHeard, .long p0_seed, .ref a_p0_isKept, .ref a_p0_kept])), (a_p0_now, .inl (cI, 18, .inl q.2.2.2.1)), (a_p0_row, .inl (cI, 126, .inl q.2.2.2.2))]) (fun q => q.1) q := by
  refine CtI.of (cc := cX7_move) (maxL := 4) (plainFor_of_name (by decide)) rfl (Nat.le_of_ble_eq_true rfl) ?_
  intro p e s m args below meth c A Q H ls hB hE hW hl
  have hx := hB.1
  have hb := hB.2.1
  have hml := hB.2.2.2.1
  have hown : s.vm.findClass RX7 = some m.cls := hB.2.2.2.2.1
  have hts := hB.2.2.2.2.2.1
  have hK := hB.2.2.2.2.2.2.2.1.1
  have hl : lv_has ls 4 [(0, .ref a_p0), (1, .int v1), (2, .int v2)] := hl
  have in_X7 : ∀ w ∈ wsX70, w ∈ wsX7_move := fun w h => List.mem_cons_of_mem _ (List.mem_append_right _ h)
  have fl_31 : (Cond.fieldLink RX7 31 (TX7 10).1 (TX7 10).2.1 (TX7 10).2.2.1).before args s = true := hts (.fieldLink RX7 31 "ClapOathsModel" "now" "[I") (by decide +kernel)
  unfold f_X7_move at hf
  refine lv_aload_n hx hb dX7_move_0 rfl (lv_at hl 0 rfl) ?_
  refine lv_iload_n hx hb dX7_move_1 rfl (lv_at hl 1 rfl) ?_
  obtain ⟨r_1, hr_1, hf⟩ := bnd hf
  refine q_callVZ hB hW (ci := 7) (q0 := 0) rfl rfl rfl (As := [.int v1]) (rest := []) (ws' := [(a_p0, .inr (7, [.int p0_persons, .int p0_skies, .int p0_oaths, .ref a_p0_kind, .ref a_p0_skyAt, .ref a_p0_skyLoud, .ref a_p0_one, .ref a_p0_other, .ref a_p0_worth, .ref a_p0_hangs, .ref a_p0_now, .ref a_p0_readPerson, .ref a_p0_readSky, .ref a_p0_readOath, .int p0_readPersons, .int p0_readSkies, .int p0_readOaths, .ref a_p0_text, .int p0_length, .int p0_at, .int p0_faultAt, .int p0_acts, .int p0_next, .ref a_p0_row, .int p0_told, .ref a_p0_toldAt, .ref a_p0_toldWool, .ref a_p0_toldHeard, .long p0_seed, .ref a_p0_isKept, .ref a_p0_kept])), (a_p0_now, .inl (cI, 18, .inl p0_now)), (a_p0_row, .inl (cI, 126, .inl p0_row))]) (c_X7_isPerson l D cI cZ a_p0 a_p0_kind a_p0_skyAt a_p0_skyLoud a_p0_one a_p0_other a_p0_worth a_p0_hangs a_p0_now a_p0_readPerson a_p0_readSky a_p0_readOath a_p0_text a_p0_row a_p0_toldAt a_p0_toldWool a_p0_toldHeard a_p0_isKept a_p0_kept p0_persons p0_skies p0_oaths p0_readPersons p0_readSkies p0_readOaths p0_length p0_at p0_faultAt p0_acts p0_next p0_told p0_seed v1 r_1 hr_1) (cwV 1 hts gX7_move_X7_isPerson rfl rfl rfl (by decide +kernel) ⟨Nat.le_of_ble_eq_true rfl, Nat.le_of_ble_eq_true rfl⟩) [0] rfl rfl rfl rfl rfl hl.1 rfl (Nat.le_of_ble_eq_true rfl) ⟨Nat.le_of_ble_eq_true rfl, Nat.le_of_ble_eq_true rfl⟩ dX7_move_2 (fun hzr_1 H locs hW => ?_)
  refine lv_if_eq (tgt := 15) hx hb dX7_move_5 (by decide) (fun c_2 => ?_) (fun c_2 => ?_)
  · have hf := it_t c_2 hf
    refine lv_iconst (v := -1) hx hb dX7_move_15 (by decide) ?_
    exact hE _ _ _ _ _ ((-1 : Int32), p0_acts, p0_next, p0_now, p0_row) (sm hf) hW rfl dX7_move_16
  · have hf := it_f c_2 hf
    refine lv_iload_n hx hb dX7_move_8 rfl (lv_at hl 2 rfl) ?_
    obtain ⟨r_3, hr_3, hf⟩ := bnd hf
    refine q_callSZ hB hW (As := [.int v2]) (rest := []) (ws' := [(a_p0, .inr (7, [.int p0_persons, .int p0_skies, .int p0_oaths, .ref a_p0_kind, .ref a_p0_skyAt, .ref a_p0_skyLoud, .ref a_p0_one, .ref a_p0_other, .ref a_p0_worth, .ref a_p0_hangs, .ref a_p0_now, .ref a_p0_readPerson, .ref a_p0_readSky, .ref a_p0_readOath, .int p0_readPersons, .int p0_readSkies, .int p0_readOaths, .ref a_p0_text, .int p0_length, .int p0_at, .int p0_faultAt, .int p0_acts, .int p0_next, .ref a_p0_row, .int p0_told, .ref a_p0_toldAt, .ref a_p0_toldWool, .ref a_p0_toldHeard, .long p0_seed, .ref a_p0_isKept, .ref a_p0_kept])), (a_p0_now, .inl (cI, 18, .inl p0_now)), (a_p0_row, .inl (cI, 126, .inl p0_row))]) (c_X7_isPlace l D cI cZ v2 r_3 hr_3) (va_cwS 1 hts gX7_move_X7_isPlace rfl rfl rfl (by decide +kernel) ⟨Nat.le_of_ble_eq_true rfl, Nat.le_of_ble_eq_true rfl⟩) [] rfl rfl rfl rfl rfl hl.1 rfl (Nat.le_of_ble_eq_true rfl) ⟨Nat.le_of_ble_eq_true rfl, Nat.le_of_ble_eq_true rfl⟩ dX7_move_9 (fun hzr_3 H locs hW => ?_)
    refine lv_if_ne (tgt := 17) hx hb dX7_move_12 (by decide) (fun c_4 => ?_) (fun c_4 => ?_)
    · have hf := it_f c_4 hf
      refine lv_aload_n hx hb dX7_move_17 rfl (lv_at hl 0 rfl) ?_
      refine q_get hB hW 7 in_X7 0 rfl rfl 10 (by decide) fl_31 (v := .ref a_p0_now) rfl dX7_move_18 ?_
      refine lv_iload_n hx hb dX7_move_21 rfl (lv_at hl 1 rfl) ?_
      obtain ⟨r_5, hr_5, hf⟩ := bnd hf
      refine q_iald hB hW 1 rfl hr_5 dX7_move_22 ?_
      refine lv_iload_n hx hb dX7_move_23 rfl (lv_at hl 2 rfl) ?_
      refine lv_icmp_ne (tgt := 30) hx hb dX7_move_24 (by decide) (fun c_6 => ?_) (fun c_6 => ?_)
      · have hf := it_f c_6 hf
        refine lv_aload_n hx hb dX7_move_30 rfl (lv_at hl 0 rfl) ?_
        obtain ⟨r_7, hr_7, hf⟩ := bnd hf
        refine q_callVV hB hW (ci := 7) (q0 := 0) rfl rfl rfl (As := []) (rest := []) (ws' := [(a_p0, .inr (7, [.int p0_persons, .int p0_skies, .int p0_oaths, .ref a_p0_kind, .ref a_p0_skyAt, .ref a_p0_skyLoud, .ref a_p0_one, .ref a_p0_other, .ref a_p0_worth, .ref a_p0_hangs, .ref a_p0_now, .ref a_p0_readPerson, .ref a_p0_readSky, .ref a_p0_readOath, .int p0_readPersons, .int p0_readSkies, .int p0_readOaths, .ref a_p0_text, .int p0_length, .int p0_at, .int p0_faultAt, .int r_7.1, .int r_7.2.1, .ref a_p0_row, .int p0_told, .ref a_p0_toldAt, .ref a_p0_toldWool, .ref a_p0_toldHeard, .long p0_seed, .ref a_p0_isKept, .ref a_p0_kept])), (a_p0_now, .inl (cI, 18, .inl p0_now)), (a_p0_row, .inl (cI, 126, .inl r_7.2.2))]) (c_X7_keepAct l D cI cZ a_p0 a_p0_kind a_p0_skyAt a_p0_skyLoud a_p0_one a_p0_other a_p0_worth a_p0_hangs a_p0_now a_p0_readPerson a_p0_readSky a_p0_readOath a_p0_text a_p0_row a_p0_toldAt a_p0_toldWool a_p0_toldHeard a_p0_isKept a_p0_kept p0_persons p0_skies p0_oaths p0_readPersons p0_readSkies p0_readOaths p0_length p0_at p0_faultAt p0_acts p0_next p0_told p0_seed p0_now p0_row r_7 hr_7) (cwV 0 hts gX7_move_X7_keepAct rfl rfl rfl (by decide +kernel) ⟨Nat.le_of_ble_eq_true rfl, Nat.le_of_ble_eq_true rfl⟩) [0, 1, 2] rfl rfl rfl rfl rfl hl.1 rfl (Nat.le_of_ble_eq_true rfl) ⟨Nat.le_of_ble_eq_true rfl, Nat.le_of_ble_eq_true rfl⟩ dX7_move_31 (fun H locs hW => ?_)
        refine lv_aload_n hx hb dX7_move_34 rfl (lv_at hl 0 rfl) ?_
        refine q_get hB hW 7 in_X7 0 rfl rfl 10 (by decide) fl_31 (v := .ref a_p0_now) rfl dX7_move_35 ?_
        refine lv_iload_n hx hb dX7_move_38 rfl (lv_at hl 1 rfl) ?_
        obtain ⟨r_8, hr_8, hf⟩ := bnd hf
        refine q_iald hB hW 1 rfl hr_8 dX7_move_39 ?_
        refine lv_istore_n (lv' := [(3, .int r_8), (0, .ref a_p0), (1, .int v1), (2, .int v2)]) hx hb dX7_move_40 rfl hl (by decide) rfl (fun ls hl => ?_)
        refine lv_aload_n hx hb dX7_move_41 rfl (lv_at hl 1 rfl) ?_
        refine q_get hB hW 7 in_X7 0 rfl rfl 10 (by decide) fl_31 (v := .ref a_p0_now) rfl dX7_move_42 ?_
        refine lv_iload_n hx hb dX7_move_45 rfl (lv_at hl 2 rfl) ?_
        refine lv_iload_n hx hb dX7_move_46 rfl (lv_at hl 3 rfl) ?_
        obtain ⟨r_9, hr_9, hf⟩ := bnd hf
        refine q_iast hB hW 1 rfl hr_9 (ws' := [(a_p0, .inr (7, [.int p0_persons, .int p0_skies, .int p0_oaths, .ref a_p0_kind, .ref a_p0_skyAt, .ref a_p0_skyLoud, .ref a_p0_one, .ref a_p0_other, .ref a_p0_worth, .ref a_p0_hangs, .ref a_p0_now, .ref a_p0_readPerson, .ref a_p0_readSky, .ref a_p0_readOath, .int p0_readPersons, .int p0_readSkies, .int p0_readOaths, .ref a_p0_text, .int p0_length, .int p0_at, .int p0_faultAt, .int r_7.1, .int r_7.2.1, .ref a_p0_row, .int p0_told, .ref a_p0_toldAt, .ref a_p0_toldWool, .ref a_p0_toldHeard, .long p0_seed, .ref a_p0_isKept, .ref a_p0_kept])), (a_p0_now, .inl (cI, 18, .inl r_9)), (a_p0_row, .inl (cI, 126, .inl r_7.2.2))]) rfl dX7_move_47 (fun H locs hW => ?_)
        refine lv_iload_n hx hb dX7_move_48 rfl (lv_at hl 0 rfl) ?_
        exact hE _ _ _ _ _ (r_8, r_7.1, r_7.2.1, r_9, r_7.2.2) (sm hf) hW rfl dX7_move_49
      · have hf := it_t c_6 hf
        refine lv_bipush (v := -3) hx hb dX7_move_27 (by decide) ?_
        exact hE _ _ _ _ _ ((-3 : Int32), p0_acts, p0_next, p0_now, p0_row) (sm hf) hW rfl dX7_move_29
    · have hf := it_t c_4 hf
      refine lv_iconst (v := -1) hx hb dX7_move_15 (by decide) ?_
      exact hE _ _ _ _ _ ((-1 : Int32), p0_acts, p0_next, p0_now, p0_row) (sm hf) hW rfl dX7_move_16
def f_X7_wool (v1 : Int32) (p0_persons : Int32) (p0_acts : Int32) (p0_next : Int32) (p0_kind : Nat → Int32) (p0_now : Nat → Int32) (p0_row : Nat → Int32) : Option (Int32 × Int32 × Int32 × (Nat → Int32) × (Nat → Int32)) := (f_X7_isPerson v1 p0_persons).bind fun r_1 => if r_1 = (0 : Int32) then some ((-1 : Int32), p0_acts, p0_next, p0_now, p0_row) else (f_X7_canWool v1 p0_persons p0_kind).bind fun r_3 => if r_3 = (0 : Int32) then some ((-3 : Int32), p0_acts, p0_next, p0_now, p0_row) else (f_X7_keepAct p0_acts p0_next p0_now p0_row).bind fun r_5 => (ald p0_now 18 (5 : Int32)).bind fun r_6 => (ast p0_now 18 (5 : Int32) (r_6 ^^^ ((1 : Int32) <<< (v1 &&& 31)))).bind fun r_7 => (ald r_7 18 (5 : Int32)).bind fun r_8 => some (((r_8 >>> (v1 &&& 31)) &&& (1 : Int32)), r_5.1, r_5.2.1, r_7, r_5.2.2)
set_option maxHeartbeats 4000000 in
set_option maxRecDepth 100000 in
theorem c_X7_wool (l : Launch) (D : va_G) (cI cZ : ClassId) (a_p0 a_p0_kind a_p0_skyAt a_p0_skyLoud a_p0_one a_p0_other a_p0_worth a_p0_hangs a_p0_now a_p0_readPerson a_p0_readSky a_p0_readOath a_p0_text a_p0_row a_p0_toldAt a_p0_toldWool a_p0_toldHeard a_p0_isKept a_p0_kept : Nat) (p0_persons : Int32) (p0_skies : Int32) (p0_oaths : Int32) (p0_readPersons : Int32) (p0_readSkies : Int32) (p0_readOaths : Int32) (p0_length : Int32) (p0_at : Int32) (p0_faultAt : Int32) (p0_acts : Int32) (p0_next : Int32) (p0_told : Int32) (p0_seed : Int64) (p0_kind : Nat → Int32) (p0_now : Nat → Int32) (p0_row : Nat → Int32) (v1 : Int32) (q : Int32 × Int32 × Int32 × (Nat → Int32) × (Nat → Int32)) (hf : f_X7_wool v1 p0_persons p0_acts p0_next p0_kind p0_now p0_row = some q) : CtI l D cI cZ yX7_wool wsX7_wool 3 67 [.ref a_p0, .int v1] [(a_p0, .inr (7, [.int p0_persons, .int p0_skies, .int p0_oaths, .ref a_p0_kind, .ref a_p0_skyAt, .ref a_p0_skyLoud, .ref a_p0_one, .ref a_p0_other, .ref a_p0_worth, .ref a_p0_hangs, .ref a_p0_now, .ref a_p0_readPerson, .ref a_p0_readSky, .ref a_p0_readOath, .int p0_readPersons, .int p0_readSkies, .int p0_readOaths, .ref a_p0_text, .int p0_length, .int p0_at, .int p0_faultAt, .int p0_acts, .int p0_next, .ref a_p0_row, .int p0_told, .ref a_p0_toldAt, .ref a_p0_toldWool, .ref a_p0_toldHeard, .long p0_seed, .ref a_p0_isKept, .ref a_p0_kept])), (a_p0_kind, .inl (cI, 5, .inl p0_kind)), (a_p0_now, .inl (cI, 18, .inl p0_now)), (a_p0_row, .inl (cI, 126, .inl p0_row))] (fun q => [(a_p0, .inr (7, [.int p0_persons, .int p0_skies, .int p0_oaths, .ref a_p0_kind, .ref a_p0_skyAt, .ref a_p0_skyLoud, .ref a_p0_one, .ref a_p0_other, .ref a_p0_worth, .ref a_p0_hangs, .ref a_p0_now, .ref a_p0_readPerson, .ref a_p0_readSky, .ref a_p0_readOath, .int p0_readPersons, .int p0_readSkies, .int p0_readOaths, .ref a_p0_text, .int p0_length, .int p0_at, .int p0_faultAt, .int q.2.1, .int q.2.2.1, .ref a_p0_row, .int p0_told, .ref a_p0_toldAt, .ref a_p0_toldWool, .ref a_p0_toldHeard, .long p0_seed, .ref a_p0_isKept, .ref a_p0_kept])), (a_p0_kind, .inl (cI, 5, .inl p0_kind)), (a_p0_now, .inl (cI, 18, .inl q.2.2.2.1)), (a_p0_row, .inl (cI, 126, .inl q.2.2.2.2))]) (fun q => q.1) q := by
  refine CtI.of (cc := cX7_wool) (maxL := 2) (plainFor_of_name (by decide)) rfl (Nat.le_of_ble_eq_true rfl) ?_
  intro p e s m args below meth c A Q H ls hB hE hW hl
  have hx := hB.1
  have hb := hB.2.1
  have hml := hB.2.2.2.1
  have hown : s.vm.findClass RX7 = some m.cls := hB.2.2.2.2.1
  have hts := hB.2.2.2.2.2.1
  have hK := hB.2.2.2.2.2.2.2.1.1
  have hl : lv_has ls 2 [(0, .ref a_p0), (1, .int v1)] := hl
  have in_X7 : ∀ w ∈ wsX70, w ∈ wsX7_wool := fun w h => List.mem_cons_of_mem _ (List.mem_append_right _ h)
  have fl_31 : (Cond.fieldLink RX7 31 (TX7 10).1 (TX7 10).2.1 (TX7 10).2.2.1).before args s = true := hts (.fieldLink RX7 31 "ClapOathsModel" "now" "[I") (by decide +kernel)
  unfold f_X7_wool at hf
  refine lv_aload_n hx hb dX7_wool_0 rfl (lv_at hl 0 rfl) ?_
  refine lv_iload_n hx hb dX7_wool_1 rfl (lv_at hl 1 rfl) ?_
  obtain ⟨r_1, hr_1, hf⟩ := bnd hf
  refine q_callVZ hB hW (ci := 7) (q0 := 0) rfl rfl rfl (As := [.int v1]) (rest := []) (ws' := [(a_p0, .inr (7, [.int p0_persons, .int p0_skies, .int p0_oaths, .ref a_p0_kind, .ref a_p0_skyAt, .ref a_p0_skyLoud, .ref a_p0_one, .ref a_p0_other, .ref a_p0_worth, .ref a_p0_hangs, .ref a_p0_now, .ref a_p0_readPerson, .ref a_p0_readSky, .ref a_p0_readOath, .int p0_readPersons, .int p0_readSkies, .int p0_readOaths, .ref a_p0_text, .int p0_length, .int p0_at, .int p0_faultAt, .int p0_acts, .int p0_next, .ref a_p0_row, .int p0_told, .ref a_p0_toldAt, .ref a_p0_toldWool, .ref a_p0_toldHeard, .long p0_seed, .ref a_p0_isKept, .ref a_p0_kept])), (a_p0_kind, .inl (cI, 5, .inl p0_kind)), (a_p0_now, .inl (cI, 18, .inl p0_now)), (a_p0_row, .inl (cI, 126, .inl p0_row))]) (c_X7_isPerson l D cI cZ a_p0 a_p0_kind a_p0_skyAt a_p0_skyLoud a_p0_one a_p0_other a_p0_worth a_p0_hangs a_p0_now a_p0_readPerson a_p0_readSky a_p0_readOath a_p0_text a_p0_row a_p0_toldAt a_p0_toldWool a_p0_toldHeard a_p0_isKept a_p0_kept p0_persons p0_skies p0_oaths p0_readPersons p0_readSkies p0_readOaths p0_length p0_at p0_faultAt p0_acts p0_next p0_told p0_seed v1 r_1 hr_1) (cwV 1 hts gX7_wool_X7_isPerson rfl rfl rfl (by decide +kernel) ⟨Nat.le_of_ble_eq_true rfl, Nat.le_of_ble_eq_true rfl⟩) [0] rfl rfl rfl rfl rfl hl.1 rfl (Nat.le_of_ble_eq_true rfl) ⟨Nat.le_of_ble_eq_true rfl, Nat.le_of_ble_eq_true rfl⟩ dX7_wool_2 (fun hzr_1 H locs hW => ?_)
  refine lv_if_ne (tgt := 10) hx hb dX7_wool_5 (by decide) (fun c_2 => ?_) (fun c_2 => ?_)
  · have hf := it_f c_2 hf
    refine lv_aload_n hx hb dX7_wool_10 rfl (lv_at hl 0 rfl) ?_
    refine lv_iload_n hx hb dX7_wool_11 rfl (lv_at hl 1 rfl) ?_
    obtain ⟨r_3, hr_3, hf⟩ := bnd hf
    refine q_callVZ hB hW (ci := 7) (q0 := 0) rfl rfl rfl (As := [.int v1]) (rest := []) (ws' := [(a_p0, .inr (7, [.int p0_persons, .int p0_skies, .int p0_oaths, .ref a_p0_kind, .ref a_p0_skyAt, .ref a_p0_skyLoud, .ref a_p0_one, .ref a_p0_other, .ref a_p0_worth, .ref a_p0_hangs, .ref a_p0_now, .ref a_p0_readPerson, .ref a_p0_readSky, .ref a_p0_readOath, .int p0_readPersons, .int p0_readSkies, .int p0_readOaths, .ref a_p0_text, .int p0_length, .int p0_at, .int p0_faultAt, .int p0_acts, .int p0_next, .ref a_p0_row, .int p0_told, .ref a_p0_toldAt, .ref a_p0_toldWool, .ref a_p0_toldHeard, .long p0_seed, .ref a_p0_isKept, .ref a_p0_kept])), (a_p0_kind, .inl (cI, 5, .inl p0_kind)), (a_p0_now, .inl (cI, 18, .inl p0_now)), (a_p0_row, .inl (cI, 126, .inl p0_row))]) (c_X7_canWool l D cI cZ a_p0 a_p0_kind a_p0_skyAt a_p0_skyLoud a_p0_one a_p0_other a_p0_worth a_p0_hangs a_p0_now a_p0_readPerson a_p0_readSky a_p0_readOath a_p0_text a_p0_row a_p0_toldAt a_p0_toldWool a_p0_toldHeard a_p0_isKept a_p0_kept p0_persons p0_skies p0_oaths p0_readPersons p0_readSkies p0_readOaths p0_length p0_at p0_faultAt p0_acts p0_next p0_told p0_seed p0_kind v1 r_3 hr_3) (cwV 1 hts gX7_wool_X7_canWool rfl rfl rfl (by decide +kernel) ⟨Nat.le_of_ble_eq_true rfl, Nat.le_of_ble_eq_true rfl⟩) [0, 1] rfl rfl rfl rfl rfl hl.1 rfl (Nat.le_of_ble_eq_true rfl) ⟨Nat.le_of_ble_eq_true rfl, Nat.le_of_ble_eq_true rfl⟩ dX7_wool_12 (fun hzr_3 H locs hW => ?_)
    refine lv_if_ne (tgt := 21) hx hb dX7_wool_15 (by decide) (fun c_4 => ?_) (fun c_4 => ?_)
    · have hf := it_f c_4 hf
      refine lv_aload_n hx hb dX7_wool_21 rfl (lv_at hl 0 rfl) ?_
      obtain ⟨r_5, hr_5, hf⟩ := bnd hf
      refine q_callVV hB hW (ci := 7) (q0 := 0) rfl rfl rfl (As := []) (rest := []) (ws' := [(a_p0, .inr (7, [.int p0_persons, .int p0_skies, .int p0_oaths, .ref a_p0_kind, .ref a_p0_skyAt, .ref a_p0_skyLoud, .ref a_p0_one, .ref a_p0_other, .ref a_p0_worth, .ref a_p0_hangs, .ref a_p0_now, .ref a_p0_readPerson, .ref a_p0_readSky, .ref a_p0_readOath, .int p0_readPersons, .int p0_readSkies, .int p0_readOaths, .ref a_p0_text, .int p0_length, .int p0_at, .int p0_faultAt, .int r_5.1, .int r_5.2.1, .ref a_p0_row, .int p0_told, .ref a_p0_toldAt, .ref a_p0_toldWool, .ref a_p0_toldHeard, .long p0_seed, .ref a_p0_isKept, .ref a_p0_kept])), (a_p0_kind, .inl (cI, 5, .inl p0_kind)), (a_p0_now, .inl (cI, 18, .inl p0_now)), (a_p0_row, .inl (cI, 126, .inl r_5.2.2))]) (c_X7_keepAct l D cI cZ a_p0 a_p0_kind a_p0_skyAt a_p0_skyLoud a_p0_one a_p0_other a_p0_worth a_p0_hangs a_p0_now a_p0_readPerson a_p0_readSky a_p0_readOath a_p0_text a_p0_row a_p0_toldAt a_p0_toldWool a_p0_toldHeard a_p0_isKept a_p0_kept p0_persons p0_skies p0_oaths p0_readPersons p0_readSkies p0_readOaths p0_length p0_at p0_faultAt p0_acts p0_next p0_told p0_seed p0_now p0_row r_5 hr_5) (cwV 0 hts gX7_wool_X7_keepAct rfl rfl rfl (by decide +kernel) ⟨Nat.le_of_ble_eq_true rfl, Nat.le_of_ble_eq_true rfl⟩) [0, 2, 3] rfl rfl rfl rfl rfl hl.1 rfl (Nat.le_of_ble_eq_true rfl) ⟨Nat.le_of_ble_eq_true rfl, Nat.le_of_ble_eq_true rfl⟩ dX7_wool_22 (fun H locs hW => ?_)
      refine lv_aload_n hx hb dX7_wool_25 rfl (lv_at hl 0 rfl) ?_
      refine q_get hB hW 7 in_X7 0 rfl rfl 10 (by decide) fl_31 (v := .ref a_p0_now) rfl dX7_wool_26 ?_
      refine lv_iconst (v := 5) hx hb dX7_wool_29 (by decide) ?_
      refine lv_dup2_11 hx hb dX7_wool_30 rfl rfl ?_
      obtain ⟨r_6, hr_6, hf⟩ := bnd hf
      refine q_iald hB hW 2 rfl hr_6 dX7_wool_31 ?_
      refine lv_iconst (v := 1) hx hb dX7_wool_32 (by decide) ?_
      refine lv_iload_n hx hb dX7_wool_33 rfl (lv_at hl 1 rfl) ?_
      refine lv_ishl hx hb dX7_wool_34 ?_
      refine lv_ixor hx hb dX7_wool_35 ?_
      obtain ⟨r_7, hr_7, hf⟩ := bnd hf
      refine q_iast hB hW 2 rfl hr_7 (ws' := [(a_p0, .inr (7, [.int p0_persons, .int p0_skies, .int p0_oaths, .ref a_p0_kind, .ref a_p0_skyAt, .ref a_p0_skyLoud, .ref a_p0_one, .ref a_p0_other, .ref a_p0_worth, .ref a_p0_hangs, .ref a_p0_now, .ref a_p0_readPerson, .ref a_p0_readSky, .ref a_p0_readOath, .int p0_readPersons, .int p0_readSkies, .int p0_readOaths, .ref a_p0_text, .int p0_length, .int p0_at, .int p0_faultAt, .int r_5.1, .int r_5.2.1, .ref a_p0_row, .int p0_told, .ref a_p0_toldAt, .ref a_p0_toldWool, .ref a_p0_toldHeard, .long p0_seed, .ref a_p0_isKept, .ref a_p0_kept])), (a_p0_kind, .inl (cI, 5, .inl p0_kind)), (a_p0_now, .inl (cI, 18, .inl r_7)), (a_p0_row, .inl (cI, 126, .inl r_5.2.2))]) rfl dX7_wool_36 (fun H locs hW => ?_)
      refine lv_aload_n hx hb dX7_wool_37 rfl (lv_at hl 0 rfl) ?_
      refine q_get hB hW 7 in_X7 0 rfl rfl 10 (by decide) fl_31 (v := .ref a_p0_now) rfl dX7_wool_38 ?_
      refine lv_iconst (v := 5) hx hb dX7_wool_41 (by decide) ?_
      obtain ⟨r_8, hr_8, hf⟩ := bnd hf
      refine q_iald hB hW 2 rfl hr_8 dX7_wool_42 ?_
      refine lv_iload_n hx hb dX7_wool_43 rfl (lv_at hl 1 rfl) ?_
      refine lv_ishr hx hb dX7_wool_44 ?_
      refine lv_iconst (v := 1) hx hb dX7_wool_45 (by decide) ?_
      refine lv_iand hx hb dX7_wool_46 ?_
      exact hE _ _ _ _ _ (((r_8 >>> (v1 &&& 31)) &&& (1 : Int32)), r_5.1, r_5.2.1, r_7, r_5.2.2) (sm hf) hW rfl dX7_wool_47
    · have hf := it_t c_4 hf
      refine lv_bipush (v := -3) hx hb dX7_wool_18 (by decide) ?_
      exact hE _ _ _ _ _ ((-3 : Int32), p0_acts, p0_next, p0_now, p0_row) (sm hf) hW rfl dX7_wool_20
  · have hf := it_t c_2 hf
    refine lv_iconst (v := -1) hx hb dX7_wool_8 (by decide) ?_
    exact hE _ _ _ _ _ ((-1 : Int32), p0_acts, p0_next, p0_now, p0_row) (sm hf) hW rfl dX7_wool_9
def b_X7_undo_36 (p0_next : Int32) (p0_row : Nat → Int32) (v1 : Int32) (p0_now : Nat → Int32) : Option ((Int32 × (Nat → Int32)) ⊕ (Nat → Int32)) := if (9 : Int32) ≤ v1 then some (.inr p0_now) else (ald p0_row 126 (((9 : Int32) * p0_next) + v1)).bind fun r_538 => (ast p0_now 18 v1 r_538).bind fun r_539 => some (.inl ((v1 + (1 : Int32)), r_539))
def f_X7_undo (p0_acts : Int32) (p0_next : Int32) (p0_now : Nat → Int32) (p0_row : Nat → Int32) : Option (Int32 × Int32 × Int32 × (Nat → Int32)) := if p0_acts = (0 : Int32) then some ((-3 : Int32), p0_acts, p0_next, p0_now) else (some (p0_acts - (1 : Int32))).bind fun w_2 => (some ((p0_next + (13 : Int32)) - (p0_next + (13 : Int32)) / (14 : Int32) * (14 : Int32))).bind fun w_3 => (itr (fun s => b_X7_undo_36 w_3 p0_row s.1 s.2) FU ((0 : Int32), p0_now)).bind fun x_36 => some (w_2, w_2, w_3, x_36)
set_option maxHeartbeats 4000000 in
set_option maxRecDepth 100000 in
theorem c_X7_undo (l : Launch) (D : va_G) (cI cZ : ClassId) (a_p0 a_p0_kind a_p0_skyAt a_p0_skyLoud a_p0_one a_p0_other a_p0_worth a_p0_hangs a_p0_now a_p0_readPerson a_p0_readSky a_p0_readOath a_p0_text a_p0_row a_p0_toldAt a_p0_toldWool a_p0_toldHeard a_p0_isKept a_p0_kept : Nat) (p0_persons : Int32) (p0_skies : Int32) (p0_oaths : Int32) (p0_readPersons : Int32) (p0_readSkies : Int32) (p0_readOaths : Int32) (p0_length : Int32) (p0_at : Int32) (p0_faultAt : Int32) (p0_acts : Int32) (p0_next : Int32) (p0_told : Int32) (p0_seed : Int64) (p0_now : Nat → Int32) (p0_row : Nat → Int32) (q : Int32 × Int32 × Int32 × (Nat → Int32)) (hf : f_X7_undo p0_acts p0_next p0_now p0_row = some q) : CtI l D cI cZ yX7_undo wsX7_undo 0 0 [.ref a_p0] [(a_p0, .inr (7, [.int p0_persons, .int p0_skies, .int p0_oaths, .ref a_p0_kind, .ref a_p0_skyAt, .ref a_p0_skyLoud, .ref a_p0_one, .ref a_p0_other, .ref a_p0_worth, .ref a_p0_hangs, .ref a_p0_now, .ref a_p0_readPerson, .ref a_p0_readSky, .ref a_p0_readOath, .int p0_readPersons, .int p0_readSkies, .int p0_readOaths, .ref a_p0_text, .int p0_length, .int p0_at, .int p0_faultAt, .int p0_acts, .int p0_next, .ref a_p0_row, .int p0_told, .ref a_p0_toldAt, .ref a_p0_toldWool, .ref a_p0_toldHeard, .long p0_seed, .ref a_p0_isKept, .ref a_p0_kept])), (a_p0_now, .inl (cI, 18, .inl p0_now)), (a_p0_row, .inl (cI, 126, .inl p0_row))] (fun q => [(a_p0, .inr (7, [.int p0_persons, .int p0_skies, .int p0_oaths, .ref a_p0_kind, .ref a_p0_skyAt, .ref a_p0_skyLoud, .ref a_p0_one, .ref a_p0_other, .ref a_p0_worth, .ref a_p0_hangs, .ref a_p0_now, .ref a_p0_readPerson, .ref a_p0_readSky, .ref a_p0_readOath, .int p0_readPersons, .int p0_readSkies, .int p0_readOaths, .ref a_p0_text, .int p0_length, .int p0_at, .int p0_faultAt, .int q.2.1, .int q.2.2.1, .ref a_p0_row, .int p0_told, .ref a_p0_toldAt, .ref a_p0_toldWool, .ref a_p0_toldHeard, .long p0_seed, .ref a_p0_isKept, .ref a_p0_kept])), (a_p0_now, .inl (cI, 18, .inl q.2.2.2)), (a_p0_row, .inl (cI, 126, .inl p0_row))]) (fun q => q.1) q := by
  refine CtI.of (cc := cX7_undo) (maxL := 2) (plainFor_of_name (by decide)) rfl (Nat.le_of_ble_eq_true rfl) ?_
  intro p e s m args below meth c A Q H ls hB hE hW hl
  have hx := hB.1
  have hb := hB.2.1
  have hml := hB.2.2.2.1
  have hown : s.vm.findClass RX7 = some m.cls := hB.2.2.2.2.1
  have hts := hB.2.2.2.2.2.1
  have hK := hB.2.2.2.2.2.2.2.1.1
  have hl : lv_has ls 2 [(0, .ref a_p0)] := hl
  have in_X7 : ∀ w ∈ wsX70, w ∈ wsX7_undo := fun w h => List.mem_cons_of_mem _ (List.mem_append_right _ h)
  have fl_31 : (Cond.fieldLink RX7 31 (TX7 10).1 (TX7 10).2.1 (TX7 10).2.2.1).before args s = true := hts (.fieldLink RX7 31 "ClapOathsModel" "now" "[I") (by decide +kernel)
  have fl_46 : (Cond.fieldLink RX7 46 (TX7 23).1 (TX7 23).2.1 (TX7 23).2.2.1).before args s = true := hts (.fieldLink RX7 46 "ClapOathsModel" "row" "[I") (by decide +kernel)
  have fl_114 : (Cond.fieldLink RX7 114 (TX7 21).1 (TX7 21).2.1 (TX7 21).2.2.1).before args s = true := hts (.fieldLink RX7 114 "ClapOathsModel" "acts" "I") (by decide +kernel)
  have fl_166 : (Cond.fieldLink RX7 166 (TX7 22).1 (TX7 22).2.1 (TX7 22).2.2.1).before args s = true := hts (.fieldLink RX7 166 "ClapOathsModel" "next" "I") (by decide +kernel)
  unfold f_X7_undo at hf
  refine lv_aload_n hx hb dX7_undo_0 rfl (lv_at hl 0 rfl) ?_
  refine q_get hB hW 7 in_X7 0 rfl rfl 21 (by decide) fl_114 (v := .int p0_acts) rfl dX7_undo_1 ?_
  refine lv_if_ne (tgt := 10) hx hb dX7_undo_4 (by decide) (fun c_1 => ?_) (fun c_1 => ?_)
  · have hf := it_f c_1 hf
    refine lv_aload_n hx hb dX7_undo_10 rfl (lv_at hl 0 rfl) ?_
    refine lv_dup hx hb dX7_undo_11 rfl ?_
    refine q_get hB hW 7 in_X7 0 rfl rfl 21 (by decide) fl_114 (v := .int p0_acts) rfl dX7_undo_12 ?_
    refine lv_iconst (v := 1) hx hb dX7_undo_15 (by decide) ?_
    refine lv_isub hx hb dX7_undo_16 ?_
    obtain ⟨w_2, hw_2, hf⟩ := bnd hf
    refine q_nmI hw_2 ?_
    refine q_put hB hW 7 in_X7 tyX7 tyX7_ok nmX7 0 rfl rfl 21 (by decide) fl_114 rfl (by first | rfl | decide) (by first | rfl | decide) (Nat.le_of_ble_eq_true rfl) (ws' := [(a_p0, .inr (7, [.int p0_persons, .int p0_skies, .int p0_oaths, .ref a_p0_kind, .ref a_p0_skyAt, .ref a_p0_skyLoud, .ref a_p0_one, .ref a_p0_other, .ref a_p0_worth, .ref a_p0_hangs, .ref a_p0_now, .ref a_p0_readPerson, .ref a_p0_readSky, .ref a_p0_readOath, .int p0_readPersons, .int p0_readSkies, .int p0_readOaths, .ref a_p0_text, .int p0_length, .int p0_at, .int p0_faultAt, .int w_2, .int p0_next, .ref a_p0_row, .int p0_told, .ref a_p0_toldAt, .ref a_p0_toldWool, .ref a_p0_toldHeard, .long p0_seed, .ref a_p0_isKept, .ref a_p0_kept])), (a_p0_now, .inl (cI, 18, .inl p0_now)), (a_p0_row, .inl (cI, 126, .inl p0_row))]) rfl dX7_undo_17 (fun H locs hW => ?_)
    refine lv_aload_n hx hb dX7_undo_20 rfl (lv_at hl 0 rfl) ?_
    refine lv_aload_n hx hb dX7_undo_21 rfl (lv_at hl 0 rfl) ?_
    refine q_get hB hW 7 in_X7 0 rfl rfl 22 (by decide) fl_166 (v := .int p0_next) rfl dX7_undo_22 ?_
    refine lv_bipush (v := 13) hx hb dX7_undo_25 (by decide) ?_
    refine lv_iadd hx hb dX7_undo_27 ?_
    refine lv_bipush (v := 14) hx hb dX7_undo_28 (by decide) ?_
    refine lv_irem hx hb dX7_undo_30 (by decide) ?_
    obtain ⟨w_3, hw_3, hf⟩ := bnd hf
    refine q_nmI hw_3 ?_
    refine q_put hB hW 7 in_X7 tyX7 tyX7_ok nmX7 0 rfl rfl 22 (by decide) fl_166 rfl (by first | rfl | decide) (by first | rfl | decide) (Nat.le_of_ble_eq_true rfl) (ws' := [(a_p0, .inr (7, [.int p0_persons, .int p0_skies, .int p0_oaths, .ref a_p0_kind, .ref a_p0_skyAt, .ref a_p0_skyLoud, .ref a_p0_one, .ref a_p0_other, .ref a_p0_worth, .ref a_p0_hangs, .ref a_p0_now, .ref a_p0_readPerson, .ref a_p0_readSky, .ref a_p0_readOath, .int p0_readPersons, .int p0_readSkies, .int p0_readOaths, .ref a_p0_text, .int p0_length, .int p0_at, .int p0_faultAt, .int w_2, .int w_3, .ref a_p0_row, .int p0_told, .ref a_p0_toldAt, .ref a_p0_toldWool, .ref a_p0_toldHeard, .long p0_seed, .ref a_p0_isKept, .ref a_p0_kept])), (a_p0_now, .inl (cI, 18, .inl p0_now)), (a_p0_row, .inl (cI, 126, .inl p0_row))]) rfl dX7_undo_31 (fun H locs hW => ?_)
    refine lv_iconst (v := 0) hx hb dX7_undo_34 (by decide) ?_
    refine lv_istore_n (lv' := [(1, .int (0 : Int32)), (0, .ref a_p0)]) hx hb dX7_undo_35 rfl hl (by decide) rfl (fun ls hl => ?_)
    obtain ⟨e_36, hl_36, hk_36⟩ := bnd hf
    have K_36 : ∀ x_36 : Nat → Int32, x_36 = e_36 → ∀ (H : Heap) (locs : List Loc) (ls : Array Slot), Wl D A s.heap [(a_p0, .inr (7, [.int p0_persons, .int p0_skies, .int p0_oaths, .ref a_p0_kind, .ref a_p0_skyAt, .ref a_p0_skyLoud, .ref a_p0_one, .ref a_p0_other, .ref a_p0_worth, .ref a_p0_hangs, .ref a_p0_now, .ref a_p0_readPerson, .ref a_p0_readSky, .ref a_p0_readOath, .int p0_readPersons, .int p0_readSkies, .int p0_readOaths, .ref a_p0_text, .int p0_length, .int p0_at, .int p0_faultAt, .int w_2, .int w_3, .ref a_p0_row, .int p0_told, .ref a_p0_toldAt, .ref a_p0_toldWool, .ref a_p0_toldHeard, .long p0_seed, .ref a_p0_isKept, .ref a_p0_kept])), (a_p0_now, .inl (cI, 18, .inl x_36)), (a_p0_row, .inl (cI, 126, .inl p0_row))] H locs → lv_has ls 2 [(0, .ref a_p0)] → W p l e (Rm 0 0) s m args below meth c H locs 0 0 Q (F0 m 68 ls []) := by
      intro x_36 hx_36 H locs ls hW hl
      have hf := hk_36
      rw [← hx_36] at hf
      refine lv_aload_n hx hb dX7_undo_68 rfl (lv_at hl 0 rfl) ?_
      refine q_get hB hW 7 in_X7 0 rfl rfl 21 (by decide) fl_114 (v := .int w_2) rfl dX7_undo_69 ?_
      exact hE _ _ _ _ _ (w_2, w_2, w_3, x_36) (sm hf) hW rfl dX7_undo_72
    have L_36 : ∀ (n : Nat) (y36_1 : Int32) (y36_p0_now : Nat → Int32) (H : Heap) (locs : List Loc) (ls : Array Slot), itr (fun s => b_X7_undo_36 w_3 p0_row s.1 s.2) n (y36_1, y36_p0_now) = some e_36 → Wl D A s.heap [(a_p0, .inr (7, [.int p0_persons, .int p0_skies, .int p0_oaths, .ref a_p0_kind, .ref a_p0_skyAt, .ref a_p0_skyLoud, .ref a_p0_one, .ref a_p0_other, .ref a_p0_worth, .ref a_p0_hangs, .ref a_p0_now, .ref a_p0_readPerson, .ref a_p0_readSky, .ref a_p0_readOath, .int p0_readPersons, .int p0_readSkies, .int p0_readOaths, .ref a_p0_text, .int p0_length, .int p0_at, .int p0_faultAt, .int w_2, .int w_3, .ref a_p0_row, .int p0_told, .ref a_p0_toldAt, .ref a_p0_toldWool, .ref a_p0_toldHeard, .long p0_seed, .ref a_p0_isKept, .ref a_p0_kept])), (a_p0_now, .inl (cI, 18, .inl y36_p0_now)), (a_p0_row, .inl (cI, 126, .inl p0_row))] H locs → lv_has ls 2 [(0, .ref a_p0), (1, .int y36_1)] → W p l e (Rm 0 0) s m args below meth c H locs 0 0 Q (F0 m 36 ls []) := by
      intro n
      induction n with
      | zero => intro y36_1 y36_p0_now H locs ls h9; exact itr_0 h9
      | succ n ih =>
        intro y36_1 y36_p0_now H locs ls hf hW hl
        obtain ⟨o_36, hf, ho_36⟩ := itr_inv hf
        have hf : b_X7_undo_36 w_3 p0_row y36_1 y36_p0_now = some o_36 := hf
        unfold b_X7_undo_36 at hf
        refine lv_iload_n hx hb dX7_undo_36 rfl (lv_at hl 1 rfl) ?_
        refine lv_bipush (v := 9) hx hb dX7_undo_37 (by decide) ?_
        refine lv_icmp_ge (tgt := 68) hx hb dX7_undo_39 (by decide) (fun c_4 => ?_) (fun c_4 => ?_)
        · have hf := it_t c_4 hf
          have h9 := o_inr hf ho_36
          exact K_36 y36_p0_now h9 _ _ _ hW (lv_sub hl [0] rfl)
        · have hf := it_f c_4 hf
          refine lv_aload_n hx hb dX7_undo_42 rfl (lv_at hl 0 rfl) ?_
          refine q_get hB hW 7 in_X7 0 rfl rfl 10 (by decide) fl_31 (v := .ref a_p0_now) rfl dX7_undo_43 ?_
          refine lv_iload_n hx hb dX7_undo_46 rfl (lv_at hl 1 rfl) ?_
          refine lv_aload_n hx hb dX7_undo_47 rfl (lv_at hl 0 rfl) ?_
          refine q_get hB hW 7 in_X7 0 rfl rfl 23 (by decide) fl_46 (v := .ref a_p0_row) rfl dX7_undo_48 ?_
          refine lv_bipush (v := 9) hx hb dX7_undo_51 (by decide) ?_
          refine lv_aload_n hx hb dX7_undo_53 rfl (lv_at hl 0 rfl) ?_
          refine q_get hB hW 7 in_X7 0 rfl rfl 22 (by decide) fl_166 (v := .int w_3) rfl dX7_undo_54 ?_
          refine lv_imul hx hb dX7_undo_57 ?_
          refine lv_iload_n hx hb dX7_undo_58 rfl (lv_at hl 1 rfl) ?_
          refine lv_iadd hx hb dX7_undo_59 ?_
          obtain ⟨r_5, hr_5, hf⟩ := bnd hf
          refine q_iald hB hW 2 rfl hr_5 dX7_undo_60 ?_
          obtain ⟨r_6, hr_6, hf⟩ := bnd hf
          refine q_iast hB hW 1 rfl hr_6 (ws' := [(a_p0, .inr (7, [.int p0_persons, .int p0_skies, .int p0_oaths, .ref a_p0_kind, .ref a_p0_skyAt, .ref a_p0_skyLoud, .ref a_p0_one, .ref a_p0_other, .ref a_p0_worth, .ref a_p0_hangs, .ref a_p0_now, .ref a_p0_readPerson, .ref a_p0_readSky, .ref a_p0_readOath, .int p0_readPersons, .int p0_readSkies, .int p0_readOaths, .ref a_p0_text, .int p0_length, .int p0_at, .int p0_faultAt, .int w_2, .int w_3, .ref a_p0_row, .int p0_told, .ref a_p0_toldAt, .ref a_p0_toldWool, .ref a_p0_toldHeard, .long p0_seed, .ref a_p0_isKept, .ref a_p0_kept])), (a_p0_now, .inl (cI, 18, .inl r_6)), (a_p0_row, .inl (cI, 126, .inl p0_row))]) rfl dX7_undo_61 (fun H locs hW => ?_)
          refine lv_iinc (v := (y36_1 + (1 : Int32))) (lv' := [(1, .int (y36_1 + (1 : Int32))), (0, .ref a_p0)]) hx hb dX7_undo_62 hl (k := 1) rfl rfl (by decide) rfl (fun ls hl => ?_)
          refine lv_goto (tgt := 36) hx hb dX7_undo_65 (by decide) ?_
          have h9 := o_inl hf ho_36
          exact ih (y36_1 + (1 : Int32)) r_6 _ _ _ h9 hW (lv_sub hl [1, 0] rfl)
    exact L_36 FU (0 : Int32) p0_now _ _ _ hl_36 hW (lv_sub hl [1, 0] rfl)
  · have hf := it_t c_1 hf
    refine lv_bipush (v := -3) hx hb dX7_undo_7 (by decide) ?_
    exact hE _ _ _ _ _ ((-3 : Int32), p0_acts, p0_next, p0_now) (sm hf) hW rfl dX7_undo_9
def b_X7_layTrial_2 (v1 : Int32) (p0_now : Nat → Int32) : Option ((Int32 × (Nat → Int32)) ⊕ (Nat → Int32)) := if (9 : Int32) ≤ v1 then some (.inr p0_now) else (ald p0_now 18 v1).bind fun r_504 => (ast p0_now 18 ((9 : Int32) + v1) r_504).bind fun r_505 => some (.inl ((v1 + (1 : Int32)), r_505))
def f_X7_layTrial (p0_now : Nat → Int32) : Option (Nat → Int32) := (itr (fun s => b_X7_layTrial_2 s.1 s.2) FU ((0 : Int32), p0_now)).bind fun x_2 => some x_2
set_option maxHeartbeats 4000000 in
set_option maxRecDepth 100000 in
theorem c_X7_layTrial (l : Launch) (D : va_G) (cI cZ : ClassId) (a_p0 a_p0_kind a_p0_skyAt a_p0_skyLoud a_p0_one a_p0_other a_p0_worth a_p0_hangs a_p0_now a_p0_readPerson a_p0_readSky a_p0_readOath a_p0_text a_p0_row a_p0_toldAt a_p0_toldWool a_p0_toldHeard a_p0_isKept a_p0_kept : Nat) (p0_persons : Int32) (p0_skies : Int32) (p0_oaths : Int32) (p0_readPersons : Int32) (p0_readSkies : Int32) (p0_readOaths : Int32) (p0_length : Int32) (p0_at : Int32) (p0_faultAt : Int32) (p0_acts : Int32) (p0_next : Int32) (p0_told : Int32) (p0_seed : Int64) (p0_now : Nat → Int32) (q : Nat → Int32) (hf : f_X7_layTrial p0_now = some q) : CtV l D cI cZ yX7_layTrial wsX7_layTrial 0 0 [.ref a_p0] [(a_p0, .inr (7, [.int p0_persons, .int p0_skies, .int p0_oaths, .ref a_p0_kind, .ref a_p0_skyAt, .ref a_p0_skyLoud, .ref a_p0_one, .ref a_p0_other, .ref a_p0_worth, .ref a_p0_hangs, .ref a_p0_now, .ref a_p0_readPerson, .ref a_p0_readSky, .ref a_p0_readOath, .int p0_readPersons, .int p0_readSkies, .int p0_readOaths, .ref a_p0_text, .int p0_length, .int p0_at, .int p0_faultAt, .int p0_acts, .int p0_next, .ref a_p0_row, .int p0_told, .ref a_p0_toldAt, .ref a_p0_toldWool, .ref a_p0_toldHeard, .long p0_seed, .ref a_p0_isKept, .ref a_p0_kept])), (a_p0_now, .inl (cI, 18, .inl p0_now))] (fun q => [(a_p0, .inr (7, [.int p0_persons, .int p0_skies, .int p0_oaths, .ref a_p0_kind, .ref a_p0_skyAt, .ref a_p0_skyLoud, .ref a_p0_one, .ref a_p0_other, .ref a_p0_worth, .ref a_p0_hangs, .ref a_p0_now, .ref a_p0_readPerson, .ref a_p0_readSky, .ref a_p0_readOath, .int p0_readPersons, .int p0_readSkies, .int p0_readOaths, .ref a_p0_text, .int p0_length, .int p0_at, .int p0_faultAt, .int p0_acts, .int p0_next, .ref a_p0_row, .int p0_told, .ref a_p0_toldAt, .ref a_p0_toldWool, .ref a_p0_toldHeard, .long p0_seed, .ref a_p0_isKept, .ref a_p0_kept])), (a_p0_now, .inl (cI, 18, .inl q))]) q := by
  refine CtV.of (cc := cX7_layTrial) (maxL := 2) (plainFor_of_name (by decide)) rfl (Nat.le_of_ble_eq_true rfl) ?_
  intro p e s m args below meth c A Q H ls hB hE hW hl
  have hx := hB.1
  have hb := hB.2.1
  have hml := hB.2.2.2.1
  have hown : s.vm.findClass RX7 = some m.cls := hB.2.2.2.2.1
  have hts := hB.2.2.2.2.2.1
  have hK := hB.2.2.2.2.2.2.2.1.1
  have hl : lv_has ls 2 [(0, .ref a_p0)] := hl
  have in_X7 : ∀ w ∈ wsX70, w ∈ wsX7_layTrial := fun w h => List.mem_cons_of_mem _ (List.mem_append_right _ h)
  have fl_31 : (Cond.fieldLink RX7 31 (TX7 10).1 (TX7 10).2.1 (TX7 10).2.2.1).before args s = true := hts (.fieldLink RX7 31 "ClapOathsModel" "now" "[I") (by decide +kernel)
  unfold f_X7_layTrial at hf
  refine lv_iconst (v := 0) hx hb dX7_layTrial_0 (by decide) ?_
  refine lv_istore_n (lv' := [(1, .int (0 : Int32)), (0, .ref a_p0)]) hx hb dX7_layTrial_1 rfl hl (by decide) rfl (fun ls hl => ?_)
  obtain ⟨e_2, hl_2, hk_2⟩ := bnd hf
  have K_2 : ∀ x_2 : Nat → Int32, x_2 = e_2 → ∀ (H : Heap) (locs : List Loc) (ls : Array Slot), Wl D A s.heap [(a_p0, .inr (7, [.int p0_persons, .int p0_skies, .int p0_oaths, .ref a_p0_kind, .ref a_p0_skyAt, .ref a_p0_skyLoud, .ref a_p0_one, .ref a_p0_other, .ref a_p0_worth, .ref a_p0_hangs, .ref a_p0_now, .ref a_p0_readPerson, .ref a_p0_readSky, .ref a_p0_readOath, .int p0_readPersons, .int p0_readSkies, .int p0_readOaths, .ref a_p0_text, .int p0_length, .int p0_at, .int p0_faultAt, .int p0_acts, .int p0_next, .ref a_p0_row, .int p0_told, .ref a_p0_toldAt, .ref a_p0_toldWool, .ref a_p0_toldHeard, .long p0_seed, .ref a_p0_isKept, .ref a_p0_kept])), (a_p0_now, .inl (cI, 18, .inl x_2))] H locs → lv_has ls 2 [] → W p l e (Rm 0 0) s m args below meth c H locs 0 0 Q (F0 m 29 ls []) := by
    intro x_2 hx_2 H locs ls hW hl
    have hf := hk_2
    rw [← hx_2] at hf
    exact hE _ _ _ _ x_2 (sm hf) hW dX7_layTrial_29
  have L_2 : ∀ (n : Nat) (y2_1 : Int32) (y2_p0_now : Nat → Int32) (H : Heap) (locs : List Loc) (ls : Array Slot), itr (fun s => b_X7_layTrial_2 s.1 s.2) n (y2_1, y2_p0_now) = some e_2 → Wl D A s.heap [(a_p0, .inr (7, [.int p0_persons, .int p0_skies, .int p0_oaths, .ref a_p0_kind, .ref a_p0_skyAt, .ref a_p0_skyLoud, .ref a_p0_one, .ref a_p0_other, .ref a_p0_worth, .ref a_p0_hangs, .ref a_p0_now, .ref a_p0_readPerson, .ref a_p0_readSky, .ref a_p0_readOath, .int p0_readPersons, .int p0_readSkies, .int p0_readOaths, .ref a_p0_text, .int p0_length, .int p0_at, .int p0_faultAt, .int p0_acts, .int p0_next, .ref a_p0_row, .int p0_told, .ref a_p0_toldAt, .ref a_p0_toldWool, .ref a_p0_toldHeard, .long p0_seed, .ref a_p0_isKept, .ref a_p0_kept])), (a_p0_now, .inl (cI, 18, .inl y2_p0_now))] H locs → lv_has ls 2 [(0, .ref a_p0), (1, .int y2_1)] → W p l e (Rm 0 0) s m args below meth c H locs 0 0 Q (F0 m 2 ls []) := by
    intro n
    induction n with
    | zero => intro y2_1 y2_p0_now H locs ls h9; exact itr_0 h9
    | succ n ih =>
      intro y2_1 y2_p0_now H locs ls hf hW hl
      obtain ⟨o_2, hf, ho_2⟩ := itr_inv hf
      have hf : b_X7_layTrial_2 y2_1 y2_p0_now = some o_2 := hf
      unfold b_X7_layTrial_2 at hf
      refine lv_iload_n hx hb dX7_layTrial_2 rfl (lv_at hl 1 rfl) ?_
      refine lv_bipush (v := 9) hx hb dX7_layTrial_3 (by decide) ?_
      refine lv_icmp_ge (tgt := 29) hx hb dX7_layTrial_5 (by decide) (fun c_1 => ?_) (fun c_1 => ?_)
      · have hf := it_t c_1 hf
        have h9 := o_inr hf ho_2
        exact K_2 y2_p0_now h9 _ _ _ hW (lv_sub hl [] rfl)
      · have hf := it_f c_1 hf
        refine lv_aload_n hx hb dX7_layTrial_8 rfl (lv_at hl 0 rfl) ?_
        refine q_get hB hW 7 in_X7 0 rfl rfl 10 (by decide) fl_31 (v := .ref a_p0_now) rfl dX7_layTrial_9 ?_
        refine lv_bipush (v := 9) hx hb dX7_layTrial_12 (by decide) ?_
        refine lv_iload_n hx hb dX7_layTrial_14 rfl (lv_at hl 1 rfl) ?_
        refine lv_iadd hx hb dX7_layTrial_15 ?_
        refine lv_aload_n hx hb dX7_layTrial_16 rfl (lv_at hl 0 rfl) ?_
        refine q_get hB hW 7 in_X7 0 rfl rfl 10 (by decide) fl_31 (v := .ref a_p0_now) rfl dX7_layTrial_17 ?_
        refine lv_iload_n hx hb dX7_layTrial_20 rfl (lv_at hl 1 rfl) ?_
        obtain ⟨r_2, hr_2, hf⟩ := bnd hf
        refine q_iald hB hW 1 rfl hr_2 dX7_layTrial_21 ?_
        obtain ⟨r_3, hr_3, hf⟩ := bnd hf
        refine q_iast hB hW 1 rfl hr_3 (ws' := [(a_p0, .inr (7, [.int p0_persons, .int p0_skies, .int p0_oaths, .ref a_p0_kind, .ref a_p0_skyAt, .ref a_p0_skyLoud, .ref a_p0_one, .ref a_p0_other, .ref a_p0_worth, .ref a_p0_hangs, .ref a_p0_now, .ref a_p0_readPerson, .ref a_p0_readSky, .ref a_p0_readOath, .int p0_readPersons, .int p0_readSkies, .int p0_readOaths, .ref a_p0_text, .int p0_length, .int p0_at, .int p0_faultAt, .int p0_acts, .int p0_next, .ref a_p0_row, .int p0_told, .ref a_p0_toldAt, .ref a_p0_toldWool, .ref a_p0_toldHeard, .long p0_seed, .ref a_p0_isKept, .ref a_p0_kept])), (a_p0_now, .inl (cI, 18, .inl r_3))]) rfl dX7_layTrial_22 (fun H locs hW => ?_)
        refine lv_iinc (v := (y2_1 + (1 : Int32))) (lv' := [(1, .int (y2_1 + (1 : Int32))), (0, .ref a_p0)]) hx hb dX7_layTrial_23 hl (k := 1) rfl rfl (by decide) rfl (fun ls hl => ?_)
        refine lv_goto (tgt := 2) hx hb dX7_layTrial_26 (by decide) ?_
        have h9 := o_inl hf ho_2
        exact ih (y2_1 + (1 : Int32)) r_3 _ _ _ h9 hW (lv_sub hl [1, 0] rfl)
  exact L_2 FU (0 : Int32) p0_now _ _ _ hl_2 hW (lv_sub hl [1, 0] rfl)
def b_X7_goOn_2 (v1 : Int32) (p0_persons : Int32) (p0_skies : Int32) (p0_oaths : Int32) (p0_kind : Nat → Int32) (p0_skyAt : Nat → Int32) (p0_skyLoud : Nat → Int32) (p0_one : Nat → Int32) (p0_other : Nat → Int32) (p0_worth : Nat → Int32) (p0_hangs : Nat → Int32) (v2 : Int32) (p0_now : Nat → Int32) : Option ((Int32 × (Nat → Int32)) ⊕ (Nat → Int32)) := if v1 ≤ v2 then some (.inr p0_now) else (f_X7_passOn (1 : Int32) (1 : Int32) p0_persons p0_skies p0_oaths p0_kind p0_skyAt p0_skyLoud p0_one p0_other p0_worth p0_hangs p0_now).bind fun r_504 => some (.inl ((v2 + (1 : Int32)), r_504.2))
def f_X7_goOn (v1 : Int32) (p0_persons : Int32) (p0_skies : Int32) (p0_oaths : Int32) (p0_kind : Nat → Int32) (p0_skyAt : Nat → Int32) (p0_skyLoud : Nat → Int32) (p0_one : Nat → Int32) (p0_other : Nat → Int32) (p0_worth : Nat → Int32) (p0_hangs : Nat → Int32) (p0_now : Nat → Int32) : Option (Nat → Int32) := (itr (fun s => b_X7_goOn_2 v1 p0_persons p0_skies p0_oaths p0_kind p0_skyAt p0_skyLoud p0_one p0_other p0_worth p0_hangs s.1 s.2) FU ((0 : Int32), p0_now)).bind fun x_2 => some x_2
set_option maxHeartbeats 4000000 in
set_option maxRecDepth 100000 in
theorem c_X7_goOn (l : Launch) (D : va_G) (cI cZ : ClassId) (a_p0 a_p0_kind a_p0_skyAt a_p0_skyLoud a_p0_one a_p0_other a_p0_worth a_p0_hangs a_p0_now a_p0_readPerson a_p0_readSky a_p0_readOath a_p0_text a_p0_row a_p0_toldAt a_p0_toldWool a_p0_toldHeard a_p0_isKept a_p0_kept : Nat) (p0_persons : Int32) (p0_skies : Int32) (p0_oaths : Int32) (p0_readPersons : Int32) (p0_readSkies : Int32) (p0_readOaths : Int32) (p0_length : Int32) (p0_at : Int32) (p0_faultAt : Int32) (p0_acts : Int32) (p0_next : Int32) (p0_told : Int32) (p0_seed : Int64) (p0_kind : Nat → Int32) (p0_skyAt : Nat → Int32) (p0_skyLoud : Nat → Int32) (p0_one : Nat → Int32) (p0_other : Nat → Int32) (p0_worth : Nat → Int32) (p0_hangs : Nat → Int32) (p0_now : Nat → Int32) (v1 : Int32) (q : Nat → Int32) (hf : f_X7_goOn v1 p0_persons p0_skies p0_oaths p0_kind p0_skyAt p0_skyLoud p0_one p0_other p0_worth p0_hangs p0_now = some q) : CtV l D cI cZ yX7_goOn wsX7_goOn 5 126 [.ref a_p0, .int v1] [(a_p0, .inr (7, [.int p0_persons, .int p0_skies, .int p0_oaths, .ref a_p0_kind, .ref a_p0_skyAt, .ref a_p0_skyLoud, .ref a_p0_one, .ref a_p0_other, .ref a_p0_worth, .ref a_p0_hangs, .ref a_p0_now, .ref a_p0_readPerson, .ref a_p0_readSky, .ref a_p0_readOath, .int p0_readPersons, .int p0_readSkies, .int p0_readOaths, .ref a_p0_text, .int p0_length, .int p0_at, .int p0_faultAt, .int p0_acts, .int p0_next, .ref a_p0_row, .int p0_told, .ref a_p0_toldAt, .ref a_p0_toldWool, .ref a_p0_toldHeard, .long p0_seed, .ref a_p0_isKept, .ref a_p0_kept])), (a_p0_kind, .inl (cI, 5, .inl p0_kind)), (a_p0_skyAt, .inl (cI, 5, .inl p0_skyAt)), (a_p0_skyLoud, .inl (cI, 5, .inl p0_skyLoud)), (a_p0_one, .inl (cI, 5, .inl p0_one)), (a_p0_other, .inl (cI, 5, .inl p0_other)), (a_p0_worth, .inl (cI, 5, .inl p0_worth)), (a_p0_hangs, .inl (cI, 5, .inl p0_hangs)), (a_p0_now, .inl (cI, 18, .inl p0_now))] (fun q => [(a_p0, .inr (7, [.int p0_persons, .int p0_skies, .int p0_oaths, .ref a_p0_kind, .ref a_p0_skyAt, .ref a_p0_skyLoud, .ref a_p0_one, .ref a_p0_other, .ref a_p0_worth, .ref a_p0_hangs, .ref a_p0_now, .ref a_p0_readPerson, .ref a_p0_readSky, .ref a_p0_readOath, .int p0_readPersons, .int p0_readSkies, .int p0_readOaths, .ref a_p0_text, .int p0_length, .int p0_at, .int p0_faultAt, .int p0_acts, .int p0_next, .ref a_p0_row, .int p0_told, .ref a_p0_toldAt, .ref a_p0_toldWool, .ref a_p0_toldHeard, .long p0_seed, .ref a_p0_isKept, .ref a_p0_kept])), (a_p0_kind, .inl (cI, 5, .inl p0_kind)), (a_p0_skyAt, .inl (cI, 5, .inl p0_skyAt)), (a_p0_skyLoud, .inl (cI, 5, .inl p0_skyLoud)), (a_p0_one, .inl (cI, 5, .inl p0_one)), (a_p0_other, .inl (cI, 5, .inl p0_other)), (a_p0_worth, .inl (cI, 5, .inl p0_worth)), (a_p0_hangs, .inl (cI, 5, .inl p0_hangs)), (a_p0_now, .inl (cI, 18, .inl q))]) q := by
  refine CtV.of (cc := cX7_goOn) (maxL := 3) (plainFor_of_name (by decide)) rfl (Nat.le_of_ble_eq_true rfl) ?_
  intro p e s m args below meth c A Q H ls hB hE hW hl
  have hx := hB.1
  have hb := hB.2.1
  have hml := hB.2.2.2.1
  have hown : s.vm.findClass RX7 = some m.cls := hB.2.2.2.2.1
  have hts := hB.2.2.2.2.2.1
  have hK := hB.2.2.2.2.2.2.2.1.1
  have hl : lv_has ls 3 [(0, .ref a_p0), (1, .int v1)] := hl
  unfold f_X7_goOn at hf
  refine lv_iconst (v := 0) hx hb dX7_goOn_0 (by decide) ?_
  refine lv_istore_n (lv' := [(2, .int (0 : Int32)), (0, .ref a_p0), (1, .int v1)]) hx hb dX7_goOn_1 rfl hl (by decide) rfl (fun ls hl => ?_)
  obtain ⟨e_2, hl_2, hk_2⟩ := bnd hf
  have K_2 : ∀ x_2 : Nat → Int32, x_2 = e_2 → ∀ (H : Heap) (locs : List Loc) (ls : Array Slot), Wl D A s.heap [(a_p0, .inr (7, [.int p0_persons, .int p0_skies, .int p0_oaths, .ref a_p0_kind, .ref a_p0_skyAt, .ref a_p0_skyLoud, .ref a_p0_one, .ref a_p0_other, .ref a_p0_worth, .ref a_p0_hangs, .ref a_p0_now, .ref a_p0_readPerson, .ref a_p0_readSky, .ref a_p0_readOath, .int p0_readPersons, .int p0_readSkies, .int p0_readOaths, .ref a_p0_text, .int p0_length, .int p0_at, .int p0_faultAt, .int p0_acts, .int p0_next, .ref a_p0_row, .int p0_told, .ref a_p0_toldAt, .ref a_p0_toldWool, .ref a_p0_toldHeard, .long p0_seed, .ref a_p0_isKept, .ref a_p0_kept])), (a_p0_kind, .inl (cI, 5, .inl p0_kind)), (a_p0_skyAt, .inl (cI, 5, .inl p0_skyAt)), (a_p0_skyLoud, .inl (cI, 5, .inl p0_skyLoud)), (a_p0_one, .inl (cI, 5, .inl p0_one)), (a_p0_other, .inl (cI, 5, .inl p0_other)), (a_p0_worth, .inl (cI, 5, .inl p0_worth)), (a_p0_hangs, .inl (cI, 5, .inl p0_hangs)), (a_p0_now, .inl (cI, 18, .inl x_2))] H locs → lv_has ls 3 [] → W p l e (Rm 5 126) s m args below meth c H locs 0 0 Q (F0 m 20 ls []) := by
    intro x_2 hx_2 H locs ls hW hl
    have hf := hk_2
    rw [← hx_2] at hf
    exact hE _ _ _ _ x_2 (sm hf) hW dX7_goOn_20
  have L_2 : ∀ (n : Nat) (y2_2 : Int32) (y2_p0_now : Nat → Int32) (H : Heap) (locs : List Loc) (ls : Array Slot), itr (fun s => b_X7_goOn_2 v1 p0_persons p0_skies p0_oaths p0_kind p0_skyAt p0_skyLoud p0_one p0_other p0_worth p0_hangs s.1 s.2) n (y2_2, y2_p0_now) = some e_2 → Wl D A s.heap [(a_p0, .inr (7, [.int p0_persons, .int p0_skies, .int p0_oaths, .ref a_p0_kind, .ref a_p0_skyAt, .ref a_p0_skyLoud, .ref a_p0_one, .ref a_p0_other, .ref a_p0_worth, .ref a_p0_hangs, .ref a_p0_now, .ref a_p0_readPerson, .ref a_p0_readSky, .ref a_p0_readOath, .int p0_readPersons, .int p0_readSkies, .int p0_readOaths, .ref a_p0_text, .int p0_length, .int p0_at, .int p0_faultAt, .int p0_acts, .int p0_next, .ref a_p0_row, .int p0_told, .ref a_p0_toldAt, .ref a_p0_toldWool, .ref a_p0_toldHeard, .long p0_seed, .ref a_p0_isKept, .ref a_p0_kept])), (a_p0_kind, .inl (cI, 5, .inl p0_kind)), (a_p0_skyAt, .inl (cI, 5, .inl p0_skyAt)), (a_p0_skyLoud, .inl (cI, 5, .inl p0_skyLoud)), (a_p0_one, .inl (cI, 5, .inl p0_one)), (a_p0_other, .inl (cI, 5, .inl p0_other)), (a_p0_worth, .inl (cI, 5, .inl p0_worth)), (a_p0_hangs, .inl (cI, 5, .inl p0_hangs)), (a_p0_now, .inl (cI, 18, .inl y2_p0_now))] H locs → lv_has ls 3 [(0, .ref a_p0), (1, .int v1), (2, .int y2_2)] → W p l e (Rm 5 126) s m args below meth c H locs 0 0 Q (F0 m 2 ls []) := by
    intro n
    induction n with
    | zero => intro y2_2 y2_p0_now H locs ls h9; exact itr_0 h9
    | succ n ih =>
      intro y2_2 y2_p0_now H locs ls hf hW hl
      obtain ⟨o_2, hf, ho_2⟩ := itr_inv hf
      have hf : b_X7_goOn_2 v1 p0_persons p0_skies p0_oaths p0_kind p0_skyAt p0_skyLoud p0_one p0_other p0_worth p0_hangs y2_2 y2_p0_now = some o_2 := hf
      unfold b_X7_goOn_2 at hf
      refine lv_iload_n hx hb dX7_goOn_2 rfl (lv_at hl 2 rfl) ?_
      refine lv_iload_n hx hb dX7_goOn_3 rfl (lv_at hl 1 rfl) ?_
      refine lv_icmp_ge (tgt := 20) hx hb dX7_goOn_4 (by decide) (fun c_1 => ?_) (fun c_1 => ?_)
      · have hf := it_t c_1 hf
        have h9 := o_inr hf ho_2
        exact K_2 y2_p0_now h9 _ _ _ hW (lv_sub hl [] rfl)
      · have hf := it_f c_1 hf
        refine lv_aload_n hx hb dX7_goOn_7 rfl (lv_at hl 0 rfl) ?_
        refine lv_iconst (v := 1) hx hb dX7_goOn_8 (by decide) ?_
        refine lv_iconst (v := 1) hx hb dX7_goOn_9 (by decide) ?_
        obtain ⟨r_2, hr_2, hf⟩ := bnd hf
        refine q_callVI hB hW (ci := 7) (q0 := 0) rfl rfl rfl (As := [.int (1 : Int32), .int (1 : Int32)]) (rest := []) (ws' := [(a_p0, .inr (7, [.int p0_persons, .int p0_skies, .int p0_oaths, .ref a_p0_kind, .ref a_p0_skyAt, .ref a_p0_skyLoud, .ref a_p0_one, .ref a_p0_other, .ref a_p0_worth, .ref a_p0_hangs, .ref a_p0_now, .ref a_p0_readPerson, .ref a_p0_readSky, .ref a_p0_readOath, .int p0_readPersons, .int p0_readSkies, .int p0_readOaths, .ref a_p0_text, .int p0_length, .int p0_at, .int p0_faultAt, .int p0_acts, .int p0_next, .ref a_p0_row, .int p0_told, .ref a_p0_toldAt, .ref a_p0_toldWool, .ref a_p0_toldHeard, .long p0_seed, .ref a_p0_isKept, .ref a_p0_kept])), (a_p0_kind, .inl (cI, 5, .inl p0_kind)), (a_p0_skyAt, .inl (cI, 5, .inl p0_skyAt)), (a_p0_skyLoud, .inl (cI, 5, .inl p0_skyLoud)), (a_p0_one, .inl (cI, 5, .inl p0_one)), (a_p0_other, .inl (cI, 5, .inl p0_other)), (a_p0_worth, .inl (cI, 5, .inl p0_worth)), (a_p0_hangs, .inl (cI, 5, .inl p0_hangs)), (a_p0_now, .inl (cI, 18, .inl r_2.2))]) (c_X7_passOn l D cI cZ a_p0 a_p0_kind a_p0_skyAt a_p0_skyLoud a_p0_one a_p0_other a_p0_worth a_p0_hangs a_p0_now a_p0_readPerson a_p0_readSky a_p0_readOath a_p0_text a_p0_row a_p0_toldAt a_p0_toldWool a_p0_toldHeard a_p0_isKept a_p0_kept p0_persons p0_skies p0_oaths p0_readPersons p0_readSkies p0_readOaths p0_length p0_at p0_faultAt p0_acts p0_next p0_told p0_seed p0_kind p0_skyAt p0_skyLoud p0_one p0_other p0_worth p0_hangs y2_p0_now (1 : Int32) (1 : Int32) r_2 hr_2) (cwV 2 hts gX7_goOn_X7_passOn rfl rfl rfl (by decide +kernel) ⟨Nat.le_of_ble_eq_true rfl, Nat.le_of_ble_eq_true rfl⟩) [0, 1, 2, 3, 4, 5, 6, 7, 8] rfl rfl rfl rfl rfl hl.1 rfl (Nat.le_of_ble_eq_true rfl) ⟨Nat.le_of_ble_eq_true rfl, Nat.le_of_ble_eq_true rfl⟩ dX7_goOn_10 (fun H locs hW => ?_)
        refine lv_pop hx hb dX7_goOn_13 rfl ?_
        refine lv_iinc (v := (y2_2 + (1 : Int32))) (lv' := [(2, .int (y2_2 + (1 : Int32))), (0, .ref a_p0), (1, .int v1)]) hx hb dX7_goOn_14 hl (k := 2) rfl rfl (by decide) rfl (fun ls hl => ?_)
        refine lv_goto (tgt := 2) hx hb dX7_goOn_17 (by decide) ?_
        have h9 := o_inl hf ho_2
        exact ih (y2_2 + (1 : Int32)) r_2.2 _ _ _ h9 hW (lv_sub hl [1, 2, 0] rfl)
  exact L_2 FU (0 : Int32) p0_now _ _ _ hl_2 hW (lv_sub hl [1, 2, 0] rfl)
