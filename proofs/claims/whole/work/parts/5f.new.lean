/-! ===== constructors: rows for what is made anew ===== -/
def Rn (fr lo mc ms : Nat) : Room := { frames := fr, cells := mc, slots := ms, locals := lo }
def QN (D : va_G) (E : va_W → Prop) (A : Nat → Prop) : Array Value → State → Outcome → State → Prop := va_Qv (fun (_ : Unit) => True) (fun _ t => ∃ w, E w ∧ va_P D vwCl w t.heap ∧ va_D A w) A
def CtN (l : Launch) (D : va_G) (cI cZ : ClassId) (y : MethodName) (wy : List Cond) (fr lo mc ms : Nat) (av : List Value) (w0 : va_W) (E : va_W → Prop) : Prop := ∀ sz : Nat, Met l y wy (Rn fr lo mc ms) (PcX D cI cZ av w0 sz) (QN D E (va_A w0 sz)) mc ms (va_A w0 sz)
section NewRows
variable {p : Program} {l : Launch} {e : Env} {Rr : Room} {s : State} {m : MethodId} {args : Array Value} {below : List Frame} {meth : Method} {c : Code} {H : Heap} {locs : List Loc} {cells slots : Nat} {Q : State → Prop} {cc : ByteArray} {nL : Nat} {ret : Option FieldType} {own : String} {Ts : List Cond} {D : va_G} {cI cZ : ClassId} {A : Nat → Prop} {ls : Array Slot} {pc : Nat} {st rest : List Value} {ws ws' : va_W}
theorem q_newI (hB : Bx p s m meth c args cc nL ret own Ts D cI cZ A) (hW : Wl D A s.heap ws H locs) (harr : (Cond.arrayClass .int).before args s = true) {n : Int32} {N : Nat} (hn : ¬ n < 0) (hN : n.toNatClampNeg = N) (hbytes : N * componentBytes .int ≤ 536870912) (hcells : cells + 1 ≤ Rr.cells) (hslots : slots + N ≤ Rr.slots) (hdg : decode cc pc = .ok (.newarray .int, 2))
    (kk : ∀ (q : Nat) (H : Heap), Wl D A s.heap (ws ++ [(q, .inl (cI, N, .inl (fun _ => 0)))]) H locs → W p l e Rr s m args below meth c H locs (cells + 1) (slots + N) Q (F0 m (pc + 2) ls (.ref q :: rest))) : W p l e Rr s m args below meth c H locs cells slots Q (F0 m pc ls (.int n :: rest)) := by
  obtain ⟨hP, hD, hS⟩ := hW
  refine va_newa (atype := .int) (ty := .int) (a0 := (N, .inl (fun _ => 0))) hB.1 hB.2.1 harr rfl hB.2.2.2.2.2.2.2.1.1 hP hD hS hB.2.2.2.2.2.2.2.2 (fun _ => rfl) hn hN hbytes hcells hslots hdg (fun q cA H1 hK hP hD hS => ?_)
  have h1 : s.vm.findClass ("[" ++ FieldType.int.toString) = some cA := (hK.2 2 (cA, .int) rfl).2
  have h2 : s.vm.findClass ("[" ++ FieldType.int.toString) = some cI := (hB.2.2.2.2.2.2.2.1.1.2 0 (cI, .int) rfl).2
  have e1 : cA = cI := Option.some.inj (h1.symm.trans h2)
  subst e1
  exact kk q H1 ⟨hP, hD, hS⟩
theorem q_newZ (hB : Bx p s m meth c args cc nL ret own Ts D cI cZ A) (hW : Wl D A s.heap ws H locs) (harr : (Cond.arrayClass .boolean).before args s = true) {n : Int32} {N : Nat} (hn : ¬ n < 0) (hN : n.toNatClampNeg = N) (hbytes : N * componentBytes .boolean ≤ 536870912) (hcells : cells + 1 ≤ Rr.cells) (hslots : slots + N ≤ Rr.slots) (hdg : decode cc pc = .ok (.newarray .boolean, 2))
    (kk : ∀ (q : Nat) (H : Heap), Wl D A s.heap (ws ++ [(q, .inl (cZ, N, .inl (fun _ => 0)))]) H locs → W p l e Rr s m args below meth c H locs (cells + 1) (slots + N) Q (F0 m (pc + 2) ls (.ref q :: rest))) : W p l e Rr s m args below meth c H locs cells slots Q (F0 m pc ls (.int n :: rest)) := by
  obtain ⟨hP, hD, hS⟩ := hW
  refine va_newa (atype := .boolean) (ty := .boolean) (a0 := (N, .inl (fun _ => 0))) hB.1 hB.2.1 harr rfl hB.2.2.2.2.2.2.2.1.1 hP hD hS hB.2.2.2.2.2.2.2.2 (fun _ => rfl) hn hN hbytes hcells hslots hdg (fun q cA H1 hK hP hD hS => ?_)
  have h1 : s.vm.findClass ("[" ++ FieldType.boolean.toString) = some cA := (hK.2 2 (cA, .boolean) rfl).2
  have h2 : s.vm.findClass ("[" ++ FieldType.boolean.toString) = some cZ := (hB.2.2.2.2.2.2.2.1.1.2 1 (cZ, .boolean) rfl).2
  have e1 : cA = cZ := Option.some.inj (h1.symm.trans h2)
  subst e1
  exact kk q H1 ⟨hP, hD, hS⟩
theorem q_newO (hB : Bx p s m meth c args cc nL ret own Ts D cI cZ A) (hW : Wl D A s.heap ws H locs) {C : String} {T : u_T} {N index : Nat} (ci : Nat) (hin : ∀ w ∈ u_ws C T N, w ∈ Ts) (ty : Nat → FieldType) (hty : ∀ k, k < N → parseFieldDescriptor (T k).2.2.1 = some (ty k)) (hcl : (Cond.classLink own index C).before args s = true) (hinst : (Cond.instantiable C N).before args s = true) (hini : (Cond.initialized C).before args s = true) (hc : vwCl[ci]? = some (C, T, N)) (fs : List Value) (hfs : ∀ j, j < N → defaultValue (ty j) = vp_V fs j) (hcells : cells + 1 ≤ Rr.cells) (hslots : slots + N ≤ Rr.slots) (hdg : decode cc pc = .ok (.new index, 3))
    (kk : ∀ (q : Nat) (H : Heap), Wl D A s.heap (ws ++ [(q, .inr (ci, fs))]) H locs → W p l e Rr s m args below meth c H locs (cells + 1) (slots + N) Q (F0 m (pc + 3) ls (.ref q :: rest))) : W p l e Rr s m args below meth c H locs cells slots Q (F0 m pc ls rest) :=
  va_new hB.1 hB.2.1 hB.2.2.2.2.2.1 hin ty hty hB.2.2.2.2.1 hcl hinst hini hB.2.2.2.2.2.2.2.1.1 hW.1 hW.2.1 hW.2.2 hB.2.2.2.2.2.2.2.2 hc hfs hcells hslots hdg (fun q H1 hP hD hS => kk q H1 ⟨hP, hD, hS⟩)
theorem q_putF (hB : Bx p s m meth c args cc nL ret own Ts D cI cZ A) (hnm2 : meth.name = "<init>") (hW : Wl D A s.heap ws H locs) {C : String} {T : u_T} {N index : Nat} (ci : Nat) (hin : ∀ w ∈ u_ws C T N, w ∈ Ts) (ty0 : Nat → FieldType) (hty : ∀ k, k < N → parseFieldDescriptor (T k).2.2.1 = some (ty0 k)) (hnm : ∀ a, a < N → ∀ b, b < N → a ≠ b → (T a).2.1 ≠ (T b).2.1) (q0 : Nat) {a : Nat} {fs : List Value} (he : ws[q0]? = some (a, .inr (ci, fs))) (hc : vwCl[ci]? = some (C, T, N)) (k : Nat) (hk : k < N) (hlink : (Cond.fieldLink own index (T k).1 (T k).2.1 (T k).2.2.1).before args s = true) (hfin : (T k).2.2.2 = true) (hdecl : (T k).1 = own) {v : Value} (hn : narrow (ty0 k) v = v) (hfit : fits (ty0 k) v = true) (hl : k < fs.length) (hs : ws.set q0 (a, .inr (ci, fs.set k v)) = ws') (hdg : decode cc pc = .ok (.putfield index, 3))
    (kk : ∀ (H : Heap) (locs : List Loc), Wl D A s.heap ws' H locs → W p l e Rr s m args below meth c H locs cells slots Q (F0 m (pc + 3) ls rest)) : W p l e Rr s m args below meth c H locs cells slots Q (F0 m pc ls (v :: .ref a :: rest)) := by
  subst hs
  exact va_putF (D := D) (ref := (T k).1) hB.1 hB.2.1 hB.2.2.2.2.2.1 hin ty0 hty hnm hB.2.2.2.2.1 hB.2.2.2.2.2.2.2.1.1 hW.1 hW.2.1 hW.2.2 q0 he hc k hk hlink (fun _ h9 => h9) hfin hnm2 hdecl (hty k hk) hn hfit hl hdg (fun H1 l1 a1 a2 a3 => kk H1 l1 ⟨a1, a2, a3⟩)
theorem q_callI (hB : Bx p s m meth c args cc nL ret own Ts D cI cZ A) (hW : Wl D A s.heap ws H locs) {y : MethodName} {wy : List Cond} {fr lo mc ms index maxL n b : Nat} {bytes : ByteArray} {As : List Value} {wc wr : va_W} {E : va_W → Prop} (hM : CtN l D cI cZ y wy fr lo mc ms (.ref b :: As) wc E) (cw : CallB Rr s args own index y bytes maxL none wy (Rn fr lo mc ms) mc ms n ∧ y.name = "<init>" ∧ (Cond.instanceMethod y).before args s = true) (isC isR : List Nat) (hC : isC.map (fun i => ws[i]?) = wc.map some) (hR : isR.map (fun i => ws[i]?) = wr.map some) (hnC : va_nd isC = true) (hnR : va_nd isR = true) (hdis : ∀ i ∈ isR, i ∉ isC) (hn : As.length = n) (hls : ls.size = nL) (hst : st = As.reverse ++ .ref b :: rest) (hroom : (rest.map fun v => v.category).sum ≤ 8) (hcr : cells + mc ≤ Rr.cells ∧ slots + ms ≤ Rr.slots) (hd : decode cc pc = .ok (.invokespecial index, 3))
    (kk : ∀ w1, E w1 → ∀ (H : Heap) (locs : List Loc), Wl D A s.heap (wr ++ w1) H locs → W p l e Rr s m args below meth c H locs (cells + mc) (slots + ms) Q (F0 m (pc + 3) ls rest)) : W p l e Rr s m args below meth c H locs cells slots Q (F0 m pc ls st) := by
  obtain ⟨hP, hD, hS⟩ := hW
  have hPc := hP.sub isC (fm_of hC)
  have hDc := hD.sub isC hnC hC
  have hFc := va_free (wc := wc) hD hS hB.2.2.2.2.2.2.2.2 isC hC
  refine va_callv (va_runI (As := As) (rest := rest) ⟨hB.1, hB.2.1, hB.2.2.2.1, hB.2.2.2.2.1, hB.2.2.2.2.2.1⟩ (hM H.size) cw ⟨PcX.blind, fun U hU hW => ⟨rfl, by rw [hU], by rw [hU]; exact hPc, KX.warm hW hB.2.2.2.2.2.2.2.1, hDc.weaken (fun _ _ _ _ => trivial)⟩⟩ rfl hn hls hst (lv_room hroom) hd hcr) hS (fun q _ h => hFc q h) hFc (fun u_1 t_1 H1 locs1 ht hvm hw hB1 hz hk hS1 => ?_)
  obtain ⟨w1, hE, hP1, hD1⟩ := hB1
  rw [ht] at hP1
  obtain ⟨hP2, hD2⟩ := va_join (wr := wr) (w1 := w1) hP hD isC isR hC hR hnR hdis hk hFc hP1 hD1
  exact kk w1 hE H1 locs1 ⟨hP2, hD2, hS1⟩
theorem q_nret {E : va_W → Prop} {w : va_W} (hB : Bx p s m meth c args cc nL none own Ts D cI cZ A) (hE : E w) (hW : Wl D A s.heap w H locs) (hd : decode cc pc = .ok (.return_, 1)) : W p l e Rr s m args below meth c H locs cells slots (MQ below (QN D E A) args s cells slots A) (F0 m pc ls []) := by
  obtain ⟨hP, hD, hS⟩ := hW
  exact W.vret hB.1 hB.2.1 hB.2.2.1 (fun u hu hW => ⟨⟨(), rfl, trivial, w, hE, by rw [hu]; exact hP, hD⟩, hS.F hu⟩) hS.2.2 hd (hlocks := hB.2.2.2.2.2.2.1)
def EdN (p : Program) (l : Launch) (e : Env) (Rr : Room) (s : State) (m : MethodId) (args : Array Value) (below : List Frame) (meth : Method) (c : Code) (cc : ByteArray) (D : va_G) (A : Nat → Prop) (E : va_W → Prop) (mc ms : Nat) (Q : State → Prop) : Prop := ∀ (H : Heap) (locs : List Loc) (pc : Nat) (ls : Array Slot) (w : va_W), E w → Wl D A s.heap w H locs → decode cc pc = .ok (.return_, 1) → W p l e Rr s m args below meth c H locs mc ms Q (F0 m pc ls [])
theorem CtN.of {y : MethodName} {wy wt : List Cond} {fr lo mc ms : Nat} {av : List Value} {w0 : va_W} {E : va_W → Prop} {maxL : Nat} (hy : plainFor y = true) (hw : wy = Cond.code y cc maxL (none) :: wt) (hn : (lg_sl av).length ≤ maxL)
    (body : ∀ (p : Program) (e : Env) (s : State) (m : MethodId) (args : Array Value) (below : List Frame) (meth : Method) (c : Code) (A : Nat → Prop) (Q : State → Prop) (H : Heap) (ls : Array Slot), Bx p s m meth c args cc maxL (none) y.cls wy D cI cZ A → meth.name = y.name → EdN p l e (Rn fr lo mc ms) s m args below meth c cc D A E mc ms Q → Wl D A s.heap w0 H [] → lv_has ls maxL (lv_args 0 av) → W p l e (Rn fr lo mc ms) s m args below meth c H [] 0 0 Q (F0 m 0 ls [])) : CtN l D cI cZ y wy fr lo mc ms av w0 E := by
  intro sz
  refine Met_ofWF (cc := cc) (maxL := maxL) (ret := none) hy hw ?_
  intro p e s m args below meth c s₁ B hml hv
  obtain ⟨rfl, hsz, hP, hK, hD0⟩ := hv
  subst hsz
  have hD := hD0.self (sz := s.heap.size)
  have hl := lv_entry av (n := maxL) hn
  rw [lg_entry_eq]
  have hBx : Bx p s m meth c av.toArray cc maxL (none) y.cls wy D cI cZ (va_A w0 s.heap.size) := ⟨B.exec, B.bytes, B.returns, hml, findClass_of_methodNamed B.named, atoms_spec (ws := wy) B.pre, B.notSynchronized, hK, fun q h => Or.inr h⟩
  exact body p e s m av.toArray below meth c _ _ s.heap _ hBx (name_of_methodNamed B.named B.method).1 (fun H locs pc ls w h1 h2 h4 => q_nret hBx h1 h2 h4) ⟨hP, hD, va_S.rf⟩ hl
end NewRows
theorem dX0_init_0 : decode cX0_init 0 = .ok (.aload_n 0, 1) := by decide +kernel

theorem dfX0 : ∀ j, j < 2 → defaultValue (tyX0 j) = vp_V [.null, .int 0] j := by decide +kernel
theorem dfX1 : ∀ j, j < 11 → defaultValue (tyX1 j) = vp_V [.null, .null, .null, .null, .null, .null, .null, .null, .int 0, .int 0, .int 0] j := by decide +kernel
theorem dfX2 : ∀ j, j < 4 → defaultValue (tyX2 j) = vp_V [.null, .null, .null, .int 0] j := by decide +kernel
theorem dfX3 : ∀ j, j < 3 → defaultValue (tyX3 j) = vp_V [.null, .int 0, .int 0] j := by decide +kernel
theorem dfX4 : ∀ j, j < 6 → defaultValue (tyX4 j) = vp_V [.null, .int 0, .int 0, .int 0, .int 0, .int 0] j := by decide +kernel
theorem dfX5 : ∀ j, j < 2 → defaultValue (tyX5 j) = vp_V [.null, .int 0] j := by decide +kernel
theorem dfX6 : ∀ j, j < 11 → defaultValue (tyX6 j) = vp_V [.null, .null, .null, .null, .null, .null, .null, .null, .null, .int 0, .long 0] j := by decide +kernel
theorem dfX7 : ∀ j, j < 31 → defaultValue (tyX7 j) = vp_V [.int 0, .int 0, .int 0, .null, .null, .null, .null, .null, .null, .null, .null, .null, .null, .null, .int 0, .int 0, .int 0, .null, .int 0, .int 0, .int 0, .int 0, .int 0, .null, .int 0, .null, .null, .null, .long 0, .null, .null] j := by decide +kernel
theorem in_X0_init_X0 : ∀ w ∈ wsX00, w ∈ wsX0_init := by decide +kernel
def e_X0 (cI cZ : ClassId) (h0  : Nat) : va_W → Prop := fun w => ∃ q7 : Nat, w = [(h0, .inr (0, [.ref q7, .int 0])), (q7, .inl (cI, 70, .inl (fun _ => 0)))]
set_option maxHeartbeats 4000000 in
set_option maxRecDepth 100000 in
theorem n_X0 (l : Launch) (D : va_G) (cI cZ : ClassId) (h0  : Nat) : CtN l D cI cZ yX0_init wsX0_init 1 12 1 70 [.ref h0] [(h0, .inr (0, [.null, .int 0]))] (e_X0 cI cZ h0 ) := by
  refine CtN.of (cc := cX0_init) (maxL := 1) (plainFor_of_name (by decide)) rfl (Nat.le_of_ble_eq_true rfl) ?_
  intro p e s m args below meth c A Q H ls hB hnm hE hW hl
  have hnm : meth.name = "<init>" := hnm
  have hx := hB.1
  have hb := hB.2.1
  have hml := hB.2.2.2.1
  have hown : s.vm.findClass RX0 = some m.cls := hB.2.2.2.2.1
  have hts := hB.2.2.2.2.2.1
  have hl : lv_has ls 1 [(0, .ref h0)] := hl
  have in_X0 : ∀ w ∈ wsX00, w ∈ wsX0_init := in_X0_init_X0
  have fl_11 : (Cond.fieldLink RX0 11 (TX0 0).1 (TX0 0).2.1 (TX0 0).2.2.1).before args s = true := hts (.fieldLink RX0 11 "ClapOaths$Acts" "row" "[I") (by decide +kernel)
  have fl_17 : (Cond.fieldLink RX0 17 (TX0 1).1 (TX0 1).2.1 (TX0 1).2.2.1).before args s = true := hts (.fieldLink RX0 17 "ClapOaths$Acts" "length" "I") (by decide +kernel)
  refine lv_aload_n hx hb dX0_init_0 rfl (lv_at hl 0 rfl) ?_
  refine W.objInit hx hb hown (hts (.methodLink RX0 3 objectInit) (by decide +kernel)) (hts (.instanceMethod objectInit) (by decide +kernel)) (hts (.code objectInit ⟨#[0xb1]⟩ 1 none) (by decide +kernel)) rfl (by rw [hml]; exact hl.1) rfl dX0_init_1 (Nat.le_of_ble_eq_true rfl) (Nat.le_of_ble_eq_true rfl) ?_
  refine W.eq (g2 := F0 m 4 ls []) rfl ?_
  refine lv_aload_n hx hb dX0_init_4 rfl (lv_at hl 0 rfl) ?_
  refine lv_bipush (v := 70) hx hb dX0_init_5 (by decide) ?_
  refine q_newI hB hW (hts (.arrayClass .int) (by decide +kernel)) (N := 70) (by decide) rfl (Nat.le_of_ble_eq_true rfl) (Nat.le_of_ble_eq_true rfl) (Nat.le_of_ble_eq_true rfl) dX0_init_7 (fun q7 H hW => ?_)
  have hW : Wl D A s.heap [(h0, .inr (0, [.null, .int 0])), (q7, .inl (cI, 70, .inl (fun _ => 0)))] H _ := hW
  refine q_putF hB hnm hW 0 in_X0 tyX0 tyX0_ok nmX0 0 rfl rfl 0 (by decide) fl_11 rfl rfl (by first | rfl | decide) (by first | rfl | decide) (Nat.le_of_ble_eq_true rfl) (ws' := [(h0, .inr (0, [.ref q7, .int 0])), (q7, .inl (cI, 70, .inl (fun _ => 0)))]) rfl dX0_init_9 (fun H locs hW => ?_)
  refine lv_aload_n hx hb dX0_init_12 rfl (lv_at hl 0 rfl) ?_
  refine lv_iconst (v := 0) hx hb dX0_init_13 (by decide) ?_
  refine q_put hB hW 0 in_X0 tyX0 tyX0_ok nmX0 0 rfl rfl 1 (by decide) fl_17 rfl (by first | rfl | decide) (by first | rfl | decide) (Nat.le_of_ble_eq_true rfl) (ws' := [(h0, .inr (0, [.ref q7, .int 0])), (q7, .inl (cI, 70, .inl (fun _ => 0)))]) rfl dX0_init_14 (fun H locs hW => ?_)
  exact hE _ _ _ _ _ ⟨q7, rfl⟩ hW dX0_init_17
theorem in_X1_init_X1 : ∀ w ∈ wsX10, w ∈ wsX1_init := by decide +kernel
def e_X1 (cI cZ : ClassId) (h0  : Nat) : va_W → Prop := fun w => ∃ q6 q13 q20 q27 q34 q41 q48 q55 : Nat, w = [(h0, .inr (1, [.ref q6, .ref q13, .ref q20, .ref q27, .ref q34, .ref q41, .ref q48, .ref q55, .int 0, .int 0, .int 0])), (q6, .inl (cI, 5, .inl (fun _ => 0))), (q13, .inl (cI, 5, .inl (fun _ => 0))), (q20, .inl (cI, 5, .inl (fun _ => 0))), (q27, .inl (cI, 5, .inl (fun _ => 0))), (q34, .inl (cI, 5, .inl (fun _ => 0))), (q41, .inl (cI, 5, .inl (fun _ => 0))), (q48, .inl (cI, 5, .inl (fun _ => 0))), (q55, .inl (cI, 5, .inl (fun _ => 0)))]
set_option maxHeartbeats 4000000 in
set_option maxRecDepth 100000 in
theorem n_X1 (l : Launch) (D : va_G) (cI cZ : ClassId) (h0  : Nat) : CtN l D cI cZ yX1_init wsX1_init 1 12 8 40 [.ref h0] [(h0, .inr (1, [.null, .null, .null, .null, .null, .null, .null, .null, .int 0, .int 0, .int 0]))] (e_X1 cI cZ h0 ) := by
  refine CtN.of (cc := cX1_init) (maxL := 1) (plainFor_of_name (by decide)) rfl (Nat.le_of_ble_eq_true rfl) ?_
  intro p e s m args below meth c A Q H ls hB hnm hE hW hl
  have hnm : meth.name = "<init>" := hnm
  have hx := hB.1
  have hb := hB.2.1
  have hml := hB.2.2.2.1
  have hown : s.vm.findClass RX1 = some m.cls := hB.2.2.2.2.1
  have hts := hB.2.2.2.2.2.1
  have hl : lv_has ls 1 [(0, .ref h0)] := hl
  have in_X1 : ∀ w ∈ wsX10, w ∈ wsX1_init := in_X1_init_X1
  have fl_9 : (Cond.fieldLink RX1 9 (TX1 0).1 (TX1 0).2.1 (TX1 0).2.2.1).before args s = true := hts (.fieldLink RX1 9 "ClapOaths$County" "places" "[I") (by decide +kernel)
  have fl_15 : (Cond.fieldLink RX1 15 (TX1 1).1 (TX1 1).2.1 (TX1 1).2.2.1).before args s = true := hts (.fieldLink RX1 15 "ClapOaths$County" "kinds" "[I") (by decide +kernel)
  have fl_18 : (Cond.fieldLink RX1 18 (TX1 2).1 (TX1 2).2.1 (TX1 2).2.2.1).before args s = true := hts (.fieldLink RX1 18 "ClapOaths$County" "clapPlaces" "[I") (by decide +kernel)
  have fl_21 : (Cond.fieldLink RX1 21 (TX1 3).1 (TX1 3).2.1 (TX1 3).2.2.1).before args s = true := hts (.fieldLink RX1 21 "ClapOaths$County" "louds" "[I") (by decide +kernel)
  have fl_24 : (Cond.fieldLink RX1 24 (TX1 4).1 (TX1 4).2.1 (TX1 4).2.2.1).before args s = true := hts (.fieldLink RX1 24 "ClapOaths$County" "ones" "[I") (by decide +kernel)
  have fl_27 : (Cond.fieldLink RX1 27 (TX1 5).1 (TX1 5).2.1 (TX1 5).2.2.1).before args s = true := hts (.fieldLink RX1 27 "ClapOaths$County" "others" "[I") (by decide +kernel)
  have fl_30 : (Cond.fieldLink RX1 30 (TX1 6).1 (TX1 6).2.1 (TX1 6).2.2.1).before args s = true := hts (.fieldLink RX1 30 "ClapOaths$County" "worths" "[I") (by decide +kernel)
  have fl_33 : (Cond.fieldLink RX1 33 (TX1 7).1 (TX1 7).2.1 (TX1 7).2.2.1).before args s = true := hts (.fieldLink RX1 33 "ClapOaths$County" "hangs" "[I") (by decide +kernel)
  have fl_36 : (Cond.fieldLink RX1 36 (TX1 8).1 (TX1 8).2.1 (TX1 8).2.2.1).before args s = true := hts (.fieldLink RX1 36 "ClapOaths$County" "persons" "I") (by decide +kernel)
  have fl_40 : (Cond.fieldLink RX1 40 (TX1 9).1 (TX1 9).2.1 (TX1 9).2.2.1).before args s = true := hts (.fieldLink RX1 40 "ClapOaths$County" "skies" "I") (by decide +kernel)
  have fl_43 : (Cond.fieldLink RX1 43 (TX1 10).1 (TX1 10).2.1 (TX1 10).2.2.1).before args s = true := hts (.fieldLink RX1 43 "ClapOaths$County" "oaths" "I") (by decide +kernel)
  refine lv_aload_n hx hb dX1_init_0 rfl (lv_at hl 0 rfl) ?_
  refine W.objInit hx hb hown (hts (.methodLink RX1 3 objectInit) (by decide +kernel)) (hts (.instanceMethod objectInit) (by decide +kernel)) (hts (.code objectInit ⟨#[0xb1]⟩ 1 none) (by decide +kernel)) rfl (by rw [hml]; exact hl.1) rfl dX1_init_1 (Nat.le_of_ble_eq_true rfl) (Nat.le_of_ble_eq_true rfl) ?_
  refine W.eq (g2 := F0 m 4 ls []) rfl ?_
  refine lv_aload_n hx hb dX1_init_4 rfl (lv_at hl 0 rfl) ?_
  refine lv_iconst (v := 5) hx hb dX1_init_5 (by decide) ?_
  refine q_newI hB hW (hts (.arrayClass .int) (by decide +kernel)) (N := 5) (by decide) rfl (Nat.le_of_ble_eq_true rfl) (Nat.le_of_ble_eq_true rfl) (Nat.le_of_ble_eq_true rfl) dX1_init_6 (fun q6 H hW => ?_)
  have hW : Wl D A s.heap [(h0, .inr (1, [.null, .null, .null, .null, .null, .null, .null, .null, .int 0, .int 0, .int 0])), (q6, .inl (cI, 5, .inl (fun _ => 0)))] H _ := hW
  refine q_putF hB hnm hW 1 in_X1 tyX1 tyX1_ok nmX1 0 rfl rfl 0 (by decide) fl_9 rfl rfl (by first | rfl | decide) (by first | rfl | decide) (Nat.le_of_ble_eq_true rfl) (ws' := [(h0, .inr (1, [.ref q6, .null, .null, .null, .null, .null, .null, .null, .int 0, .int 0, .int 0])), (q6, .inl (cI, 5, .inl (fun _ => 0)))]) rfl dX1_init_8 (fun H locs hW => ?_)
  refine lv_aload_n hx hb dX1_init_11 rfl (lv_at hl 0 rfl) ?_
  refine lv_iconst (v := 5) hx hb dX1_init_12 (by decide) ?_
  refine q_newI hB hW (hts (.arrayClass .int) (by decide +kernel)) (N := 5) (by decide) rfl (Nat.le_of_ble_eq_true rfl) (Nat.le_of_ble_eq_true rfl) (Nat.le_of_ble_eq_true rfl) dX1_init_13 (fun q13 H hW => ?_)
  have hW : Wl D A s.heap [(h0, .inr (1, [.ref q6, .null, .null, .null, .null, .null, .null, .null, .int 0, .int 0, .int 0])), (q6, .inl (cI, 5, .inl (fun _ => 0))), (q13, .inl (cI, 5, .inl (fun _ => 0)))] H _ := hW
  refine q_putF hB hnm hW 1 in_X1 tyX1 tyX1_ok nmX1 0 rfl rfl 1 (by decide) fl_15 rfl rfl (by first | rfl | decide) (by first | rfl | decide) (Nat.le_of_ble_eq_true rfl) (ws' := [(h0, .inr (1, [.ref q6, .ref q13, .null, .null, .null, .null, .null, .null, .int 0, .int 0, .int 0])), (q6, .inl (cI, 5, .inl (fun _ => 0))), (q13, .inl (cI, 5, .inl (fun _ => 0)))]) rfl dX1_init_15 (fun H locs hW => ?_)
  refine lv_aload_n hx hb dX1_init_18 rfl (lv_at hl 0 rfl) ?_
  refine lv_iconst (v := 5) hx hb dX1_init_19 (by decide) ?_
  refine q_newI hB hW (hts (.arrayClass .int) (by decide +kernel)) (N := 5) (by decide) rfl (Nat.le_of_ble_eq_true rfl) (Nat.le_of_ble_eq_true rfl) (Nat.le_of_ble_eq_true rfl) dX1_init_20 (fun q20 H hW => ?_)
  have hW : Wl D A s.heap [(h0, .inr (1, [.ref q6, .ref q13, .null, .null, .null, .null, .null, .null, .int 0, .int 0, .int 0])), (q6, .inl (cI, 5, .inl (fun _ => 0))), (q13, .inl (cI, 5, .inl (fun _ => 0))), (q20, .inl (cI, 5, .inl (fun _ => 0)))] H _ := hW
  refine q_putF hB hnm hW 1 in_X1 tyX1 tyX1_ok nmX1 0 rfl rfl 2 (by decide) fl_18 rfl rfl (by first | rfl | decide) (by first | rfl | decide) (Nat.le_of_ble_eq_true rfl) (ws' := [(h0, .inr (1, [.ref q6, .ref q13, .ref q20, .null, .null, .null, .null, .null, .int 0, .int 0, .int 0])), (q6, .inl (cI, 5, .inl (fun _ => 0))), (q13, .inl (cI, 5, .inl (fun _ => 0))), (q20, .inl (cI, 5, .inl (fun _ => 0)))]) rfl dX1_init_22 (fun H locs hW => ?_)
  refine lv_aload_n hx hb dX1_init_25 rfl (lv_at hl 0 rfl) ?_
  refine lv_iconst (v := 5) hx hb dX1_init_26 (by decide) ?_
  refine q_newI hB hW (hts (.arrayClass .int) (by decide +kernel)) (N := 5) (by decide) rfl (Nat.le_of_ble_eq_true rfl) (Nat.le_of_ble_eq_true rfl) (Nat.le_of_ble_eq_true rfl) dX1_init_27 (fun q27 H hW => ?_)
  have hW : Wl D A s.heap [(h0, .inr (1, [.ref q6, .ref q13, .ref q20, .null, .null, .null, .null, .null, .int 0, .int 0, .int 0])), (q6, .inl (cI, 5, .inl (fun _ => 0))), (q13, .inl (cI, 5, .inl (fun _ => 0))), (q20, .inl (cI, 5, .inl (fun _ => 0))), (q27, .inl (cI, 5, .inl (fun _ => 0)))] H _ := hW
  refine q_putF hB hnm hW 1 in_X1 tyX1 tyX1_ok nmX1 0 rfl rfl 3 (by decide) fl_21 rfl rfl (by first | rfl | decide) (by first | rfl | decide) (Nat.le_of_ble_eq_true rfl) (ws' := [(h0, .inr (1, [.ref q6, .ref q13, .ref q20, .ref q27, .null, .null, .null, .null, .int 0, .int 0, .int 0])), (q6, .inl (cI, 5, .inl (fun _ => 0))), (q13, .inl (cI, 5, .inl (fun _ => 0))), (q20, .inl (cI, 5, .inl (fun _ => 0))), (q27, .inl (cI, 5, .inl (fun _ => 0)))]) rfl dX1_init_29 (fun H locs hW => ?_)
  refine lv_aload_n hx hb dX1_init_32 rfl (lv_at hl 0 rfl) ?_
  refine lv_iconst (v := 5) hx hb dX1_init_33 (by decide) ?_
  refine q_newI hB hW (hts (.arrayClass .int) (by decide +kernel)) (N := 5) (by decide) rfl (Nat.le_of_ble_eq_true rfl) (Nat.le_of_ble_eq_true rfl) (Nat.le_of_ble_eq_true rfl) dX1_init_34 (fun q34 H hW => ?_)
  have hW : Wl D A s.heap [(h0, .inr (1, [.ref q6, .ref q13, .ref q20, .ref q27, .null, .null, .null, .null, .int 0, .int 0, .int 0])), (q6, .inl (cI, 5, .inl (fun _ => 0))), (q13, .inl (cI, 5, .inl (fun _ => 0))), (q20, .inl (cI, 5, .inl (fun _ => 0))), (q27, .inl (cI, 5, .inl (fun _ => 0))), (q34, .inl (cI, 5, .inl (fun _ => 0)))] H _ := hW
  refine q_putF hB hnm hW 1 in_X1 tyX1 tyX1_ok nmX1 0 rfl rfl 4 (by decide) fl_24 rfl rfl (by first | rfl | decide) (by first | rfl | decide) (Nat.le_of_ble_eq_true rfl) (ws' := [(h0, .inr (1, [.ref q6, .ref q13, .ref q20, .ref q27, .ref q34, .null, .null, .null, .int 0, .int 0, .int 0])), (q6, .inl (cI, 5, .inl (fun _ => 0))), (q13, .inl (cI, 5, .inl (fun _ => 0))), (q20, .inl (cI, 5, .inl (fun _ => 0))), (q27, .inl (cI, 5, .inl (fun _ => 0))), (q34, .inl (cI, 5, .inl (fun _ => 0)))]) rfl dX1_init_36 (fun H locs hW => ?_)
  refine lv_aload_n hx hb dX1_init_39 rfl (lv_at hl 0 rfl) ?_
  refine lv_iconst (v := 5) hx hb dX1_init_40 (by decide) ?_
  refine q_newI hB hW (hts (.arrayClass .int) (by decide +kernel)) (N := 5) (by decide) rfl (Nat.le_of_ble_eq_true rfl) (Nat.le_of_ble_eq_true rfl) (Nat.le_of_ble_eq_true rfl) dX1_init_41 (fun q41 H hW => ?_)
  have hW : Wl D A s.heap [(h0, .inr (1, [.ref q6, .ref q13, .ref q20, .ref q27, .ref q34, .null, .null, .null, .int 0, .int 0, .int 0])), (q6, .inl (cI, 5, .inl (fun _ => 0))), (q13, .inl (cI, 5, .inl (fun _ => 0))), (q20, .inl (cI, 5, .inl (fun _ => 0))), (q27, .inl (cI, 5, .inl (fun _ => 0))), (q34, .inl (cI, 5, .inl (fun _ => 0))), (q41, .inl (cI, 5, .inl (fun _ => 0)))] H _ := hW
  refine q_putF hB hnm hW 1 in_X1 tyX1 tyX1_ok nmX1 0 rfl rfl 5 (by decide) fl_27 rfl rfl (by first | rfl | decide) (by first | rfl | decide) (Nat.le_of_ble_eq_true rfl) (ws' := [(h0, .inr (1, [.ref q6, .ref q13, .ref q20, .ref q27, .ref q34, .ref q41, .null, .null, .int 0, .int 0, .int 0])), (q6, .inl (cI, 5, .inl (fun _ => 0))), (q13, .inl (cI, 5, .inl (fun _ => 0))), (q20, .inl (cI, 5, .inl (fun _ => 0))), (q27, .inl (cI, 5, .inl (fun _ => 0))), (q34, .inl (cI, 5, .inl (fun _ => 0))), (q41, .inl (cI, 5, .inl (fun _ => 0)))]) rfl dX1_init_43 (fun H locs hW => ?_)
  refine lv_aload_n hx hb dX1_init_46 rfl (lv_at hl 0 rfl) ?_
  refine lv_iconst (v := 5) hx hb dX1_init_47 (by decide) ?_
  refine q_newI hB hW (hts (.arrayClass .int) (by decide +kernel)) (N := 5) (by decide) rfl (Nat.le_of_ble_eq_true rfl) (Nat.le_of_ble_eq_true rfl) (Nat.le_of_ble_eq_true rfl) dX1_init_48 (fun q48 H hW => ?_)
  have hW : Wl D A s.heap [(h0, .inr (1, [.ref q6, .ref q13, .ref q20, .ref q27, .ref q34, .ref q41, .null, .null, .int 0, .int 0, .int 0])), (q6, .inl (cI, 5, .inl (fun _ => 0))), (q13, .inl (cI, 5, .inl (fun _ => 0))), (q20, .inl (cI, 5, .inl (fun _ => 0))), (q27, .inl (cI, 5, .inl (fun _ => 0))), (q34, .inl (cI, 5, .inl (fun _ => 0))), (q41, .inl (cI, 5, .inl (fun _ => 0))), (q48, .inl (cI, 5, .inl (fun _ => 0)))] H _ := hW
  refine q_putF hB hnm hW 1 in_X1 tyX1 tyX1_ok nmX1 0 rfl rfl 6 (by decide) fl_30 rfl rfl (by first | rfl | decide) (by first | rfl | decide) (Nat.le_of_ble_eq_true rfl) (ws' := [(h0, .inr (1, [.ref q6, .ref q13, .ref q20, .ref q27, .ref q34, .ref q41, .ref q48, .null, .int 0, .int 0, .int 0])), (q6, .inl (cI, 5, .inl (fun _ => 0))), (q13, .inl (cI, 5, .inl (fun _ => 0))), (q20, .inl (cI, 5, .inl (fun _ => 0))), (q27, .inl (cI, 5, .inl (fun _ => 0))), (q34, .inl (cI, 5, .inl (fun _ => 0))), (q41, .inl (cI, 5, .inl (fun _ => 0))), (q48, .inl (cI, 5, .inl (fun _ => 0)))]) rfl dX1_init_50 (fun H locs hW => ?_)
  refine lv_aload_n hx hb dX1_init_53 rfl (lv_at hl 0 rfl) ?_
  refine lv_iconst (v := 5) hx hb dX1_init_54 (by decide) ?_
  refine q_newI hB hW (hts (.arrayClass .int) (by decide +kernel)) (N := 5) (by decide) rfl (Nat.le_of_ble_eq_true rfl) (Nat.le_of_ble_eq_true rfl) (Nat.le_of_ble_eq_true rfl) dX1_init_55 (fun q55 H hW => ?_)
  have hW : Wl D A s.heap [(h0, .inr (1, [.ref q6, .ref q13, .ref q20, .ref q27, .ref q34, .ref q41, .ref q48, .null, .int 0, .int 0, .int 0])), (q6, .inl (cI, 5, .inl (fun _ => 0))), (q13, .inl (cI, 5, .inl (fun _ => 0))), (q20, .inl (cI, 5, .inl (fun _ => 0))), (q27, .inl (cI, 5, .inl (fun _ => 0))), (q34, .inl (cI, 5, .inl (fun _ => 0))), (q41, .inl (cI, 5, .inl (fun _ => 0))), (q48, .inl (cI, 5, .inl (fun _ => 0))), (q55, .inl (cI, 5, .inl (fun _ => 0)))] H _ := hW
  refine q_putF hB hnm hW 1 in_X1 tyX1 tyX1_ok nmX1 0 rfl rfl 7 (by decide) fl_33 rfl rfl (by first | rfl | decide) (by first | rfl | decide) (Nat.le_of_ble_eq_true rfl) (ws' := [(h0, .inr (1, [.ref q6, .ref q13, .ref q20, .ref q27, .ref q34, .ref q41, .ref q48, .ref q55, .int 0, .int 0, .int 0])), (q6, .inl (cI, 5, .inl (fun _ => 0))), (q13, .inl (cI, 5, .inl (fun _ => 0))), (q20, .inl (cI, 5, .inl (fun _ => 0))), (q27, .inl (cI, 5, .inl (fun _ => 0))), (q34, .inl (cI, 5, .inl (fun _ => 0))), (q41, .inl (cI, 5, .inl (fun _ => 0))), (q48, .inl (cI, 5, .inl (fun _ => 0))), (q55, .inl (cI, 5, .inl (fun _ => 0)))]) rfl dX1_init_57 (fun H locs hW => ?_)
  refine lv_aload_n hx hb dX1_init_60 rfl (lv_at hl 0 rfl) ?_
  refine lv_iconst (v := 0) hx hb dX1_init_61 (by decide) ?_
  refine q_put hB hW 1 in_X1 tyX1 tyX1_ok nmX1 0 rfl rfl 8 (by decide) fl_36 rfl (by first | rfl | decide) (by first | rfl | decide) (Nat.le_of_ble_eq_true rfl) (ws' := [(h0, .inr (1, [.ref q6, .ref q13, .ref q20, .ref q27, .ref q34, .ref q41, .ref q48, .ref q55, .int 0, .int 0, .int 0])), (q6, .inl (cI, 5, .inl (fun _ => 0))), (q13, .inl (cI, 5, .inl (fun _ => 0))), (q20, .inl (cI, 5, .inl (fun _ => 0))), (q27, .inl (cI, 5, .inl (fun _ => 0))), (q34, .inl (cI, 5, .inl (fun _ => 0))), (q41, .inl (cI, 5, .inl (fun _ => 0))), (q48, .inl (cI, 5, .inl (fun _ => 0))), (q55, .inl (cI, 5, .inl (fun _ => 0)))]) rfl dX1_init_62 (fun H locs hW => ?_)
  refine lv_aload_n hx hb dX1_init_65 rfl (lv_at hl 0 rfl) ?_
  refine lv_iconst (v := 0) hx hb dX1_init_66 (by decide) ?_
  refine q_put hB hW 1 in_X1 tyX1 tyX1_ok nmX1 0 rfl rfl 9 (by decide) fl_40 rfl (by first | rfl | decide) (by first | rfl | decide) (Nat.le_of_ble_eq_true rfl) (ws' := [(h0, .inr (1, [.ref q6, .ref q13, .ref q20, .ref q27, .ref q34, .ref q41, .ref q48, .ref q55, .int 0, .int 0, .int 0])), (q6, .inl (cI, 5, .inl (fun _ => 0))), (q13, .inl (cI, 5, .inl (fun _ => 0))), (q20, .inl (cI, 5, .inl (fun _ => 0))), (q27, .inl (cI, 5, .inl (fun _ => 0))), (q34, .inl (cI, 5, .inl (fun _ => 0))), (q41, .inl (cI, 5, .inl (fun _ => 0))), (q48, .inl (cI, 5, .inl (fun _ => 0))), (q55, .inl (cI, 5, .inl (fun _ => 0)))]) rfl dX1_init_67 (fun H locs hW => ?_)
  refine lv_aload_n hx hb dX1_init_70 rfl (lv_at hl 0 rfl) ?_
  refine lv_iconst (v := 0) hx hb dX1_init_71 (by decide) ?_
  refine q_put hB hW 1 in_X1 tyX1 tyX1_ok nmX1 0 rfl rfl 10 (by decide) fl_43 rfl (by first | rfl | decide) (by first | rfl | decide) (Nat.le_of_ble_eq_true rfl) (ws' := [(h0, .inr (1, [.ref q6, .ref q13, .ref q20, .ref q27, .ref q34, .ref q41, .ref q48, .ref q55, .int 0, .int 0, .int 0])), (q6, .inl (cI, 5, .inl (fun _ => 0))), (q13, .inl (cI, 5, .inl (fun _ => 0))), (q20, .inl (cI, 5, .inl (fun _ => 0))), (q27, .inl (cI, 5, .inl (fun _ => 0))), (q34, .inl (cI, 5, .inl (fun _ => 0))), (q41, .inl (cI, 5, .inl (fun _ => 0))), (q48, .inl (cI, 5, .inl (fun _ => 0))), (q55, .inl (cI, 5, .inl (fun _ => 0)))]) rfl dX1_init_72 (fun H locs hW => ?_)
  exact hE _ _ _ _ _ ⟨q6, q13, q20, q27, q34, q41, q48, q55, rfl⟩ hW dX1_init_75
theorem in_X2_init_X2 : ∀ w ∈ wsX20, w ∈ wsX2_init := by decide +kernel
def e_X2 (cI cZ : ClassId) (h0  : Nat) : va_W → Prop := fun w => ∃ q7 q15 q23 : Nat, w = [(h0, .inr (2, [.ref q7, .ref q15, .ref q23, .int 0])), (q7, .inl (cI, 6, .inl (fun _ => 0))), (q15, .inl (cI, 6, .inl (fun _ => 0))), (q23, .inl (cI, 6, .inl (fun _ => 0)))]
set_option maxHeartbeats 4000000 in
set_option maxRecDepth 100000 in
theorem n_X2 (l : Launch) (D : va_G) (cI cZ : ClassId) (h0  : Nat) : CtN l D cI cZ yX2_init wsX2_init 1 12 3 18 [.ref h0] [(h0, .inr (2, [.null, .null, .null, .int 0]))] (e_X2 cI cZ h0 ) := by
  refine CtN.of (cc := cX2_init) (maxL := 1) (plainFor_of_name (by decide)) rfl (Nat.le_of_ble_eq_true rfl) ?_
  intro p e s m args below meth c A Q H ls hB hnm hE hW hl
  have hnm : meth.name = "<init>" := hnm
  have hx := hB.1
  have hb := hB.2.1
  have hml := hB.2.2.2.1
  have hown : s.vm.findClass RX2 = some m.cls := hB.2.2.2.2.1
  have hts := hB.2.2.2.2.2.1
  have hl : lv_has ls 1 [(0, .ref h0)] := hl
  have in_X2 : ∀ w ∈ wsX20, w ∈ wsX2_init := in_X2_init_X2
  have fl_9 : (Cond.fieldLink RX2 9 (TX2 0).1 (TX2 0).2.1 (TX2 0).2.2.1).before args s = true := hts (.fieldLink RX2 9 "ClapOaths$Heard" "places" "[I") (by decide +kernel)
  have fl_15 : (Cond.fieldLink RX2 15 (TX2 1).1 (TX2 1).2.1 (TX2 1).2.2.1).before args s = true := hts (.fieldLink RX2 15 "ClapOaths$Heard" "wools" "[I") (by decide +kernel)
  have fl_18 : (Cond.fieldLink RX2 18 (TX2 2).1 (TX2 2).2.1 (TX2 2).2.2.1).before args s = true := hts (.fieldLink RX2 18 "ClapOaths$Heard" "answers" "[I") (by decide +kernel)
  have fl_21 : (Cond.fieldLink RX2 21 (TX2 3).1 (TX2 3).2.1 (TX2 3).2.2.1).before args s = true := hts (.fieldLink RX2 21 "ClapOaths$Heard" "length" "I") (by decide +kernel)
  refine lv_aload_n hx hb dX2_init_0 rfl (lv_at hl 0 rfl) ?_
  refine W.objInit hx hb hown (hts (.methodLink RX2 3 objectInit) (by decide +kernel)) (hts (.instanceMethod objectInit) (by decide +kernel)) (hts (.code objectInit ⟨#[0xb1]⟩ 1 none) (by decide +kernel)) rfl (by rw [hml]; exact hl.1) rfl dX2_init_1 (Nat.le_of_ble_eq_true rfl) (Nat.le_of_ble_eq_true rfl) ?_
  refine W.eq (g2 := F0 m 4 ls []) rfl ?_
  refine lv_aload_n hx hb dX2_init_4 rfl (lv_at hl 0 rfl) ?_
  refine lv_bipush (v := 6) hx hb dX2_init_5 (by decide) ?_
  refine q_newI hB hW (hts (.arrayClass .int) (by decide +kernel)) (N := 6) (by decide) rfl (Nat.le_of_ble_eq_true rfl) (Nat.le_of_ble_eq_true rfl) (Nat.le_of_ble_eq_true rfl) dX2_init_7 (fun q7 H hW => ?_)
  have hW : Wl D A s.heap [(h0, .inr (2, [.null, .null, .null, .int 0])), (q7, .inl (cI, 6, .inl (fun _ => 0)))] H _ := hW
  refine q_putF hB hnm hW 2 in_X2 tyX2 tyX2_ok nmX2 0 rfl rfl 0 (by decide) fl_9 rfl rfl (by first | rfl | decide) (by first | rfl | decide) (Nat.le_of_ble_eq_true rfl) (ws' := [(h0, .inr (2, [.ref q7, .null, .null, .int 0])), (q7, .inl (cI, 6, .inl (fun _ => 0)))]) rfl dX2_init_9 (fun H locs hW => ?_)
  refine lv_aload_n hx hb dX2_init_12 rfl (lv_at hl 0 rfl) ?_
  refine lv_bipush (v := 6) hx hb dX2_init_13 (by decide) ?_
  refine q_newI hB hW (hts (.arrayClass .int) (by decide +kernel)) (N := 6) (by decide) rfl (Nat.le_of_ble_eq_true rfl) (Nat.le_of_ble_eq_true rfl) (Nat.le_of_ble_eq_true rfl) dX2_init_15 (fun q15 H hW => ?_)
  have hW : Wl D A s.heap [(h0, .inr (2, [.ref q7, .null, .null, .int 0])), (q7, .inl (cI, 6, .inl (fun _ => 0))), (q15, .inl (cI, 6, .inl (fun _ => 0)))] H _ := hW
  refine q_putF hB hnm hW 2 in_X2 tyX2 tyX2_ok nmX2 0 rfl rfl 1 (by decide) fl_15 rfl rfl (by first | rfl | decide) (by first | rfl | decide) (Nat.le_of_ble_eq_true rfl) (ws' := [(h0, .inr (2, [.ref q7, .ref q15, .null, .int 0])), (q7, .inl (cI, 6, .inl (fun _ => 0))), (q15, .inl (cI, 6, .inl (fun _ => 0)))]) rfl dX2_init_17 (fun H locs hW => ?_)
  refine lv_aload_n hx hb dX2_init_20 rfl (lv_at hl 0 rfl) ?_
  refine lv_bipush (v := 6) hx hb dX2_init_21 (by decide) ?_
  refine q_newI hB hW (hts (.arrayClass .int) (by decide +kernel)) (N := 6) (by decide) rfl (Nat.le_of_ble_eq_true rfl) (Nat.le_of_ble_eq_true rfl) (Nat.le_of_ble_eq_true rfl) dX2_init_23 (fun q23 H hW => ?_)
  have hW : Wl D A s.heap [(h0, .inr (2, [.ref q7, .ref q15, .null, .int 0])), (q7, .inl (cI, 6, .inl (fun _ => 0))), (q15, .inl (cI, 6, .inl (fun _ => 0))), (q23, .inl (cI, 6, .inl (fun _ => 0)))] H _ := hW
  refine q_putF hB hnm hW 2 in_X2 tyX2 tyX2_ok nmX2 0 rfl rfl 2 (by decide) fl_18 rfl rfl (by first | rfl | decide) (by first | rfl | decide) (Nat.le_of_ble_eq_true rfl) (ws' := [(h0, .inr (2, [.ref q7, .ref q15, .ref q23, .int 0])), (q7, .inl (cI, 6, .inl (fun _ => 0))), (q15, .inl (cI, 6, .inl (fun _ => 0))), (q23, .inl (cI, 6, .inl (fun _ => 0)))]) rfl dX2_init_25 (fun H locs hW => ?_)
  refine lv_aload_n hx hb dX2_init_28 rfl (lv_at hl 0 rfl) ?_
  refine lv_iconst (v := 0) hx hb dX2_init_29 (by decide) ?_
  refine q_put hB hW 2 in_X2 tyX2 tyX2_ok nmX2 0 rfl rfl 3 (by decide) fl_21 rfl (by first | rfl | decide) (by first | rfl | decide) (Nat.le_of_ble_eq_true rfl) (ws' := [(h0, .inr (2, [.ref q7, .ref q15, .ref q23, .int 0])), (q7, .inl (cI, 6, .inl (fun _ => 0))), (q15, .inl (cI, 6, .inl (fun _ => 0))), (q23, .inl (cI, 6, .inl (fun _ => 0)))]) rfl dX2_init_30 (fun H locs hW => ?_)
  exact hE _ _ _ _ _ ⟨q7, q15, q23, rfl⟩ hW dX2_init_33
theorem in_X3_init_X3 : ∀ w ∈ wsX30, w ∈ wsX3_init := by decide +kernel
def e_X3 (cI cZ : ClassId) (h0 t0 : Nat) : va_W → Prop := fun w => w = [(h0, .inr (3, [.ref t0, .int 0, .int 0]))]
set_option maxHeartbeats 4000000 in
set_option maxRecDepth 100000 in
theorem n_X3 (l : Launch) (D : va_G) (cI cZ : ClassId) (h0 t0 : Nat) : CtN l D cI cZ yX3_init wsX3_init 1 12 0 0 [.ref h0, .ref t0] [(h0, .inr (3, [.null, .int 0, .int 0]))] (e_X3 cI cZ h0 t0) := by
  refine CtN.of (cc := cX3_init) (maxL := 2) (plainFor_of_name (by decide)) rfl (Nat.le_of_ble_eq_true rfl) ?_
  intro p e s m args below meth c A Q H ls hB hnm hE hW hl
  have hnm : meth.name = "<init>" := hnm
  have hx := hB.1
  have hb := hB.2.1
  have hml := hB.2.2.2.1
  have hown : s.vm.findClass RX3 = some m.cls := hB.2.2.2.2.1
  have hts := hB.2.2.2.2.2.1
  have hl : lv_has ls 2 [(0, .ref h0), (1, .ref t0)] := hl
  have in_X3 : ∀ w ∈ wsX30, w ∈ wsX3_init := in_X3_init_X3
  have fl_9 : (Cond.fieldLink RX3 9 (TX3 0).1 (TX3 0).2.1 (TX3 0).2.2.1).before args s = true := hts (.fieldLink RX3 9 "ClapOaths$Reader" "text" "LClapOaths$Text;") (by decide +kernel)
  have fl_15 : (Cond.fieldLink RX3 15 (TX3 1).1 (TX3 1).2.1 (TX3 1).2.2.1).before args s = true := hts (.fieldLink RX3 15 "ClapOaths$Reader" "place" "I") (by decide +kernel)
  have fl_19 : (Cond.fieldLink RX3 19 (TX3 2).1 (TX3 2).2.1 (TX3 2).2.2.1).before args s = true := hts (.fieldLink RX3 19 "ClapOaths$Reader" "stopped" "Z") (by decide +kernel)
  refine lv_aload_n hx hb dX3_init_0 rfl (lv_at hl 0 rfl) ?_
  refine W.objInit hx hb hown (hts (.methodLink RX3 3 objectInit) (by decide +kernel)) (hts (.instanceMethod objectInit) (by decide +kernel)) (hts (.code objectInit ⟨#[0xb1]⟩ 1 none) (by decide +kernel)) rfl (by rw [hml]; exact hl.1) rfl dX3_init_1 (Nat.le_of_ble_eq_true rfl) (Nat.le_of_ble_eq_true rfl) ?_
  refine W.eq (g2 := F0 m 4 ls []) rfl ?_
  refine lv_aload_n hx hb dX3_init_4 rfl (lv_at hl 0 rfl) ?_
  refine lv_aload_n hx hb dX3_init_5 rfl (lv_at hl 1 rfl) ?_
  refine q_putF hB hnm hW 3 in_X3 tyX3 tyX3_ok nmX3 0 rfl rfl 0 (by decide) fl_9 rfl rfl (by first | rfl | decide) (by first | rfl | decide) (Nat.le_of_ble_eq_true rfl) (ws' := [(h0, .inr (3, [.ref t0, .int 0, .int 0]))]) rfl dX3_init_6 (fun H locs hW => ?_)
  refine lv_aload_n hx hb dX3_init_9 rfl (lv_at hl 0 rfl) ?_
  refine lv_iconst (v := 0) hx hb dX3_init_10 (by decide) ?_
  refine q_put hB hW 3 in_X3 tyX3 tyX3_ok nmX3 0 rfl rfl 1 (by decide) fl_15 rfl (by first | rfl | decide) (by first | rfl | decide) (Nat.le_of_ble_eq_true rfl) (ws' := [(h0, .inr (3, [.ref t0, .int 0, .int 0]))]) rfl dX3_init_11 (fun H locs hW => ?_)
  refine lv_aload_n hx hb dX3_init_14 rfl (lv_at hl 0 rfl) ?_
  refine lv_iconst (v := 0) hx hb dX3_init_15 (by decide) ?_
  refine q_put hB hW 3 in_X3 tyX3 tyX3_ok nmX3 0 rfl rfl 2 (by decide) fl_19 rfl (by first | rfl | decide) (by first | rfl | decide) (Nat.le_of_ble_eq_true rfl) (ws' := [(h0, .inr (3, [.ref t0, .int 0, .int 0]))]) rfl dX3_init_16 (fun H locs hW => ?_)
  exact hE _ _ _ _ _ rfl hW dX3_init_19
theorem in_X4_init_X4 : ∀ w ∈ wsX40, w ∈ wsX4_init := by decide +kernel
def e_X4 (cI cZ : ClassId) (h0 t0 : Nat) : va_W → Prop := fun w => w = [(h0, .inr (4, [.ref t0, .int 0, .int 0, .int 0, .int 0, .int 0]))]
set_option maxHeartbeats 4000000 in
set_option maxRecDepth 100000 in
theorem n_X4 (l : Launch) (D : va_G) (cI cZ : ClassId) (h0 t0 : Nat) : CtN l D cI cZ yX4_init wsX4_init 1 12 0 0 [.ref h0, .ref t0] [(h0, .inr (4, [.null, .int 0, .int 0, .int 0, .int 0, .int 0]))] (e_X4 cI cZ h0 t0) := by
  refine CtN.of (cc := cX4_init) (maxL := 2) (plainFor_of_name (by decide)) rfl (Nat.le_of_ble_eq_true rfl) ?_
  intro p e s m args below meth c A Q H ls hB hnm hE hW hl
  have hnm : meth.name = "<init>" := hnm
  have hx := hB.1
  have hb := hB.2.1
  have hml := hB.2.2.2.1
  have hown : s.vm.findClass RX4 = some m.cls := hB.2.2.2.2.1
  have hts := hB.2.2.2.2.2.1
  have hl : lv_has ls 2 [(0, .ref h0), (1, .ref t0)] := hl
  have in_X4 : ∀ w ∈ wsX40, w ∈ wsX4_init := in_X4_init_X4
  have fl_9 : (Cond.fieldLink RX4 9 (TX4 0).1 (TX4 0).2.1 (TX4 0).2.2.1).before args s = true := hts (.fieldLink RX4 9 "ClapOaths$Standing" "land" "LClapOaths$County;") (by decide +kernel)
  have fl_15 : (Cond.fieldLink RX4 15 (TX4 1).1 (TX4 1).2.1 (TX4 1).2.2.1).before args s = true := hts (.fieldLink RX4 15 "ClapOaths$Standing" "places" "I") (by decide +kernel)
  have fl_19 : (Cond.fieldLink RX4 19 (TX4 2).1 (TX4 2).2.1 (TX4 2).2.2.1).before args s = true := hts (.fieldLink RX4 19 "ClapOaths$Standing" "wool" "I") (by decide +kernel)
  have fl_22 : (Cond.fieldLink RX4 22 (TX4 3).1 (TX4 3).2.1 (TX4 3).2.2.1).before args s = true := hts (.fieldLink RX4 22 "ClapOaths$Standing" "sworn" "I") (by decide +kernel)
  have fl_25 : (Cond.fieldLink RX4 25 (TX4 4).1 (TX4 4).2.1 (TX4 4).2.2.1).before args s = true := hts (.fieldLink RX4 25 "ClapOaths$Standing" "worth" "I") (by decide +kernel)
  have fl_28 : (Cond.fieldLink RX4 28 (TX4 5).1 (TX4 5).2.1 (TX4 5).2.2.1).before args s = true := hts (.fieldLink RX4 28 "ClapOaths$Standing" "day" "I") (by decide +kernel)
  refine lv_aload_n hx hb dX4_init_0 rfl (lv_at hl 0 rfl) ?_
  refine W.objInit hx hb hown (hts (.methodLink RX4 3 objectInit) (by decide +kernel)) (hts (.instanceMethod objectInit) (by decide +kernel)) (hts (.code objectInit ⟨#[0xb1]⟩ 1 none) (by decide +kernel)) rfl (by rw [hml]; exact hl.1) rfl dX4_init_1 (Nat.le_of_ble_eq_true rfl) (Nat.le_of_ble_eq_true rfl) ?_
  refine W.eq (g2 := F0 m 4 ls []) rfl ?_
  refine lv_aload_n hx hb dX4_init_4 rfl (lv_at hl 0 rfl) ?_
  refine lv_aload_n hx hb dX4_init_5 rfl (lv_at hl 1 rfl) ?_
  refine q_putF hB hnm hW 4 in_X4 tyX4 tyX4_ok nmX4 0 rfl rfl 0 (by decide) fl_9 rfl rfl (by first | rfl | decide) (by first | rfl | decide) (Nat.le_of_ble_eq_true rfl) (ws' := [(h0, .inr (4, [.ref t0, .int 0, .int 0, .int 0, .int 0, .int 0]))]) rfl dX4_init_6 (fun H locs hW => ?_)
  refine lv_aload_n hx hb dX4_init_9 rfl (lv_at hl 0 rfl) ?_
  refine lv_iconst (v := 0) hx hb dX4_init_10 (by decide) ?_
  refine q_put hB hW 4 in_X4 tyX4 tyX4_ok nmX4 0 rfl rfl 1 (by decide) fl_15 rfl (by first | rfl | decide) (by first | rfl | decide) (Nat.le_of_ble_eq_true rfl) (ws' := [(h0, .inr (4, [.ref t0, .int 0, .int 0, .int 0, .int 0, .int 0]))]) rfl dX4_init_11 (fun H locs hW => ?_)
  refine lv_aload_n hx hb dX4_init_14 rfl (lv_at hl 0 rfl) ?_
  refine lv_iconst (v := 0) hx hb dX4_init_15 (by decide) ?_
  refine q_put hB hW 4 in_X4 tyX4 tyX4_ok nmX4 0 rfl rfl 2 (by decide) fl_19 rfl (by first | rfl | decide) (by first | rfl | decide) (Nat.le_of_ble_eq_true rfl) (ws' := [(h0, .inr (4, [.ref t0, .int 0, .int 0, .int 0, .int 0, .int 0]))]) rfl dX4_init_16 (fun H locs hW => ?_)
  refine lv_aload_n hx hb dX4_init_19 rfl (lv_at hl 0 rfl) ?_
  refine lv_iconst (v := 0) hx hb dX4_init_20 (by decide) ?_
  refine q_put hB hW 4 in_X4 tyX4 tyX4_ok nmX4 0 rfl rfl 3 (by decide) fl_22 rfl (by first | rfl | decide) (by first | rfl | decide) (Nat.le_of_ble_eq_true rfl) (ws' := [(h0, .inr (4, [.ref t0, .int 0, .int 0, .int 0, .int 0, .int 0]))]) rfl dX4_init_21 (fun H locs hW => ?_)
  refine lv_aload_n hx hb dX4_init_24 rfl (lv_at hl 0 rfl) ?_
  refine lv_iconst (v := 0) hx hb dX4_init_25 (by decide) ?_
  refine q_put hB hW 4 in_X4 tyX4 tyX4_ok nmX4 0 rfl rfl 4 (by decide) fl_25 rfl (by first | rfl | decide) (by first | rfl | decide) (Nat.le_of_ble_eq_true rfl) (ws' := [(h0, .inr (4, [.ref t0, .int 0, .int 0, .int 0, .int 0, .int 0]))]) rfl dX4_init_26 (fun H locs hW => ?_)
  refine lv_aload_n hx hb dX4_init_29 rfl (lv_at hl 0 rfl) ?_
  refine lv_iconst (v := 0) hx hb dX4_init_30 (by decide) ?_
  refine q_put hB hW 4 in_X4 tyX4 tyX4_ok nmX4 0 rfl rfl 5 (by decide) fl_28 rfl (by first | rfl | decide) (by first | rfl | decide) (Nat.le_of_ble_eq_true rfl) (ws' := [(h0, .inr (4, [.ref t0, .int 0, .int 0, .int 0, .int 0, .int 0]))]) rfl dX4_init_31 (fun H locs hW => ?_)
  exact hE _ _ _ _ _ rfl hW dX4_init_34
theorem in_X5_init_X5 : ∀ w ∈ wsX50, w ∈ wsX5_init := by decide +kernel
def e_X5 (cI cZ : ClassId) (h0  : Nat) : va_W → Prop := fun w => ∃ q7 : Nat, w = [(h0, .inr (5, [.ref q7, .int 0])), (q7, .inl (cI, 60, .inl (fun _ => 0)))]
set_option maxHeartbeats 4000000 in
set_option maxRecDepth 100000 in
theorem n_X5 (l : Launch) (D : va_G) (cI cZ : ClassId) (h0  : Nat) : CtN l D cI cZ yX5_init wsX5_init 1 12 1 60 [.ref h0] [(h0, .inr (5, [.null, .int 0]))] (e_X5 cI cZ h0 ) := by
  refine CtN.of (cc := cX5_init) (maxL := 1) (plainFor_of_name (by decide)) rfl (Nat.le_of_ble_eq_true rfl) ?_
  intro p e s m args below meth c A Q H ls hB hnm hE hW hl
  have hnm : meth.name = "<init>" := hnm
  have hx := hB.1
  have hb := hB.2.1
  have hml := hB.2.2.2.1
  have hown : s.vm.findClass RX5 = some m.cls := hB.2.2.2.2.1
  have hts := hB.2.2.2.2.2.1
  have hl : lv_has ls 1 [(0, .ref h0)] := hl
  have in_X5 : ∀ w ∈ wsX50, w ∈ wsX5_init := in_X5_init_X5
  have fl_9 : (Cond.fieldLink RX5 9 (TX5 0).1 (TX5 0).2.1 (TX5 0).2.2.1).before args s = true := hts (.fieldLink RX5 9 "ClapOaths$Text" "letters" "[I") (by decide +kernel)
  have fl_15 : (Cond.fieldLink RX5 15 (TX5 1).1 (TX5 1).2.1 (TX5 1).2.2.1).before args s = true := hts (.fieldLink RX5 15 "ClapOaths$Text" "length" "I") (by decide +kernel)
  refine lv_aload_n hx hb dX5_init_0 rfl (lv_at hl 0 rfl) ?_
  refine W.objInit hx hb hown (hts (.methodLink RX5 3 objectInit) (by decide +kernel)) (hts (.instanceMethod objectInit) (by decide +kernel)) (hts (.code objectInit ⟨#[0xb1]⟩ 1 none) (by decide +kernel)) rfl (by rw [hml]; exact hl.1) rfl dX5_init_1 (Nat.le_of_ble_eq_true rfl) (Nat.le_of_ble_eq_true rfl) ?_
  refine W.eq (g2 := F0 m 4 ls []) rfl ?_
  refine lv_aload_n hx hb dX5_init_4 rfl (lv_at hl 0 rfl) ?_
  refine lv_bipush (v := 60) hx hb dX5_init_5 (by decide) ?_
  refine q_newI hB hW (hts (.arrayClass .int) (by decide +kernel)) (N := 60) (by decide) rfl (Nat.le_of_ble_eq_true rfl) (Nat.le_of_ble_eq_true rfl) (Nat.le_of_ble_eq_true rfl) dX5_init_7 (fun q7 H hW => ?_)
  have hW : Wl D A s.heap [(h0, .inr (5, [.null, .int 0])), (q7, .inl (cI, 60, .inl (fun _ => 0)))] H _ := hW
  refine q_putF hB hnm hW 5 in_X5 tyX5 tyX5_ok nmX5 0 rfl rfl 0 (by decide) fl_9 rfl rfl (by first | rfl | decide) (by first | rfl | decide) (Nat.le_of_ble_eq_true rfl) (ws' := [(h0, .inr (5, [.ref q7, .int 0])), (q7, .inl (cI, 60, .inl (fun _ => 0)))]) rfl dX5_init_9 (fun H locs hW => ?_)
  refine lv_aload_n hx hb dX5_init_12 rfl (lv_at hl 0 rfl) ?_
  refine lv_iconst (v := 0) hx hb dX5_init_13 (by decide) ?_
  refine q_put hB hW 5 in_X5 tyX5 tyX5_ok nmX5 0 rfl rfl 1 (by decide) fl_15 rfl (by first | rfl | decide) (by first | rfl | decide) (Nat.le_of_ble_eq_true rfl) (ws' := [(h0, .inr (5, [.ref q7, .int 0])), (q7, .inl (cI, 60, .inl (fun _ => 0)))]) rfl dX5_init_14 (fun H locs hW => ?_)
  exact hE _ _ _ _ _ ⟨q7, rfl⟩ hW dX5_init_17
theorem in_X7_init_X7 : ∀ w ∈ wsX70, w ∈ wsX7_init := by decide +kernel
def e_X7 (cI cZ : ClassId) (h0  : Nat) : va_W → Prop := fun w => ∃ q6 q13 q20 q27 q34 q41 q48 q56 q64 q72 q80 q88 q96 q104 q112 q120 q127 q135 : Nat, w = [(h0, .inr (7, [.int 0, .int 0, .int 0, .ref q6, .ref q13, .ref q20, .ref q27, .ref q34, .ref q41, .ref q48, .ref q56, .ref q64, .ref q72, .ref q80, .int 0, .int 0, .int 0, .ref q88, .int 0, .int 0, .int 0, .int 0, .int 0, .ref q96, .int 0, .ref q104, .ref q112, .ref q120, .long 0, .ref q127, .ref q135])), (q6, .inl (cI, 5, .inl (fun _ => 0))), (q13, .inl (cI, 5, .inl (fun _ => 0))), (q20, .inl (cI, 5, .inl (fun _ => 0))), (q27, .inl (cI, 5, .inl (fun _ => 0))), (q34, .inl (cI, 5, .inl (fun _ => 0))), (q41, .inl (cI, 5, .inl (fun _ => 0))), (q48, .inl (cI, 5, .inl (fun _ => 0))), (q56, .inl (cI, 18, .inl (fun _ => 0))), (q64, .inl (cI, 10, .inl (fun _ => 0))), (q72, .inl (cI, 10, .inl (fun _ => 0))), (q80, .inl (cI, 20, .inl (fun _ => 0))), (q88, .inl (cI, 60, .inl (fun _ => 0))), (q96, .inl (cI, 126, .inl (fun _ => 0))), (q104, .inl (cI, 6, .inl (fun _ => 0))), (q112, .inl (cI, 6, .inl (fun _ => 0))), (q120, .inl (cI, 6, .inl (fun _ => 0))), (q127, .inl (cZ, 2, .inl (fun _ => 0))), (q135, .inl (cI, 18, .inl (fun _ => 0)))]
set_option maxHeartbeats 4000000 in
set_option maxRecDepth 100000 in
theorem n_X7 (l : Launch) (D : va_G) (cI cZ : ClassId) (h0  : Nat) : CtN l D cI cZ yX7_init wsX7_init 1 12 18 317 [.ref h0] [(h0, .inr (7, [.int 0, .int 0, .int 0, .null, .null, .null, .null, .null, .null, .null, .null, .null, .null, .null, .int 0, .int 0, .int 0, .null, .int 0, .int 0, .int 0, .int 0, .int 0, .null, .int 0, .null, .null, .null, .long 0, .null, .null]))] (e_X7 cI cZ h0 ) := by
  refine CtN.of (cc := cX7_init) (maxL := 1) (plainFor_of_name (by decide)) rfl (Nat.le_of_ble_eq_true rfl) ?_
  intro p e s m args below meth c A Q H ls hB hnm hE hW hl
  have hnm : meth.name = "<init>" := hnm
  have hx := hB.1
  have hb := hB.2.1
  have hml := hB.2.2.2.1
  have hown : s.vm.findClass RX7 = some m.cls := hB.2.2.2.2.1
  have hts := hB.2.2.2.2.2.1
  have hl : lv_has ls 1 [(0, .ref h0)] := hl
  have in_X7 : ∀ w ∈ wsX70, w ∈ wsX7_init := in_X7_init_X7
  have fl_7 : (Cond.fieldLink RX7 7 (TX7 3).1 (TX7 3).2.1 (TX7 3).2.2.1).before args s = true := hts (.fieldLink RX7 7 "ClapOathsModel" "kind" "[I") (by decide +kernel)
  have fl_13 : (Cond.fieldLink RX7 13 (TX7 4).1 (TX7 4).2.1 (TX7 4).2.2.1).before args s = true := hts (.fieldLink RX7 13 "ClapOathsModel" "skyAt" "[I") (by decide +kernel)
  have fl_16 : (Cond.fieldLink RX7 16 (TX7 5).1 (TX7 5).2.1 (TX7 5).2.2.1).before args s = true := hts (.fieldLink RX7 16 "ClapOathsModel" "skyLoud" "[I") (by decide +kernel)
  have fl_19 : (Cond.fieldLink RX7 19 (TX7 6).1 (TX7 6).2.1 (TX7 6).2.2.1).before args s = true := hts (.fieldLink RX7 19 "ClapOathsModel" "one" "[I") (by decide +kernel)
  have fl_22 : (Cond.fieldLink RX7 22 (TX7 7).1 (TX7 7).2.1 (TX7 7).2.2.1).before args s = true := hts (.fieldLink RX7 22 "ClapOathsModel" "other" "[I") (by decide +kernel)
  have fl_25 : (Cond.fieldLink RX7 25 (TX7 8).1 (TX7 8).2.1 (TX7 8).2.2.1).before args s = true := hts (.fieldLink RX7 25 "ClapOathsModel" "worth" "[I") (by decide +kernel)
  have fl_28 : (Cond.fieldLink RX7 28 (TX7 9).1 (TX7 9).2.1 (TX7 9).2.2.1).before args s = true := hts (.fieldLink RX7 28 "ClapOathsModel" "hangs" "[I") (by decide +kernel)
  have fl_31 : (Cond.fieldLink RX7 31 (TX7 10).1 (TX7 10).2.1 (TX7 10).2.2.1).before args s = true := hts (.fieldLink RX7 31 "ClapOathsModel" "now" "[I") (by decide +kernel)
  have fl_34 : (Cond.fieldLink RX7 34 (TX7 11).1 (TX7 11).2.1 (TX7 11).2.2.1).before args s = true := hts (.fieldLink RX7 34 "ClapOathsModel" "readPerson" "[I") (by decide +kernel)
  have fl_37 : (Cond.fieldLink RX7 37 (TX7 12).1 (TX7 12).2.1 (TX7 12).2.2.1).before args s = true := hts (.fieldLink RX7 37 "ClapOathsModel" "readSky" "[I") (by decide +kernel)
  have fl_40 : (Cond.fieldLink RX7 40 (TX7 13).1 (TX7 13).2.1 (TX7 13).2.2.1).before args s = true := hts (.fieldLink RX7 40 "ClapOathsModel" "readOath" "[I") (by decide +kernel)
  have fl_43 : (Cond.fieldLink RX7 43 (TX7 17).1 (TX7 17).2.1 (TX7 17).2.2.1).before args s = true := hts (.fieldLink RX7 43 "ClapOathsModel" "text" "[I") (by decide +kernel)
  have fl_46 : (Cond.fieldLink RX7 46 (TX7 23).1 (TX7 23).2.1 (TX7 23).2.2.1).before args s = true := hts (.fieldLink RX7 46 "ClapOathsModel" "row" "[I") (by decide +kernel)
  have fl_49 : (Cond.fieldLink RX7 49 (TX7 25).1 (TX7 25).2.1 (TX7 25).2.2.1).before args s = true := hts (.fieldLink RX7 49 "ClapOathsModel" "toldAt" "[I") (by decide +kernel)
  have fl_52 : (Cond.fieldLink RX7 52 (TX7 26).1 (TX7 26).2.1 (TX7 26).2.2.1).before args s = true := hts (.fieldLink RX7 52 "ClapOathsModel" "toldWool" "[I") (by decide +kernel)
  have fl_55 : (Cond.fieldLink RX7 55 (TX7 27).1 (TX7 27).2.1 (TX7 27).2.2.1).before args s = true := hts (.fieldLink RX7 55 "ClapOathsModel" "toldHeard" "[I") (by decide +kernel)
  have fl_58 : (Cond.fieldLink RX7 58 (TX7 29).1 (TX7 29).2.1 (TX7 29).2.2.1).before args s = true := hts (.fieldLink RX7 58 "ClapOathsModel" "isKept" "[Z") (by decide +kernel)
  have fl_62 : (Cond.fieldLink RX7 62 (TX7 30).1 (TX7 30).2.1 (TX7 30).2.2.1).before args s = true := hts (.fieldLink RX7 62 "ClapOathsModel" "kept" "[I") (by decide +kernel)
  refine lv_aload_n hx hb dX7_init_0 rfl (lv_at hl 0 rfl) ?_
  refine W.objInit hx hb hown (hts (.methodLink RX7 1 objectInit) (by decide +kernel)) (hts (.instanceMethod objectInit) (by decide +kernel)) (hts (.code objectInit ⟨#[0xb1]⟩ 1 none) (by decide +kernel)) rfl (by rw [hml]; exact hl.1) rfl dX7_init_1 (Nat.le_of_ble_eq_true rfl) (Nat.le_of_ble_eq_true rfl) ?_
  refine W.eq (g2 := F0 m 4 ls []) rfl ?_
  refine lv_aload_n hx hb dX7_init_4 rfl (lv_at hl 0 rfl) ?_
  refine lv_iconst (v := 5) hx hb dX7_init_5 (by decide) ?_
  refine q_newI hB hW (hts (.arrayClass .int) (by decide +kernel)) (N := 5) (by decide) rfl (Nat.le_of_ble_eq_true rfl) (Nat.le_of_ble_eq_true rfl) (Nat.le_of_ble_eq_true rfl) dX7_init_6 (fun q6 H hW => ?_)
  have hW : Wl D A s.heap [(h0, .inr (7, [.int 0, .int 0, .int 0, .null, .null, .null, .null, .null, .null, .null, .null, .null, .null, .null, .int 0, .int 0, .int 0, .null, .int 0, .int 0, .int 0, .int 0, .int 0, .null, .int 0, .null, .null, .null, .long 0, .null, .null])), (q6, .inl (cI, 5, .inl (fun _ => 0)))] H _ := hW
  refine q_putF hB hnm hW 7 in_X7 tyX7 tyX7_ok nmX7 0 rfl rfl 3 (by decide) fl_7 rfl rfl (by first | rfl | decide) (by first | rfl | decide) (Nat.le_of_ble_eq_true rfl) (ws' := [(h0, .inr (7, [.int 0, .int 0, .int 0, .ref q6, .null, .null, .null, .null, .null, .null, .null, .null, .null, .null, .int 0, .int 0, .int 0, .null, .int 0, .int 0, .int 0, .int 0, .int 0, .null, .int 0, .null, .null, .null, .long 0, .null, .null])), (q6, .inl (cI, 5, .inl (fun _ => 0)))]) rfl dX7_init_8 (fun H locs hW => ?_)
  refine lv_aload_n hx hb dX7_init_11 rfl (lv_at hl 0 rfl) ?_
  refine lv_iconst (v := 5) hx hb dX7_init_12 (by decide) ?_
  refine q_newI hB hW (hts (.arrayClass .int) (by decide +kernel)) (N := 5) (by decide) rfl (Nat.le_of_ble_eq_true rfl) (Nat.le_of_ble_eq_true rfl) (Nat.le_of_ble_eq_true rfl) dX7_init_13 (fun q13 H hW => ?_)
  have hW : Wl D A s.heap [(h0, .inr (7, [.int 0, .int 0, .int 0, .ref q6, .null, .null, .null, .null, .null, .null, .null, .null, .null, .null, .int 0, .int 0, .int 0, .null, .int 0, .int 0, .int 0, .int 0, .int 0, .null, .int 0, .null, .null, .null, .long 0, .null, .null])), (q6, .inl (cI, 5, .inl (fun _ => 0))), (q13, .inl (cI, 5, .inl (fun _ => 0)))] H _ := hW
  refine q_putF hB hnm hW 7 in_X7 tyX7 tyX7_ok nmX7 0 rfl rfl 4 (by decide) fl_13 rfl rfl (by first | rfl | decide) (by first | rfl | decide) (Nat.le_of_ble_eq_true rfl) (ws' := [(h0, .inr (7, [.int 0, .int 0, .int 0, .ref q6, .ref q13, .null, .null, .null, .null, .null, .null, .null, .null, .null, .int 0, .int 0, .int 0, .null, .int 0, .int 0, .int 0, .int 0, .int 0, .null, .int 0, .null, .null, .null, .long 0, .null, .null])), (q6, .inl (cI, 5, .inl (fun _ => 0))), (q13, .inl (cI, 5, .inl (fun _ => 0)))]) rfl dX7_init_15 (fun H locs hW => ?_)
  refine lv_aload_n hx hb dX7_init_18 rfl (lv_at hl 0 rfl) ?_
  refine lv_iconst (v := 5) hx hb dX7_init_19 (by decide) ?_
  refine q_newI hB hW (hts (.arrayClass .int) (by decide +kernel)) (N := 5) (by decide) rfl (Nat.le_of_ble_eq_true rfl) (Nat.le_of_ble_eq_true rfl) (Nat.le_of_ble_eq_true rfl) dX7_init_20 (fun q20 H hW => ?_)
  have hW : Wl D A s.heap [(h0, .inr (7, [.int 0, .int 0, .int 0, .ref q6, .ref q13, .null, .null, .null, .null, .null, .null, .null, .null, .null, .int 0, .int 0, .int 0, .null, .int 0, .int 0, .int 0, .int 0, .int 0, .null, .int 0, .null, .null, .null, .long 0, .null, .null])), (q6, .inl (cI, 5, .inl (fun _ => 0))), (q13, .inl (cI, 5, .inl (fun _ => 0))), (q20, .inl (cI, 5, .inl (fun _ => 0)))] H _ := hW
  refine q_putF hB hnm hW 7 in_X7 tyX7 tyX7_ok nmX7 0 rfl rfl 5 (by decide) fl_16 rfl rfl (by first | rfl | decide) (by first | rfl | decide) (Nat.le_of_ble_eq_true rfl) (ws' := [(h0, .inr (7, [.int 0, .int 0, .int 0, .ref q6, .ref q13, .ref q20, .null, .null, .null, .null, .null, .null, .null, .null, .int 0, .int 0, .int 0, .null, .int 0, .int 0, .int 0, .int 0, .int 0, .null, .int 0, .null, .null, .null, .long 0, .null, .null])), (q6, .inl (cI, 5, .inl (fun _ => 0))), (q13, .inl (cI, 5, .inl (fun _ => 0))), (q20, .inl (cI, 5, .inl (fun _ => 0)))]) rfl dX7_init_22 (fun H locs hW => ?_)
  refine lv_aload_n hx hb dX7_init_25 rfl (lv_at hl 0 rfl) ?_
  refine lv_iconst (v := 5) hx hb dX7_init_26 (by decide) ?_
  refine q_newI hB hW (hts (.arrayClass .int) (by decide +kernel)) (N := 5) (by decide) rfl (Nat.le_of_ble_eq_true rfl) (Nat.le_of_ble_eq_true rfl) (Nat.le_of_ble_eq_true rfl) dX7_init_27 (fun q27 H hW => ?_)
  have hW : Wl D A s.heap [(h0, .inr (7, [.int 0, .int 0, .int 0, .ref q6, .ref q13, .ref q20, .null, .null, .null, .null, .null, .null, .null, .null, .int 0, .int 0, .int 0, .null, .int 0, .int 0, .int 0, .int 0, .int 0, .null, .int 0, .null, .null, .null, .long 0, .null, .null])), (q6, .inl (cI, 5, .inl (fun _ => 0))), (q13, .inl (cI, 5, .inl (fun _ => 0))), (q20, .inl (cI, 5, .inl (fun _ => 0))), (q27, .inl (cI, 5, .inl (fun _ => 0)))] H _ := hW
  refine q_putF hB hnm hW 7 in_X7 tyX7 tyX7_ok nmX7 0 rfl rfl 6 (by decide) fl_19 rfl rfl (by first | rfl | decide) (by first | rfl | decide) (Nat.le_of_ble_eq_true rfl) (ws' := [(h0, .inr (7, [.int 0, .int 0, .int 0, .ref q6, .ref q13, .ref q20, .ref q27, .null, .null, .null, .null, .null, .null, .null, .int 0, .int 0, .int 0, .null, .int 0, .int 0, .int 0, .int 0, .int 0, .null, .int 0, .null, .null, .null, .long 0, .null, .null])), (q6, .inl (cI, 5, .inl (fun _ => 0))), (q13, .inl (cI, 5, .inl (fun _ => 0))), (q20, .inl (cI, 5, .inl (fun _ => 0))), (q27, .inl (cI, 5, .inl (fun _ => 0)))]) rfl dX7_init_29 (fun H locs hW => ?_)
  refine lv_aload_n hx hb dX7_init_32 rfl (lv_at hl 0 rfl) ?_
  refine lv_iconst (v := 5) hx hb dX7_init_33 (by decide) ?_
  refine q_newI hB hW (hts (.arrayClass .int) (by decide +kernel)) (N := 5) (by decide) rfl (Nat.le_of_ble_eq_true rfl) (Nat.le_of_ble_eq_true rfl) (Nat.le_of_ble_eq_true rfl) dX7_init_34 (fun q34 H hW => ?_)
  have hW : Wl D A s.heap [(h0, .inr (7, [.int 0, .int 0, .int 0, .ref q6, .ref q13, .ref q20, .ref q27, .null, .null, .null, .null, .null, .null, .null, .int 0, .int 0, .int 0, .null, .int 0, .int 0, .int 0, .int 0, .int 0, .null, .int 0, .null, .null, .null, .long 0, .null, .null])), (q6, .inl (cI, 5, .inl (fun _ => 0))), (q13, .inl (cI, 5, .inl (fun _ => 0))), (q20, .inl (cI, 5, .inl (fun _ => 0))), (q27, .inl (cI, 5, .inl (fun _ => 0))), (q34, .inl (cI, 5, .inl (fun _ => 0)))] H _ := hW
  refine q_putF hB hnm hW 7 in_X7 tyX7 tyX7_ok nmX7 0 rfl rfl 7 (by decide) fl_22 rfl rfl (by first | rfl | decide) (by first | rfl | decide) (Nat.le_of_ble_eq_true rfl) (ws' := [(h0, .inr (7, [.int 0, .int 0, .int 0, .ref q6, .ref q13, .ref q20, .ref q27, .ref q34, .null, .null, .null, .null, .null, .null, .int 0, .int 0, .int 0, .null, .int 0, .int 0, .int 0, .int 0, .int 0, .null, .int 0, .null, .null, .null, .long 0, .null, .null])), (q6, .inl (cI, 5, .inl (fun _ => 0))), (q13, .inl (cI, 5, .inl (fun _ => 0))), (q20, .inl (cI, 5, .inl (fun _ => 0))), (q27, .inl (cI, 5, .inl (fun _ => 0))), (q34, .inl (cI, 5, .inl (fun _ => 0)))]) rfl dX7_init_36 (fun H locs hW => ?_)
  refine lv_aload_n hx hb dX7_init_39 rfl (lv_at hl 0 rfl) ?_
  refine lv_iconst (v := 5) hx hb dX7_init_40 (by decide) ?_
  refine q_newI hB hW (hts (.arrayClass .int) (by decide +kernel)) (N := 5) (by decide) rfl (Nat.le_of_ble_eq_true rfl) (Nat.le_of_ble_eq_true rfl) (Nat.le_of_ble_eq_true rfl) dX7_init_41 (fun q41 H hW => ?_)
  have hW : Wl D A s.heap [(h0, .inr (7, [.int 0, .int 0, .int 0, .ref q6, .ref q13, .ref q20, .ref q27, .ref q34, .null, .null, .null, .null, .null, .null, .int 0, .int 0, .int 0, .null, .int 0, .int 0, .int 0, .int 0, .int 0, .null, .int 0, .null, .null, .null, .long 0, .null, .null])), (q6, .inl (cI, 5, .inl (fun _ => 0))), (q13, .inl (cI, 5, .inl (fun _ => 0))), (q20, .inl (cI, 5, .inl (fun _ => 0))), (q27, .inl (cI, 5, .inl (fun _ => 0))), (q34, .inl (cI, 5, .inl (fun _ => 0))), (q41, .inl (cI, 5, .inl (fun _ => 0)))] H _ := hW
  refine q_putF hB hnm hW 7 in_X7 tyX7 tyX7_ok nmX7 0 rfl rfl 8 (by decide) fl_25 rfl rfl (by first | rfl | decide) (by first | rfl | decide) (Nat.le_of_ble_eq_true rfl) (ws' := [(h0, .inr (7, [.int 0, .int 0, .int 0, .ref q6, .ref q13, .ref q20, .ref q27, .ref q34, .ref q41, .null, .null, .null, .null, .null, .int 0, .int 0, .int 0, .null, .int 0, .int 0, .int 0, .int 0, .int 0, .null, .int 0, .null, .null, .null, .long 0, .null, .null])), (q6, .inl (cI, 5, .inl (fun _ => 0))), (q13, .inl (cI, 5, .inl (fun _ => 0))), (q20, .inl (cI, 5, .inl (fun _ => 0))), (q27, .inl (cI, 5, .inl (fun _ => 0))), (q34, .inl (cI, 5, .inl (fun _ => 0))), (q41, .inl (cI, 5, .inl (fun _ => 0)))]) rfl dX7_init_43 (fun H locs hW => ?_)
  refine lv_aload_n hx hb dX7_init_46 rfl (lv_at hl 0 rfl) ?_
  refine lv_iconst (v := 5) hx hb dX7_init_47 (by decide) ?_
  refine q_newI hB hW (hts (.arrayClass .int) (by decide +kernel)) (N := 5) (by decide) rfl (Nat.le_of_ble_eq_true rfl) (Nat.le_of_ble_eq_true rfl) (Nat.le_of_ble_eq_true rfl) dX7_init_48 (fun q48 H hW => ?_)
  have hW : Wl D A s.heap [(h0, .inr (7, [.int 0, .int 0, .int 0, .ref q6, .ref q13, .ref q20, .ref q27, .ref q34, .ref q41, .null, .null, .null, .null, .null, .int 0, .int 0, .int 0, .null, .int 0, .int 0, .int 0, .int 0, .int 0, .null, .int 0, .null, .null, .null, .long 0, .null, .null])), (q6, .inl (cI, 5, .inl (fun _ => 0))), (q13, .inl (cI, 5, .inl (fun _ => 0))), (q20, .inl (cI, 5, .inl (fun _ => 0))), (q27, .inl (cI, 5, .inl (fun _ => 0))), (q34, .inl (cI, 5, .inl (fun _ => 0))), (q41, .inl (cI, 5, .inl (fun _ => 0))), (q48, .inl (cI, 5, .inl (fun _ => 0)))] H _ := hW
  refine q_putF hB hnm hW 7 in_X7 tyX7 tyX7_ok nmX7 0 rfl rfl 9 (by decide) fl_28 rfl rfl (by first | rfl | decide) (by first | rfl | decide) (Nat.le_of_ble_eq_true rfl) (ws' := [(h0, .inr (7, [.int 0, .int 0, .int 0, .ref q6, .ref q13, .ref q20, .ref q27, .ref q34, .ref q41, .ref q48, .null, .null, .null, .null, .int 0, .int 0, .int 0, .null, .int 0, .int 0, .int 0, .int 0, .int 0, .null, .int 0, .null, .null, .null, .long 0, .null, .null])), (q6, .inl (cI, 5, .inl (fun _ => 0))), (q13, .inl (cI, 5, .inl (fun _ => 0))), (q20, .inl (cI, 5, .inl (fun _ => 0))), (q27, .inl (cI, 5, .inl (fun _ => 0))), (q34, .inl (cI, 5, .inl (fun _ => 0))), (q41, .inl (cI, 5, .inl (fun _ => 0))), (q48, .inl (cI, 5, .inl (fun _ => 0)))]) rfl dX7_init_50 (fun H locs hW => ?_)
  refine lv_aload_n hx hb dX7_init_53 rfl (lv_at hl 0 rfl) ?_
  refine lv_bipush (v := 18) hx hb dX7_init_54 (by decide) ?_
  refine q_newI hB hW (hts (.arrayClass .int) (by decide +kernel)) (N := 18) (by decide) rfl (Nat.le_of_ble_eq_true rfl) (Nat.le_of_ble_eq_true rfl) (Nat.le_of_ble_eq_true rfl) dX7_init_56 (fun q56 H hW => ?_)
  have hW : Wl D A s.heap [(h0, .inr (7, [.int 0, .int 0, .int 0, .ref q6, .ref q13, .ref q20, .ref q27, .ref q34, .ref q41, .ref q48, .null, .null, .null, .null, .int 0, .int 0, .int 0, .null, .int 0, .int 0, .int 0, .int 0, .int 0, .null, .int 0, .null, .null, .null, .long 0, .null, .null])), (q6, .inl (cI, 5, .inl (fun _ => 0))), (q13, .inl (cI, 5, .inl (fun _ => 0))), (q20, .inl (cI, 5, .inl (fun _ => 0))), (q27, .inl (cI, 5, .inl (fun _ => 0))), (q34, .inl (cI, 5, .inl (fun _ => 0))), (q41, .inl (cI, 5, .inl (fun _ => 0))), (q48, .inl (cI, 5, .inl (fun _ => 0))), (q56, .inl (cI, 18, .inl (fun _ => 0)))] H _ := hW
  refine q_putF hB hnm hW 7 in_X7 tyX7 tyX7_ok nmX7 0 rfl rfl 10 (by decide) fl_31 rfl rfl (by first | rfl | decide) (by first | rfl | decide) (Nat.le_of_ble_eq_true rfl) (ws' := [(h0, .inr (7, [.int 0, .int 0, .int 0, .ref q6, .ref q13, .ref q20, .ref q27, .ref q34, .ref q41, .ref q48, .ref q56, .null, .null, .null, .int 0, .int 0, .int 0, .null, .int 0, .int 0, .int 0, .int 0, .int 0, .null, .int 0, .null, .null, .null, .long 0, .null, .null])), (q6, .inl (cI, 5, .inl (fun _ => 0))), (q13, .inl (cI, 5, .inl (fun _ => 0))), (q20, .inl (cI, 5, .inl (fun _ => 0))), (q27, .inl (cI, 5, .inl (fun _ => 0))), (q34, .inl (cI, 5, .inl (fun _ => 0))), (q41, .inl (cI, 5, .inl (fun _ => 0))), (q48, .inl (cI, 5, .inl (fun _ => 0))), (q56, .inl (cI, 18, .inl (fun _ => 0)))]) rfl dX7_init_58 (fun H locs hW => ?_)
  refine lv_aload_n hx hb dX7_init_61 rfl (lv_at hl 0 rfl) ?_
  refine lv_bipush (v := 10) hx hb dX7_init_62 (by decide) ?_
  refine q_newI hB hW (hts (.arrayClass .int) (by decide +kernel)) (N := 10) (by decide) rfl (Nat.le_of_ble_eq_true rfl) (Nat.le_of_ble_eq_true rfl) (Nat.le_of_ble_eq_true rfl) dX7_init_64 (fun q64 H hW => ?_)
  have hW : Wl D A s.heap [(h0, .inr (7, [.int 0, .int 0, .int 0, .ref q6, .ref q13, .ref q20, .ref q27, .ref q34, .ref q41, .ref q48, .ref q56, .null, .null, .null, .int 0, .int 0, .int 0, .null, .int 0, .int 0, .int 0, .int 0, .int 0, .null, .int 0, .null, .null, .null, .long 0, .null, .null])), (q6, .inl (cI, 5, .inl (fun _ => 0))), (q13, .inl (cI, 5, .inl (fun _ => 0))), (q20, .inl (cI, 5, .inl (fun _ => 0))), (q27, .inl (cI, 5, .inl (fun _ => 0))), (q34, .inl (cI, 5, .inl (fun _ => 0))), (q41, .inl (cI, 5, .inl (fun _ => 0))), (q48, .inl (cI, 5, .inl (fun _ => 0))), (q56, .inl (cI, 18, .inl (fun _ => 0))), (q64, .inl (cI, 10, .inl (fun _ => 0)))] H _ := hW
  refine q_putF hB hnm hW 7 in_X7 tyX7 tyX7_ok nmX7 0 rfl rfl 11 (by decide) fl_34 rfl rfl (by first | rfl | decide) (by first | rfl | decide) (Nat.le_of_ble_eq_true rfl) (ws' := [(h0, .inr (7, [.int 0, .int 0, .int 0, .ref q6, .ref q13, .ref q20, .ref q27, .ref q34, .ref q41, .ref q48, .ref q56, .ref q64, .null, .null, .int 0, .int 0, .int 0, .null, .int 0, .int 0, .int 0, .int 0, .int 0, .null, .int 0, .null, .null, .null, .long 0, .null, .null])), (q6, .inl (cI, 5, .inl (fun _ => 0))), (q13, .inl (cI, 5, .inl (fun _ => 0))), (q20, .inl (cI, 5, .inl (fun _ => 0))), (q27, .inl (cI, 5, .inl (fun _ => 0))), (q34, .inl (cI, 5, .inl (fun _ => 0))), (q41, .inl (cI, 5, .inl (fun _ => 0))), (q48, .inl (cI, 5, .inl (fun _ => 0))), (q56, .inl (cI, 18, .inl (fun _ => 0))), (q64, .inl (cI, 10, .inl (fun _ => 0)))]) rfl dX7_init_66 (fun H locs hW => ?_)
  refine lv_aload_n hx hb dX7_init_69 rfl (lv_at hl 0 rfl) ?_
  refine lv_bipush (v := 10) hx hb dX7_init_70 (by decide) ?_
  refine q_newI hB hW (hts (.arrayClass .int) (by decide +kernel)) (N := 10) (by decide) rfl (Nat.le_of_ble_eq_true rfl) (Nat.le_of_ble_eq_true rfl) (Nat.le_of_ble_eq_true rfl) dX7_init_72 (fun q72 H hW => ?_)
  have hW : Wl D A s.heap [(h0, .inr (7, [.int 0, .int 0, .int 0, .ref q6, .ref q13, .ref q20, .ref q27, .ref q34, .ref q41, .ref q48, .ref q56, .ref q64, .null, .null, .int 0, .int 0, .int 0, .null, .int 0, .int 0, .int 0, .int 0, .int 0, .null, .int 0, .null, .null, .null, .long 0, .null, .null])), (q6, .inl (cI, 5, .inl (fun _ => 0))), (q13, .inl (cI, 5, .inl (fun _ => 0))), (q20, .inl (cI, 5, .inl (fun _ => 0))), (q27, .inl (cI, 5, .inl (fun _ => 0))), (q34, .inl (cI, 5, .inl (fun _ => 0))), (q41, .inl (cI, 5, .inl (fun _ => 0))), (q48, .inl (cI, 5, .inl (fun _ => 0))), (q56, .inl (cI, 18, .inl (fun _ => 0))), (q64, .inl (cI, 10, .inl (fun _ => 0))), (q72, .inl (cI, 10, .inl (fun _ => 0)))] H _ := hW
  refine q_putF hB hnm hW 7 in_X7 tyX7 tyX7_ok nmX7 0 rfl rfl 12 (by decide) fl_37 rfl rfl (by first | rfl | decide) (by first | rfl | decide) (Nat.le_of_ble_eq_true rfl) (ws' := [(h0, .inr (7, [.int 0, .int 0, .int 0, .ref q6, .ref q13, .ref q20, .ref q27, .ref q34, .ref q41, .ref q48, .ref q56, .ref q64, .ref q72, .null, .int 0, .int 0, .int 0, .null, .int 0, .int 0, .int 0, .int 0, .int 0, .null, .int 0, .null, .null, .null, .long 0, .null, .null])), (q6, .inl (cI, 5, .inl (fun _ => 0))), (q13, .inl (cI, 5, .inl (fun _ => 0))), (q20, .inl (cI, 5, .inl (fun _ => 0))), (q27, .inl (cI, 5, .inl (fun _ => 0))), (q34, .inl (cI, 5, .inl (fun _ => 0))), (q41, .inl (cI, 5, .inl (fun _ => 0))), (q48, .inl (cI, 5, .inl (fun _ => 0))), (q56, .inl (cI, 18, .inl (fun _ => 0))), (q64, .inl (cI, 10, .inl (fun _ => 0))), (q72, .inl (cI, 10, .inl (fun _ => 0)))]) rfl dX7_init_74 (fun H locs hW => ?_)
  refine lv_aload_n hx hb dX7_init_77 rfl (lv_at hl 0 rfl) ?_
  refine lv_bipush (v := 20) hx hb dX7_init_78 (by decide) ?_
  refine q_newI hB hW (hts (.arrayClass .int) (by decide +kernel)) (N := 20) (by decide) rfl (Nat.le_of_ble_eq_true rfl) (Nat.le_of_ble_eq_true rfl) (Nat.le_of_ble_eq_true rfl) dX7_init_80 (fun q80 H hW => ?_)
  have hW : Wl D A s.heap [(h0, .inr (7, [.int 0, .int 0, .int 0, .ref q6, .ref q13, .ref q20, .ref q27, .ref q34, .ref q41, .ref q48, .ref q56, .ref q64, .ref q72, .null, .int 0, .int 0, .int 0, .null, .int 0, .int 0, .int 0, .int 0, .int 0, .null, .int 0, .null, .null, .null, .long 0, .null, .null])), (q6, .inl (cI, 5, .inl (fun _ => 0))), (q13, .inl (cI, 5, .inl (fun _ => 0))), (q20, .inl (cI, 5, .inl (fun _ => 0))), (q27, .inl (cI, 5, .inl (fun _ => 0))), (q34, .inl (cI, 5, .inl (fun _ => 0))), (q41, .inl (cI, 5, .inl (fun _ => 0))), (q48, .inl (cI, 5, .inl (fun _ => 0))), (q56, .inl (cI, 18, .inl (fun _ => 0))), (q64, .inl (cI, 10, .inl (fun _ => 0))), (q72, .inl (cI, 10, .inl (fun _ => 0))), (q80, .inl (cI, 20, .inl (fun _ => 0)))] H _ := hW
  refine q_putF hB hnm hW 7 in_X7 tyX7 tyX7_ok nmX7 0 rfl rfl 13 (by decide) fl_40 rfl rfl (by first | rfl | decide) (by first | rfl | decide) (Nat.le_of_ble_eq_true rfl) (ws' := [(h0, .inr (7, [.int 0, .int 0, .int 0, .ref q6, .ref q13, .ref q20, .ref q27, .ref q34, .ref q41, .ref q48, .ref q56, .ref q64, .ref q72, .ref q80, .int 0, .int 0, .int 0, .null, .int 0, .int 0, .int 0, .int 0, .int 0, .null, .int 0, .null, .null, .null, .long 0, .null, .null])), (q6, .inl (cI, 5, .inl (fun _ => 0))), (q13, .inl (cI, 5, .inl (fun _ => 0))), (q20, .inl (cI, 5, .inl (fun _ => 0))), (q27, .inl (cI, 5, .inl (fun _ => 0))), (q34, .inl (cI, 5, .inl (fun _ => 0))), (q41, .inl (cI, 5, .inl (fun _ => 0))), (q48, .inl (cI, 5, .inl (fun _ => 0))), (q56, .inl (cI, 18, .inl (fun _ => 0))), (q64, .inl (cI, 10, .inl (fun _ => 0))), (q72, .inl (cI, 10, .inl (fun _ => 0))), (q80, .inl (cI, 20, .inl (fun _ => 0)))]) rfl dX7_init_82 (fun H locs hW => ?_)
  refine lv_aload_n hx hb dX7_init_85 rfl (lv_at hl 0 rfl) ?_
  refine lv_bipush (v := 60) hx hb dX7_init_86 (by decide) ?_
  refine q_newI hB hW (hts (.arrayClass .int) (by decide +kernel)) (N := 60) (by decide) rfl (Nat.le_of_ble_eq_true rfl) (Nat.le_of_ble_eq_true rfl) (Nat.le_of_ble_eq_true rfl) dX7_init_88 (fun q88 H hW => ?_)
  have hW : Wl D A s.heap [(h0, .inr (7, [.int 0, .int 0, .int 0, .ref q6, .ref q13, .ref q20, .ref q27, .ref q34, .ref q41, .ref q48, .ref q56, .ref q64, .ref q72, .ref q80, .int 0, .int 0, .int 0, .null, .int 0, .int 0, .int 0, .int 0, .int 0, .null, .int 0, .null, .null, .null, .long 0, .null, .null])), (q6, .inl (cI, 5, .inl (fun _ => 0))), (q13, .inl (cI, 5, .inl (fun _ => 0))), (q20, .inl (cI, 5, .inl (fun _ => 0))), (q27, .inl (cI, 5, .inl (fun _ => 0))), (q34, .inl (cI, 5, .inl (fun _ => 0))), (q41, .inl (cI, 5, .inl (fun _ => 0))), (q48, .inl (cI, 5, .inl (fun _ => 0))), (q56, .inl (cI, 18, .inl (fun _ => 0))), (q64, .inl (cI, 10, .inl (fun _ => 0))), (q72, .inl (cI, 10, .inl (fun _ => 0))), (q80, .inl (cI, 20, .inl (fun _ => 0))), (q88, .inl (cI, 60, .inl (fun _ => 0)))] H _ := hW
  refine q_putF hB hnm hW 7 in_X7 tyX7 tyX7_ok nmX7 0 rfl rfl 17 (by decide) fl_43 rfl rfl (by first | rfl | decide) (by first | rfl | decide) (Nat.le_of_ble_eq_true rfl) (ws' := [(h0, .inr (7, [.int 0, .int 0, .int 0, .ref q6, .ref q13, .ref q20, .ref q27, .ref q34, .ref q41, .ref q48, .ref q56, .ref q64, .ref q72, .ref q80, .int 0, .int 0, .int 0, .ref q88, .int 0, .int 0, .int 0, .int 0, .int 0, .null, .int 0, .null, .null, .null, .long 0, .null, .null])), (q6, .inl (cI, 5, .inl (fun _ => 0))), (q13, .inl (cI, 5, .inl (fun _ => 0))), (q20, .inl (cI, 5, .inl (fun _ => 0))), (q27, .inl (cI, 5, .inl (fun _ => 0))), (q34, .inl (cI, 5, .inl (fun _ => 0))), (q41, .inl (cI, 5, .inl (fun _ => 0))), (q48, .inl (cI, 5, .inl (fun _ => 0))), (q56, .inl (cI, 18, .inl (fun _ => 0))), (q64, .inl (cI, 10, .inl (fun _ => 0))), (q72, .inl (cI, 10, .inl (fun _ => 0))), (q80, .inl (cI, 20, .inl (fun _ => 0))), (q88, .inl (cI, 60, .inl (fun _ => 0)))]) rfl dX7_init_90 (fun H locs hW => ?_)
  refine lv_aload_n hx hb dX7_init_93 rfl (lv_at hl 0 rfl) ?_
  refine lv_bipush (v := 126) hx hb dX7_init_94 (by decide) ?_
  refine q_newI hB hW (hts (.arrayClass .int) (by decide +kernel)) (N := 126) (by decide) rfl (Nat.le_of_ble_eq_true rfl) (Nat.le_of_ble_eq_true rfl) (Nat.le_of_ble_eq_true rfl) dX7_init_96 (fun q96 H hW => ?_)
  have hW : Wl D A s.heap [(h0, .inr (7, [.int 0, .int 0, .int 0, .ref q6, .ref q13, .ref q20, .ref q27, .ref q34, .ref q41, .ref q48, .ref q56, .ref q64, .ref q72, .ref q80, .int 0, .int 0, .int 0, .ref q88, .int 0, .int 0, .int 0, .int 0, .int 0, .null, .int 0, .null, .null, .null, .long 0, .null, .null])), (q6, .inl (cI, 5, .inl (fun _ => 0))), (q13, .inl (cI, 5, .inl (fun _ => 0))), (q20, .inl (cI, 5, .inl (fun _ => 0))), (q27, .inl (cI, 5, .inl (fun _ => 0))), (q34, .inl (cI, 5, .inl (fun _ => 0))), (q41, .inl (cI, 5, .inl (fun _ => 0))), (q48, .inl (cI, 5, .inl (fun _ => 0))), (q56, .inl (cI, 18, .inl (fun _ => 0))), (q64, .inl (cI, 10, .inl (fun _ => 0))), (q72, .inl (cI, 10, .inl (fun _ => 0))), (q80, .inl (cI, 20, .inl (fun _ => 0))), (q88, .inl (cI, 60, .inl (fun _ => 0))), (q96, .inl (cI, 126, .inl (fun _ => 0)))] H _ := hW
  refine q_putF hB hnm hW 7 in_X7 tyX7 tyX7_ok nmX7 0 rfl rfl 23 (by decide) fl_46 rfl rfl (by first | rfl | decide) (by first | rfl | decide) (Nat.le_of_ble_eq_true rfl) (ws' := [(h0, .inr (7, [.int 0, .int 0, .int 0, .ref q6, .ref q13, .ref q20, .ref q27, .ref q34, .ref q41, .ref q48, .ref q56, .ref q64, .ref q72, .ref q80, .int 0, .int 0, .int 0, .ref q88, .int 0, .int 0, .int 0, .int 0, .int 0, .ref q96, .int 0, .null, .null, .null, .long 0, .null, .null])), (q6, .inl (cI, 5, .inl (fun _ => 0))), (q13, .inl (cI, 5, .inl (fun _ => 0))), (q20, .inl (cI, 5, .inl (fun _ => 0))), (q27, .inl (cI, 5, .inl (fun _ => 0))), (q34, .inl (cI, 5, .inl (fun _ => 0))), (q41, .inl (cI, 5, .inl (fun _ => 0))), (q48, .inl (cI, 5, .inl (fun _ => 0))), (q56, .inl (cI, 18, .inl (fun _ => 0))), (q64, .inl (cI, 10, .inl (fun _ => 0))), (q72, .inl (cI, 10, .inl (fun _ => 0))), (q80, .inl (cI, 20, .inl (fun _ => 0))), (q88, .inl (cI, 60, .inl (fun _ => 0))), (q96, .inl (cI, 126, .inl (fun _ => 0)))]) rfl dX7_init_98 (fun H locs hW => ?_)
  refine lv_aload_n hx hb dX7_init_101 rfl (lv_at hl 0 rfl) ?_
  refine lv_bipush (v := 6) hx hb dX7_init_102 (by decide) ?_
  refine q_newI hB hW (hts (.arrayClass .int) (by decide +kernel)) (N := 6) (by decide) rfl (Nat.le_of_ble_eq_true rfl) (Nat.le_of_ble_eq_true rfl) (Nat.le_of_ble_eq_true rfl) dX7_init_104 (fun q104 H hW => ?_)
  have hW : Wl D A s.heap [(h0, .inr (7, [.int 0, .int 0, .int 0, .ref q6, .ref q13, .ref q20, .ref q27, .ref q34, .ref q41, .ref q48, .ref q56, .ref q64, .ref q72, .ref q80, .int 0, .int 0, .int 0, .ref q88, .int 0, .int 0, .int 0, .int 0, .int 0, .ref q96, .int 0, .null, .null, .null, .long 0, .null, .null])), (q6, .inl (cI, 5, .inl (fun _ => 0))), (q13, .inl (cI, 5, .inl (fun _ => 0))), (q20, .inl (cI, 5, .inl (fun _ => 0))), (q27, .inl (cI, 5, .inl (fun _ => 0))), (q34, .inl (cI, 5, .inl (fun _ => 0))), (q41, .inl (cI, 5, .inl (fun _ => 0))), (q48, .inl (cI, 5, .inl (fun _ => 0))), (q56, .inl (cI, 18, .inl (fun _ => 0))), (q64, .inl (cI, 10, .inl (fun _ => 0))), (q72, .inl (cI, 10, .inl (fun _ => 0))), (q80, .inl (cI, 20, .inl (fun _ => 0))), (q88, .inl (cI, 60, .inl (fun _ => 0))), (q96, .inl (cI, 126, .inl (fun _ => 0))), (q104, .inl (cI, 6, .inl (fun _ => 0)))] H _ := hW
  refine q_putF hB hnm hW 7 in_X7 tyX7 tyX7_ok nmX7 0 rfl rfl 25 (by decide) fl_49 rfl rfl (by first | rfl | decide) (by first | rfl | decide) (Nat.le_of_ble_eq_true rfl) (ws' := [(h0, .inr (7, [.int 0, .int 0, .int 0, .ref q6, .ref q13, .ref q20, .ref q27, .ref q34, .ref q41, .ref q48, .ref q56, .ref q64, .ref q72, .ref q80, .int 0, .int 0, .int 0, .ref q88, .int 0, .int 0, .int 0, .int 0, .int 0, .ref q96, .int 0, .ref q104, .null, .null, .long 0, .null, .null])), (q6, .inl (cI, 5, .inl (fun _ => 0))), (q13, .inl (cI, 5, .inl (fun _ => 0))), (q20, .inl (cI, 5, .inl (fun _ => 0))), (q27, .inl (cI, 5, .inl (fun _ => 0))), (q34, .inl (cI, 5, .inl (fun _ => 0))), (q41, .inl (cI, 5, .inl (fun _ => 0))), (q48, .inl (cI, 5, .inl (fun _ => 0))), (q56, .inl (cI, 18, .inl (fun _ => 0))), (q64, .inl (cI, 10, .inl (fun _ => 0))), (q72, .inl (cI, 10, .inl (fun _ => 0))), (q80, .inl (cI, 20, .inl (fun _ => 0))), (q88, .inl (cI, 60, .inl (fun _ => 0))), (q96, .inl (cI, 126, .inl (fun _ => 0))), (q104, .inl (cI, 6, .inl (fun _ => 0)))]) rfl dX7_init_106 (fun H locs hW => ?_)
  refine lv_aload_n hx hb dX7_init_109 rfl (lv_at hl 0 rfl) ?_
  refine lv_bipush (v := 6) hx hb dX7_init_110 (by decide) ?_
  refine q_newI hB hW (hts (.arrayClass .int) (by decide +kernel)) (N := 6) (by decide) rfl (Nat.le_of_ble_eq_true rfl) (Nat.le_of_ble_eq_true rfl) (Nat.le_of_ble_eq_true rfl) dX7_init_112 (fun q112 H hW => ?_)
  have hW : Wl D A s.heap [(h0, .inr (7, [.int 0, .int 0, .int 0, .ref q6, .ref q13, .ref q20, .ref q27, .ref q34, .ref q41, .ref q48, .ref q56, .ref q64, .ref q72, .ref q80, .int 0, .int 0, .int 0, .ref q88, .int 0, .int 0, .int 0, .int 0, .int 0, .ref q96, .int 0, .ref q104, .null, .null, .long 0, .null, .null])), (q6, .inl (cI, 5, .inl (fun _ => 0))), (q13, .inl (cI, 5, .inl (fun _ => 0))), (q20, .inl (cI, 5, .inl (fun _ => 0))), (q27, .inl (cI, 5, .inl (fun _ => 0))), (q34, .inl (cI, 5, .inl (fun _ => 0))), (q41, .inl (cI, 5, .inl (fun _ => 0))), (q48, .inl (cI, 5, .inl (fun _ => 0))), (q56, .inl (cI, 18, .inl (fun _ => 0))), (q64, .inl (cI, 10, .inl (fun _ => 0))), (q72, .inl (cI, 10, .inl (fun _ => 0))), (q80, .inl (cI, 20, .inl (fun _ => 0))), (q88, .inl (cI, 60, .inl (fun _ => 0))), (q96, .inl (cI, 126, .inl (fun _ => 0))), (q104, .inl (cI, 6, .inl (fun _ => 0))), (q112, .inl (cI, 6, .inl (fun _ => 0)))] H _ := hW
  refine q_putF hB hnm hW 7 in_X7 tyX7 tyX7_ok nmX7 0 rfl rfl 26 (by decide) fl_52 rfl rfl (by first | rfl | decide) (by first | rfl | decide) (Nat.le_of_ble_eq_true rfl) (ws' := [(h0, .inr (7, [.int 0, .int 0, .int 0, .ref q6, .ref q13, .ref q20, .ref q27, .ref q34, .ref q41, .ref q48, .ref q56, .ref q64, .ref q72, .ref q80, .int 0, .int 0, .int 0, .ref q88, .int 0, .int 0, .int 0, .int 0, .int 0, .ref q96, .int 0, .ref q104, .ref q112, .null, .long 0, .null, .null])), (q6, .inl (cI, 5, .inl (fun _ => 0))), (q13, .inl (cI, 5, .inl (fun _ => 0))), (q20, .inl (cI, 5, .inl (fun _ => 0))), (q27, .inl (cI, 5, .inl (fun _ => 0))), (q34, .inl (cI, 5, .inl (fun _ => 0))), (q41, .inl (cI, 5, .inl (fun _ => 0))), (q48, .inl (cI, 5, .inl (fun _ => 0))), (q56, .inl (cI, 18, .inl (fun _ => 0))), (q64, .inl (cI, 10, .inl (fun _ => 0))), (q72, .inl (cI, 10, .inl (fun _ => 0))), (q80, .inl (cI, 20, .inl (fun _ => 0))), (q88, .inl (cI, 60, .inl (fun _ => 0))), (q96, .inl (cI, 126, .inl (fun _ => 0))), (q104, .inl (cI, 6, .inl (fun _ => 0))), (q112, .inl (cI, 6, .inl (fun _ => 0)))]) rfl dX7_init_114 (fun H locs hW => ?_)
  refine lv_aload_n hx hb dX7_init_117 rfl (lv_at hl 0 rfl) ?_
  refine lv_bipush (v := 6) hx hb dX7_init_118 (by decide) ?_
  refine q_newI hB hW (hts (.arrayClass .int) (by decide +kernel)) (N := 6) (by decide) rfl (Nat.le_of_ble_eq_true rfl) (Nat.le_of_ble_eq_true rfl) (Nat.le_of_ble_eq_true rfl) dX7_init_120 (fun q120 H hW => ?_)
  have hW : Wl D A s.heap [(h0, .inr (7, [.int 0, .int 0, .int 0, .ref q6, .ref q13, .ref q20, .ref q27, .ref q34, .ref q41, .ref q48, .ref q56, .ref q64, .ref q72, .ref q80, .int 0, .int 0, .int 0, .ref q88, .int 0, .int 0, .int 0, .int 0, .int 0, .ref q96, .int 0, .ref q104, .ref q112, .null, .long 0, .null, .null])), (q6, .inl (cI, 5, .inl (fun _ => 0))), (q13, .inl (cI, 5, .inl (fun _ => 0))), (q20, .inl (cI, 5, .inl (fun _ => 0))), (q27, .inl (cI, 5, .inl (fun _ => 0))), (q34, .inl (cI, 5, .inl (fun _ => 0))), (q41, .inl (cI, 5, .inl (fun _ => 0))), (q48, .inl (cI, 5, .inl (fun _ => 0))), (q56, .inl (cI, 18, .inl (fun _ => 0))), (q64, .inl (cI, 10, .inl (fun _ => 0))), (q72, .inl (cI, 10, .inl (fun _ => 0))), (q80, .inl (cI, 20, .inl (fun _ => 0))), (q88, .inl (cI, 60, .inl (fun _ => 0))), (q96, .inl (cI, 126, .inl (fun _ => 0))), (q104, .inl (cI, 6, .inl (fun _ => 0))), (q112, .inl (cI, 6, .inl (fun _ => 0))), (q120, .inl (cI, 6, .inl (fun _ => 0)))] H _ := hW
  refine q_putF hB hnm hW 7 in_X7 tyX7 tyX7_ok nmX7 0 rfl rfl 27 (by decide) fl_55 rfl rfl (by first | rfl | decide) (by first | rfl | decide) (Nat.le_of_ble_eq_true rfl) (ws' := [(h0, .inr (7, [.int 0, .int 0, .int 0, .ref q6, .ref q13, .ref q20, .ref q27, .ref q34, .ref q41, .ref q48, .ref q56, .ref q64, .ref q72, .ref q80, .int 0, .int 0, .int 0, .ref q88, .int 0, .int 0, .int 0, .int 0, .int 0, .ref q96, .int 0, .ref q104, .ref q112, .ref q120, .long 0, .null, .null])), (q6, .inl (cI, 5, .inl (fun _ => 0))), (q13, .inl (cI, 5, .inl (fun _ => 0))), (q20, .inl (cI, 5, .inl (fun _ => 0))), (q27, .inl (cI, 5, .inl (fun _ => 0))), (q34, .inl (cI, 5, .inl (fun _ => 0))), (q41, .inl (cI, 5, .inl (fun _ => 0))), (q48, .inl (cI, 5, .inl (fun _ => 0))), (q56, .inl (cI, 18, .inl (fun _ => 0))), (q64, .inl (cI, 10, .inl (fun _ => 0))), (q72, .inl (cI, 10, .inl (fun _ => 0))), (q80, .inl (cI, 20, .inl (fun _ => 0))), (q88, .inl (cI, 60, .inl (fun _ => 0))), (q96, .inl (cI, 126, .inl (fun _ => 0))), (q104, .inl (cI, 6, .inl (fun _ => 0))), (q112, .inl (cI, 6, .inl (fun _ => 0))), (q120, .inl (cI, 6, .inl (fun _ => 0)))]) rfl dX7_init_122 (fun H locs hW => ?_)
  refine lv_aload_n hx hb dX7_init_125 rfl (lv_at hl 0 rfl) ?_
  refine lv_iconst (v := 2) hx hb dX7_init_126 (by decide) ?_
  refine q_newZ hB hW (hts (.arrayClass .boolean) (by decide +kernel)) (N := 2) (by decide) rfl (Nat.le_of_ble_eq_true rfl) (Nat.le_of_ble_eq_true rfl) (Nat.le_of_ble_eq_true rfl) dX7_init_127 (fun q127 H hW => ?_)
  have hW : Wl D A s.heap [(h0, .inr (7, [.int 0, .int 0, .int 0, .ref q6, .ref q13, .ref q20, .ref q27, .ref q34, .ref q41, .ref q48, .ref q56, .ref q64, .ref q72, .ref q80, .int 0, .int 0, .int 0, .ref q88, .int 0, .int 0, .int 0, .int 0, .int 0, .ref q96, .int 0, .ref q104, .ref q112, .ref q120, .long 0, .null, .null])), (q6, .inl (cI, 5, .inl (fun _ => 0))), (q13, .inl (cI, 5, .inl (fun _ => 0))), (q20, .inl (cI, 5, .inl (fun _ => 0))), (q27, .inl (cI, 5, .inl (fun _ => 0))), (q34, .inl (cI, 5, .inl (fun _ => 0))), (q41, .inl (cI, 5, .inl (fun _ => 0))), (q48, .inl (cI, 5, .inl (fun _ => 0))), (q56, .inl (cI, 18, .inl (fun _ => 0))), (q64, .inl (cI, 10, .inl (fun _ => 0))), (q72, .inl (cI, 10, .inl (fun _ => 0))), (q80, .inl (cI, 20, .inl (fun _ => 0))), (q88, .inl (cI, 60, .inl (fun _ => 0))), (q96, .inl (cI, 126, .inl (fun _ => 0))), (q104, .inl (cI, 6, .inl (fun _ => 0))), (q112, .inl (cI, 6, .inl (fun _ => 0))), (q120, .inl (cI, 6, .inl (fun _ => 0))), (q127, .inl (cZ, 2, .inl (fun _ => 0)))] H _ := hW
  refine q_putF hB hnm hW 7 in_X7 tyX7 tyX7_ok nmX7 0 rfl rfl 29 (by decide) fl_58 rfl rfl (by first | rfl | decide) (by first | rfl | decide) (Nat.le_of_ble_eq_true rfl) (ws' := [(h0, .inr (7, [.int 0, .int 0, .int 0, .ref q6, .ref q13, .ref q20, .ref q27, .ref q34, .ref q41, .ref q48, .ref q56, .ref q64, .ref q72, .ref q80, .int 0, .int 0, .int 0, .ref q88, .int 0, .int 0, .int 0, .int 0, .int 0, .ref q96, .int 0, .ref q104, .ref q112, .ref q120, .long 0, .ref q127, .null])), (q6, .inl (cI, 5, .inl (fun _ => 0))), (q13, .inl (cI, 5, .inl (fun _ => 0))), (q20, .inl (cI, 5, .inl (fun _ => 0))), (q27, .inl (cI, 5, .inl (fun _ => 0))), (q34, .inl (cI, 5, .inl (fun _ => 0))), (q41, .inl (cI, 5, .inl (fun _ => 0))), (q48, .inl (cI, 5, .inl (fun _ => 0))), (q56, .inl (cI, 18, .inl (fun _ => 0))), (q64, .inl (cI, 10, .inl (fun _ => 0))), (q72, .inl (cI, 10, .inl (fun _ => 0))), (q80, .inl (cI, 20, .inl (fun _ => 0))), (q88, .inl (cI, 60, .inl (fun _ => 0))), (q96, .inl (cI, 126, .inl (fun _ => 0))), (q104, .inl (cI, 6, .inl (fun _ => 0))), (q112, .inl (cI, 6, .inl (fun _ => 0))), (q120, .inl (cI, 6, .inl (fun _ => 0))), (q127, .inl (cZ, 2, .inl (fun _ => 0)))]) rfl dX7_init_129 (fun H locs hW => ?_)
  refine lv_aload_n hx hb dX7_init_132 rfl (lv_at hl 0 rfl) ?_
  refine lv_bipush (v := 18) hx hb dX7_init_133 (by decide) ?_
  refine q_newI hB hW (hts (.arrayClass .int) (by decide +kernel)) (N := 18) (by decide) rfl (Nat.le_of_ble_eq_true rfl) (Nat.le_of_ble_eq_true rfl) (Nat.le_of_ble_eq_true rfl) dX7_init_135 (fun q135 H hW => ?_)
  have hW : Wl D A s.heap [(h0, .inr (7, [.int 0, .int 0, .int 0, .ref q6, .ref q13, .ref q20, .ref q27, .ref q34, .ref q41, .ref q48, .ref q56, .ref q64, .ref q72, .ref q80, .int 0, .int 0, .int 0, .ref q88, .int 0, .int 0, .int 0, .int 0, .int 0, .ref q96, .int 0, .ref q104, .ref q112, .ref q120, .long 0, .ref q127, .null])), (q6, .inl (cI, 5, .inl (fun _ => 0))), (q13, .inl (cI, 5, .inl (fun _ => 0))), (q20, .inl (cI, 5, .inl (fun _ => 0))), (q27, .inl (cI, 5, .inl (fun _ => 0))), (q34, .inl (cI, 5, .inl (fun _ => 0))), (q41, .inl (cI, 5, .inl (fun _ => 0))), (q48, .inl (cI, 5, .inl (fun _ => 0))), (q56, .inl (cI, 18, .inl (fun _ => 0))), (q64, .inl (cI, 10, .inl (fun _ => 0))), (q72, .inl (cI, 10, .inl (fun _ => 0))), (q80, .inl (cI, 20, .inl (fun _ => 0))), (q88, .inl (cI, 60, .inl (fun _ => 0))), (q96, .inl (cI, 126, .inl (fun _ => 0))), (q104, .inl (cI, 6, .inl (fun _ => 0))), (q112, .inl (cI, 6, .inl (fun _ => 0))), (q120, .inl (cI, 6, .inl (fun _ => 0))), (q127, .inl (cZ, 2, .inl (fun _ => 0))), (q135, .inl (cI, 18, .inl (fun _ => 0)))] H _ := hW
  refine q_putF hB hnm hW 7 in_X7 tyX7 tyX7_ok nmX7 0 rfl rfl 30 (by decide) fl_62 rfl rfl (by first | rfl | decide) (by first | rfl | decide) (Nat.le_of_ble_eq_true rfl) (ws' := [(h0, .inr (7, [.int 0, .int 0, .int 0, .ref q6, .ref q13, .ref q20, .ref q27, .ref q34, .ref q41, .ref q48, .ref q56, .ref q64, .ref q72, .ref q80, .int 0, .int 0, .int 0, .ref q88, .int 0, .int 0, .int 0, .int 0, .int 0, .ref q96, .int 0, .ref q104, .ref q112, .ref q120, .long 0, .ref q127, .ref q135])), (q6, .inl (cI, 5, .inl (fun _ => 0))), (q13, .inl (cI, 5, .inl (fun _ => 0))), (q20, .inl (cI, 5, .inl (fun _ => 0))), (q27, .inl (cI, 5, .inl (fun _ => 0))), (q34, .inl (cI, 5, .inl (fun _ => 0))), (q41, .inl (cI, 5, .inl (fun _ => 0))), (q48, .inl (cI, 5, .inl (fun _ => 0))), (q56, .inl (cI, 18, .inl (fun _ => 0))), (q64, .inl (cI, 10, .inl (fun _ => 0))), (q72, .inl (cI, 10, .inl (fun _ => 0))), (q80, .inl (cI, 20, .inl (fun _ => 0))), (q88, .inl (cI, 60, .inl (fun _ => 0))), (q96, .inl (cI, 126, .inl (fun _ => 0))), (q104, .inl (cI, 6, .inl (fun _ => 0))), (q112, .inl (cI, 6, .inl (fun _ => 0))), (q120, .inl (cI, 6, .inl (fun _ => 0))), (q127, .inl (cZ, 2, .inl (fun _ => 0))), (q135, .inl (cI, 18, .inl (fun _ => 0)))]) rfl dX7_init_137 (fun H locs hW => ?_)
  exact hE _ _ _ _ _ ⟨q6, q13, q20, q27, q34, q41, q48, q56, q64, q72, q80, q88, q96, q104, q112, q120, q127, q135, rfl⟩ hW dX7_init_140
