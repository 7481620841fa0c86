abbrev vwCl : List vw_C := [(RX0, TX0, 2), (RX1, TX1, 11), (RX2, TX2, 4), (RX3, TX3, 3), (RX4, TX4, 6), (RX5, TX5, 2), (RX6, TX6, 11), (RX7, TX7, 31)]
def NWl : List (String × Nat × MethodName × String) := [(RX1, 46, yX6_put, RX6), (RX1, 50, yX6_within, RX6), (RX1, 58, yX6_at, RX6), (RX1, 75, yX6_bit, RX6), (RX2, 25, yX6_put, RX6), (RX2, 29, yX6_at, RX6), (RX2, 33, yX6_reaches, RX6), (RX3, 88, yX6_within, RX6), (RX4, 39, yX6_at, RX6), (RX4, 53, yX6_put, RX6), (RX4, 61, yX6_bit, RX6), (RX4, 91, yX6_reaches, RX6), (RX5, 19, yX6_put, RX6)]

def KX (D : va_G) (cI cZ : ClassId) (U : State) : Prop := va_K D vwCl [(cI, .int), (cZ, .boolean)] U ∧ ∀ q ∈ NWl, va_Nw (.methodLinkNest q.1 q.2.1 q.2.2.1 q.2.2.2) U
theorem KX.warm {D : va_G} {cI cZ : ClassId} {s U : State} (hW : s.WarmedH U.vm) (h : KX D cI cZ s) : KX D cI cZ U := ⟨va_K.moved hW.alike h.1, fun q hq => va_Nw.warmM hW (h.2 q hq)⟩
theorem KX.blind {D : va_G} {cI cZ : ClassId} {U : State} {g : JFrame} {mk : MethodId} {a : Array Value} (h : KX D cI cZ U) : KX D cI cZ (U.calling g mk a) := ⟨va_K.moved (u := U) (U := U.calling g mk a) (Vm.Alike.refl U.vm) h.1, fun q hq => va_Nw.same (u := U) rfl rfl (h.2 q hq)⟩
def Rm (fr lo : Nat) : Room := { frames := fr, cells := 0, slots := 0, locals := lo }
def PcX (D : va_G) (cI cZ : ClassId) (av : List Value) (w0 : va_W) (sz : Nat) : Array Value → State → Prop := va_Pc av (fun U => U.heap.size = sz ∧ va_P D vwCl w0 U.heap ∧ KX D cI cZ U ∧ va_D (fun _ => True) w0)
theorem PcX.blind {D : va_G} {cI cZ : ClassId} {av : List Value} {w0 : va_W} {sz : Nat} : FrameBlind (PcX D cI cZ av w0 sz) := fun a U g mk q => by
  obtain ⟨q0, q1, qP, qK, qD⟩ := q
  exact ⟨q0, q1, qP, qK.blind, qD⟩
def Bx (p : Program) (s : State) (m : MethodId) (meth : Method) (c : Code) (args : Array Value) (cc : ByteArray) (nL : Nat) (ret : Option FieldType) (own : String) (Ts : List Cond) (D : va_G) (cI cZ : ClassId) (A : Nat → Prop) : Prop := p.tables.exec = Jvm.exec ∧ c.code = cc ∧ meth.sig.returnType = ret ∧ c.maxLocals = nL ∧ s.vm.findClass own = some m.cls ∧ (∀ w ∈ Ts, w.before args s = true) ∧ meth.locks = false ∧ KX D cI cZ s ∧ ∀ q : Nat, s.heap.size ≤ q → A q
def Wl (D : va_G) (A : Nat → Prop) (H0 : Heap) (ws : va_W) (H : Heap) (locs : List Loc) : Prop := va_P D vwCl ws H ∧ va_D A ws ∧ va_S A H0 H locs
def nz (r : Int32) : Prop := narrow .boolean (.int r) = .int r
theorem nz_0 : nz 0 := rfl
theorem nz_1 : nz 1 := rfl
def QI (D : va_G) {R : Type} (w1 : R → va_W) (rf : R → Int32) (q : R) (A : Nat → Prop) : Array Value → State → Outcome → State → Prop := va_Qi (fun (x : Int32) (_ : Unit) => x = rf q) (fun _ t => va_P D vwCl (w1 q) t.heap ∧ va_D A (w1 q)) A
def QZ (D : va_G) {R : Type} (w1 : R → va_W) (rf : R → Int32) (q : R) (A : Nat → Prop) : Array Value → State → Outcome → State → Prop := va_Qi (fun (x : Int32) (_ : Unit) => x = rf q ∧ nz (rf q)) (fun _ t => va_P D vwCl (w1 q) t.heap ∧ va_D A (w1 q)) A
def QL (D : va_G) {R : Type} (w1 : R → va_W) (rf : R → Int64) (q : R) (A : Nat → Prop) : Array Value → State → Outcome → State → Prop := va_Ql (fun (x : Int64) (_ : Unit) => x = rf q) (fun _ t => va_P D vwCl (w1 q) t.heap ∧ va_D A (w1 q)) A
def QV (D : va_G) {R : Type} (w1 : R → va_W) (q : R) (A : Nat → Prop) : Array Value → State → Outcome → State → Prop := va_Qv (fun (_ : Unit) => True) (fun _ t => va_P D vwCl (w1 q) t.heap ∧ va_D A (w1 q)) A
theorem fm_of {α β : Type} {f : α → Option β} : ∀ {is : List α} {ws : List β}, is.map f = ws.map some → is.filterMap f = ws
  | [], [], _ => rfl
  | [], _ :: _, h => by simp at h
  | _ :: _, [], h => by simp at h
  | i :: is, w :: ws, h => by
    simp only [List.map_cons, List.cons.injEq] at h
    rw [List.filterMap_cons, h.1, fm_of h.2]
def itr {σ ρ : Type} (b : σ → Option (σ ⊕ ρ)) : Nat → σ → Option ρ
  | 0, _ => none
  | n + 1, s => (b s).bind (fun o => Sum.elim (fun s' => itr b n s') (fun r => some r) o)
theorem itr_0 {σ ρ : Type} {b : σ → Option (σ ⊕ ρ)} {s : σ} {r : ρ} {P : Prop} (h : itr b 0 s = some r) : P := by simp [itr] at h
theorem itr_inv {σ ρ : Type} {b : σ → Option (σ ⊕ ρ)} {n : Nat} {s : σ} {r : ρ} (h : itr b (n + 1) s = some r) : ∃ o, b s = some o ∧ Sum.elim (fun s' => itr b n s' = some r) (fun r' => r' = r) o := by
  have h : (b s).bind (fun o => Sum.elim (fun s' => itr b n s') (fun r => some r) o) = some r := h
  match hb : b s, h with
  | none, h => simp at h
  | some (.inl s'), h => exact ⟨_, rfl, h⟩
  | some (.inr r'), h => exact ⟨_, rfl, by simpa using h⟩
theorem o_inl {σ ρ : Type} {P : σ → Prop} {Q : ρ → Prop} {y : σ} {o : σ ⊕ ρ} (h : some (Sum.inl y) = some o) (ho : Sum.elim P Q o) : P y := by cases h; exact ho
theorem o_inr {σ ρ : Type} {P : σ → Prop} {Q : ρ → Prop} {y : ρ} {o : σ ⊕ ρ} (h : some (Sum.inr y) = some o) (ho : Sum.elim P Q o) : Q y := by cases h; exact ho
theorem s_inl {σ ρ β : Type} {f : σ → Option β} {g : ρ → Option β} {y : σ} {o : σ ⊕ ρ} {r : β} (h : Sum.inl y = o) (ho : Sum.elim f g o = some r) : f y = some r := by cases h; exact ho
theorem s_inr {σ ρ β : Type} {f : σ → Option β} {g : ρ → Option β} {y : ρ} {o : σ ⊕ ρ} {r : β} (h : Sum.inr y = o) (ho : Sum.elim f g o = some r) : g y = some r := by cases h; exact ho
theorem bnd {α β : Type} {o : Option α} {k : α → Option β} {r : β} (h : o.bind k = some r) : ∃ v, o = some v ∧ k v = some r := by
  cases o with
  | none => simp at h
  | some v => exact ⟨v, rfl, h⟩
theorem it_t {α : Type} {c : Prop} [Decidable c] {a b : Option α} {r : α} (hc : c) (h : (if c then a else b) = some r) : a = some r := by rw [if_pos hc] at h; exact h
theorem it_f {α : Type} {c : Prop} [Decidable c] {a b : Option α} {r : α} (hc : ¬ c) (h : (if c then a else b) = some r) : b = some r := by rw [if_neg hc] at h; exact h
theorem sm {α : Type} {a b : α} (h : some a = some b) : a = b := Option.some.inj h
def FU : Nat := 128
def ald (f : Nat → Int32) (n : Nat) (i : Int32) : Option Int32 := if i < 0 ∨ n ≤ i.toNatClampNeg then none else some (f i.toNatClampNeg)
def ast (f : Nat → Int32) (n : Nat) (i x : Int32) : Option (Nat → Int32) := if i < 0 ∨ n ≤ i.toNatClampNeg then none else some (upd f i.toNatClampNeg x)
def astZ (f : Nat → Int32) (n : Nat) (i x : Int32) : Option (Nat → Int32) := if i < 0 ∨ n ≤ i.toNatClampNeg then none else some (upd f i.toNatClampNeg (vp_nar .boolean x))
def dvI (x y : Int32) : Option Int32 := if y = 0 then none else some (x / y)
def rmI (x y : Int32) : Option Int32 := if y = 0 then none else some (x - x / y * y)
def dvL (x y : Int64) : Option Int64 := if y = 0 then none else some (x / y)
def rmL (x y : Int64) : Option Int64 := if y = 0 then none else some (x - x / y * y)
theorem ald_in {f : Nat → Int32} {n : Nat} {i v : Int32} (h : ald f n i = some v) : vp_in i n ∧ f i.toNatClampNeg = v := by
  unfold ald at h
  by_cases hc : i < 0 ∨ n ≤ i.toNatClampNeg
  · rw [if_pos hc] at h; cases h
  · rw [if_neg hc] at h; exact ⟨hc, Option.some.inj h⟩
theorem ast_in {f g : Nat → Int32} {n : Nat} {i x : Int32} (h : ast f n i x = some g) : vp_in i n ∧ upd f i.toNatClampNeg x = g := by
  unfold ast at h
  by_cases hc : i < 0 ∨ n ≤ i.toNatClampNeg
  · rw [if_pos hc] at h; cases h
  · rw [if_neg hc] at h; exact ⟨hc, Option.some.inj h⟩
theorem astZ_in {f g : Nat → Int32} {n : Nat} {i x : Int32} (h : astZ f n i x = some g) : vp_in i n ∧ upd f i.toNatClampNeg (vp_nar .boolean x) = g := by
  unfold astZ at h
  by_cases hc : i < 0 ∨ n ≤ i.toNatClampNeg
  · rw [if_pos hc] at h; cases h
  · rw [if_neg hc] at h; exact ⟨hc, Option.some.inj h⟩
theorem dvI_in {x y v : Int32} (h : dvI x y = some v) : ¬ y = 0 ∧ x / y = v := by
  unfold dvI at h
  by_cases hc : y = 0
  · rw [if_pos hc] at h; cases h
  · rw [if_neg hc] at h; exact ⟨hc, Option.some.inj h⟩
theorem rmI_in {x y v : Int32} (h : rmI x y = some v) : ¬ y = 0 ∧ x - x / y * y = v := by
  unfold rmI at h
  by_cases hc : y = 0
  · rw [if_pos hc] at h; cases h
  · rw [if_neg hc] at h; exact ⟨hc, Option.some.inj h⟩
theorem dvL_in {x y v : Int64} (h : dvL x y = some v) : ¬ y = 0 ∧ x / y = v := by
  unfold dvL at h
  by_cases hc : y = 0
  · rw [if_pos hc] at h; cases h
  · rw [if_neg hc] at h; exact ⟨hc, Option.some.inj h⟩
theorem rmL_in {x y v : Int64} (h : rmL x y = some v) : ¬ y = 0 ∧ x - x / y * y = v := by
  unfold rmL at h
  by_cases hc : y = 0
  · rw [if_pos hc] at h; cases h
  · rw [if_neg hc] at h; exact ⟨hc, Option.some.inj h⟩
theorem sw_out {x : Int32} (n : Nat) (hn : n < 2 ^ 31 - 1) (h : ∀ j, j ≤ n → ¬ x = nI j) : x.toInt < 0 ∨ (n : Int) < x.toInt := by
  rcases pk_ix x (n := n + 1) (by omega) with h1 | h1 | ⟨j, hj, rfl⟩
  · exact Or.inl (by simpa [Int32.lt_iff_toInt_lt] using h1)
  · right
    have h2 : (nI (n + 1)).toInt ≤ x.toInt := Int32.le_iff_toInt_le.mp h1
    rw [nI_toInt (by omega)] at h2
    omega
  · exact absurd rfl (h j (by omega))
def lay : va_W → List Nat → va_W → va_W
  | ws, i :: is, x :: xs => lay (ws.set i x) is xs
  | ws, [], _ => ws
  | ws, _ :: _, [] => ws
theorem lay_get : ∀ (is : List Nat) (xs ws : va_W) (k : Nat) (x : Nat × va_E), (lay ws is xs)[k]? = some x → (∃ j : Nat, is[j]? = some k ∧ xs[j]? = some x) ∨ ((k ∉ is ∨ xs.length < is.length) ∧ ws[k]? = some x)
  | [], xs, ws, k, x, h => by
    cases xs <;> exact Or.inr ⟨Or.inl (List.not_mem_nil), h⟩
  | i :: is, [], ws, k, x, h => Or.inr ⟨Or.inr (by simp), h⟩
  | i :: is, y :: xs, ws, k, x, h => by
    have h : (lay (ws.set i y) is xs)[k]? = some x := h
    rcases lay_get is xs (ws.set i y) k x h with ⟨j, h1, h2⟩ | ⟨h1, h2⟩
    · exact Or.inl ⟨j + 1, by simpa using h1, by simpa using h2⟩
    · by_cases hk : i = k
      · subst hk
        have hlt : i < (ws.set i y).length := (List.getElem?_eq_some_iff.mp h2).1
        rw [List.getElem?_set_self (by simpa using hlt)] at h2
        exact Or.inl ⟨0, by simp, by simpa using h2⟩
      · rw [List.getElem?_set_ne hk] at h2
        refine Or.inr ⟨?_, h2⟩
        rcases h1 with h1 | h1
        · exact Or.inl (by simp only [List.mem_cons, not_or]; exact ⟨fun e => hk e.symm, h1⟩)
        · exact Or.inr (by simpa using h1)
theorem map_at {ws wc : va_W} {isC : List Nat} (hC : isC.map (fun i => ws[i]?) = wc.map some) {j : Nat} {x : Nat × va_E} (h : wc[j]? = some x) : ∃ i, isC[j]? = some i ∧ ws[i]? = some x := by
  have h1 : (isC.map (fun i => ws[i]?))[j]? = (wc.map some)[j]? := by rw [hC]
  rw [List.getElem?_map, List.getElem?_map, h] at h1
  cases hi : isC[j]? with
  | none => rw [hi] at h1; simp at h1
  | some i => rw [hi] at h1; exact ⟨i, rfl, by simpa using h1⟩
theorem lay_P {A0 : Nat → Prop} {D : va_G} {cl : List vw_C} {ws wc w1 : va_W} {H H1 : Heap} {isC : List Nat} (hP : va_P D cl ws H) (hD : va_D A0 ws) (hC : isC.map (fun i => ws[i]?) = wc.map some) (hk : ∀ q : Nat, q < H.size → ¬ va_A wc H.size q → H1[q]? = H[q]?) (hP1 : va_P D cl w1 H1) (hl : w1.length = wc.length) : va_P D cl (lay ws isC w1) H1 := by
  intro k x hx
  have hlen : isC.length = wc.length := by have := congrArg List.length hC; simpa using this
  rcases lay_get isC w1 ws k x hx with ⟨j, -, h2⟩ | ⟨h1, h2⟩
  · exact hP1 j x h2
  · have h1 : k ∉ isC := by
      rcases h1 with h1 | h1
      · exact h1
      · omega
    have hat := hP k x h2
    refine hat.kept (hk x.1 hat.lt ?_)
    rintro (⟨j, e, he⟩ | hge)
    · obtain ⟨i, hi, hwi⟩ := map_at hC he
      have : i = k := hD.1 i k _ _ hwi h2 rfl
      subst this
      exact h1 (List.mem_of_getElem? hi)
    · exact absurd hat.lt (Nat.not_lt.mpr hge)
theorem va_D_map {A : Nat → Prop} {ws ws' : va_W} (h : ws'.map Prod.fst = ws.map Prod.fst) (hD : va_D A ws) : va_D A ws' := by
  have hf : ∀ (k : Nat) (q : Nat × va_E), ws'[k]? = some q → ∃ q', ws[k]? = some q' ∧ q'.1 = q.1 := by
    intro k q hq
    have h1 : (ws'.map Prod.fst)[k]? = (ws.map Prod.fst)[k]? := by rw [h]
    rw [List.getElem?_map, List.getElem?_map, hq] at h1
    cases hk : ws[k]? with
    | none => rw [hk] at h1; simp at h1
    | some q' => rw [hk] at h1; exact ⟨q', rfl, by simpa using h1.symm⟩
  refine ⟨fun i j p q hp hq e => ?_, fun k q hq => ?_⟩
  · obtain ⟨p', hp', e1⟩ := hf i p hp
    obtain ⟨q', hq', e2⟩ := hf j q hq
    exact hD.1 i j p' q' hp' hq' (by rw [e1, e2, e])
  · obtain ⟨q', hq', e2⟩ := hf k q hq
    rw [← e2]
    exact hD.2 k q' hq'
theorem lay_fst : ∀ (is : List Nat) (xs ws : va_W), is.map (fun i => (ws.map Prod.fst)[i]?) = xs.map (fun x => some x.1) → (lay ws is xs).map Prod.fst = ws.map Prod.fst
  | [], xs, ws, _ => by cases xs <;> rfl
  | i :: is, [], ws, h => by simp at h
  | i :: is, x :: xs, ws, h => by
    simp only [List.map_cons, List.cons.injEq] at h
    have he : (ws.set i x).map Prod.fst = ws.map Prod.fst := by
      rw [List.map_set]
      obtain ⟨hlt, hv⟩ := List.getElem?_eq_some_iff.mp h.1
      rw [← hv]
      exact List.set_getElem_self hlt
    show (lay (ws.set i x) is xs).map Prod.fst = _
    rw [lay_fst is xs (ws.set i x) (by rw [he]; exact h.2), he]
theorem lay_D {A : Nat → Prop} {ws wc w1 : va_W} {isC : List Nat} (hD : va_D A ws) (hC : isC.map (fun i => ws[i]?) = wc.map some) (hA1 : w1.map Prod.fst = wc.map Prod.fst) : va_D A (lay ws isC w1) := by
  refine va_D_map (lay_fst isC w1 ws ?_) hD
  have h1 : w1.map (fun x => some x.1) = (w1.map Prod.fst).map some := by simp [List.map_map, Function.comp_def]
  have h2 : (wc.map Prod.fst).map some = (wc.map some).map (fun o : Option (Nat × va_E) => o.map Prod.fst) := by simp [List.map_map, Function.comp_def]
  rw [h1, hA1, h2, ← hC, List.map_map]
  exact List.map_congr_left (fun i _ => by simp)
theorem lk_out {x : Int32} (h1 : ¬ x = 67) (h2 : ¬ x = 79) (h3 : ¬ x = 80) (h4 : ¬ x = 81) : Op.lookupswitch.offset (#[(67, 79), (79, 87), (80, 41), (81, 49)] : Array (Int × Int)).toList 95 x.toInt = 95 := by
  have e1 : ¬ (x.toInt = 67) := fun h => h1 (Int32.toInt_inj.mp (by rw [h]; rfl))
  have e2 : ¬ (x.toInt = 79) := fun h => h2 (Int32.toInt_inj.mp (by rw [h]; rfl))
  have e3 : ¬ (x.toInt = 80) := fun h => h3 (Int32.toInt_inj.mp (by rw [h]; rfl))
  have e4 : ¬ (x.toInt = 81) := fun h => h4 (Int32.toInt_inj.mp (by rw [h]; rfl))
  show (if (67 : Int) = x.toInt then (79 : Int) else if (79 : Int) = x.toInt then 87 else if (80 : Int) = x.toInt then 41 else if (81 : Int) = x.toInt then 49 else 95) = 95
  rw [if_neg (fun h => e1 h.symm), if_neg (fun h => e2 h.symm), if_neg (fun h => e3 h.symm), if_neg (fun h => e4 h.symm)]
theorem Met_ofWF {l : Launch} {y : MethodName} {ws ws' : List Cond} {rm : Room} {Pc : Array Value → State → Prop} {Qc : Array Value → State → Outcome → State → Prop} {mc ms : Nat} {free : Addr → Prop} {cc : ByteArray} {maxL : Nat} {ret : Option FieldType} (hy : plainFor y = true) (hw : ws = Cond.code y cc maxL ret :: ws')
    (body : ∀ p e s m args below meth c s₁, BodyLoose p l y (headSpec ws rm) cc maxL ret e s m args below meth c s₁ → c.maxLocals = maxL → Pc args s → W p l e (headSpec ws rm).room s m args below meth c s.heap [] 0 0 (MQ below Qc args s mc ms free) (entryFrame m args maxL)) : Met l y ws rm Pc Qc mc ms free := by
  refine MetFree.of_bodySF (code := cc) (maxLocals := maxL) (ret := ret) hy ?_ ?_
  · intro args s m h hn
    obtain ⟨meth, c, h1, h2, h3, h4, h5, h6, -, -⟩ := Cond.code_spec hn (atoms_spec (ws := ws) h _ (by rw [hw]; exact List.mem_cons_self))
    exact ⟨meth, c, h1, h2, h3, h4, h5, h6⟩
  · intro p e s m args below meth c s₁ B hml hP _
    have hh0 : s₁.heap = s.heap := by rw [B.state]; rfl
    obtain ⟨t, a1, o, b1, b2, b3⟩ := body p e s m args below meth c s₁ B hml hP s₁ hh0 (Stand.of_body B)
    exact ⟨t, o, a1, b1, b2, ⟨b3.1, b3.2⟩⟩
section Rows
variable {p : Program} {l : Launch} {e : Env} {Rr : Room} {s : State} {m : MethodId} {args : Array Value} {below : List Frame} {meth : Method} {c : Code} {H : Heap} {locs : List Loc} {cells slots : Nat} {Q : State → Prop} {cc : ByteArray} {nL : Nat} {ret : Option FieldType} {own : String} {Ts : List Cond} {D : va_G} {cI cZ : ClassId} {A : Nat → Prop} {ls : Array Slot} {pc : Nat} {st rest : List Value} {ws ws' : va_W}
theorem q_get (hB : Bx p s m meth c args cc nL ret own Ts D cI cZ A) (hW : Wl D A s.heap ws H locs) {C : String} {T : u_T} {N index : Nat} (ci : Nat) (hin : ∀ w ∈ u_ws C T N, w ∈ Ts) (q0 : Nat) {a : Nat} {fs : List Value} (he : ws[q0]? = some (a, .inr (ci, fs))) (hc : vwCl[ci]? = some (C, T, N)) (k : Nat) (hk : k < N) (hlink : (Cond.fieldLink own index (T k).1 (T k).2.1 (T k).2.2.1).before args s = true) {v : Value} (hv : fs[k]? = some v) (hdg : decode cc pc = .ok (.getfield index, 3))
    (kk : W p l e Rr s m args below meth c H locs cells slots Q (F0 m (pc + 3) ls (v :: rest))) : W p l e Rr s m args below meth c H locs cells slots Q (F0 m pc ls (.ref a :: rest)) :=
  va_get (D := D) (ref := (T k).1) hB.1 hB.2.1 hB.2.2.2.2.2.1 hin hB.2.2.2.2.1 hB.2.2.2.2.2.2.2.1.1 hW.1 q0 he hc k hk hlink (fun _ h9 => h9) hv hdg kk
theorem q_put (hB : Bx p s m meth c args cc nL ret own Ts D cI cZ A) (hW : Wl D A s.heap ws H locs) {C : String} {T : u_T} {N index : Nat} (ci : Nat) (hin : ∀ w ∈ u_ws C T N, w ∈ Ts) (ty0 : Nat → FieldType) (hty : ∀ k, k < N → parseFieldDescriptor (T k).2.2.1 = some (ty0 k)) (hnm : ∀ a, a < N → ∀ b, b < N → a ≠ b → (T a).2.1 ≠ (T b).2.1) (q0 : Nat) {a : Nat} {fs : List Value} (he : ws[q0]? = some (a, .inr (ci, fs))) (hc : vwCl[ci]? = some (C, T, N)) (k : Nat) (hk : k < N) (hlink : (Cond.fieldLink own index (T k).1 (T k).2.1 (T k).2.2.1).before args s = true) (hfin : (T k).2.2.2 = false) {v : Value} (hn : narrow (ty0 k) v = v) (hfit : fits (ty0 k) v = true) (hl : k < fs.length) (hs : ws.set q0 (a, .inr (ci, fs.set k v)) = ws') (hdg : decode cc pc = .ok (.putfield index, 3))
    (kk : ∀ (H : Heap) (locs : List Loc), Wl D A s.heap ws' H locs → W p l e Rr s m args below meth c H locs cells slots Q (F0 m (pc + 3) ls rest)) : W p l e Rr s m args below meth c H locs cells slots Q (F0 m pc ls (v :: .ref a :: rest)) := by
  subst hs
  exact va_put (D := D) (ref := (T k).1) hB.1 hB.2.1 hB.2.2.2.2.2.1 hin ty0 hty hnm hB.2.2.2.2.1 hB.2.2.2.2.2.2.2.1.1 hW.1 hW.2.1 hW.2.2 q0 he hc k hk hlink (fun _ h9 => h9) hfin (hty k hk) hn hfit hl hdg (fun H1 l1 a1 a2 a3 => kk H1 l1 ⟨a1, a2, a3⟩)
theorem q_iald (hB : Bx p s m meth c args cc nL ret own Ts D cI cZ A) (hW : Wl D A s.heap ws H locs) (q0 : Nat) {a n : Nat} {f : Nat → Int32} (ha : ws[q0]? = some (a, .inl (cI, n, .inl f))) {i v : Int32} (hv : ald f n i = some v) (hdg : decode cc pc = .ok (.iaload, 1))
    (kk : W p l e Rr s m args below meth c H locs cells slots Q (F0 m (pc + 1) ls (.int v :: rest))) : W p l e Rr s m args below meth c H locs cells slots Q (F0 m pc ls (.int i :: .ref a :: rest)) := by
  obtain ⟨h1, rfl⟩ := ald_in hv
  exact va_iald hB.1 hB.2.1 hB.2.2.2.2.2.2.2.1.1 hW.1 q0 0 ha rfl h1 hdg kk
theorem q_zald (hB : Bx p s m meth c args cc nL ret own Ts D cI cZ A) (hW : Wl D A s.heap ws H locs) (q0 : Nat) {a n : Nat} {f : Nat → Int32} (ha : ws[q0]? = some (a, .inl (cZ, n, .inl f))) {i v : Int32} (hv : ald f n i = some v) (hdg : decode cc pc = .ok (.baload, 1))
    (kk : W p l e Rr s m args below meth c H locs cells slots Q (F0 m (pc + 1) ls (.int v :: rest))) : W p l e Rr s m args below meth c H locs cells slots Q (F0 m pc ls (.int i :: .ref a :: rest)) := by
  obtain ⟨h1, rfl⟩ := ald_in hv
  exact va_zald hB.1 hB.2.1 hB.2.2.2.2.2.2.2.1.1 hW.1 q0 1 ha rfl h1 hdg kk
theorem q_iast (hB : Bx p s m meth c args cc nL ret own Ts D cI cZ A) (hW : Wl D A s.heap ws H locs) (q0 : Nat) {a n : Nat} {f g : Nat → Int32} (ha : ws[q0]? = some (a, .inl (cI, n, .inl f))) {i x : Int32} (hv : ast f n i x = some g) (hs : ws.set q0 (a, .inl (cI, n, .inl g)) = ws') (hdg : decode cc pc = .ok (.iastore, 1))
    (kk : ∀ (H : Heap) (locs : List Loc), Wl D A s.heap ws' H locs → W p l e Rr s m args below meth c H locs cells slots Q (F0 m (pc + 1) ls rest)) : W p l e Rr s m args below meth c H locs cells slots Q (F0 m pc ls (.int x :: .int i :: .ref a :: rest)) := by
  obtain ⟨h1, rfl⟩ := ast_in hv
  subst hs
  exact va_iast hB.1 hB.2.1 hB.2.2.2.2.2.2.2.1.1 hW.1 hW.2.1 hW.2.2 q0 0 ha rfl h1 hdg (fun H1 l1 a1 a2 a3 => kk H1 l1 ⟨a1, a2, a3⟩)
theorem q_zast (hB : Bx p s m meth c args cc nL ret own Ts D cI cZ A) (hW : Wl D A s.heap ws H locs) (q0 : Nat) {a n : Nat} {f g : Nat → Int32} (ha : ws[q0]? = some (a, .inl (cZ, n, .inl f))) {i x : Int32} (hv : astZ f n i x = some g) (hs : ws.set q0 (a, .inl (cZ, n, .inl g)) = ws') (hdg : decode cc pc = .ok (.bastore, 1))
    (kk : ∀ (H : Heap) (locs : List Loc), Wl D A s.heap ws' H locs → W p l e Rr s m args below meth c H locs cells slots Q (F0 m (pc + 1) ls rest)) : W p l e Rr s m args below meth c H locs cells slots Q (F0 m pc ls (.int x :: .int i :: .ref a :: rest)) := by
  obtain ⟨h1, rfl⟩ := astZ_in hv
  subst hs
  exact va_zast hB.1 hB.2.1 hB.2.2.2.2.2.2.2.1.1 hW.1 hW.2.1 hW.2.2 q0 1 ha rfl h1 hdg (fun H1 l1 a1 a2 a3 => kk H1 l1 ⟨a1, a2, a3⟩)
theorem q_alen (hB : Bx p s m meth c args cc nL ret own Ts D cI cZ A) (hW : Wl D A s.heap ws H locs) (q0 : Nat) {a n : Nat} {f : Nat → Int32} (ha : ws[q0]? = some (a, .inl (cI, n, .inl f))) {v : Int32} (hv : nI n = v) (hdg : decode cc pc = .ok (.arraylength, 1))
    (kk : W p l e Rr s m args below meth c H locs cells slots Q (F0 m (pc + 1) ls (.int v :: rest))) : W p l e Rr s m args below meth c H locs cells slots Q (F0 m pc ls (.ref a :: rest)) :=
  va_alen hB.1 hB.2.1 hB.2.2.2.2.2.2.2.1.1 hW.1 q0 0 ha rfl hv hdg kk
theorem q_nmI {x y : Int32} (h : some x = some y) (kk : W p l e Rr s m args below meth c H locs cells slots Q (F0 m pc ls (.int y :: rest))) : W p l e Rr s m args below meth c H locs cells slots Q (F0 m pc ls (.int x :: rest)) := by
  cases h; exact kk
theorem q_nmL {x y : Int64} (h : some x = some y) (kk : W p l e Rr s m args below meth c H locs cells slots Q (F0 m pc ls (.long y :: rest))) : W p l e Rr s m args below meth c H locs cells slots Q (F0 m pc ls (.long x :: rest)) := by
  cases h; exact kk
theorem q_idiv (hB : Bx p s m meth c args cc nL ret own Ts D cI cZ A) {x y v : Int32} (hv : dvI x y = some v) (hdg : decode cc pc = .ok (.idiv, 1))
    (kk : W p l e Rr s m args below meth c H locs cells slots Q (F0 m (pc + 1) ls (.int v :: rest))) : W p l e Rr s m args below meth c H locs cells slots Q (F0 m pc ls (.int y :: .int x :: rest)) := by
  obtain ⟨h1, rfl⟩ := dvI_in hv
  exact lv_idiv hB.1 hB.2.1 hdg h1 kk
theorem q_irem (hB : Bx p s m meth c args cc nL ret own Ts D cI cZ A) {x y v : Int32} (hv : rmI x y = some v) (hdg : decode cc pc = .ok (.irem, 1))
    (kk : W p l e Rr s m args below meth c H locs cells slots Q (F0 m (pc + 1) ls (.int v :: rest))) : W p l e Rr s m args below meth c H locs cells slots Q (F0 m pc ls (.int y :: .int x :: rest)) := by
  obtain ⟨h1, rfl⟩ := rmI_in hv
  exact lv_irem hB.1 hB.2.1 hdg h1 kk
theorem q_ldiv (hB : Bx p s m meth c args cc nL ret own Ts D cI cZ A) {x y v : Int64} (hv : dvL x y = some v) (hdg : decode cc pc = .ok (.ldiv, 1))
    (kk : W p l e Rr s m args below meth c H locs cells slots Q (F0 m (pc + 1) ls (.long v :: rest))) : W p l e Rr s m args below meth c H locs cells slots Q (F0 m pc ls (.long y :: .long x :: rest)) := by
  obtain ⟨h1, rfl⟩ := dvL_in hv
  exact lv_ldiv hB.1 hB.2.1 hdg h1 kk
theorem q_lrem (hB : Bx p s m meth c args cc nL ret own Ts D cI cZ A) {x y v : Int64} (hv : rmL x y = some v) (hdg : decode cc pc = .ok (.lrem, 1))
    (kk : W p l e Rr s m args below meth c H locs cells slots Q (F0 m (pc + 1) ls (.long v :: rest))) : W p l e Rr s m args below meth c H locs cells slots Q (F0 m pc ls (.long y :: .long x :: rest)) := by
  obtain ⟨h1, rfl⟩ := rmL_in hv
  exact lv_lrem hB.1 hB.2.1 hdg h1 kk

def CtI (l : Launch) (D : va_G) (cI cZ : ClassId) (y : MethodName) (wy : List Cond) (fr lo : Nat) (av : List Value) (w0 : va_W) {R : Type} (w1 : R → va_W) (rf : R → Int32) (q : R) : Prop := ∀ sz : Nat, Met l y wy (Rm fr lo) (PcX D cI cZ av w0 sz) (QI D w1 rf q (va_A w0 sz)) 0 0 (va_A w0 sz)
def CtZ (l : Launch) (D : va_G) (cI cZ : ClassId) (y : MethodName) (wy : List Cond) (fr lo : Nat) (av : List Value) (w0 : va_W) {R : Type} (w1 : R → va_W) (rf : R → Int32) (q : R) : Prop := ∀ sz : Nat, Met l y wy (Rm fr lo) (PcX D cI cZ av w0 sz) (QZ D w1 rf q (va_A w0 sz)) 0 0 (va_A w0 sz)
def CtL (l : Launch) (D : va_G) (cI cZ : ClassId) (y : MethodName) (wy : List Cond) (fr lo : Nat) (av : List Value) (w0 : va_W) {R : Type} (w1 : R → va_W) (rf : R → Int64) (q : R) : Prop := ∀ sz : Nat, Met l y wy (Rm fr lo) (PcX D cI cZ av w0 sz) (QL D w1 rf q (va_A w0 sz)) 0 0 (va_A w0 sz)
def CtV (l : Launch) (D : va_G) (cI cZ : ClassId) (y : MethodName) (wy : List Cond) (fr lo : Nat) (av : List Value) (w0 : va_W) {R : Type} (w1 : R → va_W) (q : R) : Prop := ∀ sz : Nat, Met l y wy (Rm fr lo) (PcX D cI cZ av w0 sz) (QV D w1 q (va_A w0 sz)) 0 0 (va_A w0 sz)
theorem q_iret {R : Type} {w1 : R → va_W} {rf : R → Int32} {q t : R} {v : Int32} (hB : Bx p s m meth c args cc nL (some .int) own Ts D cI cZ A) (hq : t = q) (hW : Wl D A s.heap (w1 t) H locs) (hv : rf t = v) (hd : decode cc pc = .ok (.ireturn, 1)) : W p l e Rr s m args below meth c H locs 0 0 (MQ below (QI D w1 rf q A) args s 0 0 A) (F0 m pc ls [.int v]) := by
  subst hq
  subst hv
  obtain ⟨hP, hD, hS⟩ := hW
  exact W.iret (v := rf t) hB.1 hB.2.1 hB.2.2.1 (fun u hu hW => ⟨⟨rf t, (), rfl, rfl, by rw [hu]; exact hP, hD⟩, hS.F hu⟩) hS.2.2 hd (hlocks := hB.2.2.2.2.2.2.1)
theorem q_zret {R : Type} {w1 : R → va_W} {rf : R → Int32} {q t : R} {v : Int32} (hB : Bx p s m meth c args cc nL (some .boolean) own Ts D cI cZ A) (hq : t = q) (hW : Wl D A s.heap (w1 t) H locs) (hv : rf t = v) (hz : nz v) (hd : decode cc pc = .ok (.ireturn, 1)) : W p l e Rr s m args below meth c H locs 0 0 (MQ below (QZ D w1 rf q A) args s 0 0 A) (F0 m pc ls [.int v]) := by
  subst hq
  subst hv
  obtain ⟨hP, hD, hS⟩ := hW
  exact W.zret (v := rf t) hB.1 hB.2.1 hB.2.2.1 hz (fun u hu hW => ⟨⟨rf t, (), rfl, ⟨rfl, hz⟩, by rw [hu]; exact hP, hD⟩, hS.F hu⟩) hS.2.2 hd (hlocks := hB.2.2.2.2.2.2.1)
theorem q_lret {R : Type} {w1 : R → va_W} {rf : R → Int64} {q t : R} {v : Int64} (hB : Bx p s m meth c args cc nL (some .long) own Ts D cI cZ A) (hq : t = q) (hW : Wl D A s.heap (w1 t) H locs) (hv : rf t = v) (hd : decode cc pc = .ok (.lreturn, 1)) : W p l e Rr s m args below meth c H locs 0 0 (MQ below (QL D w1 rf q A) args s 0 0 A) (F0 m pc ls [.long v]) := by
  subst hq
  subst hv
  obtain ⟨hP, hD, hS⟩ := hW
  exact W.lret (v := rf t) hB.1 hB.2.1 hB.2.2.1 (fun u hu hW => ⟨⟨rf t, (), rfl, rfl, by rw [hu]; exact hP, hD⟩, hS.F hu⟩) hS.2.2 hd (hlocks := hB.2.2.2.2.2.2.1)
theorem q_vret {R : Type} {w1 : R → va_W} {q t : R} (hB : Bx p s m meth c args cc nL none own Ts D cI cZ A) (hq : t = q) (hW : Wl D A s.heap (w1 t) H locs) (hd : decode cc pc = .ok (.return_, 1)) : W p l e Rr s m args below meth c H locs 0 0 (MQ below (QV D w1 q A) args s 0 0 A) (F0 m pc ls []) := by
  subst hq
  obtain ⟨hP, hD, hS⟩ := hW
  exact W.vret hB.1 hB.2.1 hB.2.2.1 (fun u hu hW => ⟨⟨(), rfl, trivial, by rw [hu]; exact hP, hD⟩, hS.F hu⟩) hS.2.2 hd (hlocks := hB.2.2.2.2.2.2.1)

def EdI (p : Program) (l : Launch) (e : Env) (Rr : Room) (s : State) (m : MethodId) (args : Array Value) (below : List Frame) (meth : Method) (c : Code) (cc : ByteArray) (D : va_G) (A : Nat → Prop) {R : Type} (w1 : R → va_W) (rf : R → Int32) (q : R) (Q : State → Prop) : Prop := ∀ (H : Heap) (locs : List Loc) (pc : Nat) (ls : Array Slot) (v : Int32) (t : R), t = q → Wl D A s.heap (w1 t) H locs → rf t = v → decode cc pc = .ok (.ireturn, 1) → W p l e Rr s m args below meth c H locs 0 0 Q (F0 m pc ls [.int v])
theorem CtI.of {y : MethodName} {wy wt : List Cond} {fr lo : Nat} {av : List Value} {w0 : va_W} {R : Type} {w1 : R → va_W} {rf : R → Int32} {q : R} {maxL : Nat} (hy : plainFor y = true) (hw : wy = Cond.code y cc maxL (some .int) :: wt) (hn : (lg_sl av).length ≤ maxL)
    (body : ∀ (p : Program) (e : Env) (s : State) (m : MethodId) (args : Array Value) (below : List Frame) (meth : Method) (c : Code) (A : Nat → Prop) (Q : State → Prop) (H : Heap) (ls : Array Slot), Bx p s m meth c args cc maxL (some .int) y.cls wy D cI cZ A → EdI p l e (Rm fr lo) s m args below meth c cc D A w1 rf q Q → Wl D A s.heap w0 H [] → lv_has ls maxL (lv_args 0 av) → W p l e (Rm fr lo) s m args below meth c H [] 0 0 Q (F0 m 0 ls [])) : CtI l D cI cZ y wy fr lo av w0 w1 rf q := by
  intro sz
  refine Met_ofWF (cc := cc) (maxL := maxL) (ret := some .int) hy hw ?_
  intro p e s m args below meth c s₁ B hml hv
  obtain ⟨rfl, hsz, hP, hK, hD0⟩ := hv
  subst hsz
  have hD := hD0.self (sz := s.heap.size)
  have hl := lv_entry av (n := maxL) hn
  rw [lg_entry_eq]
  have hBx : Bx p s m meth c av.toArray cc maxL (some .int) y.cls wy D cI cZ (va_A w0 s.heap.size) := ⟨B.exec, B.bytes, B.returns, hml, findClass_of_methodNamed B.named, atoms_spec (ws := wy) B.pre, B.notSynchronized, hK, fun q h => Or.inr h⟩
  exact body p e s m av.toArray below meth c _ _ s.heap _ hBx (fun H locs pc ls v t h1 h2 h3 h4 => q_iret hBx h1 h2 h3 h4) ⟨hP, hD, va_S.rf⟩ hl
def EdZ (p : Program) (l : Launch) (e : Env) (Rr : Room) (s : State) (m : MethodId) (args : Array Value) (below : List Frame) (meth : Method) (c : Code) (cc : ByteArray) (D : va_G) (A : Nat → Prop) {R : Type} (w1 : R → va_W) (rf : R → Int32) (q : R) (Q : State → Prop) : Prop := ∀ (H : Heap) (locs : List Loc) (pc : Nat) (ls : Array Slot) (v : Int32) (t : R), t = q → Wl D A s.heap (w1 t) H locs → rf t = v → nz v → decode cc pc = .ok (.ireturn, 1) → W p l e Rr s m args below meth c H locs 0 0 Q (F0 m pc ls [.int v])
theorem CtZ.of {y : MethodName} {wy wt : List Cond} {fr lo : Nat} {av : List Value} {w0 : va_W} {R : Type} {w1 : R → va_W} {rf : R → Int32} {q : R} {maxL : Nat} (hy : plainFor y = true) (hw : wy = Cond.code y cc maxL (some .boolean) :: wt) (hn : (lg_sl av).length ≤ maxL)
    (body : ∀ (p : Program) (e : Env) (s : State) (m : MethodId) (args : Array Value) (below : List Frame) (meth : Method) (c : Code) (A : Nat → Prop) (Q : State → Prop) (H : Heap) (ls : Array Slot), Bx p s m meth c args cc maxL (some .boolean) y.cls wy D cI cZ A → EdZ p l e (Rm fr lo) s m args below meth c cc D A w1 rf q Q → Wl D A s.heap w0 H [] → lv_has ls maxL (lv_args 0 av) → W p l e (Rm fr lo) s m args below meth c H [] 0 0 Q (F0 m 0 ls [])) : CtZ l D cI cZ y wy fr lo av w0 w1 rf q := by
  intro sz
  refine Met_ofWF (cc := cc) (maxL := maxL) (ret := some .boolean) hy hw ?_
  intro p e s m args below meth c s₁ B hml hv
  obtain ⟨rfl, hsz, hP, hK, hD0⟩ := hv
  subst hsz
  have hD := hD0.self (sz := s.heap.size)
  have hl := lv_entry av (n := maxL) hn
  rw [lg_entry_eq]
  have hBx : Bx p s m meth c av.toArray cc maxL (some .boolean) y.cls wy D cI cZ (va_A w0 s.heap.size) := ⟨B.exec, B.bytes, B.returns, hml, findClass_of_methodNamed B.named, atoms_spec (ws := wy) B.pre, B.notSynchronized, hK, fun q h => Or.inr h⟩
  exact body p e s m av.toArray below meth c _ _ s.heap _ hBx (fun H locs pc ls v t h1 h2 h3 h5 h4 => q_zret hBx h1 h2 h3 h5 h4) ⟨hP, hD, va_S.rf⟩ hl
def EdL (p : Program) (l : Launch) (e : Env) (Rr : Room) (s : State) (m : MethodId) (args : Array Value) (below : List Frame) (meth : Method) (c : Code) (cc : ByteArray) (D : va_G) (A : Nat → Prop) {R : Type} (w1 : R → va_W) (rf : R → Int64) (q : R) (Q : State → Prop) : Prop := ∀ (H : Heap) (locs : List Loc) (pc : Nat) (ls : Array Slot) (v : Int64) (t : R), t = q → Wl D A s.heap (w1 t) H locs → rf t = v → decode cc pc = .ok (.lreturn, 1) → W p l e Rr s m args below meth c H locs 0 0 Q (F0 m pc ls [.long v])
theorem CtL.of {y : MethodName} {wy wt : List Cond} {fr lo : Nat} {av : List Value} {w0 : va_W} {R : Type} {w1 : R → va_W} {rf : R → Int64} {q : R} {maxL : Nat} (hy : plainFor y = true) (hw : wy = Cond.code y cc maxL (some .long) :: wt) (hn : (lg_sl av).length ≤ maxL)
    (body : ∀ (p : Program) (e : Env) (s : State) (m : MethodId) (args : Array Value) (below : List Frame) (meth : Method) (c : Code) (A : Nat → Prop) (Q : State → Prop) (H : Heap) (ls : Array Slot), Bx p s m meth c args cc maxL (some .long) y.cls wy D cI cZ A → EdL p l e (Rm fr lo) s m args below meth c cc D A w1 rf q Q → Wl D A s.heap w0 H [] → lv_has ls maxL (lv_args 0 av) → W p l e (Rm fr lo) s m args below meth c H [] 0 0 Q (F0 m 0 ls [])) : CtL l D cI cZ y wy fr lo av w0 w1 rf q := by
  intro sz
  refine Met_ofWF (cc := cc) (maxL := maxL) (ret := some .long) hy hw ?_
  intro p e s m args below meth c s₁ B hml hv
  obtain ⟨rfl, hsz, hP, hK, hD0⟩ := hv
  subst hsz
  have hD := hD0.self (sz := s.heap.size)
  have hl := lv_entry av (n := maxL) hn
  rw [lg_entry_eq]
  have hBx : Bx p s m meth c av.toArray cc maxL (some .long) y.cls wy D cI cZ (va_A w0 s.heap.size) := ⟨B.exec, B.bytes, B.returns, hml, findClass_of_methodNamed B.named, atoms_spec (ws := wy) B.pre, B.notSynchronized, hK, fun q h => Or.inr h⟩
  exact body p e s m av.toArray below meth c _ _ s.heap _ hBx (fun H locs pc ls v t h1 h2 h3 h4 => q_lret hBx h1 h2 h3 h4) ⟨hP, hD, va_S.rf⟩ hl
def EdV (p : Program) (l : Launch) (e : Env) (Rr : Room) (s : State) (m : MethodId) (args : Array Value) (below : List Frame) (meth : Method) (c : Code) (cc : ByteArray) (D : va_G) (A : Nat → Prop) {R : Type} (w1 : R → va_W) (q : R) (Q : State → Prop) : Prop := ∀ (H : Heap) (locs : List Loc) (pc : Nat) (ls : Array Slot) (t : R), t = q → Wl D A s.heap (w1 t) H locs → decode cc pc = .ok (.return_, 1) → W p l e Rr s m args below meth c H locs 0 0 Q (F0 m pc ls [])
theorem CtV.of {y : MethodName} {wy wt : List Cond} {fr lo : Nat} {av : List Value} {w0 : va_W} {R : Type} {w1 : R → va_W} {q : R} {maxL : Nat} (hy : plainFor y = true) (hw : wy = Cond.code y cc maxL (none) :: wt) (hn : (lg_sl av).length ≤ maxL)
    (body : ∀ (p : Program) (e : Env) (s : State) (m : MethodId) (args : Array Value) (below : List Frame) (meth : Method) (c : Code) (A : Nat → Prop) (Q : State → Prop) (H : Heap) (ls : Array Slot), Bx p s m meth c args cc maxL (none) y.cls wy D cI cZ A → EdV p l e (Rm fr lo) s m args below meth c cc D A w1 q Q → Wl D A s.heap w0 H [] → lv_has ls maxL (lv_args 0 av) → W p l e (Rm fr lo) s m args below meth c H [] 0 0 Q (F0 m 0 ls [])) : CtV l D cI cZ y wy fr lo av w0 w1 q := by
  intro sz
  refine Met_ofWF (cc := cc) (maxL := maxL) (ret := none) hy hw ?_
  intro p e s m args below meth c s₁ B hml hv
  obtain ⟨rfl, hsz, hP, hK, hD0⟩ := hv
  subst hsz
  have hD := hD0.self (sz := s.heap.size)
  have hl := lv_entry av (n := maxL) hn
  rw [lg_entry_eq]
  have hBx : Bx p s m meth c av.toArray cc maxL (none) y.cls wy D cI cZ (va_A w0 s.heap.size) := ⟨B.exec, B.bytes, B.returns, hml, findClass_of_methodNamed B.named, atoms_spec (ws := wy) B.pre, B.notSynchronized, hK, fun q h => Or.inr h⟩
  exact body p e s m av.toArray below meth c _ _ s.heap _ hBx (fun H locs pc ls t h1 h2 h4 => q_vret hBx h1 h2 h4) ⟨hP, hD, va_S.rf⟩ hl
theorem q_callVI (hB : Bx p s m meth c args cc nL ret own Ts D cI cZ A) (hW : Wl D A s.heap ws H locs) {y : MethodName} {wy : List Cond} {fr lo index maxL n : Nat} {bytes : ByteArray} {rt : Option FieldType} {As : List Value} {wc : va_W} {R : Type} {w1 : R → va_W} {rf : R → Int32} {q : R} {C : String} {b ci q0 : Nat} {fs : List Value} {qq : vw_C} (hcl : vwCl[ci]? = some qq) (hrc : wc[q0]? = some (b, .inr (ci, fs))) (hqq : qq.1 = C) (hM : CtI l D cI cZ y wy fr lo (.ref b :: As) wc w1 rf q) (cw : CallW Rr s args own C index y bytes maxL rt wy (Rm fr lo) 0 0 n) (isC : List Nat) (hC : isC.map (fun i => ws[i]?) = wc.map some) (hnC : va_nd isC = true) (hA1 : (w1 q).map Prod.fst = wc.map Prod.fst) (hs : lay ws isC (w1 q) = ws') (hn : As.length = n) (hls : ls.size = nL) (hst : st = As.reverse ++ .ref b :: rest) (hroom : (rest.map fun v => v.category).sum ≤ 8) (hcr : cells + 0 ≤ Rr.cells ∧ slots + 0 ≤ Rr.slots) (hd : decode cc pc = .ok (.invokevirtual index, 3))
    (kk : ∀ (H : Heap) (locs : List Loc), Wl D A s.heap ws' H locs → W p l e Rr s m args below meth c H locs cells slots Q (F0 m (pc + 3) ls (.int (rf q) :: rest))) : W p l e Rr s m args below meth c H locs cells slots Q (F0 m pc ls st) := by
  subst hs
  obtain ⟨hP, hD, hS⟩ := hW
  have hPc := hP.sub isC (fm_of hC)
  have hDc := hD.sub isC hnC hC
  have hFc := va_free (wc := wc) hD hS hB.2.2.2.2.2.2.2.2 isC hC
  refine va_calli (va_runV (As := As) (rest := rest) ⟨hB.1, hB.2.1, hB.2.2.2.1, hB.2.2.2.2.1, hB.2.2.2.2.2.1⟩ (hM H.size) cw ⟨PcX.blind, (by rw [← hqq]; exact va_recv hB.2.2.2.2.2.2.2.1.1 hPc hcl hrc), fun U hU hW => ⟨rfl, by rw [hU], by rw [hU]; exact hPc, KX.warm hW hB.2.2.2.2.2.2.2.1, hDc.weaken (fun _ _ _ _ => trivial)⟩⟩ rfl hn hls hst (lv_room hroom) hd hcr) hS (fun q _ h => hFc q h) hFc (fun r_1 u_1 t_1 H1 locs1 ht hvm hw hB1 hz hk hS1 => ?_)
  obtain ⟨hP1, hD1⟩ := hB1
  rw [ht] at hP1
  rw [hw]
  exact kk H1 locs1 ⟨lay_P hP hD hC hk hP1 (by have := congrArg List.length hA1; simpa using this), lay_D hD hC hA1, hS1⟩
theorem q_callVZ (hB : Bx p s m meth c args cc nL ret own Ts D cI cZ A) (hW : Wl D A s.heap ws H locs) {y : MethodName} {wy : List Cond} {fr lo index maxL n : Nat} {bytes : ByteArray} {rt : Option FieldType} {As : List Value} {wc : va_W} {R : Type} {w1 : R → va_W} {rf : R → Int32} {q : R} {C : String} {b ci q0 : Nat} {fs : List Value} {qq : vw_C} (hcl : vwCl[ci]? = some qq) (hrc : wc[q0]? = some (b, .inr (ci, fs))) (hqq : qq.1 = C) (hM : CtZ l D cI cZ y wy fr lo (.ref b :: As) wc w1 rf q) (cw : CallW Rr s args own C index y bytes maxL rt wy (Rm fr lo) 0 0 n) (isC : List Nat) (hC : isC.map (fun i => ws[i]?) = wc.map some) (hnC : va_nd isC = true) (hA1 : (w1 q).map Prod.fst = wc.map Prod.fst) (hs : lay ws isC (w1 q) = ws') (hn : As.length = n) (hls : ls.size = nL) (hst : st = As.reverse ++ .ref b :: rest) (hroom : (rest.map fun v => v.category).sum ≤ 8) (hcr : cells + 0 ≤ Rr.cells ∧ slots + 0 ≤ Rr.slots) (hd : decode cc pc = .ok (.invokevirtual index, 3))
    (kk : nz (rf q) → ∀ (H : Heap) (locs : List Loc), Wl D A s.heap ws' H locs → W p l e Rr s m args below meth c H locs cells slots Q (F0 m (pc + 3) ls (.int (rf q) :: rest))) : W p l e Rr s m args below meth c H locs cells slots Q (F0 m pc ls st) := by
  subst hs
  obtain ⟨hP, hD, hS⟩ := hW
  have hPc := hP.sub isC (fm_of hC)
  have hDc := hD.sub isC hnC hC
  have hFc := va_free (wc := wc) hD hS hB.2.2.2.2.2.2.2.2 isC hC
  refine va_calli (va_runV (As := As) (rest := rest) ⟨hB.1, hB.2.1, hB.2.2.2.1, hB.2.2.2.2.1, hB.2.2.2.2.2.1⟩ (hM H.size) cw ⟨PcX.blind, (by rw [← hqq]; exact va_recv hB.2.2.2.2.2.2.2.1.1 hPc hcl hrc), fun U hU hW => ⟨rfl, by rw [hU], by rw [hU]; exact hPc, KX.warm hW hB.2.2.2.2.2.2.2.1, hDc.weaken (fun _ _ _ _ => trivial)⟩⟩ rfl hn hls hst (lv_room hroom) hd hcr) hS (fun q _ h => hFc q h) hFc (fun r_1 u_1 t_1 H1 locs1 ht hvm hw hB1 hz hk hS1 => ?_)
  obtain ⟨hP1, hD1⟩ := hB1
  rw [ht] at hP1
  rw [hw.1]
  exact kk hw.2 H1 locs1 ⟨lay_P hP hD hC hk hP1 (by have := congrArg List.length hA1; simpa using this), lay_D hD hC hA1, hS1⟩
theorem q_callVL (hB : Bx p s m meth c args cc nL ret own Ts D cI cZ A) (hW : Wl D A s.heap ws H locs) {y : MethodName} {wy : List Cond} {fr lo index maxL n : Nat} {bytes : ByteArray} {rt : Option FieldType} {As : List Value} {wc : va_W} {R : Type} {w1 : R → va_W} {rf : R → Int64} {q : R} {C : String} {b ci q0 : Nat} {fs : List Value} {qq : vw_C} (hcl : vwCl[ci]? = some qq) (hrc : wc[q0]? = some (b, .inr (ci, fs))) (hqq : qq.1 = C) (hM : CtL l D cI cZ y wy fr lo (.ref b :: As) wc w1 rf q) (cw : CallW Rr s args own C index y bytes maxL rt wy (Rm fr lo) 0 0 n) (isC : List Nat) (hC : isC.map (fun i => ws[i]?) = wc.map some) (hnC : va_nd isC = true) (hA1 : (w1 q).map Prod.fst = wc.map Prod.fst) (hs : lay ws isC (w1 q) = ws') (hn : As.length = n) (hls : ls.size = nL) (hst : st = As.reverse ++ .ref b :: rest) (hroom : (rest.map fun v => v.category).sum ≤ 8) (hcr : cells + 0 ≤ Rr.cells ∧ slots + 0 ≤ Rr.slots) (hd : decode cc pc = .ok (.invokevirtual index, 3))
    (kk : ∀ (H : Heap) (locs : List Loc), Wl D A s.heap ws' H locs → W p l e Rr s m args below meth c H locs cells slots Q (F0 m (pc + 3) ls (.long (rf q) :: rest))) : W p l e Rr s m args below meth c H locs cells slots Q (F0 m pc ls st) := by
  subst hs
  obtain ⟨hP, hD, hS⟩ := hW
  have hPc := hP.sub isC (fm_of hC)
  have hDc := hD.sub isC hnC hC
  have hFc := va_free (wc := wc) hD hS hB.2.2.2.2.2.2.2.2 isC hC
  refine va_calll (va_runV (As := As) (rest := rest) ⟨hB.1, hB.2.1, hB.2.2.2.1, hB.2.2.2.2.1, hB.2.2.2.2.2.1⟩ (hM H.size) cw ⟨PcX.blind, (by rw [← hqq]; exact va_recv hB.2.2.2.2.2.2.2.1.1 hPc hcl hrc), fun U hU hW => ⟨rfl, by rw [hU], by rw [hU]; exact hPc, KX.warm hW hB.2.2.2.2.2.2.2.1, hDc.weaken (fun _ _ _ _ => trivial)⟩⟩ rfl hn hls hst (lv_room hroom) hd hcr) hS (fun q _ h => hFc q h) hFc (fun r_1 u_1 t_1 H1 locs1 ht hvm hw hB1 hz hk hS1 => ?_)
  obtain ⟨hP1, hD1⟩ := hB1
  rw [ht] at hP1
  rw [hw]
  exact kk H1 locs1 ⟨lay_P hP hD hC hk hP1 (by have := congrArg List.length hA1; simpa using this), lay_D hD hC hA1, hS1⟩
theorem q_callVV (hB : Bx p s m meth c args cc nL ret own Ts D cI cZ A) (hW : Wl D A s.heap ws H locs) {y : MethodName} {wy : List Cond} {fr lo index maxL n : Nat} {bytes : ByteArray} {rt : Option FieldType} {As : List Value} {wc : va_W} {R : Type} {w1 : R → va_W} {q : R} {C : String} {b ci q0 : Nat} {fs : List Value} {qq : vw_C} (hcl : vwCl[ci]? = some qq) (hrc : wc[q0]? = some (b, .inr (ci, fs))) (hqq : qq.1 = C) (hM : CtV l D cI cZ y wy fr lo (.ref b :: As) wc w1 q) (cw : CallW Rr s args own C index y bytes maxL rt wy (Rm fr lo) 0 0 n) (isC : List Nat) (hC : isC.map (fun i => ws[i]?) = wc.map some) (hnC : va_nd isC = true) (hA1 : (w1 q).map Prod.fst = wc.map Prod.fst) (hs : lay ws isC (w1 q) = ws') (hn : As.length = n) (hls : ls.size = nL) (hst : st = As.reverse ++ .ref b :: rest) (hroom : (rest.map fun v => v.category).sum ≤ 8) (hcr : cells + 0 ≤ Rr.cells ∧ slots + 0 ≤ Rr.slots) (hd : decode cc pc = .ok (.invokevirtual index, 3))
    (kk : ∀ (H : Heap) (locs : List Loc), Wl D A s.heap ws' H locs → W p l e Rr s m args below meth c H locs cells slots Q (F0 m (pc + 3) ls (rest))) : W p l e Rr s m args below meth c H locs cells slots Q (F0 m pc ls st) := by
  subst hs
  obtain ⟨hP, hD, hS⟩ := hW
  have hPc := hP.sub isC (fm_of hC)
  have hDc := hD.sub isC hnC hC
  have hFc := va_free (wc := wc) hD hS hB.2.2.2.2.2.2.2.2 isC hC
  refine va_callv (va_runV (As := As) (rest := rest) ⟨hB.1, hB.2.1, hB.2.2.2.1, hB.2.2.2.2.1, hB.2.2.2.2.2.1⟩ (hM H.size) cw ⟨PcX.blind, (by rw [← hqq]; exact va_recv hB.2.2.2.2.2.2.2.1.1 hPc hcl hrc), fun U hU hW => ⟨rfl, by rw [hU], by rw [hU]; exact hPc, KX.warm hW hB.2.2.2.2.2.2.2.1, hDc.weaken (fun _ _ _ _ => trivial)⟩⟩ rfl hn hls hst (lv_room hroom) hd hcr) hS (fun q _ h => hFc q h) hFc (fun u_1 t_1 H1 locs1 ht hvm hw hB1 hz hk hS1 => ?_)
  obtain ⟨hP1, hD1⟩ := hB1
  rw [ht] at hP1
  skip
  exact kk H1 locs1 ⟨lay_P hP hD hC hk hP1 (by have := congrArg List.length hA1; simpa using this), lay_D hD hC hA1, hS1⟩
theorem q_callSI (hB : Bx p s m meth c args cc nL ret own Ts D cI cZ A) (hW : Wl D A s.heap ws H locs) {y : MethodName} {wy : List Cond} {fr lo index maxL n : Nat} {bytes : ByteArray} {rt : Option FieldType} {As : List Value} {wc : va_W} {R : Type} {w1 : R → va_W} {rf : R → Int32} {q : R} (hM : CtI l D cI cZ y wy fr lo (As) wc w1 rf q) (cw : CallB Rr s args own index y bytes maxL rt wy (Rm fr lo) 0 0 n ∧ (Cond.static y).before args s = true) (isC : List Nat) (hC : isC.map (fun i => ws[i]?) = wc.map some) (hnC : va_nd isC = true) (hA1 : (w1 q).map Prod.fst = wc.map Prod.fst) (hs : lay ws isC (w1 q) = ws') (hn : As.length = n) (hls : ls.size = nL) (hst : st = As.reverse ++ rest) (hroom : (rest.map fun v => v.category).sum ≤ 8) (hcr : cells + 0 ≤ Rr.cells ∧ slots + 0 ≤ Rr.slots) (hd : decode cc pc = .ok (.invokestatic index, 3))
    (kk : ∀ (H : Heap) (locs : List Loc), Wl D A s.heap ws' H locs → W p l e Rr s m args below meth c H locs cells slots Q (F0 m (pc + 3) ls (.int (rf q) :: rest))) : W p l e Rr s m args below meth c H locs cells slots Q (F0 m pc ls st) := by
  subst hs
  obtain ⟨hP, hD, hS⟩ := hW
  have hPc := hP.sub isC (fm_of hC)
  have hDc := hD.sub isC hnC hC
  have hFc := va_free (wc := wc) hD hS hB.2.2.2.2.2.2.2.2 isC hC
  refine va_calli (va_runS (As := As) (rest := rest) ⟨hB.1, hB.2.1, hB.2.2.2.1, hB.2.2.2.2.1, hB.2.2.2.2.2.1⟩ (hM H.size) cw ⟨PcX.blind, fun U hU hW => ⟨rfl, by rw [hU], by rw [hU]; exact hPc, KX.warm hW hB.2.2.2.2.2.2.2.1, hDc.weaken (fun _ _ _ _ => trivial)⟩⟩ rfl hn hls hst (lv_room hroom) hd hcr) hS (fun q _ h => hFc q h) hFc (fun r_1 u_1 t_1 H1 locs1 ht hvm hw hB1 hz hk hS1 => ?_)
  obtain ⟨hP1, hD1⟩ := hB1
  rw [ht] at hP1
  rw [hw]
  exact kk H1 locs1 ⟨lay_P hP hD hC hk hP1 (by have := congrArg List.length hA1; simpa using this), lay_D hD hC hA1, hS1⟩
theorem q_callSZ (hB : Bx p s m meth c args cc nL ret own Ts D cI cZ A) (hW : Wl D A s.heap ws H locs) {y : MethodName} {wy : List Cond} {fr lo index maxL n : Nat} {bytes : ByteArray} {rt : Option FieldType} {As : List Value} {wc : va_W} {R : Type} {w1 : R → va_W} {rf : R → Int32} {q : R} (hM : CtZ l D cI cZ y wy fr lo (As) wc w1 rf q) (cw : CallB Rr s args own index y bytes maxL rt wy (Rm fr lo) 0 0 n ∧ (Cond.static y).before args s = true) (isC : List Nat) (hC : isC.map (fun i => ws[i]?) = wc.map some) (hnC : va_nd isC = true) (hA1 : (w1 q).map Prod.fst = wc.map Prod.fst) (hs : lay ws isC (w1 q) = ws') (hn : As.length = n) (hls : ls.size = nL) (hst : st = As.reverse ++ rest) (hroom : (rest.map fun v => v.category).sum ≤ 8) (hcr : cells + 0 ≤ Rr.cells ∧ slots + 0 ≤ Rr.slots) (hd : decode cc pc = .ok (.invokestatic index, 3))
    (kk : nz (rf q) → ∀ (H : Heap) (locs : List Loc), Wl D A s.heap ws' H locs → W p l e Rr s m args below meth c H locs cells slots Q (F0 m (pc + 3) ls (.int (rf q) :: rest))) : W p l e Rr s m args below meth c H locs cells slots Q (F0 m pc ls st) := by
  subst hs
  obtain ⟨hP, hD, hS⟩ := hW
  have hPc := hP.sub isC (fm_of hC)
  have hDc := hD.sub isC hnC hC
  have hFc := va_free (wc := wc) hD hS hB.2.2.2.2.2.2.2.2 isC hC
  refine va_calli (va_runS (As := As) (rest := rest) ⟨hB.1, hB.2.1, hB.2.2.2.1, hB.2.2.2.2.1, hB.2.2.2.2.2.1⟩ (hM H.size) cw ⟨PcX.blind, fun U hU hW => ⟨rfl, by rw [hU], by rw [hU]; exact hPc, KX.warm hW hB.2.2.2.2.2.2.2.1, hDc.weaken (fun _ _ _ _ => trivial)⟩⟩ rfl hn hls hst (lv_room hroom) hd hcr) hS (fun q _ h => hFc q h) hFc (fun r_1 u_1 t_1 H1 locs1 ht hvm hw hB1 hz hk hS1 => ?_)
  obtain ⟨hP1, hD1⟩ := hB1
  rw [ht] at hP1
  rw [hw.1]
  exact kk hw.2 H1 locs1 ⟨lay_P hP hD hC hk hP1 (by have := congrArg List.length hA1; simpa using this), lay_D hD hC hA1, hS1⟩
theorem q_callSL (hB : Bx p s m meth c args cc nL ret own Ts D cI cZ A) (hW : Wl D A s.heap ws H locs) {y : MethodName} {wy : List Cond} {fr lo index maxL n : Nat} {bytes : ByteArray} {rt : Option FieldType} {As : List Value} {wc : va_W} {R : Type} {w1 : R → va_W} {rf : R → Int64} {q : R} (hM : CtL l D cI cZ y wy fr lo (As) wc w1 rf q) (cw : CallB Rr s args own index y bytes maxL rt wy (Rm fr lo) 0 0 n ∧ (Cond.static y).before args s = true) (isC : List Nat) (hC : isC.map (fun i => ws[i]?) = wc.map some) (hnC : va_nd isC = true) (hA1 : (w1 q).map Prod.fst = wc.map Prod.fst) (hs : lay ws isC (w1 q) = ws') (hn : As.length = n) (hls : ls.size = nL) (hst : st = As.reverse ++ rest) (hroom : (rest.map fun v => v.category).sum ≤ 8) (hcr : cells + 0 ≤ Rr.cells ∧ slots + 0 ≤ Rr.slots) (hd : decode cc pc = .ok (.invokestatic index, 3))
    (kk : ∀ (H : Heap) (locs : List Loc), Wl D A s.heap ws' H locs → W p l e Rr s m args below meth c H locs cells slots Q (F0 m (pc + 3) ls (.long (rf q) :: rest))) : W p l e Rr s m args below meth c H locs cells slots Q (F0 m pc ls st) := by
  subst hs
  obtain ⟨hP, hD, hS⟩ := hW
  have hPc := hP.sub isC (fm_of hC)
  have hDc := hD.sub isC hnC hC
  have hFc := va_free (wc := wc) hD hS hB.2.2.2.2.2.2.2.2 isC hC
  refine va_calll (va_runS (As := As) (rest := rest) ⟨hB.1, hB.2.1, hB.2.2.2.1, hB.2.2.2.2.1, hB.2.2.2.2.2.1⟩ (hM H.size) cw ⟨PcX.blind, fun U hU hW => ⟨rfl, by rw [hU], by rw [hU]; exact hPc, KX.warm hW hB.2.2.2.2.2.2.2.1, hDc.weaken (fun _ _ _ _ => trivial)⟩⟩ rfl hn hls hst (lv_room hroom) hd hcr) hS (fun q _ h => hFc q h) hFc (fun r_1 u_1 t_1 H1 locs1 ht hvm hw hB1 hz hk hS1 => ?_)
  obtain ⟨hP1, hD1⟩ := hB1
  rw [ht] at hP1
  rw [hw]
  exact kk H1 locs1 ⟨lay_P hP hD hC hk hP1 (by have := congrArg List.length hA1; simpa using this), lay_D hD hC hA1, hS1⟩
theorem q_callSV (hB : Bx p s m meth c args cc nL ret own Ts D cI cZ A) (hW : Wl D A s.heap ws H locs) {y : MethodName} {wy : List Cond} {fr lo index maxL n : Nat} {bytes : ByteArray} {rt : Option FieldType} {As : List Value} {wc : va_W} {R : Type} {w1 : R → va_W} {q : R} (hM : CtV l D cI cZ y wy fr lo (As) wc w1 q) (cw : CallB Rr s args own index y bytes maxL rt wy (Rm fr lo) 0 0 n ∧ (Cond.static y).before args s = true) (isC : List Nat) (hC : isC.map (fun i => ws[i]?) = wc.map some) (hnC : va_nd isC = true) (hA1 : (w1 q).map Prod.fst = wc.map Prod.fst) (hs : lay ws isC (w1 q) = ws') (hn : As.length = n) (hls : ls.size = nL) (hst : st = As.reverse ++ rest) (hroom : (rest.map fun v => v.category).sum ≤ 8) (hcr : cells + 0 ≤ Rr.cells ∧ slots + 0 ≤ Rr.slots) (hd : decode cc pc = .ok (.invokestatic index, 3))
    (kk : ∀ (H : Heap) (locs : List Loc), Wl D A s.heap ws' H locs → W p l e Rr s m args below meth c H locs cells slots Q (F0 m (pc + 3) ls (rest))) : W p l e Rr s m args below meth c H locs cells slots Q (F0 m pc ls st) := by
  subst hs
  obtain ⟨hP, hD, hS⟩ := hW
  have hPc := hP.sub isC (fm_of hC)
  have hDc := hD.sub isC hnC hC
  have hFc := va_free (wc := wc) hD hS hB.2.2.2.2.2.2.2.2 isC hC
  refine va_callv (va_runS (As := As) (rest := rest) ⟨hB.1, hB.2.1, hB.2.2.2.1, hB.2.2.2.2.1, hB.2.2.2.2.2.1⟩ (hM H.size) cw ⟨PcX.blind, fun U hU hW => ⟨rfl, by rw [hU], by rw [hU]; exact hPc, KX.warm hW hB.2.2.2.2.2.2.2.1, hDc.weaken (fun _ _ _ _ => trivial)⟩⟩ rfl hn hls hst (lv_room hroom) hd hcr) hS (fun q _ h => hFc q h) hFc (fun u_1 t_1 H1 locs1 ht hvm hw hB1 hz hk hS1 => ?_)
  obtain ⟨hP1, hD1⟩ := hB1
  rw [ht] at hP1
  skip
  exact kk H1 locs1 ⟨lay_P hP hD hC hk hP1 (by have := congrArg List.length hA1; simpa using this), lay_D hD hC hA1, hS1⟩
theorem q_callNI (hB : Bx p s m meth c args cc nL ret own Ts D cI cZ A) (hW : Wl D A s.heap ws H locs) {y : MethodName} {wy : List Cond} {fr lo index maxL n : Nat} {bytes : ByteArray} {rt : Option FieldType} {As : List Value} {wc : va_W} {R : Type} {w1 : R → va_W} {rf : R → Int32} {q : R} {host : String} (hM : CtI l D cI cZ y wy fr lo (As) wc w1 rf q) (cw : va_CN Rr s args own index y host bytes maxL rt wy (Rm fr lo) 0 0 n ∧ (Cond.static y).before args s = true ∧ True) (isC : List Nat) (hC : isC.map (fun i => ws[i]?) = wc.map some) (hnC : va_nd isC = true) (hA1 : (w1 q).map Prod.fst = wc.map Prod.fst) (hs : lay ws isC (w1 q) = ws') (hn : As.length = n) (hls : ls.size = nL) (hst : st = As.reverse ++ rest) (hroom : (rest.map fun v => v.category).sum ≤ 8) (hcr : cells + 0 ≤ Rr.cells ∧ slots + 0 ≤ Rr.slots) (hd : decode cc pc = .ok (.invokestatic index, 3))
    (kk : ∀ (H : Heap) (locs : List Loc), Wl D A s.heap ws' H locs → W p l e Rr s m args below meth c H locs cells slots Q (F0 m (pc + 3) ls (.int (rf q) :: rest))) : W p l e Rr s m args below meth c H locs cells slots Q (F0 m pc ls st) := by
  subst hs
  obtain ⟨hP, hD, hS⟩ := hW
  have hPc := hP.sub isC (fm_of hC)
  have hDc := hD.sub isC hnC hC
  have hFc := va_free (wc := wc) hD hS hB.2.2.2.2.2.2.2.2 isC hC
  refine va_calli (va_runSN (As := As) (rest := rest) ⟨hB.1, hB.2.1, hB.2.2.2.1, hB.2.2.2.2.1, hB.2.2.2.2.2.1⟩ (hM H.size) cw ⟨PcX.blind, fun U hU hW => ⟨rfl, by rw [hU], by rw [hU]; exact hPc, KX.warm hW hB.2.2.2.2.2.2.2.1, hDc.weaken (fun _ _ _ _ => trivial)⟩⟩ rfl hn hls hst (lv_room hroom) hd hcr) hS (fun q _ h => hFc q h) hFc (fun r_1 u_1 t_1 H1 locs1 ht hvm hw hB1 hz hk hS1 => ?_)
  obtain ⟨hP1, hD1⟩ := hB1
  rw [ht] at hP1
  rw [hw]
  exact kk H1 locs1 ⟨lay_P hP hD hC hk hP1 (by have := congrArg List.length hA1; simpa using this), lay_D hD hC hA1, hS1⟩
theorem q_callNZ (hB : Bx p s m meth c args cc nL ret own Ts D cI cZ A) (hW : Wl D A s.heap ws H locs) {y : MethodName} {wy : List Cond} {fr lo index maxL n : Nat} {bytes : ByteArray} {rt : Option FieldType} {As : List Value} {wc : va_W} {R : Type} {w1 : R → va_W} {rf : R → Int32} {q : R} {host : String} (hM : CtZ l D cI cZ y wy fr lo (As) wc w1 rf q) (cw : va_CN Rr s args own index y host bytes maxL rt wy (Rm fr lo) 0 0 n ∧ (Cond.static y).before args s = true ∧ True) (isC : List Nat) (hC : isC.map (fun i => ws[i]?) = wc.map some) (hnC : va_nd isC = true) (hA1 : (w1 q).map Prod.fst = wc.map Prod.fst) (hs : lay ws isC (w1 q) = ws') (hn : As.length = n) (hls : ls.size = nL) (hst : st = As.reverse ++ rest) (hroom : (rest.map fun v => v.category).sum ≤ 8) (hcr : cells + 0 ≤ Rr.cells ∧ slots + 0 ≤ Rr.slots) (hd : decode cc pc = .ok (.invokestatic index, 3))
    (kk : nz (rf q) → ∀ (H : Heap) (locs : List Loc), Wl D A s.heap ws' H locs → W p l e Rr s m args below meth c H locs cells slots Q (F0 m (pc + 3) ls (.int (rf q) :: rest))) : W p l e Rr s m args below meth c H locs cells slots Q (F0 m pc ls st) := by
  subst hs
  obtain ⟨hP, hD, hS⟩ := hW
  have hPc := hP.sub isC (fm_of hC)
  have hDc := hD.sub isC hnC hC
  have hFc := va_free (wc := wc) hD hS hB.2.2.2.2.2.2.2.2 isC hC
  refine va_calli (va_runSN (As := As) (rest := rest) ⟨hB.1, hB.2.1, hB.2.2.2.1, hB.2.2.2.2.1, hB.2.2.2.2.2.1⟩ (hM H.size) cw ⟨PcX.blind, fun U hU hW => ⟨rfl, by rw [hU], by rw [hU]; exact hPc, KX.warm hW hB.2.2.2.2.2.2.2.1, hDc.weaken (fun _ _ _ _ => trivial)⟩⟩ rfl hn hls hst (lv_room hroom) hd hcr) hS (fun q _ h => hFc q h) hFc (fun r_1 u_1 t_1 H1 locs1 ht hvm hw hB1 hz hk hS1 => ?_)
  obtain ⟨hP1, hD1⟩ := hB1
  rw [ht] at hP1
  rw [hw.1]
  exact kk hw.2 H1 locs1 ⟨lay_P hP hD hC hk hP1 (by have := congrArg List.length hA1; simpa using this), lay_D hD hC hA1, hS1⟩
theorem q_callNL (hB : Bx p s m meth c args cc nL ret own Ts D cI cZ A) (hW : Wl D A s.heap ws H locs) {y : MethodName} {wy : List Cond} {fr lo index maxL n : Nat} {bytes : ByteArray} {rt : Option FieldType} {As : List Value} {wc : va_W} {R : Type} {w1 : R → va_W} {rf : R → Int64} {q : R} {host : String} (hM : CtL l D cI cZ y wy fr lo (As) wc w1 rf q) (cw : va_CN Rr s args own index y host bytes maxL rt wy (Rm fr lo) 0 0 n ∧ (Cond.static y).before args s = true ∧ True) (isC : List Nat) (hC : isC.map (fun i => ws[i]?) = wc.map some) (hnC : va_nd isC = true) (hA1 : (w1 q).map Prod.fst = wc.map Prod.fst) (hs : lay ws isC (w1 q) = ws') (hn : As.length = n) (hls : ls.size = nL) (hst : st = As.reverse ++ rest) (hroom : (rest.map fun v => v.category).sum ≤ 8) (hcr : cells + 0 ≤ Rr.cells ∧ slots + 0 ≤ Rr.slots) (hd : decode cc pc = .ok (.invokestatic index, 3))
    (kk : ∀ (H : Heap) (locs : List Loc), Wl D A s.heap ws' H locs → W p l e Rr s m args below meth c H locs cells slots Q (F0 m (pc + 3) ls (.long (rf q) :: rest))) : W p l e Rr s m args below meth c H locs cells slots Q (F0 m pc ls st) := by
  subst hs
  obtain ⟨hP, hD, hS⟩ := hW
  have hPc := hP.sub isC (fm_of hC)
  have hDc := hD.sub isC hnC hC
  have hFc := va_free (wc := wc) hD hS hB.2.2.2.2.2.2.2.2 isC hC
  refine va_calll (va_runSN (As := As) (rest := rest) ⟨hB.1, hB.2.1, hB.2.2.2.1, hB.2.2.2.2.1, hB.2.2.2.2.2.1⟩ (hM H.size) cw ⟨PcX.blind, fun U hU hW => ⟨rfl, by rw [hU], by rw [hU]; exact hPc, KX.warm hW hB.2.2.2.2.2.2.2.1, hDc.weaken (fun _ _ _ _ => trivial)⟩⟩ rfl hn hls hst (lv_room hroom) hd hcr) hS (fun q _ h => hFc q h) hFc (fun r_1 u_1 t_1 H1 locs1 ht hvm hw hB1 hz hk hS1 => ?_)
  obtain ⟨hP1, hD1⟩ := hB1
  rw [ht] at hP1
  rw [hw]
  exact kk H1 locs1 ⟨lay_P hP hD hC hk hP1 (by have := congrArg List.length hA1; simpa using this), lay_D hD hC hA1, hS1⟩
theorem q_callNV (hB : Bx p s m meth c args cc nL ret own Ts D cI cZ A) (hW : Wl D A s.heap ws H locs) {y : MethodName} {wy : List Cond} {fr lo index maxL n : Nat} {bytes : ByteArray} {rt : Option FieldType} {As : List Value} {wc : va_W} {R : Type} {w1 : R → va_W} {q : R} {host : String} (hM : CtV l D cI cZ y wy fr lo (As) wc w1 q) (cw : va_CN Rr s args own index y host bytes maxL rt wy (Rm fr lo) 0 0 n ∧ (Cond.static y).before args s = true ∧ True) (isC : List Nat) (hC : isC.map (fun i => ws[i]?) = wc.map some) (hnC : va_nd isC = true) (hA1 : (w1 q).map Prod.fst = wc.map Prod.fst) (hs : lay ws isC (w1 q) = ws') (hn : As.length = n) (hls : ls.size = nL) (hst : st = As.reverse ++ rest) (hroom : (rest.map fun v => v.category).sum ≤ 8) (hcr : cells + 0 ≤ Rr.cells ∧ slots + 0 ≤ Rr.slots) (hd : decode cc pc = .ok (.invokestatic index, 3))
    (kk : ∀ (H : Heap) (locs : List Loc), Wl D A s.heap ws' H locs → W p l e Rr s m args below meth c H locs cells slots Q (F0 m (pc + 3) ls (rest))) : W p l e Rr s m args below meth c H locs cells slots Q (F0 m pc ls st) := by
  subst hs
  obtain ⟨hP, hD, hS⟩ := hW
  have hPc := hP.sub isC (fm_of hC)
  have hDc := hD.sub isC hnC hC
  have hFc := va_free (wc := wc) hD hS hB.2.2.2.2.2.2.2.2 isC hC
  refine va_callv (va_runSN (As := As) (rest := rest) ⟨hB.1, hB.2.1, hB.2.2.2.1, hB.2.2.2.2.1, hB.2.2.2.2.2.1⟩ (hM H.size) cw ⟨PcX.blind, fun U hU hW => ⟨rfl, by rw [hU], by rw [hU]; exact hPc, KX.warm hW hB.2.2.2.2.2.2.2.1, hDc.weaken (fun _ _ _ _ => trivial)⟩⟩ rfl hn hls hst (lv_room hroom) hd hcr) hS (fun q _ h => hFc q h) hFc (fun u_1 t_1 H1 locs1 ht hvm hw hB1 hz hk hS1 => ?_)
  obtain ⟨hP1, hD1⟩ := hB1
  rw [ht] at hP1
  skip
  exact kk H1 locs1 ⟨lay_P hP hD hC hk hP1 (by have := congrArg List.length hA1; simpa using this), lay_D hD hC hA1, hS1⟩
end Rows
