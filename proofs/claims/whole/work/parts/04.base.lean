/-! the state as one record of rows (field, place), contracts whose answer and world are functions of it, and short rows -/
abbrev Rc : Type := Nat → Nat → Int32
abbrev iv (x : Int32) : Nat := x.toNatClampNeg
def put (σ : Rc) (f i : Nat) (v : Int32) : Rc := fun g => if g = f then upd (σ g) i v else σ g
theorem put_at (σ : Rc) (f i : Nat) (v : Int32) (g j : Nat) : put σ f i v g j = if g = f ∧ j = i then v else σ g j := by
  unfold put
  by_cases h : g = f
  · by_cases h2 : j = i
    · simp [h, h2, upd]
    · simp [h, h2, upd]
  · simp [h]
theorem put_ne {σ : Rc} {f i : Nat} {v : Int32} {g j : Nat} (h : g ≠ f) : put σ f i v g j = σ g j := by
  rw [put_at, if_neg (fun q => h q.1)]
theorem put_rw {σ : Rc} {f i : Nat} {v : Int32} {g : Nat} (h : g ≠ f) : put σ f i v g = σ g := by
  unfold put
  rw [if_neg h]
theorem put_eq {σ : Rc} {f i : Nat} {v : Int32} : put σ f i v f i = v := by
  rw [put_at, if_pos ⟨rfl, rfl⟩]
theorem vi_eq {x : Int32} {n : Nat} (h : vp_in x n) (hn : n ≤ 2147483647) : x = nI (iv x) := by
  obtain ⟨j, hj, rfl⟩ := vp_in_of h (by omega)
  rw [iv, nI_clamp (by omega)]
theorem vi_lt {x : Int32} {n : Nat} (h : vp_in x n) : iv x < n := Nat.lt_of_not_le (fun q => h (Or.inr q))
theorem vi_of {j n : Nat} (h : j < n) (hn : n ≤ 2147483647) : vp_in (nI j) n := vp_in_nI h (by omega)
theorem iv_nI {j : Nat} (h : j ≤ 2147483647) : iv (nI j) = j := nI_clamp (by omega)
/-- the tables' words on links among nest mates -/
def nestQ (w : Cond) : Bool := match w with
  | .fieldLinkNest _ _ _ _ _ _ => true
  | .methodLinkNest _ _ _ _ => true
  | _ => false
def NWs : List Cond := tables_1.filter nestQ
def NW (U : State) : Prop := ∀ w ∈ NWs, va_Nw w U
theorem NW.warm {s U : State} (hW : s.WarmedH U.vm) (h : NW s) : NW U := by
  intro w hw
  have h1 := h w hw
  have h2 : nestQ w = true := (List.mem_filter.mp hw).2
  cases w <;> first | exact va_Nw.warmF hW h1 | exact va_Nw.warmM hW h1 | exact absurd h2 (by simp [nestQ])
theorem NW.same {u U : State} (hv : u.vm = U.vm) (h : NW u) : NW U := by
  intro w hw
  have h1 := h w hw
  have h2 : nestQ w = true := (List.mem_filter.mp hw).2
  cases w <;> first | (refine va_Nw.same ?_ hv h1; rfl) | exact absurd h2 (by simp [nestQ])
/-- a contract's start over the world W0, and its end over W1 -/
def MP (D : va_G) (cI : ClassId) (W0 : va_W) (sz : Nat) : State → Prop := fun U => U.heap.size = sz ∧ va_P D vwCl W0 U.heap ∧ (va_K D vwCl [(cI, .int)] U ∧ NW U) ∧ va_D (fun _ => True) W0
def PO (D : va_G) (W1 : va_W) (A : Nat → Prop) : State → Prop := fun t => va_P D vwCl W1 t.heap ∧ va_D A W1
def CI (l : Launch) (y : MethodName) (ws : List Cond) (rm : Room) (D : va_G) (cI : ClassId) (av : List Value) (W0 : va_W) (r : Int32) (W1 : va_W) : Prop :=
  ∀ sz : Nat, Met l y ws rm (va_Pc av (MP D cI W0 sz)) (va_Qi (fun (r' : Int32) (_ : Unit) => r' = r) (fun _ => PO D W1 (va_A W0 sz)) (va_A W0 sz)) rm.cells rm.slots (va_A W0 sz)
def CL (l : Launch) (y : MethodName) (ws : List Cond) (rm : Room) (D : va_G) (cI : ClassId) (av : List Value) (W0 : va_W) (r : Int64) (W1 : va_W) : Prop :=
  ∀ sz : Nat, Met l y ws rm (va_Pc av (MP D cI W0 sz)) (va_Ql (fun (r' : Int64) (_ : Unit) => r' = r) (fun _ => PO D W1 (va_A W0 sz)) (va_A W0 sz)) rm.cells rm.slots (va_A W0 sz)
def CV (l : Launch) (y : MethodName) (ws : List Cond) (rm : Room) (D : va_G) (cI : ClassId) (av : List Value) (W0 : va_W) (W1 : va_W) : Prop :=
  ∀ sz : Nat, Met l y ws rm (va_Pc av (MP D cI W0 sz)) (va_Qv (fun (_ : Unit) => True) (fun _ => PO D W1 (va_A W0 sz)) (va_A W0 sz)) rm.cells rm.slots (va_A W0 sz)
theorem MP.blind {D : va_G} {cI : ClassId} {W0 : va_W} {sz : Nat} {av : List Value} : FrameBlind (va_Pc av (MP D cI W0 sz)) := by
  intro a U g mk q
  obtain ⟨q0, q1, qP, ⟨qK, qN⟩, qD⟩ := q
  exact ⟨q0, q1, qP, ⟨va_K.moved (u := U) (U := U.calling g mk a) (Vm.Alike.refl U.vm) qK, NW.same (u := U) (U := U.calling g mk a) rfl qN⟩, qD⟩
section XROWS
variable {p : Program} {l : Launch} {e : Env} {R : Room} {s : State} {m : MethodId} {args : Array Value} {below : List Frame} {meth : Method} {c : Code} {H : Heap} {locs : List Loc} {cells slots : Nat} {Q : State → Prop}
variable {cc : ByteArray} {pc : Nat} {ls : Array Slot} {rest : List Value} {D : va_G} {cl : List vw_C} {A : Nat → Prop} {a : Nat} {tys : List (ClassId × FieldType)} {ws : va_W} {H0 : Heap}
theorem xald (hexec : p.tables.exec = Jvm.exec) (hb : c.code = cc) (hK : va_K D cl tys s) (hP : va_P D cl ws H) (q0 : Nat) {cA : ClassId} {n : Nat} {f : Nat → Int32} (ha : ws[q0]? = some (a, .inl (cA, n, .inl f))) (ht : tys[0]? = some (cA, .int)) {i : Int32} (j : Nat) (hi : i = nI j) (hj : j < n) (hn : n ≤ 2147483647) (hdg : decode cc pc = .ok (.iaload, 1))
    (kk : W p l e R s m args below meth c H locs cells slots Q (F0 m (pc + 1) ls (.int (f j) :: rest))) : W p l e R s m args below meth c H locs cells slots Q (F0 m pc ls (.int i :: .ref a :: rest)) := by
  refine va_iald hexec hb hK hP q0 0 ha ht (by rw [hi]; exact vi_of hj hn) hdg ?_
  have e1 : i.toNatClampNeg = j := by rw [hi]; exact iv_nI (by omega)
  rw [e1]
  exact kk
theorem xast (hexec : p.tables.exec = Jvm.exec) (hb : c.code = cc) (hK : va_K D cl tys s) (hP : va_P D cl ws H) (hD : va_D A ws) (hS : va_S A H0 H locs) (q0 : Nat) {cA : ClassId} {n : Nat} {f : Nat → Int32} (ha : ws[q0]? = some (a, .inl (cA, n, .inl f))) (ht : tys[0]? = some (cA, .int)) {i : Int32} {x : Int32} (j : Nat) (hi : i = nI j) (hj : j < n) (hn : n ≤ 2147483647) (w1 : va_W) (hw : ws.set q0 (a, .inl (cA, n, .inl (upd f j x))) = w1) (hdg : decode cc pc = .ok (.iastore, 1))
    (kk : ∀ (H1 : Heap) (locs1 : List Loc), va_P D cl w1 H1 → va_D A w1 → va_S A H0 H1 locs1 → W p l e R s m args below meth c H1 locs1 cells slots Q (F0 m (pc + 1) ls rest)) : W p l e R s m args below meth c H locs cells slots Q (F0 m pc ls (.int x :: .int i :: .ref a :: rest)) := by
  have e1 : i.toNatClampNeg = j := by rw [hi]; exact iv_nI (by omega)
  refine va_iast hexec hb hK hP hD hS q0 0 ha ht (by rw [hi]; exact vi_of hj hn) hdg (fun H1 locs1 h1 h2 h3 => kk H1 locs1 ?_ ?_ h3)
  · rw [e1, hw] at h1; exact h1
  · rw [e1, hw] at h2; exact h2
end XROWS
/-- a call at hand: any contract of y may be used here -/
def Inv (p : Program) (l : Launch) (e : Env) (R : Room) (s : State) (m : MethodId) (args : Array Value) (below : List Frame) (meth : Method) (c : Code) (H : Heap) (locs : List Loc) (cells slots : Nat) (y : MethodName) (ws : List Cond) (rm : Room) (As : List Value) (g : JFrame) (rest : List Value) : Prop :=
  ∀ (Pc : Array Value → State → Prop) (Qc : Array Value → State → Outcome → State → Prop) (free : Addr → Prop), Met l y ws rm Pc Qc rm.cells rm.slots free → FrameBlind Pc → (∀ U : State, U.heap = H → s.WarmedH U.vm → Pc As.toArray U) → cells + rm.cells ≤ R.cells ∧ slots + rm.slots ≤ R.slots →
    va_Run p l e R s m args below meth c H locs cells slots rm.cells rm.slots g rest (Qc As.toArray) free
section XINV
variable {p : Program} {l : Launch} {e : Env} {R : Room} {s : State} {m : MethodId} {args : Array Value} {below : List Frame} {meth : Method} {c : Code} {H : Heap} {locs : List Loc} {cells slots : Nat} {Q : State → Prop}
variable {y : MethodName} {bytes cc : ByteArray} {maxL nL n index pc : Nat} {ret : Option FieldType} {ws : List Cond} {rm : Room} {Ts : List Cond} {own C host : String} {b : Addr} {As rest st0 : List Value} {ls : Array Slot}
theorem invV (S : CallFix p m c cc nL s args Ts own) (cw : CallW R s args own C index y bytes maxL ret ws rm rm.cells rm.slots n) (hrec : ∃ cellB : Cell, H[b]? = some cellB ∧ cellB.vm.isStatics = false ∧ s.vm.findClass C = some cellB.cls)
    (hst : st0 = As.reverse ++ .ref b :: rest) (hn : As.length = n) (hsize : ls.size = nL) (hW : (rest.map fun v => v.category).sum ≤ 8) (hdg : decode cc pc = .ok (.invokevirtual index, 3)) : Inv p l e R s m args below meth c H locs cells slots y ws rm (.ref b :: As) (F0 m pc ls st0) rest :=
  fun Pc Qc free hM hbl hp hf => va_runV S hM cw ⟨hbl, hrec, hp⟩ rfl hn hsize hst (lv_room (pc := pc) (ls := ls) (rest := st0) hW) hdg hf
theorem invVN (S : CallFix p m c cc nL s args Ts own) (cw : va_CN R s args own index y host bytes maxL ret ws rm rm.cells rm.slots n ∧ (Cond.instanceMethod y).before args s = true ∧ (Cond.selects C y y).before args s = true) (hrec : ∃ cellB : Cell, H[b]? = some cellB ∧ cellB.vm.isStatics = false ∧ s.vm.findClass C = some cellB.cls)
    (hst : st0 = As.reverse ++ .ref b :: rest) (hn : As.length = n) (hsize : ls.size = nL) (hW : (rest.map fun v => v.category).sum ≤ 8) (hdg : decode cc pc = .ok (.invokevirtual index, 3)) : Inv p l e R s m args below meth c H locs cells slots y ws rm (.ref b :: As) (F0 m pc ls st0) rest :=
  fun Pc Qc free hM hbl hp hf => va_runVN S hM cw ⟨hbl, hrec, hp⟩ rfl hn hsize hst (lv_room (pc := pc) (ls := ls) (rest := st0) hW) hdg hf
theorem invS (S : CallFix p m c cc nL s args Ts own) (cw : CallB R s args own index y bytes maxL ret ws rm rm.cells rm.slots n ∧ (Cond.static y).before args s = true)
    (hst : st0 = As.reverse ++ rest) (hn : As.length = n) (hsize : ls.size = nL) (hW : (rest.map fun v => v.category).sum ≤ 8) (hdg : decode cc pc = .ok (.invokestatic index, 3)) : Inv p l e R s m args below meth c H locs cells slots y ws rm As (F0 m pc ls st0) rest :=
  fun Pc Qc free hM hbl hp hf => va_runS S hM cw ⟨hbl, hp⟩ rfl hn hsize hst (lv_room (pc := pc) (ls := ls) (rest := st0) hW) hdg hf
theorem invSN (S : CallFix p m c cc nL s args Ts own) (cw : va_CN R s args own index y host bytes maxL ret ws rm rm.cells rm.slots n ∧ (Cond.static y).before args s = true ∧ True)
    (hst : st0 = As.reverse ++ rest) (hn : As.length = n) (hsize : ls.size = nL) (hW : (rest.map fun v => v.category).sum ≤ 8) (hdg : decode cc pc = .ok (.invokestatic index, 3)) : Inv p l e R s m args below meth c H locs cells slots y ws rm As (F0 m pc ls st0) rest :=
  fun Pc Qc free hM hbl hp hf => va_runSN S hM cw ⟨hbl, hp⟩ rfl hn hsize hst (lv_room (pc := pc) (ls := ls) (rest := st0) hW) hdg hf
end XINV
section XCALL
variable {p : Program} {l : Launch} {e : Env} {R : Room} {s : State} {m : MethodId} {args : Array Value} {below : List Frame} {meth : Method} {c : Code} {H : Heap} {locs : List Loc} {cells slots : Nat} {Q : State → Prop}
variable {y : MethodName} {wsY : List Cond} {rm : Room} {As rest st0 : List Value} {ls : Array Slot} {pc : Nat} {D : va_G} {cI : ClassId} {A : Nat → Prop} {W0 Wc Wr W1 W2 : va_W} {H0 : Heap}
theorem xback (hK : va_K D vwCl [(cI, .int)] s) (hN : NW s) (hA : ∀ q, H0.size ≤ q → A q) (hP : va_P D vwCl W0 H) (hD : va_D A W0) (hS : va_S A H0 H locs) (isC : List Nat) (hC : isC.map (fun i => W0[i]?) = Wc.map some) (hnC : va_nd isC = true) :
    (∀ U : State, U.heap = H → s.WarmedH U.vm → va_Pc As (MP D cI Wc H.size) As.toArray U) := by
  intro U hU hW
  have hPc : va_P D vwCl Wc H := hP.sub isC (by
    have := congrArg (List.filterMap id) hC
    simpa [List.filterMap_map, Function.comp_def] using this)
  exact ⟨rfl, by rw [hU], by rw [hU]; exact hPc, ⟨va_K.moved hW.alike hK, NW.warm hW hN⟩, (hD.sub isC hnC hC).weaken (fun _ _ _ _ => trivial)⟩
theorem xafter (hA : ∀ q, H0.size ≤ q → A q) (hP : va_P D vwCl W0 H) (hD : va_D A W0) (hS : va_S A H0 H locs) (isC isR isB : List Nat) (hC : isC.map (fun i => W0[i]?) = Wc.map some) (hR : isR.map (fun i => W0[i]?) = Wr.map some) (hB : isB.map (fun i => (Wr ++ W1)[i]?) = W2.map some) (hnR : va_nd isR = true) (hnB : va_nd isB = true) (hdis : ∀ i ∈ isR, i ∉ isC)
    {t : State} {H1 : Heap} (ht : t.heap = H1) (hB1 : PO D W1 (va_A Wc H.size) t) (hk1 : ∀ q : Nat, q < H.size → ¬ va_A Wc H.size q → H1[q]? = H[q]?) : va_P D vwCl W2 H1 ∧ va_D A W2 := by
  obtain ⟨hP1, hD1⟩ := hB1
  rw [ht] at hP1
  have hF := va_free hD hS hA isC hC
  obtain ⟨h1, h2⟩ := va_join hP hD isC isR hC hR hnR hdis hk1 hF hP1 hD1
  refine ⟨h1.sub isB ?_, h2.sub isB hnB hB⟩
  have := congrArg (List.filterMap id) hB
  simpa [List.filterMap_map, Function.comp_def] using this
theorem xcalli {r : Int32} (hI : Inv p l e R s m args below meth c H locs cells slots y wsY rm As (F0 m pc ls st0) rest) (hM : CI l y wsY rm D cI As Wc r W1) (hK : va_K D vwCl [(cI, .int)] s) (hN : NW s) (hA : ∀ q, H0.size ≤ q → A q) (hP : va_P D vwCl W0 H) (hD : va_D A W0) (hS : va_S A H0 H locs)
    (isC isR isB : List Nat) (hC : isC.map (fun i => W0[i]?) = Wc.map some) (hR : isR.map (fun i => W0[i]?) = Wr.map some) (hB : isB.map (fun i => (Wr ++ W1)[i]?) = W2.map some) (hnn : va_nd isC = true ∧ va_nd isR = true ∧ va_nd isB = true ∧ isR.all (fun i => !isC.contains i) = true) (hf : cells + rm.cells ≤ R.cells ∧ slots + rm.slots ≤ R.slots)
    (kk : ∀ (H1 : Heap) (locs1 : List Loc), va_P D vwCl W2 H1 → va_D A W2 → va_S A H0 H1 locs1 → W p l e R s m args below meth c H1 locs1 (cells + rm.cells) (slots + rm.slots) Q (F0 m (pc + 3) ls (.int r :: rest))) : W p l e R s m args below meth c H locs cells slots Q (F0 m pc ls st0) := by
  have hdis : ∀ i ∈ isR, i ∉ isC := fun i hi h => by
    have := List.all_eq_true.mp hnn.2.2.2 i hi
    simp [h] at this
  have hF := va_free hD hS hA isC hC
  refine va_calli (hI _ _ _ (hM H.size) MP.blind (xback hK hN hA hP hD hS isC hC hnn.1) hf) hS (fun q _ h => hF q h) hF (fun r' u t H1 locs1 ht hvm hw hB1 hz1 hk1 hS1 => ?_)
  obtain ⟨h1, h2⟩ := xafter hA hP hD hS isC isR isB hC hR hB hnn.2.1 hnn.2.2.1 hdis ht hB1 hk1
  rw [hw]
  exact kk H1 locs1 h1 h2 hS1
theorem xcalll {r : Int64} (hI : Inv p l e R s m args below meth c H locs cells slots y wsY rm As (F0 m pc ls st0) rest) (hM : CL l y wsY rm D cI As Wc r W1) (hK : va_K D vwCl [(cI, .int)] s) (hN : NW s) (hA : ∀ q, H0.size ≤ q → A q) (hP : va_P D vwCl W0 H) (hD : va_D A W0) (hS : va_S A H0 H locs)
    (isC isR isB : List Nat) (hC : isC.map (fun i => W0[i]?) = Wc.map some) (hR : isR.map (fun i => W0[i]?) = Wr.map some) (hB : isB.map (fun i => (Wr ++ W1)[i]?) = W2.map some) (hnn : va_nd isC = true ∧ va_nd isR = true ∧ va_nd isB = true ∧ isR.all (fun i => !isC.contains i) = true) (hf : cells + rm.cells ≤ R.cells ∧ slots + rm.slots ≤ R.slots)
    (kk : ∀ (H1 : Heap) (locs1 : List Loc), va_P D vwCl W2 H1 → va_D A W2 → va_S A H0 H1 locs1 → W p l e R s m args below meth c H1 locs1 (cells + rm.cells) (slots + rm.slots) Q (F0 m (pc + 3) ls (.long r :: rest))) : W p l e R s m args below meth c H locs cells slots Q (F0 m pc ls st0) := by
  have hdis : ∀ i ∈ isR, i ∉ isC := fun i hi h => by
    have := List.all_eq_true.mp hnn.2.2.2 i hi
    simp [h] at this
  have hF := va_free hD hS hA isC hC
  refine va_calll (hI _ _ _ (hM H.size) MP.blind (xback hK hN hA hP hD hS isC hC hnn.1) hf) hS (fun q _ h => hF q h) hF (fun r' u t H1 locs1 ht hvm hw hB1 hz1 hk1 hS1 => ?_)
  obtain ⟨h1, h2⟩ := xafter hA hP hD hS isC isR isB hC hR hB hnn.2.1 hnn.2.2.1 hdis ht hB1 hk1
  rw [hw]
  exact kk H1 locs1 h1 h2 hS1
theorem xcallv (hI : Inv p l e R s m args below meth c H locs cells slots y wsY rm As (F0 m pc ls st0) rest) (hM : CV l y wsY rm D cI As Wc W1) (hK : va_K D vwCl [(cI, .int)] s) (hN : NW s) (hA : ∀ q, H0.size ≤ q → A q) (hP : va_P D vwCl W0 H) (hD : va_D A W0) (hS : va_S A H0 H locs)
    (isC isR isB : List Nat) (hC : isC.map (fun i => W0[i]?) = Wc.map some) (hR : isR.map (fun i => W0[i]?) = Wr.map some) (hB : isB.map (fun i => (Wr ++ W1)[i]?) = W2.map some) (hnn : va_nd isC = true ∧ va_nd isR = true ∧ va_nd isB = true ∧ isR.all (fun i => !isC.contains i) = true) (hf : cells + rm.cells ≤ R.cells ∧ slots + rm.slots ≤ R.slots)
    (kk : ∀ (H1 : Heap) (locs1 : List Loc), va_P D vwCl W2 H1 → va_D A W2 → va_S A H0 H1 locs1 → W p l e R s m args below meth c H1 locs1 (cells + rm.cells) (slots + rm.slots) Q (F0 m (pc + 3) ls rest)) : W p l e R s m args below meth c H locs cells slots Q (F0 m pc ls st0) := by
  have hdis : ∀ i ∈ isR, i ∉ isC := fun i hi h => by
    have := List.all_eq_true.mp hnn.2.2.2 i hi
    simp [h] at this
  have hF := va_free hD hS hA isC hC
  refine va_callv (hI _ _ _ (hM H.size) MP.blind (xback hK hN hA hP hD hS isC hC hnn.1) hf) hS (fun q _ h => hF q h) hF (fun u t H1 locs1 ht hvm hw hB1 hz1 hk1 hS1 => ?_)
  obtain ⟨h1, h2⟩ := xafter hA hP hD hS isC isR isB hC hR hB hnn.2.1 hnn.2.2.1 hdis ht hB1 hk1
  exact kk H1 locs1 h1 h2 hS1
end XCALL
section XMK
variable {l : Launch} {y : MethodName} {ws ws' : List Cond} {rm : Room} {D : va_G} {cI : ClassId} {av : List Value} {W0 W1 : va_W} {cc : ByteArray} {maxL : Nat}
theorem CI.mk {ret : Option FieldType} {rt : FieldType} {r : Int32} (hret : ret = some rt) (hnr : narrow rt (.int r) = .int r) (hy : plainName y.cls = true) (hw : ws = Cond.code y cc maxL ret :: ws') (hsz : (lg_sl av).length ≤ maxL)
    (body : ∀ (p : Program) (e : Env) (s : State) (m : MethodId) (args : Array Value) (below : List Frame) (meth : Method) (c : Code) (A : Nat → Prop) (Q : State → Prop) (ls : Array Slot), p.tables.exec = Jvm.exec → c.code = cc → (∀ w ∈ ws, w.before args s = true) → s.vm.findClass y.cls = some m.cls → c.maxLocals = maxL → va_K D vwCl [(cI, .int)] s → NW s → (∀ q, s.heap.size ≤ q → A q) → va_P D vwCl W0 s.heap → va_D A W0 → va_S A s.heap s.heap [] → lv_has ls maxL (lv_args 0 av) →
      (∀ (H : Heap) (locs : List Loc) (k n pc : Nat) (ls' : Array Slot) (r' : Int32) (W1' : va_W), r' = r → W1' = W1 → va_P D vwCl W1' H → va_D A W1' → va_S A s.heap H locs → k ≤ rm.cells → n ≤ rm.slots → decode cc pc = .ok (.ireturn, 1) → W p l e rm s m args below meth c H locs k n Q (F0 m pc ls' [.int r'])) →
      W p l e rm s m args below meth c s.heap [] 0 0 Q (F0 m 0 ls [])) : CI l y ws rm D cI av W0 r W1 := by
  intro sz
  refine Met.ofW (cc := cc) (maxL := maxL) (ret := ret) hy hw ?_
  intro p e s m args below meth c s₁ B hml hv
  obtain ⟨rfl, hsz0, hP, ⟨hK, hN⟩, hD0⟩ := hv
  have hr := B.returns
  have hlocks := B.notSynchronized
  have hts := atoms_spec (ws := ws) B.pre
  have hown : s.vm.findClass y.cls = some m.cls := findClass_of_methodNamed B.named
  subst hsz0
  have hA : ∀ q : Nat, s.heap.size ≤ q → va_A W0 s.heap.size q := fun q h => Or.inr h
  have hl := lv_entry av (n := maxL) hsz
  rw [lg_entry_eq]
  refine body p e s m av.toArray below meth c (va_A W0 s.heap.size) _ _ B.exec B.bytes hts hown hml hK hN hA hP (hD0.self (sz := s.heap.size)) va_S.rf hl ?_
  intro H locs k n pc ls' r' W1' e1 e2 hP1 hD1 hS1 hk hn hdg
  subst e1; subst e2
  refine W.widen hk hn ?_
  exact W.zret B.exec B.bytes (hr.trans hret) hnr (fun t ht hW => ⟨⟨r', (), rfl, rfl, by rw [ht]; exact hP1, hD1⟩, hS1.F ht⟩) hS1.2.2 hdg hlocks
theorem CV.mk (hy : plainName y.cls = true) (hw : ws = Cond.code y cc maxL none :: ws') (hsz : (lg_sl av).length ≤ maxL)
    (body : ∀ (p : Program) (e : Env) (s : State) (m : MethodId) (args : Array Value) (below : List Frame) (meth : Method) (c : Code) (A : Nat → Prop) (Q : State → Prop) (ls : Array Slot), p.tables.exec = Jvm.exec → c.code = cc → (∀ w ∈ ws, w.before args s = true) → s.vm.findClass y.cls = some m.cls → c.maxLocals = maxL → va_K D vwCl [(cI, .int)] s → NW s → (∀ q, s.heap.size ≤ q → A q) → va_P D vwCl W0 s.heap → va_D A W0 → va_S A s.heap s.heap [] → lv_has ls maxL (lv_args 0 av) →
      (∀ (H : Heap) (locs : List Loc) (k n pc : Nat) (ls' : Array Slot) (W1' : va_W), W1' = W1 → va_P D vwCl W1' H → va_D A W1' → va_S A s.heap H locs → k ≤ rm.cells → n ≤ rm.slots → decode cc pc = .ok (.return_, 1) → W p l e rm s m args below meth c H locs k n Q (F0 m pc ls' [])) →
      W p l e rm s m args below meth c s.heap [] 0 0 Q (F0 m 0 ls [])) : CV l y ws rm D cI av W0 W1 := by
  intro sz
  refine Met.ofW (cc := cc) (maxL := maxL) (ret := none) hy hw ?_
  intro p e s m args below meth c s₁ B hml hv
  obtain ⟨rfl, hsz0, hP, ⟨hK, hN⟩, hD0⟩ := hv
  have hr := B.returns
  have hlocks := B.notSynchronized
  have hts := atoms_spec (ws := ws) B.pre
  have hown : s.vm.findClass y.cls = some m.cls := findClass_of_methodNamed B.named
  subst hsz0
  have hA : ∀ q : Nat, s.heap.size ≤ q → va_A W0 s.heap.size q := fun q h => Or.inr h
  have hl := lv_entry av (n := maxL) hsz
  rw [lg_entry_eq]
  refine body p e s m av.toArray below meth c (va_A W0 s.heap.size) _ _ B.exec B.bytes hts hown hml hK hN hA hP (hD0.self (sz := s.heap.size)) va_S.rf hl ?_
  intro H locs k n pc ls' W1' e2 hP1 hD1 hS1 hk hn hdg
  subst e2
  refine W.widen hk hn ?_
  exact W.vret B.exec B.bytes hr (fun t ht hW => ⟨⟨(), rfl, trivial, by rw [ht]; exact hP1, hD1⟩, hS1.F ht⟩) hS1.2.2 hdg hlocks
theorem CL.mk {r : Int64} (hy : plainName y.cls = true) (hw : ws = Cond.code y cc maxL (some .long) :: ws') (hsz : (lg_sl av).length ≤ maxL)
    (body : ∀ (p : Program) (e : Env) (s : State) (m : MethodId) (args : Array Value) (below : List Frame) (meth : Method) (c : Code) (A : Nat → Prop) (Q : State → Prop) (ls : Array Slot), p.tables.exec = Jvm.exec → c.code = cc → (∀ w ∈ ws, w.before args s = true) → s.vm.findClass y.cls = some m.cls → c.maxLocals = maxL → va_K D vwCl [(cI, .int)] s → NW s → (∀ q, s.heap.size ≤ q → A q) → va_P D vwCl W0 s.heap → va_D A W0 → va_S A s.heap s.heap [] → lv_has ls maxL (lv_args 0 av) →
      (∀ (H : Heap) (locs : List Loc) (k n pc : Nat) (ls' : Array Slot) (r' : Int64) (W1' : va_W), r' = r → W1' = W1 → va_P D vwCl W1' H → va_D A W1' → va_S A s.heap H locs → k ≤ rm.cells → n ≤ rm.slots → decode cc pc = .ok (.lreturn, 1) → W p l e rm s m args below meth c H locs k n Q (F0 m pc ls' [.long r'])) →
      W p l e rm s m args below meth c s.heap [] 0 0 Q (F0 m 0 ls [])) : CL l y ws rm D cI av W0 r W1 := by
  intro sz
  refine Met.ofW (cc := cc) (maxL := maxL) (ret := some .long) hy hw ?_
  intro p e s m args below meth c s₁ B hml hv
  obtain ⟨rfl, hsz0, hP, ⟨hK, hN⟩, hD0⟩ := hv
  have hr := B.returns
  have hlocks := B.notSynchronized
  have hts := atoms_spec (ws := ws) B.pre
  have hown : s.vm.findClass y.cls = some m.cls := findClass_of_methodNamed B.named
  subst hsz0
  have hA : ∀ q : Nat, s.heap.size ≤ q → va_A W0 s.heap.size q := fun q h => Or.inr h
  have hl := lv_entry av (n := maxL) hsz
  rw [lg_entry_eq]
  refine body p e s m av.toArray below meth c (va_A W0 s.heap.size) _ _ B.exec B.bytes hts hown hml hK hN hA hP (hD0.self (sz := s.heap.size)) va_S.rf hl ?_
  intro H locs k n pc ls' r' W1' e1 e2 hP1 hD1 hS1 hk hn hdg
  subst e1; subst e2
  refine W.widen hk hn ?_
  exact W.lret B.exec B.bytes hr (fun t ht hW => ⟨⟨r', (), rfl, rfl, by rw [ht]; exact hP1, hD1⟩, hS1.F ht⟩) hS1.2.2 hdg hlocks
end XMK
