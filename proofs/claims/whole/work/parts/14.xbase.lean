/-! contracts of methods that throw: the world stays, the class of the exception is told -/
def XCN : List String := ["java/lang/IndexOutOfBoundsException", "java/lang/IllegalArgumentException", "java/lang/IllegalStateException"]
def XNM : List String := ["java/lang/RuntimeException", "java/lang/Exception"]
def XST : List (Nat × String) := [(128, "what is not 3 to 8"), (157, "there is no such number"), (161, "a value is out of its range"), (50, "the station is passed, or the minutes would not rise"), (67, "there is no room for another letter"), (81, "there is no room for another sorter")]
def XW : List Cond := [.castable "java/lang/IndexOutOfBoundsException" "java/lang/IndexOutOfBoundsException", .castable "java/lang/IllegalArgumentException" "java/lang/IllegalArgumentException", .castable "java/lang/IllegalStateException" "java/lang/IllegalStateException", .declares ⟨"java/lang/RuntimeException", "<init>", "(Ljava/lang/String;)V"⟩, .declares ⟨"java/lang/Exception", "<init>", "(Ljava/lang/String;)V"⟩, .declares ⟨"java/lang/Throwable", "<init>", "(Ljava/lang/String;)V"⟩]
theorem XW_or {P : Cond → Prop} (h1 : ∀ a b, P (.castable a b)) (h2 : ∀ x, P (.declares x)) : ∀ w ∈ XW, P w := by
  intro w hw
  simp only [XW, List.mem_cons, List.not_mem_nil, or_false] at hw
  rcases hw with rfl | rfl | rfl | rfl | rfl | rfl
  · exact h1 _ _
  · exact h1 _ _
  · exact h1 _ _
  · exact h2 _
  · exact h2 _
  · exact h2 _
def TC (U : State) : Prop := (∀ w ∈ XW, va_Nw w U) ∧ ∀ q ∈ XST, ∃ a, vk_R RX4 q.1 q.2 a U
def TZ (A : Nat → Prop) (U : State) (H : Heap) : Prop := vx_Zq Bundle.tN "UNASSIGNED_STACK" Bundle.steD A U H ∧ vx_Zq Bundle.tN "SUPPRESSED_SENTINEL" Bundle.listD A U H
def TH (A : Nat → Prop) (U : State) : Prop := TC U ∧ TZ A U U.heap
theorem TC.warm {s U : State} (hW : s.WarmedH U.vm) (h : TC s) : TC U := ⟨fun w hw => XW_or (P := fun w => va_Nw w s → va_Nw w U) (fun _ _ h => va_Nw.warmC hW h) (fun _ h => va_Nw.warmD hW h) w hw (h.1 w hw), fun q hq => by
  obtain ⟨a, ha⟩ := h.2 q hq
  exact ⟨a, vk_R.warm hW ha⟩⟩
theorem TC.same {u U : State} (hv : U.vm = u.vm) (h : TC u) : TC U := ⟨fun w hw => XW_or (P := fun w => va_Nw w u → va_Nw w U) (fun _ _ h => va_Nw.same rfl hv.symm h) (fun _ h => va_Nw.same rfl hv.symm h) w hw (h.1 w hw), fun q hq => by
  obtain ⟨a, ha⟩ := h.2 q hq
  exact ⟨a, vk_R.same hv ha⟩⟩
theorem TZ.to {A B : Nat → Prop} {s U : State} {H : Heap} {locs : List Loc} (h : TZ A s s.heap) (hS : va_S A s.heap H locs) (hB : ∀ q, B q → A q) (hvm : s.vm.Alike U.vm) : TZ B U H :=
  ⟨((h.1.kept (fun a h1 h2 => hS.2.1 a h1 h2)).narrow hB).moved hvm, ((h.2.kept (fun a h1 h2 => hS.2.1 a h1 h2)).narrow hB).moved hvm⟩
def CX (l : Launch) (y : MethodName) (ws : List Cond) (rm : Room) (D : va_G) (cI : ClassId) (av : List Value) (W0 : va_W) (E : String) : Prop :=
  ∀ sz : Nat, vx_Met l y ws rm (va_Pc av (fun U => MP D cI W0 sz U ∧ TH (va_A W0 sz) U)) (va_Qv (fun (_ : Unit) => False) (fun _ _ => True) (va_A W0 sz)) (vx_X (fun _ : Unit => True) (fun E' _ t => E' = E ∧ PO D W0 (va_A W0 sz) t) (va_A W0 sz)) rm.cells rm.slots (va_A W0 sz)
theorem MPT.blind {D : va_G} {cI : ClassId} {W0 : va_W} {sz : Nat} {A : Nat → Prop} {av : List Value} : FrameBlind (va_Pc av (fun U => MP D cI W0 sz U ∧ TH A U)) := by
  intro a U g mk q
  obtain ⟨q0, q1, q2, q3, q4⟩ := q
  obtain ⟨q1, qP, ⟨qK, qN⟩, qD⟩ := q1
  exact ⟨q0, ⟨q1, qP, ⟨va_K.moved (u := U) (U := U.calling g mk a) (Vm.Alike.refl U.vm) qK, NW.same (u := U) (U := U.calling g mk a) rfl qN⟩, qD⟩, TC.same (u := U) (U := U.calling g mk a) rfl q2, q3.moved (u := U) (U := U.calling g mk a) (Vm.Alike.refl U.vm), q4.moved (u := U) (U := U.calling g mk a) (Vm.Alike.refl U.vm)⟩
/-- a call at hand of a method that may throw -/
def InvX (p : Program) (l : Launch) (e : Env) (R : Room) (s : State) (m : MethodId) (args : Array Value) (below : List Frame) (meth : Method) (c : Code) (H : Heap) (locs : List Loc) (cells slots : Nat) (y : MethodName) (ws : List Cond) (rm : Room) (As : List Value) (g : JFrame) (rest : List Value) : Prop :=
  ∀ (Pc : Array Value → State → Prop) (Qc : Array Value → State → Outcome → State → Prop) (XC : String → State → State → Prop) (free : Addr → Prop), vx_Met l y ws rm Pc Qc XC rm.cells rm.slots free → FrameBlind Pc → (∀ U : State, U.heap = H → s.WarmedH U.vm → Pc As.toArray U) → cells + rm.cells ≤ R.cells ∧ slots + rm.slots ≤ R.slots →
    vx_Run p l e R s m args below meth c H locs cells slots rm.cells rm.slots g rest (Qc As.toArray) XC free
section XI
variable {p : Program} {l : Launch} {e : Env} {R : Room} {s : State} {m : MethodId} {args : Array Value} {below : List Frame} {meth : Method} {c : Code} {H : Heap} {locs : List Loc} {cells slots : Nat} {Q : State → Prop}
variable {y : MethodName} {bytes cc : ByteArray} {maxL nL n index pc : Nat} {ret : Option FieldType} {ws : List Cond} {rm : Room} {Ts : List Cond} {own C host : String} {b : Addr} {As rest st0 : List Value} {ls : Array Slot}
theorem invXV (S : CallFix p m c cc nL s args Ts own) (cw : CallW R s args own C index y bytes maxL ret ws rm rm.cells rm.slots n) (hrec : ∃ cellB : Cell, H[b]? = some cellB ∧ cellB.vm.isStatics = false ∧ s.vm.findClass C = some cellB.cls)
    (hst : st0 = As.reverse ++ .ref b :: rest) (hn : As.length = n) (hsize : ls.size = nL) (hW : (rest.map fun v => v.category).sum ≤ 8) (hdg : decode cc pc = .ok (.invokevirtual index, 3)) : InvX p l e R s m args below meth c H locs cells slots y ws rm (.ref b :: As) (F0 m pc ls st0) rest :=
  fun Pc Qc XC free hM hbl hp hf => vx_runV S hM cw ⟨hbl, hrec, hp⟩ rfl hn hsize hst (lv_room (pc := pc) (ls := ls) (rest := st0) hW) hdg hf
theorem invXS (S : CallFix p m c cc nL s args Ts own) (cw : CallB R s args own index y bytes maxL ret ws rm rm.cells rm.slots n ∧ (Cond.static y).before args s = true)
    (hst : st0 = As.reverse ++ rest) (hn : As.length = n) (hsize : ls.size = nL) (hW : (rest.map fun v => v.category).sum ≤ 8) (hdg : decode cc pc = .ok (.invokestatic index, 3)) : InvX p l e R s m args below meth c H locs cells slots y ws rm As (F0 m pc ls st0) rest :=
  fun Pc Qc XC free hM hbl hp hf => vx_runS S hM cw ⟨hbl, hp⟩ rfl hn hsize hst (lv_room (pc := pc) (ls := ls) (rest := st0) hW) hdg hf
end XI
section XC
variable {p : Program} {l : Launch} {e : Env} {R : Room} {s : State} {m : MethodId} {args : Array Value} {below : List Frame} {meth : Method} {c : Code} {H : Heap} {locs : List Loc} {cells slots : Nat} {Q : State → Prop}
variable {y : MethodName} {wsY : List Cond} {rm : Room} {As rest st0 : List Value} {ls : Array Slot} {pc : Nat} {D : va_G} {cI : ClassId} {A : Nat → Prop} {W0 Wc : va_W} {E : String}
theorem ycallx (hI : InvX p l e R s m args below meth c H locs cells slots y wsY rm As (F0 m pc ls st0) rest) (hM : CX l y wsY rm D cI As Wc E) (hK : va_K D vwCl [(cI, .int)] s) (hN : NW s) (hT : TH A s) (hA : ∀ q, s.heap.size ≤ q → A q) (hP : va_P D vwCl W0 H) (hD : va_D A W0) (hS : va_S A s.heap H locs)
    (isC isR isB : List Nat) (hC : isC.map (fun i => W0[i]?) = Wc.map some) (hR : isR.map (fun i => W0[i]?) = (sel W0 isR).map some) (hB : isB.map (fun i => (sel W0 isR ++ Wc)[i]?) = W0.map some) (hnn : va_nd isC = true ∧ va_nd isR = true ∧ va_nd isB = true ∧ isR.all (fun i => !isC.contains i) = true) (hf : cells + rm.cells ≤ R.cells ∧ slots + rm.slots ≤ R.slots)
    (kx : ∀ (q9 : Addr) (ce : Cell) (H1 : Heap) (locs1 : List Loc), va_P D vwCl W0 H1 → va_D A W0 → va_S A s.heap H1 locs1 → H1[q9]? = some ce → ce.vm = .none → s.vm.findClass E = some ce.cls → vx_W p l e R s m args below meth c H1 locs1 (cells + rm.cells) (slots + rm.slots) Q (F0 m pc ls rest) q9) : W p l e R s m args below meth c H locs cells slots Q (F0 m pc ls st0) := by
  have hdis : ∀ i ∈ isR, i ∉ isC := fun i hi h => by
    have := List.all_eq_true.mp hnn.2.2.2 i hi
    simp [h] at this
  have hF := va_free hD hS hA isC hC
  refine vx_callv (hI _ _ _ _ (hM H.size) MPT.blind (fun U hU hW => ⟨rfl, (xback hK hN hA hP hD hS isC hC hnn.1 (As := As) U hU hW).2, TC.warm hW hT.1, ?_⟩) hf) hS (fun q _ h => hF q h) hF (fun q _ h => hF q h) (fun E' ce q9 u t H1 locs1 ht hvm _ hB1 hz1 hk1 hS1 h1 h2 h3 => ?_) (fun u t H1 locs1 ht hvm hw => hw.elim)
  · have h1 := hT.2.to hS hF hW.alike
    rw [hU]
    exact h1
  · obtain ⟨rfl, hB1⟩ := hB1
    obtain ⟨g1, g2⟩ := xafter hA hP hD hS isC isR isB hC hR hB hnn.2.1 hnn.2.2.1 hdis ht hB1 hk1
    exact kx q9 ce H1 locs1 g1 g2 hS1 h1 h2 h3
end XC
section XM
variable {l : Launch} {y : MethodName} {ws ws' : List Cond} {rm : Room} {D : va_G} {cI : ClassId} {av : List Value} {W0 : va_W} {cc : ByteArray} {maxL : Nat} {E : String}
theorem CX.mk {ret : Option FieldType} (hlt : l.stackTraces = false) (hy : plainName y.cls = true) (hcls : y.cls = RX4) (hw : ws = Cond.code y cc maxL ret :: ws') (hsz : (lg_sl av).length ≤ maxL)
    (body : ∀ (p : Program) (e : Env) (s : State) (m : MethodId) (args : Array Value) (below : List Frame) (meth : Method) (c : Code) (A : Nat → Prop) (Q : State → Prop) (ls : Array Slot), p.tables.exec = Jvm.exec → c.code = cc → (∀ w ∈ ws, w.before args s = true) → s.vm.findClass RX4 = some m.cls → c.maxLocals = maxL → va_K D vwCl [(cI, .int)] s → NW s → TH A s → (∀ q, s.heap.size ≤ q → A q) → va_P D vwCl W0 s.heap → va_D A W0 → va_S A s.heap s.heap [] → lv_has ls maxL (lv_args 0 av) →
      (∀ (H : Heap) (locs : List Loc) (k n pc : Nat) (ls' : Array Slot) (rest : List Value) (q9 : Addr) (ce : Cell), va_P D vwCl W0 H → va_D A W0 → va_S A s.heap H locs → k ≤ rm.cells → n ≤ rm.slots → H[q9]? = some ce → ce.vm = .none → s.vm.findClass E = some ce.cls → vx_W p l e rm s m args below meth c H locs k n Q (F0 m pc ls' rest) q9) →
      (∀ (H : Heap) (locs : List Loc) (k n pc ik is ic : Nat) (text : String) (ls' : Array Slot) (rest : List Value), va_P D vwCl W0 H → va_D A W0 → va_S A s.heap H locs → ls'.size = maxL → Bundle.fit E = true → E ∈ XCN → (is, text) ∈ XST → (Cond.classLink RX4 ik E).before args s = true → (Cond.initialized E).before args s = true → (∀ w ∈ (vx_atS RX4 ic E XNM).filter goodWord, w.before args s = true) → (∀ w ∈ (vx_atS RX4 ic E XNM).filter (fun w => !goodWord w), w ∈ XW) → (∀ w ∈ Cond.classLink RX4 ik E :: Cond.initialized E :: vx_atS RX4 ic E XNM, vx_ot w = true) → decode cc pc = .ok (.new ik, 3) → decode cc (pc + 3) = .ok (.dup, 1) → decode cc (pc + 4) = .ok (.ldc is, 2) → decode cc (pc + 6) = .ok (.invokespecial ic, 3) → decode cc (pc + 9) = .ok (.athrow, 1) → 6 ≤ rm.frames → (rest.map fun v => v.category).sum + 82 ≤ rm.locals → k + 1 ≤ rm.cells → n + 6 ≤ rm.slots → W p l e rm s m args below meth c H locs k n Q (F0 m pc ls' rest)) →
      W p l e rm s m args below meth c s.heap [] 0 0 Q (F0 m 0 ls [])) : CX l y ws rm D cI av W0 E := by
  intro sz
  refine vx_ofW (cc := cc) (maxL := maxL) (ret := ret) hy hw ?_
  intro p e s m args below meth c s₁ B hml hex hv
  obtain ⟨rfl, ⟨hsz0, hP, ⟨hK, hN⟩, hD0⟩, hT⟩ := hv
  have hlocks := B.notSynchronized
  have hts := atoms_spec (ws := ws) B.pre
  have hown : s.vm.findClass RX4 = some m.cls := by rw [← hcls]; exact findClass_of_methodNamed B.named
  subst hsz0
  have hA : ∀ q : Nat, s.heap.size ≤ q → va_A W0 s.heap.size q := fun q h => Or.inr h
  have hl := lv_entry av (n := maxL) hsz
  rw [lg_entry_eq]
  refine body p e s m av.toArray below meth c (va_A W0 s.heap.size) _ _ B.exec B.bytes hts hown hml hK hN hT hA hP (hD0.self (sz := s.heap.size)) va_S.rf hl ?_ ?_
  · intro H locs k n pc ls' rest q9 ce hP1 hD1 hS1 hk hn h1 h2 h3
    exact vx_out (fun x hx => (hex x hx).elim) hlocks h1 h2 h3 (fun t ht hvm => ⟨(), trivial, ⟨rfl, by rw [ht]; exact hP1, hD1⟩, hS1.F ht⟩) hS1.2.2 hk hn
  · intro H locs k n pc ik is ic text ls' rest hP1 hD1 hS1 hsize hfit hmem hst hk hini hg hng hot d0 d3 d4 d6 d9 hfr hlo hc hs
    obtain ⟨sa, hstr⟩ := hT.1.2 _ hst
    have hz0 : TZ (va_A W0 s.heap.size) s s.heap := hT.2
    refine vx_throwS (names := XNM) (mc := rm.cells) (ms := rm.slots) B.exec B.bytes hlt hown hfit (by decide +kernel) hk hini hstr (vx_hat hg hng ?_) hot hz0.1 hz0.2 hS1 (hsize.trans hml.symm) d0 d3 d4 d6 d9 (fun x hx => (hex x hx).elim) (show 2 + 3 < rm.frames by omega) (show (rest.map fun v => v.category).sum + (13 * (2 + 1) + 43) ≤ rm.locals by omega) hc hs hlocks ?_ hS1.2.2 hc hs
    · intro w hw
      exact XW_or (P := fun w => va_Nw w s → w.before av.toArray s = true) (fun _ _ h => va_Nw.use rfl h) (fun _ h => va_Nw.use rfl h) w hw (hT.1.1 w hw)
    · intro t hvm hsz1 hkeep
      refine ⟨(), trivial, ⟨rfl, fun k q hq => (hP1 k q hq).kept (hkeep _ (hP1 k q hq).lt), hD1⟩, ?_, fun q h1 h2 => ?_⟩
      · exact Nat.le_trans hS1.1 hsz1
      · rw [hkeep q (Nat.lt_of_lt_of_le h1 hS1.1)]
        exact hS1.2.1 q h1 h2
end XM
