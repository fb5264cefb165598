/-! the law's callers: what a call answers, or which of its exceptions was caught -/
def XNC : List (String × String) := [("java/lang/IllegalArgumentException", "java/lang/IndexOutOfBoundsException"), ("java/lang/IllegalStateException", "java/lang/IndexOutOfBoundsException"), ("java/lang/IllegalStateException", "java/lang/IllegalArgumentException"), ("java/lang/IndexOutOfBoundsException", "java/lang/IllegalArgumentException")]
def TN (U : State) : Prop := ∀ q ∈ XNC, va_Nc q.1 q.2 U
theorem TN.moved {u U : State} (hvm : u.vm.Alike U.vm) (h : TN u) : TN U := fun q hq => (h q hq).moved hvm
def MP2 (D : va_G) (cI cL : ClassId) (W0 : va_W) (sz : Nat) : State → Prop := fun U => U.heap.size = sz ∧ va_P D vwCl W0 U.heap ∧ (va_K D vwCl [(cI, .int), (cL, .long)] U ∧ NW U) ∧ va_D (fun _ => True) W0
abbrev wL (cL : ClassId) (z : Nat) (f : Nat → Int64) (W : va_W) : va_W := (z, .inl (cL, 1, .inr (.inl f))) :: W
def CWP (D : va_G) (cI cL : ClassId) (W0 : va_W) (sz : Nat) : State → Prop := fun U => MP2 D cI cL W0 sz U ∧ TH (va_A W0 sz) U ∧ TN U
def CW (l : Launch) (y : MethodName) (ws : List Cond) (rm : Room) (D : va_G) (cI cL : ClassId) (av : List Value) (W0 : va_W) (k : Int32) (W1 : Rc → va_W) : Prop :=
  ∀ sz : Nat, Met l y ws rm (va_Pc av (CWP D cI cL W0 sz)) (va_Qi (fun (r' : Int32) (_ : Rc) => r' = k) (fun v => PO D (W1 v) (va_A W0 sz)) (va_A W0 sz)) rm.cells rm.slots (va_A W0 sz)
theorem CWP.blind {D : va_G} {cI cL : ClassId} {W0 : va_W} {sz : Nat} {av : List Value} : FrameBlind (va_Pc av (CWP D cI cL W0 sz)) := by
  intro a U g mk q
  obtain ⟨q0, q1, ⟨q2, q3, q4⟩, q5⟩ := q
  obtain ⟨q1, qP, ⟨qK, qN⟩, qD⟩ := q1
  exact ⟨q0, ⟨q1, qP, ⟨va_K.moved (u := U) (U := U.calling g mk a) (Vm.Alike.refl U.vm) qK, NW.same (u := U) (U := U.calling g mk a) rfl qN⟩, qD⟩, ⟨TC.same (u := U) (U := U.calling g mk a) rfl q2, q3.moved (u := U) (U := U.calling g mk a) (Vm.Alike.refl U.vm), q4.moved (u := U) (U := U.calling g mk a) (Vm.Alike.refl U.vm)⟩, TN.moved (u := U) (U := U.calling g mk a) (Vm.Alike.refl U.vm) q5⟩
theorem Met_ofWH {l : Launch} {y : MethodName} {ws ws' : List Cond} {rm : Room} {Pc : Array Value → State → Prop} {Qc : Array Value → State → Outcome → State → Prop} {mc ms : Nat} {free : Addr → Prop} {cc : ByteArray} {maxL : Nat} {ret : Option FieldType} {hh : List (Nat × Nat × Nat × Nat)}
    (hy : plainName y.cls = true) (hw : ws = Cond.codeWith y cc maxL ret hh :: ws')
    (body : ∀ p e s m args below meth c s₁, BodyLoose p l y (headSpec ws rm) cc maxL ret e s m args below meth c s₁ → c.maxLocals = maxL → Pc args s →
      W p l e (headSpec ws rm).room s m args below meth c s.heap [] 0 0 (MQ below Qc args s mc ms free) (entryFrame m args maxL)) : Met l y ws rm Pc Qc mc ms free := by
  refine MetFree.of_bodyS (code := cc) (maxLocals := maxL) (ret := ret) hy ?_ ?_
  · intro args s m h hn
    obtain ⟨m9, meth, c, hn9, h1, h2, h3, h4, -, h5, h6, -⟩ := Cond.codeWith_spec (atoms_spec (ws := ws) h _ (by rw [hw]; exact List.mem_cons_self))
    cases hn.symm.trans hn9
    exact ⟨meth, c, h1, h2, h3, h4, h5, h6⟩
  · intro p e s m args below meth c s₁ B hml hP _
    have hh0 : s₁.heap = s.heap := by rw [B.state]; rfl
    obtain ⟨t, a1, o, b1, b2, b3⟩ := body p e s m args below meth c s₁ B hml hP s₁ hh0 (Stand.of_body B)
    exact ⟨t, o, a1, b1, b2, b3⟩
section XW9
variable {l : Launch} {y : MethodName} {ws ws' : List Cond} {rm : Room} {D : va_G} {cI cL : ClassId} {av : List Value} {W0 : va_W} {W1 : Rc → va_W} {cc : ByteArray} {maxL : Nat} {k : Int32} {hh : List (Nat × Nat × Nat × Nat)}
theorem CW.mk (hy : plainName y.cls = true) (hcls : y.cls = RL) (hw : ws = Cond.codeWith y cc maxL (some .int) hh :: ws') (hsz : (lg_sl av).length ≤ maxL)
    (body : ∀ (p : Program) (e : Env) (s : State) (m : MethodId) (args : Array Value) (below : List Frame) (meth : Method) (c : Code) (A : Nat → Prop) (Q : State → Prop) (ls : Array Slot), p.tables.exec = Jvm.exec → c.code = cc → (∀ w ∈ ws, w.before args s = true) → s.vm.findClass RL = some m.cls → c.maxLocals = maxL → va_K D vwCl [(cI, .int), (cL, .long)] s → NW s → TH A s → TN s → (∀ q, s.heap.size ≤ q → A q) → va_P D vwCl W0 s.heap → va_D A W0 → va_S A s.heap s.heap [] → lv_has ls maxL (lv_args 0 av) → c.exceptionTable.toList = tableOf hh →
      (∀ (v : Rc) (H : Heap) (locs : List Loc) (k9 n9 pc : Nat) (ls' : Array Slot) (W1' : va_W), W1' = W1 v → va_P D vwCl W1' H → va_D A W1' → va_S A s.heap H locs → k9 ≤ rm.cells → n9 ≤ rm.slots → decode cc pc = .ok (.ireturn, 1) → W p l e rm s m args below meth c H locs k9 n9 Q (F0 m pc ls' [.int k])) →
      W p l e rm s m args below meth c s.heap [] 0 0 Q (F0 m 0 ls [])) : CW l y ws rm D cI cL av W0 k W1 := by
  intro sz
  refine Met_ofWH (cc := cc) (maxL := maxL) (ret := some .int) (hh := hh) hy hw ?_
  intro p e s m args below meth c s₁ B hml hv
  obtain ⟨rfl, ⟨hsz0, hP, ⟨hK, hN⟩, hD0⟩, hT, hTN⟩ := hv
  have hr := B.returns
  have hlocks := B.notSynchronized
  have hts := atoms_spec (ws := ws) B.pre
  have hown : s.vm.findClass RL = some m.cls := by rw [← hcls]; exact findClass_of_methodNamed B.named
  have htab : c.exceptionTable.toList = tableOf hh := vx_table (x := y) B (hts _ (by rw [hw]; exact List.mem_cons_self))
  subst hsz0
  have hA : ∀ q : Nat, s.heap.size ≤ q → va_A W0 s.heap.size q := fun q h => Or.inr h
  have hl := lv_entry av (n := maxL) hsz
  rw [lg_entry_eq]
  refine body p e s m av.toArray below meth c (va_A W0 s.heap.size) _ _ B.exec B.bytes hts hown hml hK hN hT hTN hA hP (hD0.self (sz := s.heap.size)) va_S.rf hl htab ?_
  intro v H locs k9 n9 pc ls' W1' e2 hP1 hD1 hS1 hk hn hdg
  subst e2
  refine W.widen hk hn ?_
  exact W.zret B.exec B.bytes hr rfl (fun t ht hW => ⟨⟨k, v, rfl, rfl, by rw [ht]; exact hP1, hD1⟩, hS1.F ht⟩) hS1.2.2 hdg hlocks
end XW9
theorem vp0 : vp_in 0 1 := vi_of (j := 0) (n := 1) (by omega) (by omega)
set_option maxHeartbeats 4000000 in
set_option maxRecDepth 100000 in
theorem c_L_setStation (l : Launch) (D : va_G) (cI cL : ClassId) (o z : Nat) (g a b : Nat → Nat) (r u v r1 u1 : Rc) (x1 : Int32) (x2 : Int32) (x3 : Int32) (f : Nat → Int64) (k9 : Int32) (hM : CIE l yX4_setStation wsX4_setStation ({ frames := 1, cells := 0, slots := 0, locals := 24 } : Room) D cI [.ref o, .int x1, .int x2, .int x3] (wX cI o g a b r u v) k9 (fun v9 => wX cI o g a b r1 u1 v9)) : CW l yL_setStation wsL_setStation ({ frames := 9, cells := 1, slots := 6, locals := 230 } : Room) D cI cL [.ref o, .int x1, .int x2, .int x3, .ref z] (wL cL z f (wX cI o g a b r u v)) 0 (fun v9 => wL cL z (vp_updL f 0 k9.toInt64) (wX cI o g a b r1 u1 v9)) := by
  refine CW.mk (cc := cL_setStation) (maxL := 6) (hh := [(0, 12, 15, 13), (0, 12, 19, 15), (0, 12, 23, 17)]) (by decide) rfl rfl (Nat.le_of_ble_eq_true rfl) ?_
  intro p e s m args below meth c A Q ls hx hb hts hown hml hK hN hT hTN hA hP hD hS hl htab fin
  have hKi := hK.sub (tys' := [(cI, .int)]) [0] rfl
  have hl : lv_has ls 6 [(0, .ref o), (1, .int x1), (2, .int x2), (3, .int x3), (4, .ref z)] := hl
  refine lv_aload hx hb dL_setStation_0 (lv_at hl 4 rfl) ?_
  refine lv_iconst (v := 0) hx hb dL_setStation_2 (by decide) ?_
  refine lv_aload_n hx hb dL_setStation_3 rfl (lv_at hl 0 rfl) ?_
  refine lv_iload_n hx hb dL_setStation_4 rfl (lv_at hl 1 rfl) ?_
  refine lv_iload_n hx hb dL_setStation_5 rfl (lv_at hl 2 rfl) ?_
  refine lv_iload_n hx hb dL_setStation_6 rfl (lv_at hl 3 rfl) ?_
  refine ycalle (invV (As := [.int x1, .int x2, .int x3]) (rest := [.int 0, .ref z]) (rm := ({ frames := 1, cells := 0, slots := 0, locals := 24 } : Room)) ⟨hx, hb, hml, hown, hts⟩ (cwV 3 hts gL_setStation_X4_setStation rfl rfl rfl (by decide +kernel) ⟨Nat.le_of_ble_eq_true rfl, Nat.le_of_ble_eq_true rfl⟩) (va_recv hK hP (ci := 4) (q0 := 1) rfl rfl) rfl rfl hl.1 (Nat.le_of_ble_eq_true rfl) dL_setStation_7) hM hKi hN hA hP hD hS (W2 := fun v9 => wL cL z f (wX cI o g a b r1 u1 v9)) [1, 2, 3, 4, 5, 6, 7, 8, 9, 10, 11, 12, 13, 14, 15, 16, 17, 18, 19, 20, 21, 22, 23, 24, 25, 26, 27, 28, 29, 30, 31, 32, 33, 34, 35, 36, 37, 38] [0] [0, 1, 2, 3, 4, 5, 6, 7, 8, 9, 10, 11, 12, 13, 14, 15, 16, 17, 18, 19, 20, 21, 22, 23, 24, 25, 26, 27, 28, 29, 30, 31, 32, 33, 34, 35, 36, 37, 38] rfl rfl (fun _ => rfl) (by decide) ⟨Nat.le_of_ble_eq_true rfl, Nat.le_of_ble_eq_true rfl⟩ (fun v9 H locs hP hD hS => ?_)
  refine lv_i2l (v := k9.toInt64) hx hb dL_setStation_10 rfl ?_
  refine va_last hx hb hK hP hD hS 0 1 rfl rfl vp0 dL_setStation_11 (fun H locs hP hD hS => ?_)
  refine lv_goto (tgt := 27) hx hb dL_setStation_12 (by decide) ?_
  refine lv_iconst (v := 0) hx hb dL_setStation_27 (by decide) ?_
  exact fin v9 _ _ _ _ _ _ _ rfl hP hD hS (Nat.le_of_ble_eq_true rfl) (Nat.le_of_ble_eq_true rfl) dL_setStation_28
set_option maxHeartbeats 4000000 in
set_option maxRecDepth 100000 in
theorem c_L_setStation_1 (l : Launch) (D : va_G) (cI cL : ClassId) (o z : Nat) (g a b : Nat → Nat) (r u v : Rc) (x1 : Int32) (x2 : Int32) (x3 : Int32) (f : Nat → Int64) (hM : CX l yX4_setStation wsX4_setStation ({ frames := 7, cells := 1, slots := 6, locals := 130 } : Room) D cI [.ref o, .int x1, .int x2, .int x3] (wX cI o g a b r u v) "java/lang/IndexOutOfBoundsException") : CW l yL_setStation wsL_setStation ({ frames := 9, cells := 1, slots := 6, locals := 230 } : Room) D cI cL [.ref o, .int x1, .int x2, .int x3, .ref z] (wL cL z f (wX cI o g a b r u v)) 1 (fun v9 => wL cL z f (wX cI o g a b r u v9)) := by
  refine CW.mk (cc := cL_setStation) (maxL := 6) (hh := [(0, 12, 15, 13), (0, 12, 19, 15), (0, 12, 23, 17)]) (by decide) rfl rfl (Nat.le_of_ble_eq_true rfl) ?_
  intro p e s m args below meth c A Q ls hx hb hts hown hml hK hN hT hTN hA hP hD hS hl htab fin
  have hKi := hK.sub (tys' := [(cI, .int)]) [0] rfl
  have hl : lv_has ls 6 [(0, .ref o), (1, .int x1), (2, .int x2), (3, .int x3), (4, .ref z)] := hl
  refine lv_aload hx hb dL_setStation_0 (lv_at hl 4 rfl) ?_
  refine lv_iconst (v := 0) hx hb dL_setStation_2 (by decide) ?_
  refine lv_aload_n hx hb dL_setStation_3 rfl (lv_at hl 0 rfl) ?_
  refine lv_iload_n hx hb dL_setStation_4 rfl (lv_at hl 1 rfl) ?_
  refine lv_iload_n hx hb dL_setStation_5 rfl (lv_at hl 2 rfl) ?_
  refine lv_iload_n hx hb dL_setStation_6 rfl (lv_at hl 3 rfl) ?_
  refine ycallx (invXV (As := [.int x1, .int x2, .int x3]) (rest := [.int 0, .ref z]) (rm := ({ frames := 7, cells := 1, slots := 6, locals := 130 } : Room)) ⟨hx, hb, hml, hown, hts⟩ (cwV 3 hts gL_setStation_X4_setStation rfl rfl rfl (by decide +kernel) ⟨Nat.le_of_ble_eq_true rfl, Nat.le_of_ble_eq_true rfl⟩) (va_recv hK hP (ci := 4) (q0 := 1) rfl rfl) rfl rfl hl.1 (Nat.le_of_ble_eq_true rfl) dL_setStation_7) hM hKi hN hT hA hP hD hS [1, 2, 3, 4, 5, 6, 7, 8, 9, 10, 11, 12, 13, 14, 15, 16, 17, 18, 19, 20, 21, 22, 23, 24, 25, 26, 27, 28, 29, 30, 31, 32, 33, 34, 35, 36, 37, 38] [0] [0, 1, 2, 3, 4, 5, 6, 7, 8, 9, 10, 11, 12, 13, 14, 15, 16, 17, 18, 19, 20, 21, 22, 23, 24, 25, 26, 27, 28, 29, 30, 31, 32, 33, 34, 35, 36, 37, 38] rfl rfl rfl (by decide) ⟨Nat.le_of_ble_eq_true rfl, Nat.le_of_ble_eq_true rfl⟩ (fun q9 ce H locs hP hD hS h1 h2 h3 => ?_)
  refine vx_catch (own := RL) (name := "java/lang/IndexOutOfBoundsException") (E := "java/lang/IndexOutOfBoundsException") hown [] ⟨0, 12, 15, 13⟩ [⟨0, 12, 19, 15⟩, ⟨0, 12, 23, 17⟩] (htab.trans rfl) (fun x9 h9 => nomatch h9) (by decide) (by decide) (hts (.classLink RL 13 "java/lang/IndexOutOfBoundsException") (by decide +kernel)) (va_Nw.use rfl (hT.1.1 (.castable "java/lang/IndexOutOfBoundsException" "java/lang/IndexOutOfBoundsException") (by decide))) h1 h2 h3 ?_
  refine lv_astore (lv' := [(5, .ref q9), (0, .ref o), (1, .int x1), (2, .int x2), (3, .int x3), (4, .ref z)]) hx hb dL_setStation_15 hl (by decide) rfl (fun ls hl => ?_)
  refine lv_iconst (v := 1) hx hb dL_setStation_17 (by decide) ?_
  exact fin v _ _ _ _ _ _ _ rfl hP hD hS (Nat.le_of_ble_eq_true rfl) (Nat.le_of_ble_eq_true rfl) dL_setStation_18
set_option maxHeartbeats 4000000 in
set_option maxRecDepth 100000 in
theorem c_L_setStation_2 (l : Launch) (D : va_G) (cI cL : ClassId) (o z : Nat) (g a b : Nat → Nat) (r u v : Rc) (x1 : Int32) (x2 : Int32) (x3 : Int32) (f : Nat → Int64) (hM : CX l yX4_setStation wsX4_setStation ({ frames := 7, cells := 1, slots := 6, locals := 130 } : Room) D cI [.ref o, .int x1, .int x2, .int x3] (wX cI o g a b r u v) "java/lang/IllegalArgumentException") : CW l yL_setStation wsL_setStation ({ frames := 9, cells := 1, slots := 6, locals := 230 } : Room) D cI cL [.ref o, .int x1, .int x2, .int x3, .ref z] (wL cL z f (wX cI o g a b r u v)) 2 (fun v9 => wL cL z f (wX cI o g a b r u v9)) := by
  refine CW.mk (cc := cL_setStation) (maxL := 6) (hh := [(0, 12, 15, 13), (0, 12, 19, 15), (0, 12, 23, 17)]) (by decide) rfl rfl (Nat.le_of_ble_eq_true rfl) ?_
  intro p e s m args below meth c A Q ls hx hb hts hown hml hK hN hT hTN hA hP hD hS hl htab fin
  have hKi := hK.sub (tys' := [(cI, .int)]) [0] rfl
  have hl : lv_has ls 6 [(0, .ref o), (1, .int x1), (2, .int x2), (3, .int x3), (4, .ref z)] := hl
  refine lv_aload hx hb dL_setStation_0 (lv_at hl 4 rfl) ?_
  refine lv_iconst (v := 0) hx hb dL_setStation_2 (by decide) ?_
  refine lv_aload_n hx hb dL_setStation_3 rfl (lv_at hl 0 rfl) ?_
  refine lv_iload_n hx hb dL_setStation_4 rfl (lv_at hl 1 rfl) ?_
  refine lv_iload_n hx hb dL_setStation_5 rfl (lv_at hl 2 rfl) ?_
  refine lv_iload_n hx hb dL_setStation_6 rfl (lv_at hl 3 rfl) ?_
  refine ycallx (invXV (As := [.int x1, .int x2, .int x3]) (rest := [.int 0, .ref z]) (rm := ({ frames := 7, cells := 1, slots := 6, locals := 130 } : Room)) ⟨hx, hb, hml, hown, hts⟩ (cwV 3 hts gL_setStation_X4_setStation rfl rfl rfl (by decide +kernel) ⟨Nat.le_of_ble_eq_true rfl, Nat.le_of_ble_eq_true rfl⟩) (va_recv hK hP (ci := 4) (q0 := 1) rfl rfl) rfl rfl hl.1 (Nat.le_of_ble_eq_true rfl) dL_setStation_7) hM hKi hN hT hA hP hD hS [1, 2, 3, 4, 5, 6, 7, 8, 9, 10, 11, 12, 13, 14, 15, 16, 17, 18, 19, 20, 21, 22, 23, 24, 25, 26, 27, 28, 29, 30, 31, 32, 33, 34, 35, 36, 37, 38] [0] [0, 1, 2, 3, 4, 5, 6, 7, 8, 9, 10, 11, 12, 13, 14, 15, 16, 17, 18, 19, 20, 21, 22, 23, 24, 25, 26, 27, 28, 29, 30, 31, 32, 33, 34, 35, 36, 37, 38] rfl rfl rfl (by decide) ⟨Nat.le_of_ble_eq_true rfl, Nat.le_of_ble_eq_true rfl⟩ (fun q9 ce H locs hP hD hS h1 h2 h3 => ?_)
  refine vx_catch (own := RL) (name := "java/lang/IllegalArgumentException") (E := "java/lang/IllegalArgumentException") hown [⟨0, 12, 15, 13⟩] ⟨0, 12, 19, 15⟩ [⟨0, 12, 23, 17⟩] (htab.trans rfl) (fun x9 h9 => by
    simp only [List.mem_cons, List.not_mem_nil, or_false] at h9
    rcases h9 with rfl
    · exact Or.inr ⟨by decide, "java/lang/IndexOutOfBoundsException", hts (.classLink RL 13 "java/lang/IndexOutOfBoundsException") (by decide +kernel), hTN _ (show ("java/lang/IllegalArgumentException", "java/lang/IndexOutOfBoundsException") ∈ XNC by decide)⟩) (by decide) (by decide) (hts (.classLink RL 15 "java/lang/IllegalArgumentException") (by decide +kernel)) (va_Nw.use rfl (hT.1.1 (.castable "java/lang/IllegalArgumentException" "java/lang/IllegalArgumentException") (by decide))) h1 h2 h3 ?_
  refine lv_astore (lv' := [(5, .ref q9), (0, .ref o), (1, .int x1), (2, .int x2), (3, .int x3), (4, .ref z)]) hx hb dL_setStation_19 hl (by decide) rfl (fun ls hl => ?_)
  refine lv_iconst (v := 2) hx hb dL_setStation_21 (by decide) ?_
  exact fin v _ _ _ _ _ _ _ rfl hP hD hS (Nat.le_of_ble_eq_true rfl) (Nat.le_of_ble_eq_true rfl) dL_setStation_22
set_option maxHeartbeats 4000000 in
set_option maxRecDepth 100000 in
theorem c_L_setStation_3 (l : Launch) (D : va_G) (cI cL : ClassId) (o z : Nat) (g a b : Nat → Nat) (r u v : Rc) (x1 : Int32) (x2 : Int32) (x3 : Int32) (f : Nat → Int64) (hM : CX l yX4_setStation wsX4_setStation ({ frames := 7, cells := 1, slots := 6, locals := 130 } : Room) D cI [.ref o, .int x1, .int x2, .int x3] (wX cI o g a b r u v) "java/lang/IllegalStateException") : CW l yL_setStation wsL_setStation ({ frames := 9, cells := 1, slots := 6, locals := 230 } : Room) D cI cL [.ref o, .int x1, .int x2, .int x3, .ref z] (wL cL z f (wX cI o g a b r u v)) 3 (fun v9 => wL cL z f (wX cI o g a b r u v9)) := by
  refine CW.mk (cc := cL_setStation) (maxL := 6) (hh := [(0, 12, 15, 13), (0, 12, 19, 15), (0, 12, 23, 17)]) (by decide) rfl rfl (Nat.le_of_ble_eq_true rfl) ?_
  intro p e s m args below meth c A Q ls hx hb hts hown hml hK hN hT hTN hA hP hD hS hl htab fin
  have hKi := hK.sub (tys' := [(cI, .int)]) [0] rfl
  have hl : lv_has ls 6 [(0, .ref o), (1, .int x1), (2, .int x2), (3, .int x3), (4, .ref z)] := hl
  refine lv_aload hx hb dL_setStation_0 (lv_at hl 4 rfl) ?_
  refine lv_iconst (v := 0) hx hb dL_setStation_2 (by decide) ?_
  refine lv_aload_n hx hb dL_setStation_3 rfl (lv_at hl 0 rfl) ?_
  refine lv_iload_n hx hb dL_setStation_4 rfl (lv_at hl 1 rfl) ?_
  refine lv_iload_n hx hb dL_setStation_5 rfl (lv_at hl 2 rfl) ?_
  refine lv_iload_n hx hb dL_setStation_6 rfl (lv_at hl 3 rfl) ?_
  refine ycallx (invXV (As := [.int x1, .int x2, .int x3]) (rest := [.int 0, .ref z]) (rm := ({ frames := 7, cells := 1, slots := 6, locals := 130 } : Room)) ⟨hx, hb, hml, hown, hts⟩ (cwV 3 hts gL_setStation_X4_setStation rfl rfl rfl (by decide +kernel) ⟨Nat.le_of_ble_eq_true rfl, Nat.le_of_ble_eq_true rfl⟩) (va_recv hK hP (ci := 4) (q0 := 1) rfl rfl) rfl rfl hl.1 (Nat.le_of_ble_eq_true rfl) dL_setStation_7) hM hKi hN hT hA hP hD hS [1, 2, 3, 4, 5, 6, 7, 8, 9, 10, 11, 12, 13, 14, 15, 16, 17, 18, 19, 20, 21, 22, 23, 24, 25, 26, 27, 28, 29, 30, 31, 32, 33, 34, 35, 36, 37, 38] [0] [0, 1, 2, 3, 4, 5, 6, 7, 8, 9, 10, 11, 12, 13, 14, 15, 16, 17, 18, 19, 20, 21, 22, 23, 24, 25, 26, 27, 28, 29, 30, 31, 32, 33, 34, 35, 36, 37, 38] rfl rfl rfl (by decide) ⟨Nat.le_of_ble_eq_true rfl, Nat.le_of_ble_eq_true rfl⟩ (fun q9 ce H locs hP hD hS h1 h2 h3 => ?_)
  refine vx_catch (own := RL) (name := "java/lang/IllegalStateException") (E := "java/lang/IllegalStateException") hown [⟨0, 12, 15, 13⟩, ⟨0, 12, 19, 15⟩] ⟨0, 12, 23, 17⟩ [] (htab.trans rfl) (fun x9 h9 => by
    simp only [List.mem_cons, List.not_mem_nil, or_false] at h9
    rcases h9 with rfl | rfl
    · exact Or.inr ⟨by decide, "java/lang/IndexOutOfBoundsException", hts (.classLink RL 13 "java/lang/IndexOutOfBoundsException") (by decide +kernel), hTN _ (show ("java/lang/IllegalStateException", "java/lang/IndexOutOfBoundsException") ∈ XNC by decide)⟩
    · exact Or.inr ⟨by decide, "java/lang/IllegalArgumentException", hts (.classLink RL 15 "java/lang/IllegalArgumentException") (by decide +kernel), hTN _ (show ("java/lang/IllegalStateException", "java/lang/IllegalArgumentException") ∈ XNC by decide)⟩) (by decide) (by decide) (hts (.classLink RL 17 "java/lang/IllegalStateException") (by decide +kernel)) (va_Nw.use rfl (hT.1.1 (.castable "java/lang/IllegalStateException" "java/lang/IllegalStateException") (by decide))) h1 h2 h3 ?_
  refine lv_astore (lv' := [(5, .ref q9), (0, .ref o), (1, .int x1), (2, .int x2), (3, .int x3), (4, .ref z)]) hx hb dL_setStation_23 hl (by decide) rfl (fun ls hl => ?_)
  refine lv_iconst (v := 3) hx hb dL_setStation_25 (by decide) ?_
  exact fin v _ _ _ _ _ _ _ rfl hP hD hS (Nat.le_of_ble_eq_true rfl) (Nat.le_of_ble_eq_true rfl) dL_setStation_26
set_option maxHeartbeats 4000000 in
set_option maxRecDepth 100000 in
theorem c_L_post (l : Launch) (D : va_G) (cI cL : ClassId) (o z : Nat) (g a b : Nat → Nat) (r u v r1 u1 : Rc) (x1 : Int32) (x2 : Int32) (f : Nat → Int64) (k9 : Int32) (hM : CIE l yX4_post wsX4_post ({ frames := 1, cells := 0, slots := 0, locals := 23 } : Room) D cI [.ref o, .int x1, .int x2] (wX cI o g a b r u v) k9 (fun v9 => wX cI o g a b r1 u1 v9)) : CW l yL_post wsL_post ({ frames := 9, cells := 1, slots := 6, locals := 230 } : Room) D cI cL [.ref o, .int x1, .int x2, .ref z] (wL cL z f (wX cI o g a b r u v)) 0 (fun v9 => wL cL z (vp_updL f 0 k9.toInt64) (wX cI o g a b r1 u1 v9)) := by
  refine CW.mk (cc := cL_post) (maxL := 5) (hh := [(0, 10, 13, 13), (0, 10, 17, 17)]) (by decide) rfl rfl (Nat.le_of_ble_eq_true rfl) ?_
  intro p e s m args below meth c A Q ls hx hb hts hown hml hK hN hT hTN hA hP hD hS hl htab fin
  have hKi := hK.sub (tys' := [(cI, .int)]) [0] rfl
  have hl : lv_has ls 5 [(0, .ref o), (1, .int x1), (2, .int x2), (3, .ref z)] := hl
  refine lv_aload_n hx hb dL_post_0 rfl (lv_at hl 3 rfl) ?_
  refine lv_iconst (v := 0) hx hb dL_post_1 (by decide) ?_
  refine lv_aload_n hx hb dL_post_2 rfl (lv_at hl 0 rfl) ?_
  refine lv_iload_n hx hb dL_post_3 rfl (lv_at hl 1 rfl) ?_
  refine lv_iload_n hx hb dL_post_4 rfl (lv_at hl 2 rfl) ?_
  refine ycalle (invV (As := [.int x1, .int x2]) (rest := [.int 0, .ref z]) (rm := ({ frames := 1, cells := 0, slots := 0, locals := 23 } : Room)) ⟨hx, hb, hml, hown, hts⟩ (cwV 2 hts gL_post_X4_post rfl rfl rfl (by decide +kernel) ⟨Nat.le_of_ble_eq_true rfl, Nat.le_of_ble_eq_true rfl⟩) (va_recv hK hP (ci := 4) (q0 := 1) rfl rfl) rfl rfl hl.1 (Nat.le_of_ble_eq_true rfl) dL_post_5) hM hKi hN hA hP hD hS (W2 := fun v9 => wL cL z f (wX cI o g a b r1 u1 v9)) [1, 2, 3, 4, 5, 6, 7, 8, 9, 10, 11, 12, 13, 14, 15, 16, 17, 18, 19, 20, 21, 22, 23, 24, 25, 26, 27, 28, 29, 30, 31, 32, 33, 34, 35, 36, 37, 38] [0] [0, 1, 2, 3, 4, 5, 6, 7, 8, 9, 10, 11, 12, 13, 14, 15, 16, 17, 18, 19, 20, 21, 22, 23, 24, 25, 26, 27, 28, 29, 30, 31, 32, 33, 34, 35, 36, 37, 38] rfl rfl (fun _ => rfl) (by decide) ⟨Nat.le_of_ble_eq_true rfl, Nat.le_of_ble_eq_true rfl⟩ (fun v9 H locs hP hD hS => ?_)
  refine lv_i2l (v := k9.toInt64) hx hb dL_post_8 rfl ?_
  refine va_last hx hb hK hP hD hS 0 1 rfl rfl vp0 dL_post_9 (fun H locs hP hD hS => ?_)
  refine lv_goto (tgt := 21) hx hb dL_post_10 (by decide) ?_
  refine lv_iconst (v := 0) hx hb dL_post_21 (by decide) ?_
  exact fin v9 _ _ _ _ _ _ _ rfl hP hD hS (Nat.le_of_ble_eq_true rfl) (Nat.le_of_ble_eq_true rfl) dL_post_22
set_option maxHeartbeats 4000000 in
set_option maxRecDepth 100000 in
theorem c_L_post_1 (l : Launch) (D : va_G) (cI cL : ClassId) (o z : Nat) (g a b : Nat → Nat) (r u v : Rc) (x1 : Int32) (x2 : Int32) (f : Nat → Int64) (hM : CX l yX4_post wsX4_post ({ frames := 7, cells := 1, slots := 6, locals := 130 } : Room) D cI [.ref o, .int x1, .int x2] (wX cI o g a b r u v) "java/lang/IndexOutOfBoundsException") : CW l yL_post wsL_post ({ frames := 9, cells := 1, slots := 6, locals := 230 } : Room) D cI cL [.ref o, .int x1, .int x2, .ref z] (wL cL z f (wX cI o g a b r u v)) 1 (fun v9 => wL cL z f (wX cI o g a b r u v9)) := by
  refine CW.mk (cc := cL_post) (maxL := 5) (hh := [(0, 10, 13, 13), (0, 10, 17, 17)]) (by decide) rfl rfl (Nat.le_of_ble_eq_true rfl) ?_
  intro p e s m args below meth c A Q ls hx hb hts hown hml hK hN hT hTN hA hP hD hS hl htab fin
  have hKi := hK.sub (tys' := [(cI, .int)]) [0] rfl
  have hl : lv_has ls 5 [(0, .ref o), (1, .int x1), (2, .int x2), (3, .ref z)] := hl
  refine lv_aload_n hx hb dL_post_0 rfl (lv_at hl 3 rfl) ?_
  refine lv_iconst (v := 0) hx hb dL_post_1 (by decide) ?_
  refine lv_aload_n hx hb dL_post_2 rfl (lv_at hl 0 rfl) ?_
  refine lv_iload_n hx hb dL_post_3 rfl (lv_at hl 1 rfl) ?_
  refine lv_iload_n hx hb dL_post_4 rfl (lv_at hl 2 rfl) ?_
  refine ycallx (invXV (As := [.int x1, .int x2]) (rest := [.int 0, .ref z]) (rm := ({ frames := 7, cells := 1, slots := 6, locals := 130 } : Room)) ⟨hx, hb, hml, hown, hts⟩ (cwV 2 hts gL_post_X4_post rfl rfl rfl (by decide +kernel) ⟨Nat.le_of_ble_eq_true rfl, Nat.le_of_ble_eq_true rfl⟩) (va_recv hK hP (ci := 4) (q0 := 1) rfl rfl) rfl rfl hl.1 (Nat.le_of_ble_eq_true rfl) dL_post_5) hM hKi hN hT hA hP hD hS [1, 2, 3, 4, 5, 6, 7, 8, 9, 10, 11, 12, 13, 14, 15, 16, 17, 18, 19, 20, 21, 22, 23, 24, 25, 26, 27, 28, 29, 30, 31, 32, 33, 34, 35, 36, 37, 38] [0] [0, 1, 2, 3, 4, 5, 6, 7, 8, 9, 10, 11, 12, 13, 14, 15, 16, 17, 18, 19, 20, 21, 22, 23, 24, 25, 26, 27, 28, 29, 30, 31, 32, 33, 34, 35, 36, 37, 38] rfl rfl rfl (by decide) ⟨Nat.le_of_ble_eq_true rfl, Nat.le_of_ble_eq_true rfl⟩ (fun q9 ce H locs hP hD hS h1 h2 h3 => ?_)
  refine vx_catch (own := RL) (name := "java/lang/IndexOutOfBoundsException") (E := "java/lang/IndexOutOfBoundsException") hown [] ⟨0, 10, 13, 13⟩ [⟨0, 10, 17, 17⟩] (htab.trans rfl) (fun x9 h9 => nomatch h9) (by decide) (by decide) (hts (.classLink RL 13 "java/lang/IndexOutOfBoundsException") (by decide +kernel)) (va_Nw.use rfl (hT.1.1 (.castable "java/lang/IndexOutOfBoundsException" "java/lang/IndexOutOfBoundsException") (by decide))) h1 h2 h3 ?_
  refine lv_astore (lv' := [(4, .ref q9), (0, .ref o), (1, .int x1), (2, .int x2), (3, .ref z)]) hx hb dL_post_13 hl (by decide) rfl (fun ls hl => ?_)
  refine lv_iconst (v := 1) hx hb dL_post_15 (by decide) ?_
  exact fin v _ _ _ _ _ _ _ rfl hP hD hS (Nat.le_of_ble_eq_true rfl) (Nat.le_of_ble_eq_true rfl) dL_post_16
set_option maxHeartbeats 4000000 in
set_option maxRecDepth 100000 in
theorem c_L_post_2 (l : Launch) (D : va_G) (cI cL : ClassId) (o z : Nat) (g a b : Nat → Nat) (r u v : Rc) (x1 : Int32) (x2 : Int32) (f : Nat → Int64) (hM : CX l yX4_post wsX4_post ({ frames := 7, cells := 1, slots := 6, locals := 130 } : Room) D cI [.ref o, .int x1, .int x2] (wX cI o g a b r u v) "java/lang/IllegalStateException") : CW l yL_post wsL_post ({ frames := 9, cells := 1, slots := 6, locals := 230 } : Room) D cI cL [.ref o, .int x1, .int x2, .ref z] (wL cL z f (wX cI o g a b r u v)) 2 (fun v9 => wL cL z f (wX cI o g a b r u v9)) := by
  refine CW.mk (cc := cL_post) (maxL := 5) (hh := [(0, 10, 13, 13), (0, 10, 17, 17)]) (by decide) rfl rfl (Nat.le_of_ble_eq_true rfl) ?_
  intro p e s m args below meth c A Q ls hx hb hts hown hml hK hN hT hTN hA hP hD hS hl htab fin
  have hKi := hK.sub (tys' := [(cI, .int)]) [0] rfl
  have hl : lv_has ls 5 [(0, .ref o), (1, .int x1), (2, .int x2), (3, .ref z)] := hl
  refine lv_aload_n hx hb dL_post_0 rfl (lv_at hl 3 rfl) ?_
  refine lv_iconst (v := 0) hx hb dL_post_1 (by decide) ?_
  refine lv_aload_n hx hb dL_post_2 rfl (lv_at hl 0 rfl) ?_
  refine lv_iload_n hx hb dL_post_3 rfl (lv_at hl 1 rfl) ?_
  refine lv_iload_n hx hb dL_post_4 rfl (lv_at hl 2 rfl) ?_
  refine ycallx (invXV (As := [.int x1, .int x2]) (rest := [.int 0, .ref z]) (rm := ({ frames := 7, cells := 1, slots := 6, locals := 130 } : Room)) ⟨hx, hb, hml, hown, hts⟩ (cwV 2 hts gL_post_X4_post rfl rfl rfl (by decide +kernel) ⟨Nat.le_of_ble_eq_true rfl, Nat.le_of_ble_eq_true rfl⟩) (va_recv hK hP (ci := 4) (q0 := 1) rfl rfl) rfl rfl hl.1 (Nat.le_of_ble_eq_true rfl) dL_post_5) hM hKi hN hT hA hP hD hS [1, 2, 3, 4, 5, 6, 7, 8, 9, 10, 11, 12, 13, 14, 15, 16, 17, 18, 19, 20, 21, 22, 23, 24, 25, 26, 27, 28, 29, 30, 31, 32, 33, 34, 35, 36, 37, 38] [0] [0, 1, 2, 3, 4, 5, 6, 7, 8, 9, 10, 11, 12, 13, 14, 15, 16, 17, 18, 19, 20, 21, 22, 23, 24, 25, 26, 27, 28, 29, 30, 31, 32, 33, 34, 35, 36, 37, 38] rfl rfl rfl (by decide) ⟨Nat.le_of_ble_eq_true rfl, Nat.le_of_ble_eq_true rfl⟩ (fun q9 ce H locs hP hD hS h1 h2 h3 => ?_)
  refine vx_catch (own := RL) (name := "java/lang/IllegalStateException") (E := "java/lang/IllegalStateException") hown [⟨0, 10, 13, 13⟩] ⟨0, 10, 17, 17⟩ [] (htab.trans rfl) (fun x9 h9 => by
    simp only [List.mem_cons, List.not_mem_nil, or_false] at h9
    rcases h9 with rfl
    · exact Or.inr ⟨by decide, "java/lang/IndexOutOfBoundsException", hts (.classLink RL 13 "java/lang/IndexOutOfBoundsException") (by decide +kernel), hTN _ (show ("java/lang/IllegalStateException", "java/lang/IndexOutOfBoundsException") ∈ XNC by decide)⟩) (by decide) (by decide) (hts (.classLink RL 17 "java/lang/IllegalStateException") (by decide +kernel)) (va_Nw.use rfl (hT.1.1 (.castable "java/lang/IllegalStateException" "java/lang/IllegalStateException") (by decide))) h1 h2 h3 ?_
  refine lv_astore (lv' := [(4, .ref q9), (0, .ref o), (1, .int x1), (2, .int x2), (3, .ref z)]) hx hb dL_post_17 hl (by decide) rfl (fun ls hl => ?_)
  refine lv_iconst (v := 2) hx hb dL_post_19 (by decide) ?_
  exact fin v _ _ _ _ _ _ _ rfl hP hD hS (Nat.le_of_ble_eq_true rfl) (Nat.le_of_ble_eq_true rfl) dL_post_20
set_option maxHeartbeats 4000000 in
set_option maxRecDepth 100000 in
theorem c_L_hire (l : Launch) (D : va_G) (cI cL : ClassId) (o z : Nat) (g a b : Nat → Nat) (r u v r1 u1 : Rc) (x1 : Int32) (x2 : Int32) (f : Nat → Int64) (k9 : Int32) (hM : CIE l yX4_hire wsX4_hire ({ frames := 1, cells := 0, slots := 0, locals := 23 } : Room) D cI [.ref o, .int x1, .int x2] (wX cI o g a b r u v) k9 (fun v9 => wX cI o g a b r1 u1 v9)) : CW l yL_hire wsL_hire ({ frames := 9, cells := 1, slots := 6, locals := 230 } : Room) D cI cL [.ref o, .int x1, .int x2, .ref z] (wL cL z f (wX cI o g a b r u v)) 0 (fun v9 => wL cL z (vp_updL f 0 k9.toInt64) (wX cI o g a b r1 u1 v9)) := by
  refine CW.mk (cc := cL_hire) (maxL := 5) (hh := [(0, 10, 13, 15), (0, 10, 17, 17)]) (by decide) rfl rfl (Nat.le_of_ble_eq_true rfl) ?_
  intro p e s m args below meth c A Q ls hx hb hts hown hml hK hN hT hTN hA hP hD hS hl htab fin
  have hKi := hK.sub (tys' := [(cI, .int)]) [0] rfl
  have hl : lv_has ls 5 [(0, .ref o), (1, .int x1), (2, .int x2), (3, .ref z)] := hl
  refine lv_aload_n hx hb dL_hire_0 rfl (lv_at hl 3 rfl) ?_
  refine lv_iconst (v := 0) hx hb dL_hire_1 (by decide) ?_
  refine lv_aload_n hx hb dL_hire_2 rfl (lv_at hl 0 rfl) ?_
  refine lv_iload_n hx hb dL_hire_3 rfl (lv_at hl 1 rfl) ?_
  refine lv_iload_n hx hb dL_hire_4 rfl (lv_at hl 2 rfl) ?_
  refine ycalle (invV (As := [.int x1, .int x2]) (rest := [.int 0, .ref z]) (rm := ({ frames := 1, cells := 0, slots := 0, locals := 23 } : Room)) ⟨hx, hb, hml, hown, hts⟩ (cwV 2 hts gL_hire_X4_hire rfl rfl rfl (by decide +kernel) ⟨Nat.le_of_ble_eq_true rfl, Nat.le_of_ble_eq_true rfl⟩) (va_recv hK hP (ci := 4) (q0 := 1) rfl rfl) rfl rfl hl.1 (Nat.le_of_ble_eq_true rfl) dL_hire_5) hM hKi hN hA hP hD hS (W2 := fun v9 => wL cL z f (wX cI o g a b r1 u1 v9)) [1, 2, 3, 4, 5, 6, 7, 8, 9, 10, 11, 12, 13, 14, 15, 16, 17, 18, 19, 20, 21, 22, 23, 24, 25, 26, 27, 28, 29, 30, 31, 32, 33, 34, 35, 36, 37, 38] [0] [0, 1, 2, 3, 4, 5, 6, 7, 8, 9, 10, 11, 12, 13, 14, 15, 16, 17, 18, 19, 20, 21, 22, 23, 24, 25, 26, 27, 28, 29, 30, 31, 32, 33, 34, 35, 36, 37, 38] rfl rfl (fun _ => rfl) (by decide) ⟨Nat.le_of_ble_eq_true rfl, Nat.le_of_ble_eq_true rfl⟩ (fun v9 H locs hP hD hS => ?_)
  refine lv_i2l (v := k9.toInt64) hx hb dL_hire_8 rfl ?_
  refine va_last hx hb hK hP hD hS 0 1 rfl rfl vp0 dL_hire_9 (fun H locs hP hD hS => ?_)
  refine lv_goto (tgt := 21) hx hb dL_hire_10 (by decide) ?_
  refine lv_iconst (v := 0) hx hb dL_hire_21 (by decide) ?_
  exact fin v9 _ _ _ _ _ _ _ rfl hP hD hS (Nat.le_of_ble_eq_true rfl) (Nat.le_of_ble_eq_true rfl) dL_hire_22
set_option maxHeartbeats 4000000 in
set_option maxRecDepth 100000 in
theorem c_L_hire_1 (l : Launch) (D : va_G) (cI cL : ClassId) (o z : Nat) (g a b : Nat → Nat) (r u v : Rc) (x1 : Int32) (x2 : Int32) (f : Nat → Int64) (hM : CX l yX4_hire wsX4_hire ({ frames := 7, cells := 1, slots := 6, locals := 130 } : Room) D cI [.ref o, .int x1, .int x2] (wX cI o g a b r u v) "java/lang/IllegalArgumentException") : CW l yL_hire wsL_hire ({ frames := 9, cells := 1, slots := 6, locals := 230 } : Room) D cI cL [.ref o, .int x1, .int x2, .ref z] (wL cL z f (wX cI o g a b r u v)) 1 (fun v9 => wL cL z f (wX cI o g a b r u v9)) := by
  refine CW.mk (cc := cL_hire) (maxL := 5) (hh := [(0, 10, 13, 15), (0, 10, 17, 17)]) (by decide) rfl rfl (Nat.le_of_ble_eq_true rfl) ?_
  intro p e s m args below meth c A Q ls hx hb hts hown hml hK hN hT hTN hA hP hD hS hl htab fin
  have hKi := hK.sub (tys' := [(cI, .int)]) [0] rfl
  have hl : lv_has ls 5 [(0, .ref o), (1, .int x1), (2, .int x2), (3, .ref z)] := hl
  refine lv_aload_n hx hb dL_hire_0 rfl (lv_at hl 3 rfl) ?_
  refine lv_iconst (v := 0) hx hb dL_hire_1 (by decide) ?_
  refine lv_aload_n hx hb dL_hire_2 rfl (lv_at hl 0 rfl) ?_
  refine lv_iload_n hx hb dL_hire_3 rfl (lv_at hl 1 rfl) ?_
  refine lv_iload_n hx hb dL_hire_4 rfl (lv_at hl 2 rfl) ?_
  refine ycallx (invXV (As := [.int x1, .int x2]) (rest := [.int 0, .ref z]) (rm := ({ frames := 7, cells := 1, slots := 6, locals := 130 } : Room)) ⟨hx, hb, hml, hown, hts⟩ (cwV 2 hts gL_hire_X4_hire rfl rfl rfl (by decide +kernel) ⟨Nat.le_of_ble_eq_true rfl, Nat.le_of_ble_eq_true rfl⟩) (va_recv hK hP (ci := 4) (q0 := 1) rfl rfl) rfl rfl hl.1 (Nat.le_of_ble_eq_true rfl) dL_hire_5) hM hKi hN hT hA hP hD hS [1, 2, 3, 4, 5, 6, 7, 8, 9, 10, 11, 12, 13, 14, 15, 16, 17, 18, 19, 20, 21, 22, 23, 24, 25, 26, 27, 28, 29, 30, 31, 32, 33, 34, 35, 36, 37, 38] [0] [0, 1, 2, 3, 4, 5, 6, 7, 8, 9, 10, 11, 12, 13, 14, 15, 16, 17, 18, 19, 20, 21, 22, 23, 24, 25, 26, 27, 28, 29, 30, 31, 32, 33, 34, 35, 36, 37, 38] rfl rfl rfl (by decide) ⟨Nat.le_of_ble_eq_true rfl, Nat.le_of_ble_eq_true rfl⟩ (fun q9 ce H locs hP hD hS h1 h2 h3 => ?_)
  refine vx_catch (own := RL) (name := "java/lang/IllegalArgumentException") (E := "java/lang/IllegalArgumentException") hown [] ⟨0, 10, 13, 15⟩ [⟨0, 10, 17, 17⟩] (htab.trans rfl) (fun x9 h9 => nomatch h9) (by decide) (by decide) (hts (.classLink RL 15 "java/lang/IllegalArgumentException") (by decide +kernel)) (va_Nw.use rfl (hT.1.1 (.castable "java/lang/IllegalArgumentException" "java/lang/IllegalArgumentException") (by decide))) h1 h2 h3 ?_
  refine lv_astore (lv' := [(4, .ref q9), (0, .ref o), (1, .int x1), (2, .int x2), (3, .ref z)]) hx hb dL_hire_13 hl (by decide) rfl (fun ls hl => ?_)
  refine lv_iconst (v := 1) hx hb dL_hire_15 (by decide) ?_
  exact fin v _ _ _ _ _ _ _ rfl hP hD hS (Nat.le_of_ble_eq_true rfl) (Nat.le_of_ble_eq_true rfl) dL_hire_16
set_option maxHeartbeats 4000000 in
set_option maxRecDepth 100000 in
theorem c_L_hire_2 (l : Launch) (D : va_G) (cI cL : ClassId) (o z : Nat) (g a b : Nat → Nat) (r u v : Rc) (x1 : Int32) (x2 : Int32) (f : Nat → Int64) (hM : CX l yX4_hire wsX4_hire ({ frames := 7, cells := 1, slots := 6, locals := 130 } : Room) D cI [.ref o, .int x1, .int x2] (wX cI o g a b r u v) "java/lang/IllegalStateException") : CW l yL_hire wsL_hire ({ frames := 9, cells := 1, slots := 6, locals := 230 } : Room) D cI cL [.ref o, .int x1, .int x2, .ref z] (wL cL z f (wX cI o g a b r u v)) 2 (fun v9 => wL cL z f (wX cI o g a b r u v9)) := by
  refine CW.mk (cc := cL_hire) (maxL := 5) (hh := [(0, 10, 13, 15), (0, 10, 17, 17)]) (by decide) rfl rfl (Nat.le_of_ble_eq_true rfl) ?_
  intro p e s m args below meth c A Q ls hx hb hts hown hml hK hN hT hTN hA hP hD hS hl htab fin
  have hKi := hK.sub (tys' := [(cI, .int)]) [0] rfl
  have hl : lv_has ls 5 [(0, .ref o), (1, .int x1), (2, .int x2), (3, .ref z)] := hl
  refine lv_aload_n hx hb dL_hire_0 rfl (lv_at hl 3 rfl) ?_
  refine lv_iconst (v := 0) hx hb dL_hire_1 (by decide) ?_
  refine lv_aload_n hx hb dL_hire_2 rfl (lv_at hl 0 rfl) ?_
  refine lv_iload_n hx hb dL_hire_3 rfl (lv_at hl 1 rfl) ?_
  refine lv_iload_n hx hb dL_hire_4 rfl (lv_at hl 2 rfl) ?_
  refine ycallx (invXV (As := [.int x1, .int x2]) (rest := [.int 0, .ref z]) (rm := ({ frames := 7, cells := 1, slots := 6, locals := 130 } : Room)) ⟨hx, hb, hml, hown, hts⟩ (cwV 2 hts gL_hire_X4_hire rfl rfl rfl (by decide +kernel) ⟨Nat.le_of_ble_eq_true rfl, Nat.le_of_ble_eq_true rfl⟩) (va_recv hK hP (ci := 4) (q0 := 1) rfl rfl) rfl rfl hl.1 (Nat.le_of_ble_eq_true rfl) dL_hire_5) hM hKi hN hT hA hP hD hS [1, 2, 3, 4, 5, 6, 7, 8, 9, 10, 11, 12, 13, 14, 15, 16, 17, 18, 19, 20, 21, 22, 23, 24, 25, 26, 27, 28, 29, 30, 31, 32, 33, 34, 35, 36, 37, 38] [0] [0, 1, 2, 3, 4, 5, 6, 7, 8, 9, 10, 11, 12, 13, 14, 15, 16, 17, 18, 19, 20, 21, 22, 23, 24, 25, 26, 27, 28, 29, 30, 31, 32, 33, 34, 35, 36, 37, 38] rfl rfl rfl (by decide) ⟨Nat.le_of_ble_eq_true rfl, Nat.le_of_ble_eq_true rfl⟩ (fun q9 ce H locs hP hD hS h1 h2 h3 => ?_)
  refine vx_catch (own := RL) (name := "java/lang/IllegalStateException") (E := "java/lang/IllegalStateException") hown [⟨0, 10, 13, 15⟩] ⟨0, 10, 17, 17⟩ [] (htab.trans rfl) (fun x9 h9 => by
    simp only [List.mem_cons, List.not_mem_nil, or_false] at h9
    rcases h9 with rfl
    · exact Or.inr ⟨by decide, "java/lang/IllegalArgumentException", hts (.classLink RL 15 "java/lang/IllegalArgumentException") (by decide +kernel), hTN _ (show ("java/lang/IllegalStateException", "java/lang/IllegalArgumentException") ∈ XNC by decide)⟩) (by decide) (by decide) (hts (.classLink RL 17 "java/lang/IllegalStateException") (by decide +kernel)) (va_Nw.use rfl (hT.1.1 (.castable "java/lang/IllegalStateException" "java/lang/IllegalStateException") (by decide))) h1 h2 h3 ?_
  refine lv_astore (lv' := [(4, .ref q9), (0, .ref o), (1, .int x1), (2, .int x2), (3, .ref z)]) hx hb dL_hire_17 hl (by decide) rfl (fun ls hl => ?_)
  refine lv_iconst (v := 2) hx hb dL_hire_19 (by decide) ?_
  exact fin v _ _ _ _ _ _ _ rfl hP hD hS (Nat.le_of_ble_eq_true rfl) (Nat.le_of_ble_eq_true rfl) dL_hire_20
set_option maxHeartbeats 4000000 in
set_option maxRecDepth 100000 in
theorem c_L_assign (l : Launch) (D : va_G) (cI cL : ClassId) (o z : Nat) (g a b : Nat → Nat) (r u v r1 u1 : Rc) (x1 : Int32) (x2 : Int32) (f : Nat → Int64) (k9 : Int32) (hM : CIE l yX4_assign wsX4_assign ({ frames := 1, cells := 0, slots := 0, locals := 22 } : Room) D cI [.ref o, .int x1, .int x2] (wX cI o g a b r u v) k9 (fun v9 => wX cI o g a b r1 u1 v9)) : CW l yL_assign wsL_assign ({ frames := 9, cells := 1, slots := 6, locals := 230 } : Room) D cI cL [.ref o, .int x1, .int x2, .ref z] (wL cL z f (wX cI o g a b r u v)) 0 (fun v9 => wL cL z (vp_updL f 0 k9.toInt64) (wX cI o g a b r1 u1 v9)) := by
  refine CW.mk (cc := cL_assign) (maxL := 5) (hh := [(0, 10, 13, 13), (0, 10, 17, 15)]) (by decide) rfl rfl (Nat.le_of_ble_eq_true rfl) ?_
  intro p e s m args below meth c A Q ls hx hb hts hown hml hK hN hT hTN hA hP hD hS hl htab fin
  have hKi := hK.sub (tys' := [(cI, .int)]) [0] rfl
  have hl : lv_has ls 5 [(0, .ref o), (1, .int x1), (2, .int x2), (3, .ref z)] := hl
  refine lv_aload_n hx hb dL_assign_0 rfl (lv_at hl 3 rfl) ?_
  refine lv_iconst (v := 0) hx hb dL_assign_1 (by decide) ?_
  refine lv_aload_n hx hb dL_assign_2 rfl (lv_at hl 0 rfl) ?_
  refine lv_iload_n hx hb dL_assign_3 rfl (lv_at hl 1 rfl) ?_
  refine lv_iload_n hx hb dL_assign_4 rfl (lv_at hl 2 rfl) ?_
  refine ycalle (invV (As := [.int x1, .int x2]) (rest := [.int 0, .ref z]) (rm := ({ frames := 1, cells := 0, slots := 0, locals := 22 } : Room)) ⟨hx, hb, hml, hown, hts⟩ (cwV 2 hts gL_assign_X4_assign rfl rfl rfl (by decide +kernel) ⟨Nat.le_of_ble_eq_true rfl, Nat.le_of_ble_eq_true rfl⟩) (va_recv hK hP (ci := 4) (q0 := 1) rfl rfl) rfl rfl hl.1 (Nat.le_of_ble_eq_true rfl) dL_assign_5) hM hKi hN hA hP hD hS (W2 := fun v9 => wL cL z f (wX cI o g a b r1 u1 v9)) [1, 2, 3, 4, 5, 6, 7, 8, 9, 10, 11, 12, 13, 14, 15, 16, 17, 18, 19, 20, 21, 22, 23, 24, 25, 26, 27, 28, 29, 30, 31, 32, 33, 34, 35, 36, 37, 38] [0] [0, 1, 2, 3, 4, 5, 6, 7, 8, 9, 10, 11, 12, 13, 14, 15, 16, 17, 18, 19, 20, 21, 22, 23, 24, 25, 26, 27, 28, 29, 30, 31, 32, 33, 34, 35, 36, 37, 38] rfl rfl (fun _ => rfl) (by decide) ⟨Nat.le_of_ble_eq_true rfl, Nat.le_of_ble_eq_true rfl⟩ (fun v9 H locs hP hD hS => ?_)
  refine lv_i2l (v := k9.toInt64) hx hb dL_assign_8 rfl ?_
  refine va_last hx hb hK hP hD hS 0 1 rfl rfl vp0 dL_assign_9 (fun H locs hP hD hS => ?_)
  refine lv_goto (tgt := 21) hx hb dL_assign_10 (by decide) ?_
  refine lv_iconst (v := 0) hx hb dL_assign_21 (by decide) ?_
  exact fin v9 _ _ _ _ _ _ _ rfl hP hD hS (Nat.le_of_ble_eq_true rfl) (Nat.le_of_ble_eq_true rfl) dL_assign_22
set_option maxHeartbeats 4000000 in
set_option maxRecDepth 100000 in
theorem c_L_assign_1 (l : Launch) (D : va_G) (cI cL : ClassId) (o z : Nat) (g a b : Nat → Nat) (r u v : Rc) (x1 : Int32) (x2 : Int32) (f : Nat → Int64) (hM : CX l yX4_assign wsX4_assign ({ frames := 7, cells := 1, slots := 6, locals := 130 } : Room) D cI [.ref o, .int x1, .int x2] (wX cI o g a b r u v) "java/lang/IndexOutOfBoundsException") : CW l yL_assign wsL_assign ({ frames := 9, cells := 1, slots := 6, locals := 230 } : Room) D cI cL [.ref o, .int x1, .int x2, .ref z] (wL cL z f (wX cI o g a b r u v)) 1 (fun v9 => wL cL z f (wX cI o g a b r u v9)) := by
  refine CW.mk (cc := cL_assign) (maxL := 5) (hh := [(0, 10, 13, 13), (0, 10, 17, 15)]) (by decide) rfl rfl (Nat.le_of_ble_eq_true rfl) ?_
  intro p e s m args below meth c A Q ls hx hb hts hown hml hK hN hT hTN hA hP hD hS hl htab fin
  have hKi := hK.sub (tys' := [(cI, .int)]) [0] rfl
  have hl : lv_has ls 5 [(0, .ref o), (1, .int x1), (2, .int x2), (3, .ref z)] := hl
  refine lv_aload_n hx hb dL_assign_0 rfl (lv_at hl 3 rfl) ?_
  refine lv_iconst (v := 0) hx hb dL_assign_1 (by decide) ?_
  refine lv_aload_n hx hb dL_assign_2 rfl (lv_at hl 0 rfl) ?_
  refine lv_iload_n hx hb dL_assign_3 rfl (lv_at hl 1 rfl) ?_
  refine lv_iload_n hx hb dL_assign_4 rfl (lv_at hl 2 rfl) ?_
  refine ycallx (invXV (As := [.int x1, .int x2]) (rest := [.int 0, .ref z]) (rm := ({ frames := 7, cells := 1, slots := 6, locals := 130 } : Room)) ⟨hx, hb, hml, hown, hts⟩ (cwV 2 hts gL_assign_X4_assign rfl rfl rfl (by decide +kernel) ⟨Nat.le_of_ble_eq_true rfl, Nat.le_of_ble_eq_true rfl⟩) (va_recv hK hP (ci := 4) (q0 := 1) rfl rfl) rfl rfl hl.1 (Nat.le_of_ble_eq_true rfl) dL_assign_5) hM hKi hN hT hA hP hD hS [1, 2, 3, 4, 5, 6, 7, 8, 9, 10, 11, 12, 13, 14, 15, 16, 17, 18, 19, 20, 21, 22, 23, 24, 25, 26, 27, 28, 29, 30, 31, 32, 33, 34, 35, 36, 37, 38] [0] [0, 1, 2, 3, 4, 5, 6, 7, 8, 9, 10, 11, 12, 13, 14, 15, 16, 17, 18, 19, 20, 21, 22, 23, 24, 25, 26, 27, 28, 29, 30, 31, 32, 33, 34, 35, 36, 37, 38] rfl rfl rfl (by decide) ⟨Nat.le_of_ble_eq_true rfl, Nat.le_of_ble_eq_true rfl⟩ (fun q9 ce H locs hP hD hS h1 h2 h3 => ?_)
  refine vx_catch (own := RL) (name := "java/lang/IndexOutOfBoundsException") (E := "java/lang/IndexOutOfBoundsException") hown [] ⟨0, 10, 13, 13⟩ [⟨0, 10, 17, 15⟩] (htab.trans rfl) (fun x9 h9 => nomatch h9) (by decide) (by decide) (hts (.classLink RL 13 "java/lang/IndexOutOfBoundsException") (by decide +kernel)) (va_Nw.use rfl (hT.1.1 (.castable "java/lang/IndexOutOfBoundsException" "java/lang/IndexOutOfBoundsException") (by decide))) h1 h2 h3 ?_
  refine lv_astore (lv' := [(4, .ref q9), (0, .ref o), (1, .int x1), (2, .int x2), (3, .ref z)]) hx hb dL_assign_13 hl (by decide) rfl (fun ls hl => ?_)
  refine lv_iconst (v := 1) hx hb dL_assign_15 (by decide) ?_
  exact fin v _ _ _ _ _ _ _ rfl hP hD hS (Nat.le_of_ble_eq_true rfl) (Nat.le_of_ble_eq_true rfl) dL_assign_16
set_option maxHeartbeats 4000000 in
set_option maxRecDepth 100000 in
theorem c_L_assign_2 (l : Launch) (D : va_G) (cI cL : ClassId) (o z : Nat) (g a b : Nat → Nat) (r u v : Rc) (x1 : Int32) (x2 : Int32) (f : Nat → Int64) (hM : CX l yX4_assign wsX4_assign ({ frames := 7, cells := 1, slots := 6, locals := 130 } : Room) D cI [.ref o, .int x1, .int x2] (wX cI o g a b r u v) "java/lang/IllegalArgumentException") : CW l yL_assign wsL_assign ({ frames := 9, cells := 1, slots := 6, locals := 230 } : Room) D cI cL [.ref o, .int x1, .int x2, .ref z] (wL cL z f (wX cI o g a b r u v)) 2 (fun v9 => wL cL z f (wX cI o g a b r u v9)) := by
  refine CW.mk (cc := cL_assign) (maxL := 5) (hh := [(0, 10, 13, 13), (0, 10, 17, 15)]) (by decide) rfl rfl (Nat.le_of_ble_eq_true rfl) ?_
  intro p e s m args below meth c A Q ls hx hb hts hown hml hK hN hT hTN hA hP hD hS hl htab fin
  have hKi := hK.sub (tys' := [(cI, .int)]) [0] rfl
  have hl : lv_has ls 5 [(0, .ref o), (1, .int x1), (2, .int x2), (3, .ref z)] := hl
  refine lv_aload_n hx hb dL_assign_0 rfl (lv_at hl 3 rfl) ?_
  refine lv_iconst (v := 0) hx hb dL_assign_1 (by decide) ?_
  refine lv_aload_n hx hb dL_assign_2 rfl (lv_at hl 0 rfl) ?_
  refine lv_iload_n hx hb dL_assign_3 rfl (lv_at hl 1 rfl) ?_
  refine lv_iload_n hx hb dL_assign_4 rfl (lv_at hl 2 rfl) ?_
  refine ycallx (invXV (As := [.int x1, .int x2]) (rest := [.int 0, .ref z]) (rm := ({ frames := 7, cells := 1, slots := 6, locals := 130 } : Room)) ⟨hx, hb, hml, hown, hts⟩ (cwV 2 hts gL_assign_X4_assign rfl rfl rfl (by decide +kernel) ⟨Nat.le_of_ble_eq_true rfl, Nat.le_of_ble_eq_true rfl⟩) (va_recv hK hP (ci := 4) (q0 := 1) rfl rfl) rfl rfl hl.1 (Nat.le_of_ble_eq_true rfl) dL_assign_5) hM hKi hN hT hA hP hD hS [1, 2, 3, 4, 5, 6, 7, 8, 9, 10, 11, 12, 13, 14, 15, 16, 17, 18, 19, 20, 21, 22, 23, 24, 25, 26, 27, 28, 29, 30, 31, 32, 33, 34, 35, 36, 37, 38] [0] [0, 1, 2, 3, 4, 5, 6, 7, 8, 9, 10, 11, 12, 13, 14, 15, 16, 17, 18, 19, 20, 21, 22, 23, 24, 25, 26, 27, 28, 29, 30, 31, 32, 33, 34, 35, 36, 37, 38] rfl rfl rfl (by decide) ⟨Nat.le_of_ble_eq_true rfl, Nat.le_of_ble_eq_true rfl⟩ (fun q9 ce H locs hP hD hS h1 h2 h3 => ?_)
  refine vx_catch (own := RL) (name := "java/lang/IllegalArgumentException") (E := "java/lang/IllegalArgumentException") hown [⟨0, 10, 13, 13⟩] ⟨0, 10, 17, 15⟩ [] (htab.trans rfl) (fun x9 h9 => by
    simp only [List.mem_cons, List.not_mem_nil, or_false] at h9
    rcases h9 with rfl
    · exact Or.inr ⟨by decide, "java/lang/IndexOutOfBoundsException", hts (.classLink RL 13 "java/lang/IndexOutOfBoundsException") (by decide +kernel), hTN _ (show ("java/lang/IllegalArgumentException", "java/lang/IndexOutOfBoundsException") ∈ XNC by decide)⟩) (by decide) (by decide) (hts (.classLink RL 15 "java/lang/IllegalArgumentException") (by decide +kernel)) (va_Nw.use rfl (hT.1.1 (.castable "java/lang/IllegalArgumentException" "java/lang/IllegalArgumentException") (by decide))) h1 h2 h3 ?_
  refine lv_astore (lv' := [(4, .ref q9), (0, .ref o), (1, .int x1), (2, .int x2), (3, .ref z)]) hx hb dL_assign_17 hl (by decide) rfl (fun ls hl => ?_)
  refine lv_iconst (v := 2) hx hb dL_assign_19 (by decide) ?_
  exact fin v _ _ _ _ _ _ _ rfl hP hD hS (Nat.le_of_ble_eq_true rfl) (Nat.le_of_ble_eq_true rfl) dL_assign_20
set_option maxHeartbeats 4000000 in
set_option maxRecDepth 100000 in
theorem c_L_tea (l : Launch) (D : va_G) (cI cL : ClassId) (o z : Nat) (g a b : Nat → Nat) (r u v r1 u1 : Rc) (x1 : Int32) (f : Nat → Int64) (k9 : Int32) (hM : CIE l yX4_tea wsX4_tea ({ frames := 1, cells := 0, slots := 0, locals := 21 } : Room) D cI [.ref o, .int x1] (wX cI o g a b r u v) k9 (fun v9 => wX cI o g a b r1 u1 v9)) : CW l yL_tea wsL_tea ({ frames := 9, cells := 1, slots := 6, locals := 230 } : Room) D cI cL [.ref o, .int x1, .ref z] (wL cL z f (wX cI o g a b r u v)) 0 (fun v9 => wL cL z (vp_updL f 0 k9.toInt64) (wX cI o g a b r1 u1 v9)) := by
  refine CW.mk (cc := cL_tea) (maxL := 4) (hh := [(0, 9, 12, 13)]) (by decide) rfl rfl (Nat.le_of_ble_eq_true rfl) ?_
  intro p e s m args below meth c A Q ls hx hb hts hown hml hK hN hT hTN hA hP hD hS hl htab fin
  have hKi := hK.sub (tys' := [(cI, .int)]) [0] rfl
  have hl : lv_has ls 4 [(0, .ref o), (1, .int x1), (2, .ref z)] := hl
  refine lv_aload_n hx hb dL_tea_0 rfl (lv_at hl 2 rfl) ?_
  refine lv_iconst (v := 0) hx hb dL_tea_1 (by decide) ?_
  refine lv_aload_n hx hb dL_tea_2 rfl (lv_at hl 0 rfl) ?_
  refine lv_iload_n hx hb dL_tea_3 rfl (lv_at hl 1 rfl) ?_
  refine ycalle (invV (As := [.int x1]) (rest := [.int 0, .ref z]) (rm := ({ frames := 1, cells := 0, slots := 0, locals := 21 } : Room)) ⟨hx, hb, hml, hown, hts⟩ (cwV 1 hts gL_tea_X4_tea rfl rfl rfl (by decide +kernel) ⟨Nat.le_of_ble_eq_true rfl, Nat.le_of_ble_eq_true rfl⟩) (va_recv hK hP (ci := 4) (q0 := 1) rfl rfl) rfl rfl hl.1 (Nat.le_of_ble_eq_true rfl) dL_tea_4) hM hKi hN hA hP hD hS (W2 := fun v9 => wL cL z f (wX cI o g a b r1 u1 v9)) [1, 2, 3, 4, 5, 6, 7, 8, 9, 10, 11, 12, 13, 14, 15, 16, 17, 18, 19, 20, 21, 22, 23, 24, 25, 26, 27, 28, 29, 30, 31, 32, 33, 34, 35, 36, 37, 38] [0] [0, 1, 2, 3, 4, 5, 6, 7, 8, 9, 10, 11, 12, 13, 14, 15, 16, 17, 18, 19, 20, 21, 22, 23, 24, 25, 26, 27, 28, 29, 30, 31, 32, 33, 34, 35, 36, 37, 38] rfl rfl (fun _ => rfl) (by decide) ⟨Nat.le_of_ble_eq_true rfl, Nat.le_of_ble_eq_true rfl⟩ (fun v9 H locs hP hD hS => ?_)
  refine lv_i2l (v := k9.toInt64) hx hb dL_tea_7 rfl ?_
  refine va_last hx hb hK hP hD hS 0 1 rfl rfl vp0 dL_tea_8 (fun H locs hP hD hS => ?_)
  refine lv_goto (tgt := 15) hx hb dL_tea_9 (by decide) ?_
  refine lv_iconst (v := 0) hx hb dL_tea_15 (by decide) ?_
  exact fin v9 _ _ _ _ _ _ _ rfl hP hD hS (Nat.le_of_ble_eq_true rfl) (Nat.le_of_ble_eq_true rfl) dL_tea_16
set_option maxHeartbeats 4000000 in
set_option maxRecDepth 100000 in
theorem c_L_tea_1 (l : Launch) (D : va_G) (cI cL : ClassId) (o z : Nat) (g a b : Nat → Nat) (r u v : Rc) (x1 : Int32) (f : Nat → Int64) (hM : CX l yX4_tea wsX4_tea ({ frames := 7, cells := 1, slots := 6, locals := 130 } : Room) D cI [.ref o, .int x1] (wX cI o g a b r u v) "java/lang/IndexOutOfBoundsException") : CW l yL_tea wsL_tea ({ frames := 9, cells := 1, slots := 6, locals := 230 } : Room) D cI cL [.ref o, .int x1, .ref z] (wL cL z f (wX cI o g a b r u v)) 1 (fun v9 => wL cL z f (wX cI o g a b r u v9)) := by
  refine CW.mk (cc := cL_tea) (maxL := 4) (hh := [(0, 9, 12, 13)]) (by decide) rfl rfl (Nat.le_of_ble_eq_true rfl) ?_
  intro p e s m args below meth c A Q ls hx hb hts hown hml hK hN hT hTN hA hP hD hS hl htab fin
  have hKi := hK.sub (tys' := [(cI, .int)]) [0] rfl
  have hl : lv_has ls 4 [(0, .ref o), (1, .int x1), (2, .ref z)] := hl
  refine lv_aload_n hx hb dL_tea_0 rfl (lv_at hl 2 rfl) ?_
  refine lv_iconst (v := 0) hx hb dL_tea_1 (by decide) ?_
  refine lv_aload_n hx hb dL_tea_2 rfl (lv_at hl 0 rfl) ?_
  refine lv_iload_n hx hb dL_tea_3 rfl (lv_at hl 1 rfl) ?_
  refine ycallx (invXV (As := [.int x1]) (rest := [.int 0, .ref z]) (rm := ({ frames := 7, cells := 1, slots := 6, locals := 130 } : Room)) ⟨hx, hb, hml, hown, hts⟩ (cwV 1 hts gL_tea_X4_tea rfl rfl rfl (by decide +kernel) ⟨Nat.le_of_ble_eq_true rfl, Nat.le_of_ble_eq_true rfl⟩) (va_recv hK hP (ci := 4) (q0 := 1) rfl rfl) rfl rfl hl.1 (Nat.le_of_ble_eq_true rfl) dL_tea_4) hM hKi hN hT hA hP hD hS [1, 2, 3, 4, 5, 6, 7, 8, 9, 10, 11, 12, 13, 14, 15, 16, 17, 18, 19, 20, 21, 22, 23, 24, 25, 26, 27, 28, 29, 30, 31, 32, 33, 34, 35, 36, 37, 38] [0] [0, 1, 2, 3, 4, 5, 6, 7, 8, 9, 10, 11, 12, 13, 14, 15, 16, 17, 18, 19, 20, 21, 22, 23, 24, 25, 26, 27, 28, 29, 30, 31, 32, 33, 34, 35, 36, 37, 38] rfl rfl rfl (by decide) ⟨Nat.le_of_ble_eq_true rfl, Nat.le_of_ble_eq_true rfl⟩ (fun q9 ce H locs hP hD hS h1 h2 h3 => ?_)
  refine vx_catch (own := RL) (name := "java/lang/IndexOutOfBoundsException") (E := "java/lang/IndexOutOfBoundsException") hown [] ⟨0, 9, 12, 13⟩ [] (htab.trans rfl) (fun x9 h9 => nomatch h9) (by decide) (by decide) (hts (.classLink RL 13 "java/lang/IndexOutOfBoundsException") (by decide +kernel)) (va_Nw.use rfl (hT.1.1 (.castable "java/lang/IndexOutOfBoundsException" "java/lang/IndexOutOfBoundsException") (by decide))) h1 h2 h3 ?_
  refine lv_astore_n (lv' := [(3, .ref q9), (0, .ref o), (1, .int x1), (2, .ref z)]) hx hb dL_tea_12 rfl hl (by decide) rfl (fun ls hl => ?_)
  refine lv_iconst (v := 1) hx hb dL_tea_13 (by decide) ?_
  exact fin v _ _ _ _ _ _ _ rfl hP hD hS (Nat.le_of_ble_eq_true rfl) (Nat.le_of_ble_eq_true rfl) dL_tea_14
set_option maxHeartbeats 4000000 in
set_option maxRecDepth 100000 in
theorem c_L_letter (l : Launch) (D : va_G) (cI cL : ClassId) (o z : Nat) (g a b : Nat → Nat) (r u v r1 u1 : Rc) (x1 : Int32) (x2 : Int32) (f : Nat → Int64) (k9 : Int32) (hM : CIE l yX4_letter wsX4_letter ({ frames := 1, cells := 0, slots := 0, locals := 22 } : Room) D cI [.ref o, .int x1, .int x2] (wX cI o g a b r u v) k9 (fun v9 => wX cI o g a b r1 u1 v9)) : CW l yL_letter wsL_letter ({ frames := 9, cells := 1, slots := 6, locals := 230 } : Room) D cI cL [.ref o, .int x1, .int x2, .ref z] (wL cL z f (wX cI o g a b r u v)) 0 (fun v9 => wL cL z (vp_updL f 0 k9.toInt64) (wX cI o g a b r1 u1 v9)) := by
  refine CW.mk (cc := cL_letter) (maxL := 5) (hh := [(0, 10, 13, 13)]) (by decide) rfl rfl (Nat.le_of_ble_eq_true rfl) ?_
  intro p e s m args below meth c A Q ls hx hb hts hown hml hK hN hT hTN hA hP hD hS hl htab fin
  have hKi := hK.sub (tys' := [(cI, .int)]) [0] rfl
  have hl : lv_has ls 5 [(0, .ref o), (1, .int x1), (2, .int x2), (3, .ref z)] := hl
  refine lv_aload_n hx hb dL_letter_0 rfl (lv_at hl 3 rfl) ?_
  refine lv_iconst (v := 0) hx hb dL_letter_1 (by decide) ?_
  refine lv_aload_n hx hb dL_letter_2 rfl (lv_at hl 0 rfl) ?_
  refine lv_iload_n hx hb dL_letter_3 rfl (lv_at hl 1 rfl) ?_
  refine lv_iload_n hx hb dL_letter_4 rfl (lv_at hl 2 rfl) ?_
  refine ycalle (invV (As := [.int x1, .int x2]) (rest := [.int 0, .ref z]) (rm := ({ frames := 1, cells := 0, slots := 0, locals := 22 } : Room)) ⟨hx, hb, hml, hown, hts⟩ (cwV 2 hts gL_letter_X4_letter rfl rfl rfl (by decide +kernel) ⟨Nat.le_of_ble_eq_true rfl, Nat.le_of_ble_eq_true rfl⟩) (va_recv hK hP (ci := 4) (q0 := 1) rfl rfl) rfl rfl hl.1 (Nat.le_of_ble_eq_true rfl) dL_letter_5) hM hKi hN hA hP hD hS (W2 := fun v9 => wL cL z f (wX cI o g a b r1 u1 v9)) [1, 2, 3, 4, 5, 6, 7, 8, 9, 10, 11, 12, 13, 14, 15, 16, 17, 18, 19, 20, 21, 22, 23, 24, 25, 26, 27, 28, 29, 30, 31, 32, 33, 34, 35, 36, 37, 38] [0] [0, 1, 2, 3, 4, 5, 6, 7, 8, 9, 10, 11, 12, 13, 14, 15, 16, 17, 18, 19, 20, 21, 22, 23, 24, 25, 26, 27, 28, 29, 30, 31, 32, 33, 34, 35, 36, 37, 38] rfl rfl (fun _ => rfl) (by decide) ⟨Nat.le_of_ble_eq_true rfl, Nat.le_of_ble_eq_true rfl⟩ (fun v9 H locs hP hD hS => ?_)
  refine lv_i2l (v := k9.toInt64) hx hb dL_letter_8 rfl ?_
  refine va_last hx hb hK hP hD hS 0 1 rfl rfl vp0 dL_letter_9 (fun H locs hP hD hS => ?_)
  refine lv_goto (tgt := 17) hx hb dL_letter_10 (by decide) ?_
  refine lv_iconst (v := 0) hx hb dL_letter_17 (by decide) ?_
  exact fin v9 _ _ _ _ _ _ _ rfl hP hD hS (Nat.le_of_ble_eq_true rfl) (Nat.le_of_ble_eq_true rfl) dL_letter_18
set_option maxHeartbeats 4000000 in
set_option maxRecDepth 100000 in
theorem c_L_letter_1 (l : Launch) (D : va_G) (cI cL : ClassId) (o z : Nat) (g a b : Nat → Nat) (r u v : Rc) (x1 : Int32) (x2 : Int32) (f : Nat → Int64) (hM : CX l yX4_letter wsX4_letter ({ frames := 7, cells := 1, slots := 6, locals := 130 } : Room) D cI [.ref o, .int x1, .int x2] (wX cI o g a b r u v) "java/lang/IndexOutOfBoundsException") : CW l yL_letter wsL_letter ({ frames := 9, cells := 1, slots := 6, locals := 230 } : Room) D cI cL [.ref o, .int x1, .int x2, .ref z] (wL cL z f (wX cI o g a b r u v)) 1 (fun v9 => wL cL z f (wX cI o g a b r u v9)) := by
  refine CW.mk (cc := cL_letter) (maxL := 5) (hh := [(0, 10, 13, 13)]) (by decide) rfl rfl (Nat.le_of_ble_eq_true rfl) ?_
  intro p e s m args below meth c A Q ls hx hb hts hown hml hK hN hT hTN hA hP hD hS hl htab fin
  have hKi := hK.sub (tys' := [(cI, .int)]) [0] rfl
  have hl : lv_has ls 5 [(0, .ref o), (1, .int x1), (2, .int x2), (3, .ref z)] := hl
  refine lv_aload_n hx hb dL_letter_0 rfl (lv_at hl 3 rfl) ?_
  refine lv_iconst (v := 0) hx hb dL_letter_1 (by decide) ?_
  refine lv_aload_n hx hb dL_letter_2 rfl (lv_at hl 0 rfl) ?_
  refine lv_iload_n hx hb dL_letter_3 rfl (lv_at hl 1 rfl) ?_
  refine lv_iload_n hx hb dL_letter_4 rfl (lv_at hl 2 rfl) ?_
  refine ycallx (invXV (As := [.int x1, .int x2]) (rest := [.int 0, .ref z]) (rm := ({ frames := 7, cells := 1, slots := 6, locals := 130 } : Room)) ⟨hx, hb, hml, hown, hts⟩ (cwV 2 hts gL_letter_X4_letter rfl rfl rfl (by decide +kernel) ⟨Nat.le_of_ble_eq_true rfl, Nat.le_of_ble_eq_true rfl⟩) (va_recv hK hP (ci := 4) (q0 := 1) rfl rfl) rfl rfl hl.1 (Nat.le_of_ble_eq_true rfl) dL_letter_5) hM hKi hN hT hA hP hD hS [1, 2, 3, 4, 5, 6, 7, 8, 9, 10, 11, 12, 13, 14, 15, 16, 17, 18, 19, 20, 21, 22, 23, 24, 25, 26, 27, 28, 29, 30, 31, 32, 33, 34, 35, 36, 37, 38] [0] [0, 1, 2, 3, 4, 5, 6, 7, 8, 9, 10, 11, 12, 13, 14, 15, 16, 17, 18, 19, 20, 21, 22, 23, 24, 25, 26, 27, 28, 29, 30, 31, 32, 33, 34, 35, 36, 37, 38] rfl rfl rfl (by decide) ⟨Nat.le_of_ble_eq_true rfl, Nat.le_of_ble_eq_true rfl⟩ (fun q9 ce H locs hP hD hS h1 h2 h3 => ?_)
  refine vx_catch (own := RL) (name := "java/lang/IndexOutOfBoundsException") (E := "java/lang/IndexOutOfBoundsException") hown [] ⟨0, 10, 13, 13⟩ [] (htab.trans rfl) (fun x9 h9 => nomatch h9) (by decide) (by decide) (hts (.classLink RL 13 "java/lang/IndexOutOfBoundsException") (by decide +kernel)) (va_Nw.use rfl (hT.1.1 (.castable "java/lang/IndexOutOfBoundsException" "java/lang/IndexOutOfBoundsException") (by decide))) h1 h2 h3 ?_
  refine lv_astore (lv' := [(4, .ref q9), (0, .ref o), (1, .int x1), (2, .int x2), (3, .ref z)]) hx hb dL_letter_13 hl (by decide) rfl (fun ls hl => ?_)
  refine lv_iconst (v := 1) hx hb dL_letter_15 (by decide) ?_
  exact fin v _ _ _ _ _ _ _ rfl hP hD hS (Nat.le_of_ble_eq_true rfl) (Nat.le_of_ble_eq_true rfl) dL_letter_16
set_option maxHeartbeats 4000000 in
set_option maxRecDepth 100000 in
theorem c_L_sorter (l : Launch) (D : va_G) (cI cL : ClassId) (o z : Nat) (g a b : Nat → Nat) (r u v r1 u1 : Rc) (x1 : Int32) (x2 : Int32) (f : Nat → Int64) (k9 : Int32) (hM : CIE l yX4_sorter wsX4_sorter ({ frames := 1, cells := 0, slots := 0, locals := 22 } : Room) D cI [.ref o, .int x1, .int x2] (wX cI o g a b r u v) k9 (fun v9 => wX cI o g a b r1 u1 v9)) : CW l yL_sorter wsL_sorter ({ frames := 9, cells := 1, slots := 6, locals := 230 } : Room) D cI cL [.ref o, .int x1, .int x2, .ref z] (wL cL z f (wX cI o g a b r u v)) 0 (fun v9 => wL cL z (vp_updL f 0 k9.toInt64) (wX cI o g a b r1 u1 v9)) := by
  refine CW.mk (cc := cL_sorter) (maxL := 5) (hh := [(0, 10, 13, 13)]) (by decide) rfl rfl (Nat.le_of_ble_eq_true rfl) ?_
  intro p e s m args below meth c A Q ls hx hb hts hown hml hK hN hT hTN hA hP hD hS hl htab fin
  have hKi := hK.sub (tys' := [(cI, .int)]) [0] rfl
  have hl : lv_has ls 5 [(0, .ref o), (1, .int x1), (2, .int x2), (3, .ref z)] := hl
  refine lv_aload_n hx hb dL_sorter_0 rfl (lv_at hl 3 rfl) ?_
  refine lv_iconst (v := 0) hx hb dL_sorter_1 (by decide) ?_
  refine lv_aload_n hx hb dL_sorter_2 rfl (lv_at hl 0 rfl) ?_
  refine lv_iload_n hx hb dL_sorter_3 rfl (lv_at hl 1 rfl) ?_
  refine lv_iload_n hx hb dL_sorter_4 rfl (lv_at hl 2 rfl) ?_
  refine ycalle (invV (As := [.int x1, .int x2]) (rest := [.int 0, .ref z]) (rm := ({ frames := 1, cells := 0, slots := 0, locals := 22 } : Room)) ⟨hx, hb, hml, hown, hts⟩ (cwV 2 hts gL_sorter_X4_sorter rfl rfl rfl (by decide +kernel) ⟨Nat.le_of_ble_eq_true rfl, Nat.le_of_ble_eq_true rfl⟩) (va_recv hK hP (ci := 4) (q0 := 1) rfl rfl) rfl rfl hl.1 (Nat.le_of_ble_eq_true rfl) dL_sorter_5) hM hKi hN hA hP hD hS (W2 := fun v9 => wL cL z f (wX cI o g a b r1 u1 v9)) [1, 2, 3, 4, 5, 6, 7, 8, 9, 10, 11, 12, 13, 14, 15, 16, 17, 18, 19, 20, 21, 22, 23, 24, 25, 26, 27, 28, 29, 30, 31, 32, 33, 34, 35, 36, 37, 38] [0] [0, 1, 2, 3, 4, 5, 6, 7, 8, 9, 10, 11, 12, 13, 14, 15, 16, 17, 18, 19, 20, 21, 22, 23, 24, 25, 26, 27, 28, 29, 30, 31, 32, 33, 34, 35, 36, 37, 38] rfl rfl (fun _ => rfl) (by decide) ⟨Nat.le_of_ble_eq_true rfl, Nat.le_of_ble_eq_true rfl⟩ (fun v9 H locs hP hD hS => ?_)
  refine lv_i2l (v := k9.toInt64) hx hb dL_sorter_8 rfl ?_
  refine va_last hx hb hK hP hD hS 0 1 rfl rfl vp0 dL_sorter_9 (fun H locs hP hD hS => ?_)
  refine lv_goto (tgt := 17) hx hb dL_sorter_10 (by decide) ?_
  refine lv_iconst (v := 0) hx hb dL_sorter_17 (by decide) ?_
  exact fin v9 _ _ _ _ _ _ _ rfl hP hD hS (Nat.le_of_ble_eq_true rfl) (Nat.le_of_ble_eq_true rfl) dL_sorter_18
set_option maxHeartbeats 4000000 in
set_option maxRecDepth 100000 in
theorem c_L_sorter_1 (l : Launch) (D : va_G) (cI cL : ClassId) (o z : Nat) (g a b : Nat → Nat) (r u v : Rc) (x1 : Int32) (x2 : Int32) (f : Nat → Int64) (hM : CX l yX4_sorter wsX4_sorter ({ frames := 7, cells := 1, slots := 6, locals := 130 } : Room) D cI [.ref o, .int x1, .int x2] (wX cI o g a b r u v) "java/lang/IndexOutOfBoundsException") : CW l yL_sorter wsL_sorter ({ frames := 9, cells := 1, slots := 6, locals := 230 } : Room) D cI cL [.ref o, .int x1, .int x2, .ref z] (wL cL z f (wX cI o g a b r u v)) 1 (fun v9 => wL cL z f (wX cI o g a b r u v9)) := by
  refine CW.mk (cc := cL_sorter) (maxL := 5) (hh := [(0, 10, 13, 13)]) (by decide) rfl rfl (Nat.le_of_ble_eq_true rfl) ?_
  intro p e s m args below meth c A Q ls hx hb hts hown hml hK hN hT hTN hA hP hD hS hl htab fin
  have hKi := hK.sub (tys' := [(cI, .int)]) [0] rfl
  have hl : lv_has ls 5 [(0, .ref o), (1, .int x1), (2, .int x2), (3, .ref z)] := hl
  refine lv_aload_n hx hb dL_sorter_0 rfl (lv_at hl 3 rfl) ?_
  refine lv_iconst (v := 0) hx hb dL_sorter_1 (by decide) ?_
  refine lv_aload_n hx hb dL_sorter_2 rfl (lv_at hl 0 rfl) ?_
  refine lv_iload_n hx hb dL_sorter_3 rfl (lv_at hl 1 rfl) ?_
  refine lv_iload_n hx hb dL_sorter_4 rfl (lv_at hl 2 rfl) ?_
  refine ycallx (invXV (As := [.int x1, .int x2]) (rest := [.int 0, .ref z]) (rm := ({ frames := 7, cells := 1, slots := 6, locals := 130 } : Room)) ⟨hx, hb, hml, hown, hts⟩ (cwV 2 hts gL_sorter_X4_sorter rfl rfl rfl (by decide +kernel) ⟨Nat.le_of_ble_eq_true rfl, Nat.le_of_ble_eq_true rfl⟩) (va_recv hK hP (ci := 4) (q0 := 1) rfl rfl) rfl rfl hl.1 (Nat.le_of_ble_eq_true rfl) dL_sorter_5) hM hKi hN hT hA hP hD hS [1, 2, 3, 4, 5, 6, 7, 8, 9, 10, 11, 12, 13, 14, 15, 16, 17, 18, 19, 20, 21, 22, 23, 24, 25, 26, 27, 28, 29, 30, 31, 32, 33, 34, 35, 36, 37, 38] [0] [0, 1, 2, 3, 4, 5, 6, 7, 8, 9, 10, 11, 12, 13, 14, 15, 16, 17, 18, 19, 20, 21, 22, 23, 24, 25, 26, 27, 28, 29, 30, 31, 32, 33, 34, 35, 36, 37, 38] rfl rfl rfl (by decide) ⟨Nat.le_of_ble_eq_true rfl, Nat.le_of_ble_eq_true rfl⟩ (fun q9 ce H locs hP hD hS h1 h2 h3 => ?_)
  refine vx_catch (own := RL) (name := "java/lang/IndexOutOfBoundsException") (E := "java/lang/IndexOutOfBoundsException") hown [] ⟨0, 10, 13, 13⟩ [] (htab.trans rfl) (fun x9 h9 => nomatch h9) (by decide) (by decide) (hts (.classLink RL 13 "java/lang/IndexOutOfBoundsException") (by decide +kernel)) (va_Nw.use rfl (hT.1.1 (.castable "java/lang/IndexOutOfBoundsException" "java/lang/IndexOutOfBoundsException") (by decide))) h1 h2 h3 ?_
  refine lv_astore (lv' := [(4, .ref q9), (0, .ref o), (1, .int x1), (2, .int x2), (3, .ref z)]) hx hb dL_sorter_13 hl (by decide) rfl (fun ls hl => ?_)
  refine lv_iconst (v := 1) hx hb dL_sorter_15 (by decide) ?_
  exact fin v _ _ _ _ _ _ _ rfl hP hD hS (Nat.le_of_ble_eq_true rfl) (Nat.le_of_ble_eq_true rfl) dL_sorter_16
set_option maxHeartbeats 4000000 in
set_option maxRecDepth 100000 in
theorem c_L_hole (l : Launch) (D : va_G) (cI cL : ClassId) (o z : Nat) (g a b : Nat → Nat) (r u v r1 u1 : Rc) (x1 : Int32) (f : Nat → Int64) (k9 : Int32) (hM : CIE l yX4_hole wsX4_hole ({ frames := 1, cells := 0, slots := 0, locals := 21 } : Room) D cI [.ref o, .int x1] (wX cI o g a b r u v) k9 (fun v9 => wX cI o g a b r1 u1 v9)) : CW l yL_hole wsL_hole ({ frames := 9, cells := 1, slots := 6, locals := 230 } : Room) D cI cL [.ref o, .int x1, .ref z] (wL cL z f (wX cI o g a b r u v)) 0 (fun v9 => wL cL z (vp_updL f 0 k9.toInt64) (wX cI o g a b r1 u1 v9)) := by
  refine CW.mk (cc := cL_hole) (maxL := 4) (hh := [(0, 9, 12, 13)]) (by decide) rfl rfl (Nat.le_of_ble_eq_true rfl) ?_
  intro p e s m args below meth c A Q ls hx hb hts hown hml hK hN hT hTN hA hP hD hS hl htab fin
  have hKi := hK.sub (tys' := [(cI, .int)]) [0] rfl
  have hl : lv_has ls 4 [(0, .ref o), (1, .int x1), (2, .ref z)] := hl
  refine lv_aload_n hx hb dL_hole_0 rfl (lv_at hl 2 rfl) ?_
  refine lv_iconst (v := 0) hx hb dL_hole_1 (by decide) ?_
  refine lv_aload_n hx hb dL_hole_2 rfl (lv_at hl 0 rfl) ?_
  refine lv_iload_n hx hb dL_hole_3 rfl (lv_at hl 1 rfl) ?_
  refine ycalle (invV (As := [.int x1]) (rest := [.int 0, .ref z]) (rm := ({ frames := 1, cells := 0, slots := 0, locals := 21 } : Room)) ⟨hx, hb, hml, hown, hts⟩ (cwV 1 hts gL_hole_X4_hole rfl rfl rfl (by decide +kernel) ⟨Nat.le_of_ble_eq_true rfl, Nat.le_of_ble_eq_true rfl⟩) (va_recv hK hP (ci := 4) (q0 := 1) rfl rfl) rfl rfl hl.1 (Nat.le_of_ble_eq_true rfl) dL_hole_4) hM hKi hN hA hP hD hS (W2 := fun v9 => wL cL z f (wX cI o g a b r1 u1 v9)) [1, 2, 3, 4, 5, 6, 7, 8, 9, 10, 11, 12, 13, 14, 15, 16, 17, 18, 19, 20, 21, 22, 23, 24, 25, 26, 27, 28, 29, 30, 31, 32, 33, 34, 35, 36, 37, 38] [0] [0, 1, 2, 3, 4, 5, 6, 7, 8, 9, 10, 11, 12, 13, 14, 15, 16, 17, 18, 19, 20, 21, 22, 23, 24, 25, 26, 27, 28, 29, 30, 31, 32, 33, 34, 35, 36, 37, 38] rfl rfl (fun _ => rfl) (by decide) ⟨Nat.le_of_ble_eq_true rfl, Nat.le_of_ble_eq_true rfl⟩ (fun v9 H locs hP hD hS => ?_)
  refine lv_i2l (v := k9.toInt64) hx hb dL_hole_7 rfl ?_
  refine va_last hx hb hK hP hD hS 0 1 rfl rfl vp0 dL_hole_8 (fun H locs hP hD hS => ?_)
  refine lv_goto (tgt := 15) hx hb dL_hole_9 (by decide) ?_
  refine lv_iconst (v := 0) hx hb dL_hole_15 (by decide) ?_
  exact fin v9 _ _ _ _ _ _ _ rfl hP hD hS (Nat.le_of_ble_eq_true rfl) (Nat.le_of_ble_eq_true rfl) dL_hole_16
set_option maxHeartbeats 4000000 in
set_option maxRecDepth 100000 in
theorem c_L_hole_1 (l : Launch) (D : va_G) (cI cL : ClassId) (o z : Nat) (g a b : Nat → Nat) (r u v : Rc) (x1 : Int32) (f : Nat → Int64) (hM : CX l yX4_hole wsX4_hole ({ frames := 7, cells := 1, slots := 6, locals := 130 } : Room) D cI [.ref o, .int x1] (wX cI o g a b r u v) "java/lang/IndexOutOfBoundsException") : CW l yL_hole wsL_hole ({ frames := 9, cells := 1, slots := 6, locals := 230 } : Room) D cI cL [.ref o, .int x1, .ref z] (wL cL z f (wX cI o g a b r u v)) 1 (fun v9 => wL cL z f (wX cI o g a b r u v9)) := by
  refine CW.mk (cc := cL_hole) (maxL := 4) (hh := [(0, 9, 12, 13)]) (by decide) rfl rfl (Nat.le_of_ble_eq_true rfl) ?_
  intro p e s m args below meth c A Q ls hx hb hts hown hml hK hN hT hTN hA hP hD hS hl htab fin
  have hKi := hK.sub (tys' := [(cI, .int)]) [0] rfl
  have hl : lv_has ls 4 [(0, .ref o), (1, .int x1), (2, .ref z)] := hl
  refine lv_aload_n hx hb dL_hole_0 rfl (lv_at hl 2 rfl) ?_
  refine lv_iconst (v := 0) hx hb dL_hole_1 (by decide) ?_
  refine lv_aload_n hx hb dL_hole_2 rfl (lv_at hl 0 rfl) ?_
  refine lv_iload_n hx hb dL_hole_3 rfl (lv_at hl 1 rfl) ?_
  refine ycallx (invXV (As := [.int x1]) (rest := [.int 0, .ref z]) (rm := ({ frames := 7, cells := 1, slots := 6, locals := 130 } : Room)) ⟨hx, hb, hml, hown, hts⟩ (cwV 1 hts gL_hole_X4_hole rfl rfl rfl (by decide +kernel) ⟨Nat.le_of_ble_eq_true rfl, Nat.le_of_ble_eq_true rfl⟩) (va_recv hK hP (ci := 4) (q0 := 1) rfl rfl) rfl rfl hl.1 (Nat.le_of_ble_eq_true rfl) dL_hole_4) hM hKi hN hT hA hP hD hS [1, 2, 3, 4, 5, 6, 7, 8, 9, 10, 11, 12, 13, 14, 15, 16, 17, 18, 19, 20, 21, 22, 23, 24, 25, 26, 27, 28, 29, 30, 31, 32, 33, 34, 35, 36, 37, 38] [0] [0, 1, 2, 3, 4, 5, 6, 7, 8, 9, 10, 11, 12, 13, 14, 15, 16, 17, 18, 19, 20, 21, 22, 23, 24, 25, 26, 27, 28, 29, 30, 31, 32, 33, 34, 35, 36, 37, 38] rfl rfl rfl (by decide) ⟨Nat.le_of_ble_eq_true rfl, Nat.le_of_ble_eq_true rfl⟩ (fun q9 ce H locs hP hD hS h1 h2 h3 => ?_)
  refine vx_catch (own := RL) (name := "java/lang/IndexOutOfBoundsException") (E := "java/lang/IndexOutOfBoundsException") hown [] ⟨0, 9, 12, 13⟩ [] (htab.trans rfl) (fun x9 h9 => nomatch h9) (by decide) (by decide) (hts (.classLink RL 13 "java/lang/IndexOutOfBoundsException") (by decide +kernel)) (va_Nw.use rfl (hT.1.1 (.castable "java/lang/IndexOutOfBoundsException" "java/lang/IndexOutOfBoundsException") (by decide))) h1 h2 h3 ?_
  refine lv_astore_n (lv' := [(3, .ref q9), (0, .ref o), (1, .int x1), (2, .ref z)]) hx hb dL_hole_12 rfl hl (by decide) rfl (fun ls hl => ?_)
  refine lv_iconst (v := 1) hx hb dL_hole_13 (by decide) ?_
  exact fin v _ _ _ _ _ _ _ rfl hP hD hS (Nat.le_of_ble_eq_true rfl) (Nat.le_of_ble_eq_true rfl) dL_hole_14
set_option maxHeartbeats 4000000 in
set_option maxRecDepth 100000 in
theorem c_L_station (l : Launch) (D : va_G) (cI cL : ClassId) (o z : Nat) (g a b : Nat → Nat) (r u v r1 u1 : Rc) (x1 : Int32) (x2 : Int32) (f : Nat → Int64) (k9 : Int32) (hM : CIE l yX4_station wsX4_station ({ frames := 2, cells := 0, slots := 0, locals := 45 } : Room) D cI [.ref o, .int x1, .int x2] (wX cI o g a b r u v) k9 (fun v9 => wX cI o g a b r1 u1 v9)) : CW l yL_station wsL_station ({ frames := 9, cells := 1, slots := 6, locals := 230 } : Room) D cI cL [.ref o, .int x1, .int x2, .ref z] (wL cL z f (wX cI o g a b r u v)) 0 (fun v9 => wL cL z (vp_updL f 0 k9.toInt64) (wX cI o g a b r1 u1 v9)) := by
  refine CW.mk (cc := cL_station) (maxL := 5) (hh := [(0, 10, 13, 13)]) (by decide) rfl rfl (Nat.le_of_ble_eq_true rfl) ?_
  intro p e s m args below meth c A Q ls hx hb hts hown hml hK hN hT hTN hA hP hD hS hl htab fin
  have hKi := hK.sub (tys' := [(cI, .int)]) [0] rfl
  have hl : lv_has ls 5 [(0, .ref o), (1, .int x1), (2, .int x2), (3, .ref z)] := hl
  refine lv_aload_n hx hb dL_station_0 rfl (lv_at hl 3 rfl) ?_
  refine lv_iconst (v := 0) hx hb dL_station_1 (by decide) ?_
  refine lv_aload_n hx hb dL_station_2 rfl (lv_at hl 0 rfl) ?_
  refine lv_iload_n hx hb dL_station_3 rfl (lv_at hl 1 rfl) ?_
  refine lv_iload_n hx hb dL_station_4 rfl (lv_at hl 2 rfl) ?_
  refine ycalle (invV (As := [.int x1, .int x2]) (rest := [.int 0, .ref z]) (rm := ({ frames := 2, cells := 0, slots := 0, locals := 45 } : Room)) ⟨hx, hb, hml, hown, hts⟩ (cwV 2 hts gL_station_X4_station rfl rfl rfl (by decide +kernel) ⟨Nat.le_of_ble_eq_true rfl, Nat.le_of_ble_eq_true rfl⟩) (va_recv hK hP (ci := 4) (q0 := 1) rfl rfl) rfl rfl hl.1 (Nat.le_of_ble_eq_true rfl) dL_station_5) hM hKi hN hA hP hD hS (W2 := fun v9 => wL cL z f (wX cI o g a b r1 u1 v9)) [1, 2, 3, 4, 5, 6, 7, 8, 9, 10, 11, 12, 13, 14, 15, 16, 17, 18, 19, 20, 21, 22, 23, 24, 25, 26, 27, 28, 29, 30, 31, 32, 33, 34, 35, 36, 37, 38] [0] [0, 1, 2, 3, 4, 5, 6, 7, 8, 9, 10, 11, 12, 13, 14, 15, 16, 17, 18, 19, 20, 21, 22, 23, 24, 25, 26, 27, 28, 29, 30, 31, 32, 33, 34, 35, 36, 37, 38] rfl rfl (fun _ => rfl) (by decide) ⟨Nat.le_of_ble_eq_true rfl, Nat.le_of_ble_eq_true rfl⟩ (fun v9 H locs hP hD hS => ?_)
  refine lv_i2l (v := k9.toInt64) hx hb dL_station_8 rfl ?_
  refine va_last hx hb hK hP hD hS 0 1 rfl rfl vp0 dL_station_9 (fun H locs hP hD hS => ?_)
  refine lv_goto (tgt := 17) hx hb dL_station_10 (by decide) ?_
  refine lv_iconst (v := 0) hx hb dL_station_17 (by decide) ?_
  exact fin v9 _ _ _ _ _ _ _ rfl hP hD hS (Nat.le_of_ble_eq_true rfl) (Nat.le_of_ble_eq_true rfl) dL_station_18
set_option maxHeartbeats 4000000 in
set_option maxRecDepth 100000 in
theorem c_L_station_1 (l : Launch) (D : va_G) (cI cL : ClassId) (o z : Nat) (g a b : Nat → Nat) (r u v : Rc) (x1 : Int32) (x2 : Int32) (f : Nat → Int64) (hM : CX l yX4_station wsX4_station ({ frames := 7, cells := 1, slots := 6, locals := 130 } : Room) D cI [.ref o, .int x1, .int x2] (wX cI o g a b r u v) "java/lang/IndexOutOfBoundsException") : CW l yL_station wsL_station ({ frames := 9, cells := 1, slots := 6, locals := 230 } : Room) D cI cL [.ref o, .int x1, .int x2, .ref z] (wL cL z f (wX cI o g a b r u v)) 1 (fun v9 => wL cL z f (wX cI o g a b r u v9)) := by
  refine CW.mk (cc := cL_station) (maxL := 5) (hh := [(0, 10, 13, 13)]) (by decide) rfl rfl (Nat.le_of_ble_eq_true rfl) ?_
  intro p e s m args below meth c A Q ls hx hb hts hown hml hK hN hT hTN hA hP hD hS hl htab fin
  have hKi := hK.sub (tys' := [(cI, .int)]) [0] rfl
  have hl : lv_has ls 5 [(0, .ref o), (1, .int x1), (2, .int x2), (3, .ref z)] := hl
  refine lv_aload_n hx hb dL_station_0 rfl (lv_at hl 3 rfl) ?_
  refine lv_iconst (v := 0) hx hb dL_station_1 (by decide) ?_
  refine lv_aload_n hx hb dL_station_2 rfl (lv_at hl 0 rfl) ?_
  refine lv_iload_n hx hb dL_station_3 rfl (lv_at hl 1 rfl) ?_
  refine lv_iload_n hx hb dL_station_4 rfl (lv_at hl 2 rfl) ?_
  refine ycallx (invXV (As := [.int x1, .int x2]) (rest := [.int 0, .ref z]) (rm := ({ frames := 7, cells := 1, slots := 6, locals := 130 } : Room)) ⟨hx, hb, hml, hown, hts⟩ (cwV 2 hts gL_station_X4_station rfl rfl rfl (by decide +kernel) ⟨Nat.le_of_ble_eq_true rfl, Nat.le_of_ble_eq_true rfl⟩) (va_recv hK hP (ci := 4) (q0 := 1) rfl rfl) rfl rfl hl.1 (Nat.le_of_ble_eq_true rfl) dL_station_5) hM hKi hN hT hA hP hD hS [1, 2, 3, 4, 5, 6, 7, 8, 9, 10, 11, 12, 13, 14, 15, 16, 17, 18, 19, 20, 21, 22, 23, 24, 25, 26, 27, 28, 29, 30, 31, 32, 33, 34, 35, 36, 37, 38] [0] [0, 1, 2, 3, 4, 5, 6, 7, 8, 9, 10, 11, 12, 13, 14, 15, 16, 17, 18, 19, 20, 21, 22, 23, 24, 25, 26, 27, 28, 29, 30, 31, 32, 33, 34, 35, 36, 37, 38] rfl rfl rfl (by decide) ⟨Nat.le_of_ble_eq_true rfl, Nat.le_of_ble_eq_true rfl⟩ (fun q9 ce H locs hP hD hS h1 h2 h3 => ?_)
  refine vx_catch (own := RL) (name := "java/lang/IndexOutOfBoundsException") (E := "java/lang/IndexOutOfBoundsException") hown [] ⟨0, 10, 13, 13⟩ [] (htab.trans rfl) (fun x9 h9 => nomatch h9) (by decide) (by decide) (hts (.classLink RL 13 "java/lang/IndexOutOfBoundsException") (by decide +kernel)) (va_Nw.use rfl (hT.1.1 (.castable "java/lang/IndexOutOfBoundsException" "java/lang/IndexOutOfBoundsException") (by decide))) h1 h2 h3 ?_
  refine lv_astore (lv' := [(4, .ref q9), (0, .ref o), (1, .int x1), (2, .int x2), (3, .ref z)]) hx hb dL_station_13 hl (by decide) rfl (fun ls hl => ?_)
  refine lv_iconst (v := 1) hx hb dL_station_15 (by decide) ?_
  exact fin v _ _ _ _ _ _ _ rfl hP hD hS (Nat.le_of_ble_eq_true rfl) (Nat.le_of_ble_eq_true rfl) dL_station_16
set_option maxHeartbeats 4000000 in
set_option maxRecDepth 100000 in
theorem c_L_count (l : Launch) (D : va_G) (cI cL : ClassId) (o z : Nat) (g a b : Nat → Nat) (r u v r1 u1 : Rc) (x1 : Int32) (f : Nat → Int64) (k9 : Int32) (hM : CIE l yX4_count wsX4_count ({ frames := 1, cells := 0, slots := 0, locals := 22 } : Room) D cI [.ref o, .int x1] (wX cI o g a b r u v) k9 (fun v9 => wX cI o g a b r1 u1 v9)) : CW l yL_count wsL_count ({ frames := 9, cells := 1, slots := 6, locals := 230 } : Room) D cI cL [.ref o, .int x1, .ref z] (wL cL z f (wX cI o g a b r u v)) 0 (fun v9 => wL cL z (vp_updL f 0 k9.toInt64) (wX cI o g a b r1 u1 v9)) := by
  refine CW.mk (cc := cL_count) (maxL := 4) (hh := [(0, 9, 12, 13)]) (by decide) rfl rfl (Nat.le_of_ble_eq_true rfl) ?_
  intro p e s m args below meth c A Q ls hx hb hts hown hml hK hN hT hTN hA hP hD hS hl htab fin
  have hKi := hK.sub (tys' := [(cI, .int)]) [0] rfl
  have hl : lv_has ls 4 [(0, .ref o), (1, .int x1), (2, .ref z)] := hl
  refine lv_aload_n hx hb dL_count_0 rfl (lv_at hl 2 rfl) ?_
  refine lv_iconst (v := 0) hx hb dL_count_1 (by decide) ?_
  refine lv_aload_n hx hb dL_count_2 rfl (lv_at hl 0 rfl) ?_
  refine lv_iload_n hx hb dL_count_3 rfl (lv_at hl 1 rfl) ?_
  refine ycalle (invV (As := [.int x1]) (rest := [.int 0, .ref z]) (rm := ({ frames := 1, cells := 0, slots := 0, locals := 22 } : Room)) ⟨hx, hb, hml, hown, hts⟩ (cwV 1 hts gL_count_X4_count rfl rfl rfl (by decide +kernel) ⟨Nat.le_of_ble_eq_true rfl, Nat.le_of_ble_eq_true rfl⟩) (va_recv hK hP (ci := 4) (q0 := 1) rfl rfl) rfl rfl hl.1 (Nat.le_of_ble_eq_true rfl) dL_count_4) hM hKi hN hA hP hD hS (W2 := fun v9 => wL cL z f (wX cI o g a b r1 u1 v9)) [1, 2, 3, 4, 5, 6, 7, 8, 9, 10, 11, 12, 13, 14, 15, 16, 17, 18, 19, 20, 21, 22, 23, 24, 25, 26, 27, 28, 29, 30, 31, 32, 33, 34, 35, 36, 37, 38] [0] [0, 1, 2, 3, 4, 5, 6, 7, 8, 9, 10, 11, 12, 13, 14, 15, 16, 17, 18, 19, 20, 21, 22, 23, 24, 25, 26, 27, 28, 29, 30, 31, 32, 33, 34, 35, 36, 37, 38] rfl rfl (fun _ => rfl) (by decide) ⟨Nat.le_of_ble_eq_true rfl, Nat.le_of_ble_eq_true rfl⟩ (fun v9 H locs hP hD hS => ?_)
  refine lv_i2l (v := k9.toInt64) hx hb dL_count_7 rfl ?_
  refine va_last hx hb hK hP hD hS 0 1 rfl rfl vp0 dL_count_8 (fun H locs hP hD hS => ?_)
  refine lv_goto (tgt := 15) hx hb dL_count_9 (by decide) ?_
  refine lv_iconst (v := 0) hx hb dL_count_15 (by decide) ?_
  exact fin v9 _ _ _ _ _ _ _ rfl hP hD hS (Nat.le_of_ble_eq_true rfl) (Nat.le_of_ble_eq_true rfl) dL_count_16
set_option maxHeartbeats 4000000 in
set_option maxRecDepth 100000 in
theorem c_L_count_1 (l : Launch) (D : va_G) (cI cL : ClassId) (o z : Nat) (g a b : Nat → Nat) (r u v : Rc) (x1 : Int32) (f : Nat → Int64) (hM : CX l yX4_count wsX4_count ({ frames := 7, cells := 1, slots := 6, locals := 130 } : Room) D cI [.ref o, .int x1] (wX cI o g a b r u v) "java/lang/IndexOutOfBoundsException") : CW l yL_count wsL_count ({ frames := 9, cells := 1, slots := 6, locals := 230 } : Room) D cI cL [.ref o, .int x1, .ref z] (wL cL z f (wX cI o g a b r u v)) 1 (fun v9 => wL cL z f (wX cI o g a b r u v9)) := by
  refine CW.mk (cc := cL_count) (maxL := 4) (hh := [(0, 9, 12, 13)]) (by decide) rfl rfl (Nat.le_of_ble_eq_true rfl) ?_
  intro p e s m args below meth c A Q ls hx hb hts hown hml hK hN hT hTN hA hP hD hS hl htab fin
  have hKi := hK.sub (tys' := [(cI, .int)]) [0] rfl
  have hl : lv_has ls 4 [(0, .ref o), (1, .int x1), (2, .ref z)] := hl
  refine lv_aload_n hx hb dL_count_0 rfl (lv_at hl 2 rfl) ?_
  refine lv_iconst (v := 0) hx hb dL_count_1 (by decide) ?_
  refine lv_aload_n hx hb dL_count_2 rfl (lv_at hl 0 rfl) ?_
  refine lv_iload_n hx hb dL_count_3 rfl (lv_at hl 1 rfl) ?_
  refine ycallx (invXV (As := [.int x1]) (rest := [.int 0, .ref z]) (rm := ({ frames := 7, cells := 1, slots := 6, locals := 130 } : Room)) ⟨hx, hb, hml, hown, hts⟩ (cwV 1 hts gL_count_X4_count rfl rfl rfl (by decide +kernel) ⟨Nat.le_of_ble_eq_true rfl, Nat.le_of_ble_eq_true rfl⟩) (va_recv hK hP (ci := 4) (q0 := 1) rfl rfl) rfl rfl hl.1 (Nat.le_of_ble_eq_true rfl) dL_count_4) hM hKi hN hT hA hP hD hS [1, 2, 3, 4, 5, 6, 7, 8, 9, 10, 11, 12, 13, 14, 15, 16, 17, 18, 19, 20, 21, 22, 23, 24, 25, 26, 27, 28, 29, 30, 31, 32, 33, 34, 35, 36, 37, 38] [0] [0, 1, 2, 3, 4, 5, 6, 7, 8, 9, 10, 11, 12, 13, 14, 15, 16, 17, 18, 19, 20, 21, 22, 23, 24, 25, 26, 27, 28, 29, 30, 31, 32, 33, 34, 35, 36, 37, 38] rfl rfl rfl (by decide) ⟨Nat.le_of_ble_eq_true rfl, Nat.le_of_ble_eq_true rfl⟩ (fun q9 ce H locs hP hD hS h1 h2 h3 => ?_)
  refine vx_catch (own := RL) (name := "java/lang/IndexOutOfBoundsException") (E := "java/lang/IndexOutOfBoundsException") hown [] ⟨0, 9, 12, 13⟩ [] (htab.trans rfl) (fun x9 h9 => nomatch h9) (by decide) (by decide) (hts (.classLink RL 13 "java/lang/IndexOutOfBoundsException") (by decide +kernel)) (va_Nw.use rfl (hT.1.1 (.castable "java/lang/IndexOutOfBoundsException" "java/lang/IndexOutOfBoundsException") (by decide))) h1 h2 h3 ?_
  refine lv_astore_n (lv' := [(3, .ref q9), (0, .ref o), (1, .int x1), (2, .ref z)]) hx hb dL_count_12 rfl hl (by decide) rfl (fun ls hl => ?_)
  refine lv_iconst (v := 1) hx hb dL_count_13 (by decide) ?_
  exact fin v _ _ _ _ _ _ _ rfl hP hD hS (Nat.le_of_ble_eq_true rfl) (Nat.le_of_ble_eq_true rfl) dL_count_14
set_option maxHeartbeats 4000000 in
set_option maxRecDepth 100000 in
theorem c_L_pass (l : Launch) (D : va_G) (cI cL : ClassId) (o z : Nat) (g a b : Nat → Nat) (r u v r1 u1 : Rc) (x1 : Int32) (f : Nat → Int64) (k9 : Int32) (hM : CIE l yX4_pass wsX4_pass ({ frames := 6, cells := 0, slots := 0, locals := 135 } : Room) D cI [.ref o, .int x1] (wX cI o g a b r u v) k9 (fun v9 => wX cI o g a b r1 u1 v9)) : CW l yL_pass wsL_pass ({ frames := 9, cells := 1, slots := 6, locals := 230 } : Room) D cI cL [.ref o, .int x1, .ref z] (wL cL z f (wX cI o g a b r u v)) 0 (fun v9 => wL cL z (vp_updL f 0 k9.toInt64) (wX cI o g a b r1 u1 v9)) := by
  refine CW.mk (cc := cL_pass) (maxL := 4) (hh := [(0, 9, 12, 15)]) (by decide) rfl rfl (Nat.le_of_ble_eq_true rfl) ?_
  intro p e s m args below meth c A Q ls hx hb hts hown hml hK hN hT hTN hA hP hD hS hl htab fin
  have hKi := hK.sub (tys' := [(cI, .int)]) [0] rfl
  have hl : lv_has ls 4 [(0, .ref o), (1, .int x1), (2, .ref z)] := hl
  refine lv_aload_n hx hb dL_pass_0 rfl (lv_at hl 2 rfl) ?_
  refine lv_iconst (v := 0) hx hb dL_pass_1 (by decide) ?_
  refine lv_aload_n hx hb dL_pass_2 rfl (lv_at hl 0 rfl) ?_
  refine lv_iload_n hx hb dL_pass_3 rfl (lv_at hl 1 rfl) ?_
  refine ycalle (invV (As := [.int x1]) (rest := [.int 0, .ref z]) (rm := ({ frames := 6, cells := 0, slots := 0, locals := 135 } : Room)) ⟨hx, hb, hml, hown, hts⟩ (cwV 1 hts gL_pass_X4_pass rfl rfl rfl (by decide +kernel) ⟨Nat.le_of_ble_eq_true rfl, Nat.le_of_ble_eq_true rfl⟩) (va_recv hK hP (ci := 4) (q0 := 1) rfl rfl) rfl rfl hl.1 (Nat.le_of_ble_eq_true rfl) dL_pass_4) hM hKi hN hA hP hD hS (W2 := fun v9 => wL cL z f (wX cI o g a b r1 u1 v9)) [1, 2, 3, 4, 5, 6, 7, 8, 9, 10, 11, 12, 13, 14, 15, 16, 17, 18, 19, 20, 21, 22, 23, 24, 25, 26, 27, 28, 29, 30, 31, 32, 33, 34, 35, 36, 37, 38] [0] [0, 1, 2, 3, 4, 5, 6, 7, 8, 9, 10, 11, 12, 13, 14, 15, 16, 17, 18, 19, 20, 21, 22, 23, 24, 25, 26, 27, 28, 29, 30, 31, 32, 33, 34, 35, 36, 37, 38] rfl rfl (fun _ => rfl) (by decide) ⟨Nat.le_of_ble_eq_true rfl, Nat.le_of_ble_eq_true rfl⟩ (fun v9 H locs hP hD hS => ?_)
  refine lv_i2l (v := k9.toInt64) hx hb dL_pass_7 rfl ?_
  refine va_last hx hb hK hP hD hS 0 1 rfl rfl vp0 dL_pass_8 (fun H locs hP hD hS => ?_)
  refine lv_goto (tgt := 15) hx hb dL_pass_9 (by decide) ?_
  refine lv_iconst (v := 0) hx hb dL_pass_15 (by decide) ?_
  exact fin v9 _ _ _ _ _ _ _ rfl hP hD hS (Nat.le_of_ble_eq_true rfl) (Nat.le_of_ble_eq_true rfl) dL_pass_16
set_option maxHeartbeats 4000000 in
set_option maxRecDepth 100000 in
theorem c_L_pass_1 (l : Launch) (D : va_G) (cI cL : ClassId) (o z : Nat) (g a b : Nat → Nat) (r u v : Rc) (x1 : Int32) (f : Nat → Int64) (hM : CX l yX4_pass wsX4_pass ({ frames := 7, cells := 1, slots := 6, locals := 130 } : Room) D cI [.ref o, .int x1] (wX cI o g a b r u v) "java/lang/IllegalArgumentException") : CW l yL_pass wsL_pass ({ frames := 9, cells := 1, slots := 6, locals := 230 } : Room) D cI cL [.ref o, .int x1, .ref z] (wL cL z f (wX cI o g a b r u v)) 1 (fun v9 => wL cL z f (wX cI o g a b r u v9)) := by
  refine CW.mk (cc := cL_pass) (maxL := 4) (hh := [(0, 9, 12, 15)]) (by decide) rfl rfl (Nat.le_of_ble_eq_true rfl) ?_
  intro p e s m args below meth c A Q ls hx hb hts hown hml hK hN hT hTN hA hP hD hS hl htab fin
  have hKi := hK.sub (tys' := [(cI, .int)]) [0] rfl
  have hl : lv_has ls 4 [(0, .ref o), (1, .int x1), (2, .ref z)] := hl
  refine lv_aload_n hx hb dL_pass_0 rfl (lv_at hl 2 rfl) ?_
  refine lv_iconst (v := 0) hx hb dL_pass_1 (by decide) ?_
  refine lv_aload_n hx hb dL_pass_2 rfl (lv_at hl 0 rfl) ?_
  refine lv_iload_n hx hb dL_pass_3 rfl (lv_at hl 1 rfl) ?_
  refine ycallx (invXV (As := [.int x1]) (rest := [.int 0, .ref z]) (rm := ({ frames := 7, cells := 1, slots := 6, locals := 130 } : Room)) ⟨hx, hb, hml, hown, hts⟩ (cwV 1 hts gL_pass_X4_pass rfl rfl rfl (by decide +kernel) ⟨Nat.le_of_ble_eq_true rfl, Nat.le_of_ble_eq_true rfl⟩) (va_recv hK hP (ci := 4) (q0 := 1) rfl rfl) rfl rfl hl.1 (Nat.le_of_ble_eq_true rfl) dL_pass_4) hM hKi hN hT hA hP hD hS [1, 2, 3, 4, 5, 6, 7, 8, 9, 10, 11, 12, 13, 14, 15, 16, 17, 18, 19, 20, 21, 22, 23, 24, 25, 26, 27, 28, 29, 30, 31, 32, 33, 34, 35, 36, 37, 38] [0] [0, 1, 2, 3, 4, 5, 6, 7, 8, 9, 10, 11, 12, 13, 14, 15, 16, 17, 18, 19, 20, 21, 22, 23, 24, 25, 26, 27, 28, 29, 30, 31, 32, 33, 34, 35, 36, 37, 38] rfl rfl rfl (by decide) ⟨Nat.le_of_ble_eq_true rfl, Nat.le_of_ble_eq_true rfl⟩ (fun q9 ce H locs hP hD hS h1 h2 h3 => ?_)
  refine vx_catch (own := RL) (name := "java/lang/IllegalArgumentException") (E := "java/lang/IllegalArgumentException") hown [] ⟨0, 9, 12, 15⟩ [] (htab.trans rfl) (fun x9 h9 => nomatch h9) (by decide) (by decide) (hts (.classLink RL 15 "java/lang/IllegalArgumentException") (by decide +kernel)) (va_Nw.use rfl (hT.1.1 (.castable "java/lang/IllegalArgumentException" "java/lang/IllegalArgumentException") (by decide))) h1 h2 h3 ?_
  refine lv_astore_n (lv' := [(3, .ref q9), (0, .ref o), (1, .int x1), (2, .ref z)]) hx hb dL_pass_12 rfl hl (by decide) rfl (fun ls hl => ?_)
  refine lv_iconst (v := 1) hx hb dL_pass_13 (by decide) ?_
  exact fin v _ _ _ _ _ _ _ rfl hP hD hS (Nat.le_of_ble_eq_true rfl) (Nat.le_of_ble_eq_true rfl) dL_pass_14
set_option maxHeartbeats 4000000 in
set_option maxRecDepth 100000 in
theorem c_L_arrives (l : Launch) (D : va_G) (cI cL : ClassId) (o z : Nat) (g a b : Nat → Nat) (r u v r1 u1 : Rc) (x1 : Int32) (f : Nat → Int64) (k9 : Int32) (hM : CIE l yX4_arrives wsX4_arrives ({ frames := 5, cells := 0, slots := 0, locals := 113 } : Room) D cI [.ref o, .int x1] (wX cI o g a b r u v) k9 (fun v9 => wX cI o g a b r1 u1 v9)) : CW l yL_arrives wsL_arrives ({ frames := 9, cells := 1, slots := 6, locals := 230 } : Room) D cI cL [.ref o, .int x1, .ref z] (wL cL z f (wX cI o g a b r u v)) 0 (fun v9 => wL cL z (vp_updL f 0 k9.toInt64) (wX cI o g a b r1 u1 v9)) := by
  refine CW.mk (cc := cL_arrives) (maxL := 4) (hh := [(0, 9, 12, 13)]) (by decide) rfl rfl (Nat.le_of_ble_eq_true rfl) ?_
  intro p e s m args below meth c A Q ls hx hb hts hown hml hK hN hT hTN hA hP hD hS hl htab fin
  have hKi := hK.sub (tys' := [(cI, .int)]) [0] rfl
  have hl : lv_has ls 4 [(0, .ref o), (1, .int x1), (2, .ref z)] := hl
  refine lv_aload_n hx hb dL_arrives_0 rfl (lv_at hl 2 rfl) ?_
  refine lv_iconst (v := 0) hx hb dL_arrives_1 (by decide) ?_
  refine lv_aload_n hx hb dL_arrives_2 rfl (lv_at hl 0 rfl) ?_
  refine lv_iload_n hx hb dL_arrives_3 rfl (lv_at hl 1 rfl) ?_
  refine ycalle (invV (As := [.int x1]) (rest := [.int 0, .ref z]) (rm := ({ frames := 5, cells := 0, slots := 0, locals := 113 } : Room)) ⟨hx, hb, hml, hown, hts⟩ (cwV 1 hts gL_arrives_X4_arrives rfl rfl rfl (by decide +kernel) ⟨Nat.le_of_ble_eq_true rfl, Nat.le_of_ble_eq_true rfl⟩) (va_recv hK hP (ci := 4) (q0 := 1) rfl rfl) rfl rfl hl.1 (Nat.le_of_ble_eq_true rfl) dL_arrives_4) hM hKi hN hA hP hD hS (W2 := fun v9 => wL cL z f (wX cI o g a b r1 u1 v9)) [1, 2, 3, 4, 5, 6, 7, 8, 9, 10, 11, 12, 13, 14, 15, 16, 17, 18, 19, 20, 21, 22, 23, 24, 25, 26, 27, 28, 29, 30, 31, 32, 33, 34, 35, 36, 37, 38] [0] [0, 1, 2, 3, 4, 5, 6, 7, 8, 9, 10, 11, 12, 13, 14, 15, 16, 17, 18, 19, 20, 21, 22, 23, 24, 25, 26, 27, 28, 29, 30, 31, 32, 33, 34, 35, 36, 37, 38] rfl rfl (fun _ => rfl) (by decide) ⟨Nat.le_of_ble_eq_true rfl, Nat.le_of_ble_eq_true rfl⟩ (fun v9 H locs hP hD hS => ?_)
  refine lv_i2l (v := k9.toInt64) hx hb dL_arrives_7 rfl ?_
  refine va_last hx hb hK hP hD hS 0 1 rfl rfl vp0 dL_arrives_8 (fun H locs hP hD hS => ?_)
  refine lv_goto (tgt := 15) hx hb dL_arrives_9 (by decide) ?_
  refine lv_iconst (v := 0) hx hb dL_arrives_15 (by decide) ?_
  exact fin v9 _ _ _ _ _ _ _ rfl hP hD hS (Nat.le_of_ble_eq_true rfl) (Nat.le_of_ble_eq_true rfl) dL_arrives_16
set_option maxHeartbeats 4000000 in
set_option maxRecDepth 100000 in
theorem c_L_arrives_1 (l : Launch) (D : va_G) (cI cL : ClassId) (o z : Nat) (g a b : Nat → Nat) (r u v : Rc) (x1 : Int32) (f : Nat → Int64) (hM : CX l yX4_arrives wsX4_arrives ({ frames := 7, cells := 1, slots := 6, locals := 130 } : Room) D cI [.ref o, .int x1] (wX cI o g a b r u v) "java/lang/IndexOutOfBoundsException") : CW l yL_arrives wsL_arrives ({ frames := 9, cells := 1, slots := 6, locals := 230 } : Room) D cI cL [.ref o, .int x1, .ref z] (wL cL z f (wX cI o g a b r u v)) 1 (fun v9 => wL cL z f (wX cI o g a b r u v9)) := by
  refine CW.mk (cc := cL_arrives) (maxL := 4) (hh := [(0, 9, 12, 13)]) (by decide) rfl rfl (Nat.le_of_ble_eq_true rfl) ?_
  intro p e s m args below meth c A Q ls hx hb hts hown hml hK hN hT hTN hA hP hD hS hl htab fin
  have hKi := hK.sub (tys' := [(cI, .int)]) [0] rfl
  have hl : lv_has ls 4 [(0, .ref o), (1, .int x1), (2, .ref z)] := hl
  refine lv_aload_n hx hb dL_arrives_0 rfl (lv_at hl 2 rfl) ?_
  refine lv_iconst (v := 0) hx hb dL_arrives_1 (by decide) ?_
  refine lv_aload_n hx hb dL_arrives_2 rfl (lv_at hl 0 rfl) ?_
  refine lv_iload_n hx hb dL_arrives_3 rfl (lv_at hl 1 rfl) ?_
  refine ycallx (invXV (As := [.int x1]) (rest := [.int 0, .ref z]) (rm := ({ frames := 7, cells := 1, slots := 6, locals := 130 } : Room)) ⟨hx, hb, hml, hown, hts⟩ (cwV 1 hts gL_arrives_X4_arrives rfl rfl rfl (by decide +kernel) ⟨Nat.le_of_ble_eq_true rfl, Nat.le_of_ble_eq_true rfl⟩) (va_recv hK hP (ci := 4) (q0 := 1) rfl rfl) rfl rfl hl.1 (Nat.le_of_ble_eq_true rfl) dL_arrives_4) hM hKi hN hT hA hP hD hS [1, 2, 3, 4, 5, 6, 7, 8, 9, 10, 11, 12, 13, 14, 15, 16, 17, 18, 19, 20, 21, 22, 23, 24, 25, 26, 27, 28, 29, 30, 31, 32, 33, 34, 35, 36, 37, 38] [0] [0, 1, 2, 3, 4, 5, 6, 7, 8, 9, 10, 11, 12, 13, 14, 15, 16, 17, 18, 19, 20, 21, 22, 23, 24, 25, 26, 27, 28, 29, 30, 31, 32, 33, 34, 35, 36, 37, 38] rfl rfl rfl (by decide) ⟨Nat.le_of_ble_eq_true rfl, Nat.le_of_ble_eq_true rfl⟩ (fun q9 ce H locs hP hD hS h1 h2 h3 => ?_)
  refine vx_catch (own := RL) (name := "java/lang/IndexOutOfBoundsException") (E := "java/lang/IndexOutOfBoundsException") hown [] ⟨0, 9, 12, 13⟩ [] (htab.trans rfl) (fun x9 h9 => nomatch h9) (by decide) (by decide) (hts (.classLink RL 13 "java/lang/IndexOutOfBoundsException") (by decide +kernel)) (va_Nw.use rfl (hT.1.1 (.castable "java/lang/IndexOutOfBoundsException" "java/lang/IndexOutOfBoundsException") (by decide))) h1 h2 h3 ?_
  refine lv_astore_n (lv' := [(3, .ref q9), (0, .ref o), (1, .int x1), (2, .ref z)]) hx hb dL_arrives_12 rfl hl (by decide) rfl (fun ls hl => ?_)
  refine lv_iconst (v := 1) hx hb dL_arrives_13 (by decide) ?_
  exact fin v _ _ _ _ _ _ _ rfl hP hD hS (Nat.le_of_ble_eq_true rfl) (Nat.le_of_ble_eq_true rfl) dL_arrives_14
set_option maxHeartbeats 4000000 in
set_option maxRecDepth 100000 in
theorem c_L_foresee (l : Launch) (D : va_G) (cI cL : ClassId) (o z : Nat) (g a b : Nat → Nat) (r u v r1 u1 : Rc) (x1 : Int32) (x2 : Int32) (f : Nat → Int64) (k9 : Int32) (hM : CIE l yX4_foresee wsX4_foresee ({ frames := 6, cells := 0, slots := 0, locals := 135 } : Room) D cI [.ref o, .int x1, .int x2] (wX cI o g a b r u v) k9 (fun v9 => wX cI o g a b r1 u1 v9)) : CW l yL_foresee wsL_foresee ({ frames := 9, cells := 1, slots := 6, locals := 230 } : Room) D cI cL [.ref o, .int x1, .int x2, .ref z] (wL cL z f (wX cI o g a b r u v)) 0 (fun v9 => wL cL z (vp_updL f 0 k9.toInt64) (wX cI o g a b r1 u1 v9)) := by
  refine CW.mk (cc := cL_foresee) (maxL := 5) (hh := [(0, 10, 13, 15), (0, 10, 17, 13)]) (by decide) rfl rfl (Nat.le_of_ble_eq_true rfl) ?_
  intro p e s m args below meth c A Q ls hx hb hts hown hml hK hN hT hTN hA hP hD hS hl htab fin
  have hKi := hK.sub (tys' := [(cI, .int)]) [0] rfl
  have hl : lv_has ls 5 [(0, .ref o), (1, .int x1), (2, .int x2), (3, .ref z)] := hl
  refine lv_aload_n hx hb dL_foresee_0 rfl (lv_at hl 3 rfl) ?_
  refine lv_iconst (v := 0) hx hb dL_foresee_1 (by decide) ?_
  refine lv_aload_n hx hb dL_foresee_2 rfl (lv_at hl 0 rfl) ?_
  refine lv_iload_n hx hb dL_foresee_3 rfl (lv_at hl 1 rfl) ?_
  refine lv_iload_n hx hb dL_foresee_4 rfl (lv_at hl 2 rfl) ?_
  refine ycalle (invV (As := [.int x1, .int x2]) (rest := [.int 0, .ref z]) (rm := ({ frames := 6, cells := 0, slots := 0, locals := 135 } : Room)) ⟨hx, hb, hml, hown, hts⟩ (cwV 2 hts gL_foresee_X4_foresee rfl rfl rfl (by decide +kernel) ⟨Nat.le_of_ble_eq_true rfl, Nat.le_of_ble_eq_true rfl⟩) (va_recv hK hP (ci := 4) (q0 := 1) rfl rfl) rfl rfl hl.1 (Nat.le_of_ble_eq_true rfl) dL_foresee_5) hM hKi hN hA hP hD hS (W2 := fun v9 => wL cL z f (wX cI o g a b r1 u1 v9)) [1, 2, 3, 4, 5, 6, 7, 8, 9, 10, 11, 12, 13, 14, 15, 16, 17, 18, 19, 20, 21, 22, 23, 24, 25, 26, 27, 28, 29, 30, 31, 32, 33, 34, 35, 36, 37, 38] [0] [0, 1, 2, 3, 4, 5, 6, 7, 8, 9, 10, 11, 12, 13, 14, 15, 16, 17, 18, 19, 20, 21, 22, 23, 24, 25, 26, 27, 28, 29, 30, 31, 32, 33, 34, 35, 36, 37, 38] rfl rfl (fun _ => rfl) (by decide) ⟨Nat.le_of_ble_eq_true rfl, Nat.le_of_ble_eq_true rfl⟩ (fun v9 H locs hP hD hS => ?_)
  refine lv_i2l (v := k9.toInt64) hx hb dL_foresee_8 rfl ?_
  refine va_last hx hb hK hP hD hS 0 1 rfl rfl vp0 dL_foresee_9 (fun H locs hP hD hS => ?_)
  refine lv_goto (tgt := 21) hx hb dL_foresee_10 (by decide) ?_
  refine lv_iconst (v := 0) hx hb dL_foresee_21 (by decide) ?_
  exact fin v9 _ _ _ _ _ _ _ rfl hP hD hS (Nat.le_of_ble_eq_true rfl) (Nat.le_of_ble_eq_true rfl) dL_foresee_22
set_option maxHeartbeats 4000000 in
set_option maxRecDepth 100000 in
theorem c_L_foresee_1 (l : Launch) (D : va_G) (cI cL : ClassId) (o z : Nat) (g a b : Nat → Nat) (r u v : Rc) (x1 : Int32) (x2 : Int32) (f : Nat → Int64) (hM : CX l yX4_foresee wsX4_foresee ({ frames := 7, cells := 1, slots := 6, locals := 130 } : Room) D cI [.ref o, .int x1, .int x2] (wX cI o g a b r u v) "java/lang/IllegalArgumentException") : CW l yL_foresee wsL_foresee ({ frames := 9, cells := 1, slots := 6, locals := 230 } : Room) D cI cL [.ref o, .int x1, .int x2, .ref z] (wL cL z f (wX cI o g a b r u v)) 1 (fun v9 => wL cL z f (wX cI o g a b r u v9)) := by
  refine CW.mk (cc := cL_foresee) (maxL := 5) (hh := [(0, 10, 13, 15), (0, 10, 17, 13)]) (by decide) rfl rfl (Nat.le_of_ble_eq_true rfl) ?_
  intro p e s m args below meth c A Q ls hx hb hts hown hml hK hN hT hTN hA hP hD hS hl htab fin
  have hKi := hK.sub (tys' := [(cI, .int)]) [0] rfl
  have hl : lv_has ls 5 [(0, .ref o), (1, .int x1), (2, .int x2), (3, .ref z)] := hl
  refine lv_aload_n hx hb dL_foresee_0 rfl (lv_at hl 3 rfl) ?_
  refine lv_iconst (v := 0) hx hb dL_foresee_1 (by decide) ?_
  refine lv_aload_n hx hb dL_foresee_2 rfl (lv_at hl 0 rfl) ?_
  refine lv_iload_n hx hb dL_foresee_3 rfl (lv_at hl 1 rfl) ?_
  refine lv_iload_n hx hb dL_foresee_4 rfl (lv_at hl 2 rfl) ?_
  refine ycallx (invXV (As := [.int x1, .int x2]) (rest := [.int 0, .ref z]) (rm := ({ frames := 7, cells := 1, slots := 6, locals := 130 } : Room)) ⟨hx, hb, hml, hown, hts⟩ (cwV 2 hts gL_foresee_X4_foresee rfl rfl rfl (by decide +kernel) ⟨Nat.le_of_ble_eq_true rfl, Nat.le_of_ble_eq_true rfl⟩) (va_recv hK hP (ci := 4) (q0 := 1) rfl rfl) rfl rfl hl.1 (Nat.le_of_ble_eq_true rfl) dL_foresee_5) hM hKi hN hT hA hP hD hS [1, 2, 3, 4, 5, 6, 7, 8, 9, 10, 11, 12, 13, 14, 15, 16, 17, 18, 19, 20, 21, 22, 23, 24, 25, 26, 27, 28, 29, 30, 31, 32, 33, 34, 35, 36, 37, 38] [0] [0, 1, 2, 3, 4, 5, 6, 7, 8, 9, 10, 11, 12, 13, 14, 15, 16, 17, 18, 19, 20, 21, 22, 23, 24, 25, 26, 27, 28, 29, 30, 31, 32, 33, 34, 35, 36, 37, 38] rfl rfl rfl (by decide) ⟨Nat.le_of_ble_eq_true rfl, Nat.le_of_ble_eq_true rfl⟩ (fun q9 ce H locs hP hD hS h1 h2 h3 => ?_)
  refine vx_catch (own := RL) (name := "java/lang/IllegalArgumentException") (E := "java/lang/IllegalArgumentException") hown [] ⟨0, 10, 13, 15⟩ [⟨0, 10, 17, 13⟩] (htab.trans rfl) (fun x9 h9 => nomatch h9) (by decide) (by decide) (hts (.classLink RL 15 "java/lang/IllegalArgumentException") (by decide +kernel)) (va_Nw.use rfl (hT.1.1 (.castable "java/lang/IllegalArgumentException" "java/lang/IllegalArgumentException") (by decide))) h1 h2 h3 ?_
  refine lv_astore (lv' := [(4, .ref q9), (0, .ref o), (1, .int x1), (2, .int x2), (3, .ref z)]) hx hb dL_foresee_13 hl (by decide) rfl (fun ls hl => ?_)
  refine lv_iconst (v := 1) hx hb dL_foresee_15 (by decide) ?_
  exact fin v _ _ _ _ _ _ _ rfl hP hD hS (Nat.le_of_ble_eq_true rfl) (Nat.le_of_ble_eq_true rfl) dL_foresee_16
set_option maxHeartbeats 4000000 in
set_option maxRecDepth 100000 in
theorem c_L_foresee_2 (l : Launch) (D : va_G) (cI cL : ClassId) (o z : Nat) (g a b : Nat → Nat) (r u v : Rc) (x1 : Int32) (x2 : Int32) (f : Nat → Int64) (hM : CX l yX4_foresee wsX4_foresee ({ frames := 7, cells := 1, slots := 6, locals := 130 } : Room) D cI [.ref o, .int x1, .int x2] (wX cI o g a b r u v) "java/lang/IndexOutOfBoundsException") : CW l yL_foresee wsL_foresee ({ frames := 9, cells := 1, slots := 6, locals := 230 } : Room) D cI cL [.ref o, .int x1, .int x2, .ref z] (wL cL z f (wX cI o g a b r u v)) 2 (fun v9 => wL cL z f (wX cI o g a b r u v9)) := by
  refine CW.mk (cc := cL_foresee) (maxL := 5) (hh := [(0, 10, 13, 15), (0, 10, 17, 13)]) (by decide) rfl rfl (Nat.le_of_ble_eq_true rfl) ?_
  intro p e s m args below meth c A Q ls hx hb hts hown hml hK hN hT hTN hA hP hD hS hl htab fin
  have hKi := hK.sub (tys' := [(cI, .int)]) [0] rfl
  have hl : lv_has ls 5 [(0, .ref o), (1, .int x1), (2, .int x2), (3, .ref z)] := hl
  refine lv_aload_n hx hb dL_foresee_0 rfl (lv_at hl 3 rfl) ?_
  refine lv_iconst (v := 0) hx hb dL_foresee_1 (by decide) ?_
  refine lv_aload_n hx hb dL_foresee_2 rfl (lv_at hl 0 rfl) ?_
  refine lv_iload_n hx hb dL_foresee_3 rfl (lv_at hl 1 rfl) ?_
  refine lv_iload_n hx hb dL_foresee_4 rfl (lv_at hl 2 rfl) ?_
  refine ycallx (invXV (As := [.int x1, .int x2]) (rest := [.int 0, .ref z]) (rm := ({ frames := 7, cells := 1, slots := 6, locals := 130 } : Room)) ⟨hx, hb, hml, hown, hts⟩ (cwV 2 hts gL_foresee_X4_foresee rfl rfl rfl (by decide +kernel) ⟨Nat.le_of_ble_eq_true rfl, Nat.le_of_ble_eq_true rfl⟩) (va_recv hK hP (ci := 4) (q0 := 1) rfl rfl) rfl rfl hl.1 (Nat.le_of_ble_eq_true rfl) dL_foresee_5) hM hKi hN hT hA hP hD hS [1, 2, 3, 4, 5, 6, 7, 8, 9, 10, 11, 12, 13, 14, 15, 16, 17, 18, 19, 20, 21, 22, 23, 24, 25, 26, 27, 28, 29, 30, 31, 32, 33, 34, 35, 36, 37, 38] [0] [0, 1, 2, 3, 4, 5, 6, 7, 8, 9, 10, 11, 12, 13, 14, 15, 16, 17, 18, 19, 20, 21, 22, 23, 24, 25, 26, 27, 28, 29, 30, 31, 32, 33, 34, 35, 36, 37, 38] rfl rfl rfl (by decide) ⟨Nat.le_of_ble_eq_true rfl, Nat.le_of_ble_eq_true rfl⟩ (fun q9 ce H locs hP hD hS h1 h2 h3 => ?_)
  refine vx_catch (own := RL) (name := "java/lang/IndexOutOfBoundsException") (E := "java/lang/IndexOutOfBoundsException") hown [⟨0, 10, 13, 15⟩] ⟨0, 10, 17, 13⟩ [] (htab.trans rfl) (fun x9 h9 => by
    simp only [List.mem_cons, List.not_mem_nil, or_false] at h9
    rcases h9 with rfl
    · exact Or.inr ⟨by decide, "java/lang/IllegalArgumentException", hts (.classLink RL 15 "java/lang/IllegalArgumentException") (by decide +kernel), hTN _ (show ("java/lang/IndexOutOfBoundsException", "java/lang/IllegalArgumentException") ∈ XNC by decide)⟩) (by decide) (by decide) (hts (.classLink RL 13 "java/lang/IndexOutOfBoundsException") (by decide +kernel)) (va_Nw.use rfl (hT.1.1 (.castable "java/lang/IndexOutOfBoundsException" "java/lang/IndexOutOfBoundsException") (by decide))) h1 h2 h3 ?_
  refine lv_astore (lv' := [(4, .ref q9), (0, .ref o), (1, .int x1), (2, .int x2), (3, .ref z)]) hx hb dL_foresee_17 hl (by decide) rfl (fun ls hl => ?_)
  refine lv_iconst (v := 2) hx hb dL_foresee_19 (by decide) ?_
  exact fin v _ _ _ _ _ _ _ rfl hP hD hS (Nat.le_of_ble_eq_true rfl) (Nat.le_of_ble_eq_true rfl) dL_foresee_20
set_option maxHeartbeats 4000000 in
set_option maxRecDepth 100000 in
theorem c_L_advise (l : Launch) (D : va_G) (cI cL : ClassId) (o z : Nat) (g a b : Nat → Nat) (r u v r1 u1 : Rc) (x1 : Int32) (x2 : Int32) (f : Nat → Int64) (k9 : Int32) (hM : CIE l yX4_advise wsX4_advise ({ frames := 7, cells := 0, slots := 0, locals := 158 } : Room) D cI [.ref o, .int x1, .int x2] (wX cI o g a b r u v) k9 (fun v9 => wX cI o g a b r1 u1 v9)) : CW l yL_advise wsL_advise ({ frames := 9, cells := 1, slots := 6, locals := 230 } : Room) D cI cL [.ref o, .int x1, .int x2, .ref z] (wL cL z f (wX cI o g a b r u v)) 0 (fun v9 => wL cL z (vp_updL f 0 k9.toInt64) (wX cI o g a b r1 u1 v9)) := by
  refine CW.mk (cc := cL_advise) (maxL := 5) (hh := [(0, 10, 13, 13), (0, 10, 17, 15)]) (by decide) rfl rfl (Nat.le_of_ble_eq_true rfl) ?_
  intro p e s m args below meth c A Q ls hx hb hts hown hml hK hN hT hTN hA hP hD hS hl htab fin
  have hKi := hK.sub (tys' := [(cI, .int)]) [0] rfl
  have hl : lv_has ls 5 [(0, .ref o), (1, .int x1), (2, .int x2), (3, .ref z)] := hl
  refine lv_aload_n hx hb dL_advise_0 rfl (lv_at hl 3 rfl) ?_
  refine lv_iconst (v := 0) hx hb dL_advise_1 (by decide) ?_
  refine lv_aload_n hx hb dL_advise_2 rfl (lv_at hl 0 rfl) ?_
  refine lv_iload_n hx hb dL_advise_3 rfl (lv_at hl 1 rfl) ?_
  refine lv_iload_n hx hb dL_advise_4 rfl (lv_at hl 2 rfl) ?_
  refine ycalle (invV (As := [.int x1, .int x2]) (rest := [.int 0, .ref z]) (rm := ({ frames := 7, cells := 0, slots := 0, locals := 158 } : Room)) ⟨hx, hb, hml, hown, hts⟩ (cwV 2 hts gL_advise_X4_advise rfl rfl rfl (by decide +kernel) ⟨Nat.le_of_ble_eq_true rfl, Nat.le_of_ble_eq_true rfl⟩) (va_recv hK hP (ci := 4) (q0 := 1) rfl rfl) rfl rfl hl.1 (Nat.le_of_ble_eq_true rfl) dL_advise_5) hM hKi hN hA hP hD hS (W2 := fun v9 => wL cL z f (wX cI o g a b r1 u1 v9)) [1, 2, 3, 4, 5, 6, 7, 8, 9, 10, 11, 12, 13, 14, 15, 16, 17, 18, 19, 20, 21, 22, 23, 24, 25, 26, 27, 28, 29, 30, 31, 32, 33, 34, 35, 36, 37, 38] [0] [0, 1, 2, 3, 4, 5, 6, 7, 8, 9, 10, 11, 12, 13, 14, 15, 16, 17, 18, 19, 20, 21, 22, 23, 24, 25, 26, 27, 28, 29, 30, 31, 32, 33, 34, 35, 36, 37, 38] rfl rfl (fun _ => rfl) (by decide) ⟨Nat.le_of_ble_eq_true rfl, Nat.le_of_ble_eq_true rfl⟩ (fun v9 H locs hP hD hS => ?_)
  refine lv_i2l (v := k9.toInt64) hx hb dL_advise_8 rfl ?_
  refine va_last hx hb hK hP hD hS 0 1 rfl rfl vp0 dL_advise_9 (fun H locs hP hD hS => ?_)
  refine lv_goto (tgt := 21) hx hb dL_advise_10 (by decide) ?_
  refine lv_iconst (v := 0) hx hb dL_advise_21 (by decide) ?_
  exact fin v9 _ _ _ _ _ _ _ rfl hP hD hS (Nat.le_of_ble_eq_true rfl) (Nat.le_of_ble_eq_true rfl) dL_advise_22
set_option maxHeartbeats 4000000 in
set_option maxRecDepth 100000 in
theorem c_L_advise_1 (l : Launch) (D : va_G) (cI cL : ClassId) (o z : Nat) (g a b : Nat → Nat) (r u v : Rc) (x1 : Int32) (x2 : Int32) (f : Nat → Int64) (hM : CX l yX4_advise wsX4_advise ({ frames := 7, cells := 1, slots := 6, locals := 130 } : Room) D cI [.ref o, .int x1, .int x2] (wX cI o g a b r u v) "java/lang/IndexOutOfBoundsException") : CW l yL_advise wsL_advise ({ frames := 9, cells := 1, slots := 6, locals := 230 } : Room) D cI cL [.ref o, .int x1, .int x2, .ref z] (wL cL z f (wX cI o g a b r u v)) 1 (fun v9 => wL cL z f (wX cI o g a b r u v9)) := by
  refine CW.mk (cc := cL_advise) (maxL := 5) (hh := [(0, 10, 13, 13), (0, 10, 17, 15)]) (by decide) rfl rfl (Nat.le_of_ble_eq_true rfl) ?_
  intro p e s m args below meth c A Q ls hx hb hts hown hml hK hN hT hTN hA hP hD hS hl htab fin
  have hKi := hK.sub (tys' := [(cI, .int)]) [0] rfl
  have hl : lv_has ls 5 [(0, .ref o), (1, .int x1), (2, .int x2), (3, .ref z)] := hl
  refine lv_aload_n hx hb dL_advise_0 rfl (lv_at hl 3 rfl) ?_
  refine lv_iconst (v := 0) hx hb dL_advise_1 (by decide) ?_
  refine lv_aload_n hx hb dL_advise_2 rfl (lv_at hl 0 rfl) ?_
  refine lv_iload_n hx hb dL_advise_3 rfl (lv_at hl 1 rfl) ?_
  refine lv_iload_n hx hb dL_advise_4 rfl (lv_at hl 2 rfl) ?_
  refine ycallx (invXV (As := [.int x1, .int x2]) (rest := [.int 0, .ref z]) (rm := ({ frames := 7, cells := 1, slots := 6, locals := 130 } : Room)) ⟨hx, hb, hml, hown, hts⟩ (cwV 2 hts gL_advise_X4_advise rfl rfl rfl (by decide +kernel) ⟨Nat.le_of_ble_eq_true rfl, Nat.le_of_ble_eq_true rfl⟩) (va_recv hK hP (ci := 4) (q0 := 1) rfl rfl) rfl rfl hl.1 (Nat.le_of_ble_eq_true rfl) dL_advise_5) hM hKi hN hT hA hP hD hS [1, 2, 3, 4, 5, 6, 7, 8, 9, 10, 11, 12, 13, 14, 15, 16, 17, 18, 19, 20, 21, 22, 23, 24, 25, 26, 27, 28, 29, 30, 31, 32, 33, 34, 35, 36, 37, 38] [0] [0, 1, 2, 3, 4, 5, 6, 7, 8, 9, 10, 11, 12, 13, 14, 15, 16, 17, 18, 19, 20, 21, 22, 23, 24, 25, 26, 27, 28, 29, 30, 31, 32, 33, 34, 35, 36, 37, 38] rfl rfl rfl (by decide) ⟨Nat.le_of_ble_eq_true rfl, Nat.le_of_ble_eq_true rfl⟩ (fun q9 ce H locs hP hD hS h1 h2 h3 => ?_)
  refine vx_catch (own := RL) (name := "java/lang/IndexOutOfBoundsException") (E := "java/lang/IndexOutOfBoundsException") hown [] ⟨0, 10, 13, 13⟩ [⟨0, 10, 17, 15⟩] (htab.trans rfl) (fun x9 h9 => nomatch h9) (by decide) (by decide) (hts (.classLink RL 13 "java/lang/IndexOutOfBoundsException") (by decide +kernel)) (va_Nw.use rfl (hT.1.1 (.castable "java/lang/IndexOutOfBoundsException" "java/lang/IndexOutOfBoundsException") (by decide))) h1 h2 h3 ?_
  refine lv_astore (lv' := [(4, .ref q9), (0, .ref o), (1, .int x1), (2, .int x2), (3, .ref z)]) hx hb dL_advise_13 hl (by decide) rfl (fun ls hl => ?_)
  refine lv_iconst (v := 1) hx hb dL_advise_15 (by decide) ?_
  exact fin v _ _ _ _ _ _ _ rfl hP hD hS (Nat.le_of_ble_eq_true rfl) (Nat.le_of_ble_eq_true rfl) dL_advise_16
set_option maxHeartbeats 4000000 in
set_option maxRecDepth 100000 in
theorem c_L_advise_2 (l : Launch) (D : va_G) (cI cL : ClassId) (o z : Nat) (g a b : Nat → Nat) (r u v : Rc) (x1 : Int32) (x2 : Int32) (f : Nat → Int64) (hM : CX l yX4_advise wsX4_advise ({ frames := 7, cells := 1, slots := 6, locals := 130 } : Room) D cI [.ref o, .int x1, .int x2] (wX cI o g a b r u v) "java/lang/IllegalArgumentException") : CW l yL_advise wsL_advise ({ frames := 9, cells := 1, slots := 6, locals := 230 } : Room) D cI cL [.ref o, .int x1, .int x2, .ref z] (wL cL z f (wX cI o g a b r u v)) 2 (fun v9 => wL cL z f (wX cI o g a b r u v9)) := by
  refine CW.mk (cc := cL_advise) (maxL := 5) (hh := [(0, 10, 13, 13), (0, 10, 17, 15)]) (by decide) rfl rfl (Nat.le_of_ble_eq_true rfl) ?_
  intro p e s m args below meth c A Q ls hx hb hts hown hml hK hN hT hTN hA hP hD hS hl htab fin
  have hKi := hK.sub (tys' := [(cI, .int)]) [0] rfl
  have hl : lv_has ls 5 [(0, .ref o), (1, .int x1), (2, .int x2), (3, .ref z)] := hl
  refine lv_aload_n hx hb dL_advise_0 rfl (lv_at hl 3 rfl) ?_
  refine lv_iconst (v := 0) hx hb dL_advise_1 (by decide) ?_
  refine lv_aload_n hx hb dL_advise_2 rfl (lv_at hl 0 rfl) ?_
  refine lv_iload_n hx hb dL_advise_3 rfl (lv_at hl 1 rfl) ?_
  refine lv_iload_n hx hb dL_advise_4 rfl (lv_at hl 2 rfl) ?_
  refine ycallx (invXV (As := [.int x1, .int x2]) (rest := [.int 0, .ref z]) (rm := ({ frames := 7, cells := 1, slots := 6, locals := 130 } : Room)) ⟨hx, hb, hml, hown, hts⟩ (cwV 2 hts gL_advise_X4_advise rfl rfl rfl (by decide +kernel) ⟨Nat.le_of_ble_eq_true rfl, Nat.le_of_ble_eq_true rfl⟩) (va_recv hK hP (ci := 4) (q0 := 1) rfl rfl) rfl rfl hl.1 (Nat.le_of_ble_eq_true rfl) dL_advise_5) hM hKi hN hT hA hP hD hS [1, 2, 3, 4, 5, 6, 7, 8, 9, 10, 11, 12, 13, 14, 15, 16, 17, 18, 19, 20, 21, 22, 23, 24, 25, 26, 27, 28, 29, 30, 31, 32, 33, 34, 35, 36, 37, 38] [0] [0, 1, 2, 3, 4, 5, 6, 7, 8, 9, 10, 11, 12, 13, 14, 15, 16, 17, 18, 19, 20, 21, 22, 23, 24, 25, 26, 27, 28, 29, 30, 31, 32, 33, 34, 35, 36, 37, 38] rfl rfl rfl (by decide) ⟨Nat.le_of_ble_eq_true rfl, Nat.le_of_ble_eq_true rfl⟩ (fun q9 ce H locs hP hD hS h1 h2 h3 => ?_)
  refine vx_catch (own := RL) (name := "java/lang/IllegalArgumentException") (E := "java/lang/IllegalArgumentException") hown [⟨0, 10, 13, 13⟩] ⟨0, 10, 17, 15⟩ [] (htab.trans rfl) (fun x9 h9 => by
    simp only [List.mem_cons, List.not_mem_nil, or_false] at h9
    rcases h9 with rfl
    · exact Or.inr ⟨by decide, "java/lang/IndexOutOfBoundsException", hts (.classLink RL 13 "java/lang/IndexOutOfBoundsException") (by decide +kernel), hTN _ (show ("java/lang/IllegalArgumentException", "java/lang/IndexOutOfBoundsException") ∈ XNC by decide)⟩) (by decide) (by decide) (hts (.classLink RL 15 "java/lang/IllegalArgumentException") (by decide +kernel)) (va_Nw.use rfl (hT.1.1 (.castable "java/lang/IllegalArgumentException" "java/lang/IllegalArgumentException") (by decide))) h1 h2 h3 ?_
  refine lv_astore (lv' := [(4, .ref q9), (0, .ref o), (1, .int x1), (2, .int x2), (3, .ref z)]) hx hb dL_advise_17 hl (by decide) rfl (fun ls hl => ?_)
  refine lv_iconst (v := 2) hx hb dL_advise_19 (by decide) ?_
  exact fin v _ _ _ _ _ _ _ rfl hP hD hS (Nat.le_of_ble_eq_true rfl) (Nat.le_of_ble_eq_true rfl) dL_advise_20
