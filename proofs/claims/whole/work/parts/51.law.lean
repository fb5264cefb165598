/-! THE LAW: one case of its switch after another -/
abbrev wLw (cI cL : ClassId) (z o : Nat) (g a b h b2 d : Nat → Nat) (f : Nat → Int64) (r u v n q w : Rc) : va_W := wL cL z f (wX cI o g a b r u v) ++ wMo cI h b2 d n q w
/-- what holds in the law all along -/
def LF (p : Program) (l : Launch) (s : State) (m : MethodId) (args : Array Value) (c : Code) (bs L : Nat) (xs : Nat → Int32) (D : va_G) (cI cL : ClassId) (A : Nat → Prop) : Prop :=
  p.tables.exec = Jvm.exec ∧ c.code = cL_law ∧ c.maxLocals = 9 ∧ s.vm.findClass RL = some m.cls ∧ (∀ w ∈ wsL_law, w.before args s = true) ∧ va_X bs L xs s s.heap ∧ bs < s.heap.size ∧ va_K D vwCl [(cI, .int), (cL, .long)] s ∧ NW s ∧ TH A s ∧ TN s ∧ (∀ q, s.heap.size ≤ q → A q) ∧ ¬ A bs ∧ l.stackTraces = false ∧ L ≤ 2048
theorem TH.drawn {A : Nat → Prop} {s : State} (h : TH A s) (d0 : Drawn) : TH A (s.setDrawn d0) := ⟨TC.same (u := s) (U := s.setDrawn d0) rfl h.1, h.2.1.moved (u := s) (U := s.setDrawn d0) (Vm.Alike.refl s.vm), h.2.2.moved (u := s) (U := s.setDrawn d0) (Vm.Alike.refl s.vm)⟩
theorem LF.drawn {p : Program} {l : Launch} {s : State} {m : MethodId} {args : Array Value} {c : Code} {bs L : Nat} {xs : Nat → Int32} {D : va_G} {cI cL : ClassId} {A : Nat → Prop} (F : LF p l s m args c bs L xs D cI cL A) (d0 : Drawn) : LF p l (s.setDrawn d0) m args c bs L xs D cI cL A := by
  obtain ⟨hx, hb, hml, hown, hts, hX, hbl, hK, hN, hT, hTN, hA, hbA, hlt, hL⟩ := F
  exact ⟨hx, hb, hml, hown, dr_words hts d0, hX, hbl, va_K.moved (u := s) (U := s.setDrawn d0) (Vm.Alike.refl s.vm) hK, NW.same (u := s) (U := s.setDrawn d0) rfl hN, hT.drawn d0, hTN.moved (u := s) (U := s.setDrawn d0) (Vm.Alike.refl s.vm), hA, hbA, hlt, hL⟩
/-- from any of the law's worlds at pc it comes to Q -/
def LG (p : Program) (l : Launch) (e : Env) (s : State) (m : MethodId) (args : Array Value) (below : List Frame) (meth : Method) (c : Code) (Q : State → Prop) (A : Nat → Prop) (bs : Nat) (D : va_G) (cI cL : ClassId) (o z : Nat) (g a b h b2 d : Nat → Nat) (i cells slots pc : Nat) : Prop :=
  ∀ (H : Heap) (locs : List Loc) (f : Nat → Int64) (n q u r v w : Rc) (ls : Array Slot), Sim n q u r → va_P D vwCl (wLw cI cL z o g a b h b2 d f r u v n q w) H → va_D A (wLw cI cL z o g a b h b2 d f r u v n q w) → va_S A s.heap H locs → lv_has ls 9 [(4, .int (nI i)), (0, .ref bs), (1, .ref o), (2, .ref (h 0)), (3, .ref z)] →
    W p l e room_1 s m args below meth c H locs cells slots Q (F0 m pc ls [])
section XLAW
variable {p : Program} {l : Launch} {e : Env} {R : Room} {s : State} {m : MethodId} {args : Array Value} {below : List Frame} {meth : Method} {c : Code} {H : Heap} {locs : List Loc} {cells slots : Nat} {Q : State → Prop}
variable {y : MethodName} {bytes cc : ByteArray} {maxL nL n index pc : Nat} {ret : Option FieldType} {ws wsY : List Cond} {rm : Room} {Ts : List Cond} {own C : String} {As rest st0 : List Value} {ls : Array Slot} {D : va_G} {cI cL : ClassId} {A : Nat → Prop} {W0 Wc : va_W} {hh : List (Nat × Nat × Nat × Nat)} {bq : Addr}
theorem invSW (S : CallFix p m c cc nL s args Ts own) (cw : vx_CSW R s args own index y bytes maxL ret hh ws rm rm.cells rm.slots n)
    (hst : st0 = As.reverse ++ rest) (hn : As.length = n) (hsize : ls.size = nL) (hW : (rest.map fun v => v.category).sum ≤ 8) (hdg : decode cc pc = .ok (.invokestatic index, 3)) : Inv p l e R s m args below meth c H locs cells slots y ws rm As (F0 m pc ls st0) rest :=
  fun Pc Qc free hM hbl hp hf => vx_runSW S hM cw ⟨hbl, hp⟩ rfl hn hsize hst (lv_room (pc := pc) (ls := ls) (rest := st0) hW) hdg hf
theorem xsld {bs L : Nat} {xs : Nat → Int32} (hexec : p.tables.exec = Jvm.exec) (hb : c.code = cc) (hX : va_X bs L xs s s.heap) (hbl : bs < s.heap.size) (hbA : ¬ A bs) (hS : va_S A s.heap H locs) (hL : L ≤ 2048) {x : Int32} (j : Nat) (hj : x = nI j) (hjL : j < L) (hdg : decode cc pc = .ok (.iaload, 1))
    (kk : W p l e R s m args below meth c H locs cells slots Q (F0 m (pc + 1) ls (.int (xs j) :: rest))) : W p l e R s m args below meth c H locs cells slots Q (F0 m pc ls (.int x :: .ref bs :: rest)) := by
  have e1 : x.toNatClampNeg = j := by rw [hj]; exact iv_nI (by omega)
  refine va_sld hexec hb hX hbl hbA hS (by rw [hj]; exact vi_of hjL (by omega)) hdg ?_
  rw [e1]
  exact kk
/-- a call at hand of a method that may draw -/
def InvD (p : Program) (l : Launch) (e : Env) (R : Room) (s : State) (m : MethodId) (args : Array Value) (below : List Frame) (meth : Method) (c : Code) (H : Heap) (locs : List Loc) (cells slots : Nat) (y : MethodName) (ws : List Cond) (rm : Room) (As : List Value) (g : JFrame) (rest : List Value) : Prop :=
  ∀ (Pc : Array Value → State → Prop) (Qc : Array Value → State → Outcome → State → Prop) (free : Addr → Prop), MetD lw_cs l y ws rm Pc Qc rm.cells rm.slots free → FrameBlind Pc → (∀ U : State, U.heap = H → s.WarmedH U.vm → Pc As.toArray U) → cells + rm.cells ≤ R.cells ∧ slots + rm.slots ≤ R.slots →
    va_RunD lw_cs p l e R s m args below meth c H locs cells slots rm.cells rm.slots g rest (Qc As.toArray) free
theorem invDV (S : CallFix p m c cc nL s args Ts own) (cw : CallW R s args own C index y bytes maxL ret ws rm rm.cells rm.slots n) (hrec : ∃ cellB : Cell, H[bq]? = some cellB ∧ cellB.vm.isStatics = false ∧ s.vm.findClass C = some cellB.cls)
    (hst : st0 = As.reverse ++ .ref bq :: rest) (hn : As.length = n) (hsize : ls.size = nL) (hW : (rest.map fun v => v.category).sum ≤ 8) (hdg : decode cc pc = .ok (.invokevirtual index, 3)) : InvD p l e R s m args below meth c H locs cells slots y ws rm (.ref bq :: As) (F0 m pc ls st0) rest :=
  fun Pc Qc free hM hbl hp hf => va_runV_D S hM cw ⟨hbl, hrec, hp⟩ rfl hn hsize hst (lv_room (pc := pc) (ls := ls) (rest := st0) hW) hdg hf
end XLAW
theorem nIa {i k : Nat} {x : Int32} (h : x = nI k) : nI i + x = nI (i + k) := by rw [h, nI_add]
theorem lg_self (x : Int64) : lg_cmp x x = 0 := (lg_cmp_eq x x).mpr rfl
theorem nan_dec {n : Nat} (h : 9218868437227405312 < n % 9223372036854775808) : FP.Core.decode FP.Core.b64 n = .nan := by
  have e1 : FP.Core.fieldE FP.Core.b64 n = FP.Core.b64.exps - 1 := by
    show n / 4503599627370496 % 2048 = 2047
    omega
  have e2 : ¬ FP.Core.fieldT FP.Core.b64 n = 0 := by
    show ¬ n % 4503599627370496 = 0
    omega
  unfold FP.Core.decode
  rw [if_pos e1, if_neg e2]
theorem cmp_nan {x : UInt64} (h : isNaN64 x = true) : FP.dcmp x x = none := by
  have h1 := isNaN64_iff.mp h
  have h2 : x.toNat &&& 9223372036854775807 = x.toNat % 9223372036854775808 := Nat.and_two_pow_sub_one_eq_mod x.toNat 63
  rw [h2] at h1
  show FP.Core.order (FP.Core.decode FP.Core.b64 x.toNat) (FP.Core.decode FP.Core.b64 x.toNat) = none
  rw [nan_dec h1]
  rfl
theorem cmp_sh {x y k : UInt64} (h1 : alike64 x k = true) (h2 : alike64 y k = true) : x = y ∨ (isNaN64 x = true ∧ isNaN64 y = true) := by
  unfold alike64 at h1 h2
  rw [Bool.or_eq_true, decide_eq_true_iff, Bool.and_eq_true] at h1 h2
  rcases h1 with rfl | ⟨a1, a2⟩
  · rcases h2 with rfl | ⟨b1, b2⟩
    · exact Or.inl rfl
    · exact Or.inr ⟨b2, b1⟩
  · rcases h2 with rfl | ⟨b1, b2⟩
    · exact Or.inr ⟨a1, a2⟩
    · exact Or.inr ⟨a1, b1⟩
theorem cmp_no {x : UInt64} (h : isNaN64 x = true) : ¬ Op.cmpValue (FP.dcmp x x) CmpOp.l = 0 := by
  rw [cmp_nan h]
  decide
-- worlds side by side: a call on one of them
theorem nd_of : ∀ {l : List Nat}, l.Nodup → va_nd l = true
  | [], _ => rfl
  | a :: l, h => by
    rw [List.nodup_cons] at h
    simp only [va_nd, Bool.and_eq_true, decide_eq_true_eq]
    exact ⟨h.1, nd_of h.2⟩
theorem rng_C (A B : va_W) : (List.range A.length).map (fun i => (A ++ B)[i]?) = A.map some := by
  apply List.ext_getElem?
  intro k
  rw [List.getElem?_map, List.getElem?_map]
  by_cases h : k < A.length
  · rw [List.getElem?_range h, Option.map_some, List.getElem?_append_left h, List.getElem?_eq_getElem h]
    rfl
  · rw [List.getElem?_eq_none (by rw [List.length_range]; omega), List.getElem?_eq_none (l := A) (by omega)]
    rfl
theorem rng_R (A B : va_W) : ((List.range B.length).map (fun i => A.length + i)).map (fun i => (A ++ B)[i]?) = B.map some := by
  rw [List.map_map]
  apply List.ext_getElem?
  intro k
  rw [List.getElem?_map, List.getElem?_map]
  by_cases h : k < B.length
  · rw [List.getElem?_range h, Option.map_some]
    show some (A ++ B)[A.length + k]? = _
    rw [List.getElem?_append_right (by omega), show A.length + k - A.length = k by omega, List.getElem?_eq_getElem h]
    rfl
  · rw [List.getElem?_eq_none (by rw [List.length_range]; omega), List.getElem?_eq_none (l := B) (by omega)]
    rfl
theorem nd_C (A : va_W) : va_nd (List.range A.length) = true := nd_of List.nodup_range
theorem nd_R (A B : va_W) : va_nd ((List.range B.length).map (fun i => A.length + i)) = true := by
  refine nd_of ?_
  unfold List.Nodup
  rw [List.pairwise_map]
  exact (List.nodup_range (n := B.length)).imp (fun h e => h (by omega))
theorem dis_C {A B : va_W} : ∀ i ∈ (List.range B.length).map (fun i => A.length + i), i ∉ List.range A.length := by
  intro i hi h
  obtain ⟨k, -, rfl⟩ := List.mem_map.mp hi
  rw [List.mem_range] at h
  omega
theorem dis_R {A B : va_W} : ∀ i ∈ List.range A.length, i ∉ (List.range B.length).map (fun i => A.length + i) := fun i h hi => dis_C i hi h
section FR
variable {D : va_G} {X : Nat → Prop} {A B : va_W} {H : Heap}
theorem fr_swap (hP : va_P D vwCl (A ++ B) H) (hD : va_D X (A ++ B)) : va_P D vwCl (B ++ A) H ∧ va_D X (B ++ A) := by
  have e1 : ((List.range B.length).map (fun i => A.length + i) ++ List.range A.length).map (fun i => (A ++ B)[i]?) = (B ++ A).map some := by
    rw [List.map_append, List.map_append, rng_C, rng_R]
  have e2 : va_nd ((List.range B.length).map (fun i => A.length + i) ++ List.range A.length) = true := by
    refine nd_of (List.nodup_append.mpr ⟨?_, List.nodup_range, ?_⟩)
    · unfold List.Nodup
      rw [List.pairwise_map]
      exact (List.nodup_range (n := B.length)).imp (fun h e => h (by omega))
    · intro i hi j hj e
      subst e
      exact dis_C i hi hj
  refine ⟨hP.sub ((List.range B.length).map (fun i => A.length + i) ++ List.range A.length) ?_, hD.sub _ e2 e1⟩
  have := congrArg (List.filterMap id) e1
  simpa [List.filterMap_map, Function.comp_def] using this
end FR
section XAB
variable {p : Program} {l : Launch} {e : Env} {R : Room} {s : State} {m : MethodId} {args : Array Value} {below : List Frame} {meth : Method} {c : Code} {H : Heap} {locs : List Loc} {cells slots : Nat} {Q : State → Prop}
variable {y : MethodName} {wsY : List Cond} {rm : Room} {As rest st0 : List Value} {ls : Array Slot} {pc : Nat} {D : va_G} {cI cL : ClassId} {X : Nat → Prop} {A B : va_W}
theorem ab_1 {W1 : va_W} {t : State} {H1 : Heap} (hA : ∀ q, s.heap.size ≤ q → X q) (hP : va_P D vwCl (A ++ B) H) (hD : va_D X (A ++ B)) (hS : va_S X s.heap H locs) (ht : t.heap = H1) (hB1 : PO D W1 (va_A A H.size) t) (hk1 : ∀ q : Nat, q < H.size → ¬ va_A A H.size q → H1[q]? = H[q]?) : va_P D vwCl (W1 ++ B) H1 ∧ va_D X (W1 ++ B) := by
  obtain ⟨hP1, hD1⟩ := hB1
  rw [ht] at hP1
  have hF := va_free hD hS hA _ (rng_C A B)
  obtain ⟨h1, h2⟩ := va_join hP hD _ _ (rng_C A B) (rng_R A B) (nd_R A B) dis_C hk1 hF hP1 hD1
  exact fr_swap h1 h2
theorem ab_2 {W1 : va_W} {t : State} {H1 : Heap} (hA : ∀ q, s.heap.size ≤ q → X q) (hP : va_P D vwCl (A ++ B) H) (hD : va_D X (A ++ B)) (hS : va_S X s.heap H locs) (ht : t.heap = H1) (hB1 : PO D W1 (va_A B H.size) t) (hk1 : ∀ q : Nat, q < H.size → ¬ va_A B H.size q → H1[q]? = H[q]?) : va_P D vwCl (A ++ W1) H1 ∧ va_D X (A ++ W1) := by
  obtain ⟨hP1, hD1⟩ := hB1
  rw [ht] at hP1
  have hF := va_free hD hS hA _ (rng_R A B)
  exact va_join hP hD _ _ (rng_R A B) (rng_C A B) (nd_C A) dis_R hk1 hF hP1 hD1
theorem zcallw {k : Int32} {W1 : Rc → va_W} (hI : Inv p l e R s m args below meth c H locs cells slots y wsY rm As (F0 m pc ls st0) rest) (hM : CW l y wsY rm D cI cL As A k W1) (hK : va_K D vwCl [(cI, .int), (cL, .long)] s) (hN : NW s) (hT : TH X s) (hTN : TN s) (hA : ∀ q, s.heap.size ≤ q → X q) (hP : va_P D vwCl (A ++ B) H) (hD : va_D X (A ++ B)) (hS : va_S X s.heap H locs) (hf : cells + rm.cells ≤ R.cells ∧ slots + rm.slots ≤ R.slots)
    (kk : ∀ (v : Rc) (H1 : Heap) (locs1 : List Loc), va_P D vwCl (W1 v ++ B) H1 → va_D X (W1 v ++ B) → va_S X s.heap H1 locs1 → W p l e R s m args below meth c H1 locs1 (cells + rm.cells) (slots + rm.slots) Q (F0 m (pc + 3) ls (.int k :: rest))) : W p l e R s m args below meth c H locs cells slots Q (F0 m pc ls st0) := by
  have hF := va_free hD hS hA _ (rng_C A B)
  refine va_calli (hI _ _ _ (hM H.size) CWP.blind (fun U hU hW => ⟨rfl, ⟨by rw [hU], ?_, ⟨va_K.moved hW.alike hK, NW.warm hW hN⟩, (hD.sub _ (nd_C A) (rng_C A B)).weaken (fun _ _ _ _ => trivial)⟩, ⟨TC.warm hW hT.1, ?_⟩, hTN.moved hW.alike⟩) hf) hS (fun q _ h => hF q h) hF (fun r' v t H1 locs1 ht hvm hw hB1 hz1 hk1 hS1 => ?_)
  · rw [hU]
    exact hP.sub (List.range A.length) (by
      have := congrArg (List.filterMap id) (rng_C A B)
      simpa [List.filterMap_map, Function.comp_def] using this)
  · have h1 := hT.2.to hS hF hW.alike
    rw [hU]
    exact h1
  · obtain ⟨h1, h2⟩ := ab_1 hA hP hD hS ht hB1 hk1
    rw [hw]
    exact kk v H1 locs1 h1 h2 hS1
theorem zcalle {r : Int32} {W1 : Rc → va_W} (hI : Inv p l e R s m args below meth c H locs cells slots y wsY rm As (F0 m pc ls st0) rest) (hM : CIE l y wsY rm D cI As B r W1) (hK : va_K D vwCl [(cI, .int)] s) (hN : NW s) (hA : ∀ q, s.heap.size ≤ q → X q) (hP : va_P D vwCl (A ++ B) H) (hD : va_D X (A ++ B)) (hS : va_S X s.heap H locs) (hf : cells + rm.cells ≤ R.cells ∧ slots + rm.slots ≤ R.slots)
    (kk : ∀ (v : Rc) (H1 : Heap) (locs1 : List Loc), va_P D vwCl (A ++ W1 v) H1 → va_D X (A ++ W1 v) → va_S X s.heap H1 locs1 → W p l e R s m args below meth c H1 locs1 (cells + rm.cells) (slots + rm.slots) Q (F0 m (pc + 3) ls (.int r :: rest))) : W p l e R s m args below meth c H locs cells slots Q (F0 m pc ls st0) := by
  have hF := va_free hD hS hA _ (rng_R A B)
  refine va_calli (hI _ _ _ (hM H.size) MP.blind (xback hK hN hA hP hD hS _ (rng_R A B) (nd_R A B)) hf) hS (fun q _ h => hF q h) hF (fun r' v t H1 locs1 ht hvm hw hB1 hz1 hk1 hS1 => ?_)
  obtain ⟨h1, h2⟩ := ab_2 hA hP hD hS ht hB1 hk1
  rw [hw]
  exact kk v H1 locs1 h1 h2 hS1
theorem zcalli {r : Int32} {W1 : va_W} (hI : Inv p l e R s m args below meth c H locs cells slots y wsY rm As (F0 m pc ls st0) rest) (hM : CI l y wsY rm D cI As B r W1) (hK : va_K D vwCl [(cI, .int)] s) (hN : NW s) (hA : ∀ q, s.heap.size ≤ q → X q) (hP : va_P D vwCl (A ++ B) H) (hD : va_D X (A ++ B)) (hS : va_S X s.heap H locs) (hf : cells + rm.cells ≤ R.cells ∧ slots + rm.slots ≤ R.slots)
    (kk : ∀ (H1 : Heap) (locs1 : List Loc), va_P D vwCl (A ++ W1) H1 → va_D X (A ++ W1) → va_S X s.heap H1 locs1 → W p l e R s m args below meth c H1 locs1 (cells + rm.cells) (slots + rm.slots) Q (F0 m (pc + 3) ls (.int r :: rest))) : W p l e R s m args below meth c H locs cells slots Q (F0 m pc ls st0) := by
  have hF := va_free hD hS hA _ (rng_R A B)
  refine va_calli (hI _ _ _ (hM H.size) MP.blind (xback hK hN hA hP hD hS _ (rng_R A B) (nd_R A B)) hf) hS (fun q _ h => hF q h) hF (fun r' v t H1 locs1 ht hvm hw hB1 hz1 hk1 hS1 => ?_)
  obtain ⟨h1, h2⟩ := ab_2 hA hP hD hS ht hB1 hk1
  rw [hw]
  exact kk H1 locs1 h1 h2 hS1
theorem zcalll {r : Int64} {W1 : va_W} (hI : Inv p l e R s m args below meth c H locs cells slots y wsY rm As (F0 m pc ls st0) rest) (hM : CL l y wsY rm D cI As B r W1) (hK : va_K D vwCl [(cI, .int)] s) (hN : NW s) (hA : ∀ q, s.heap.size ≤ q → X q) (hP : va_P D vwCl (A ++ B) H) (hD : va_D X (A ++ B)) (hS : va_S X s.heap H locs) (hf : cells + rm.cells ≤ R.cells ∧ slots + rm.slots ≤ R.slots)
    (kk : ∀ (H1 : Heap) (locs1 : List Loc), va_P D vwCl (A ++ W1) H1 → va_D X (A ++ W1) → va_S X s.heap H1 locs1 → W p l e R s m args below meth c H1 locs1 (cells + rm.cells) (slots + rm.slots) Q (F0 m (pc + 3) ls (.long r :: rest))) : W p l e R s m args below meth c H locs cells slots Q (F0 m pc ls st0) := by
  have hF := va_free hD hS hA _ (rng_R A B)
  refine va_calll (hI _ _ _ (hM H.size) MP.blind (xback hK hN hA hP hD hS _ (rng_R A B) (nd_R A B)) hf) hS (fun q _ h => hF q h) hF (fun r' v t H1 locs1 ht hvm hw hB1 hz1 hk1 hS1 => ?_)
  obtain ⟨h1, h2⟩ := ab_2 hA hP hD hS ht hB1 hk1
  rw [hw]
  exact kk H1 locs1 h1 h2 hS1
theorem zcalld {r : UInt64} {W1 : va_W} {d0 : Drawn} (hd0 : s.drawn.sameBut d0 lw_cs) (hI : InvD p l e R (s.setDrawn d0) m args below meth c H locs cells slots y wsY rm As (F0 m pc ls st0) rest) (hM : CD l y wsY rm D cI As B r W1) (hK : va_K D vwCl [(cI, .int)] s) (hN : NW s) (hA : ∀ q, s.heap.size ≤ q → X q) (hP : va_P D vwCl (A ++ B) H) (hD : va_D X (A ++ B)) (hS : va_S X s.heap H locs) (hf : cells + rm.cells ≤ R.cells ∧ slots + rm.slots ≤ R.slots)
    (kk : ∀ (r' : UInt64) (d1 : Drawn) (H1 : Heap) (locs1 : List Loc), alike64 r' r = true → s.drawn.sameBut d1 lw_cs → va_P D vwCl (A ++ W1) H1 → va_D X (A ++ W1) → va_S X s.heap H1 locs1 → W p l e R (s.setDrawn d1) m args below meth c H1 locs1 (cells + rm.cells) (slots + rm.slots) Q (F0 m (pc + 3) ls (.double r' :: rest))) : W p l e R (s.setDrawn d0) m args below meth c H locs cells slots Q (F0 m pc ls st0) := by
  have hF := va_free hD hS hA _ (rng_R A B)
  refine va_calldD hd0 (hI _ _ _ (hM H.size) MP.blind (fun U hU hW => xback (s := s.setDrawn d0) (va_K.moved (u := s) (U := s.setDrawn d0) (Vm.Alike.refl s.vm) hK) (NW.same (u := s) (U := s.setDrawn d0) rfl hN) hA hP hD hS _ (rng_R A B) (nd_R A B) U hU hW) hf) hS (fun q _ h => hF q h) hF (fun r' u t H1 locs1 ht hvm hw hB1 hz1 hk1 hS1 d1 hd1 => ?_)
  obtain ⟨h1, h2⟩ := ab_2 hA hP hD hS ht hB1 hk1
  exact kk r' d1 H1 locs1 hw hd1 h1 h2 hS1
end XAB
section MID
variable {D : va_G} {X : Nat → Prop} {W V : va_W} {zc : Nat × va_E} {H : Heap}
theorem mid_to (hP : va_P D vwCl ((zc :: W) ++ V) H) (hD : va_D X ((zc :: W) ++ V)) : va_P D vwCl ((V ++ [zc]) ++ W) H ∧ va_D X ((V ++ [zc]) ++ W) := by
  obtain ⟨h1, h2⟩ := fr_swap (A := [zc]) (B := W ++ V) hP hD
  rw [List.append_assoc] at h1 h2
  exact fr_swap h1 h2
theorem mid_of (hP : va_P D vwCl ((V ++ [zc]) ++ W) H) (hD : va_D X ((V ++ [zc]) ++ W)) : va_P D vwCl ((zc :: W) ++ V) H ∧ va_D X ((zc :: W) ++ V) := by
  obtain ⟨h1, h2⟩ := fr_swap hP hD
  rw [← List.append_assoc] at h1 h2
  exact fr_swap (A := W ++ V) (B := [zc]) h1 h2
end MID
set_option maxHeartbeats 4000000 in
set_option maxRecDepth 100000 in
theorem k_setStation {p : Program} {l : Launch} {e : Env} {s : State} {m : MethodId} {args : Array Value} {below : List Frame} {meth : Method} {c : Code} {Q : State → Prop} {A : Nat → Prop} {bs L : Nat} {xs : Nat → Int32} {D : va_G} {cI cL : ClassId} {o z : Nat} {g a b h b2 d : Nat → Nat} {i cells slots : Nat} (F : LF p l s m args c bs L xs D cI cL A) (hi : i + 4 ≤ L) (hc : cells + 400 ≤ room_1.cells) (hs : slots + 2000 ≤ room_1.slots) (kk : LG p l e s m args below meth c Q A bs D cI cL o z g a b h b2 d i (cells + 400) (slots + 2000) 1075) : LG p l e s m args below meth c Q A bs D cI cL o z g a b h b2 d i cells slots 116 := by
  intro H locs f n q u r v w ls S hP hD hS hl
  obtain ⟨hx, hb, hml, hown, hts, hX, hbl, hK, hN, hT, hTN, hA, hbA, hlt, hL⟩ := F
  have hKi := hK.sub (tys' := [(cI, .int)]) [0] rfl
  obtain ⟨k9, b9, n1, q1, u1, r1, f1, hW, hM, e31, eo, S1⟩ := j_setStation l hlt D cI cL o z g a b h b2 d n q u r S (xs (i + 1)) (xs (i + 2)) (xs (i + 3)) v w f
  refine lv_aload_n hx hb dL_law_116 rfl (lv_at hl 2 rfl) ?_
  refine lv_aload_n hx hb dL_law_117 rfl (lv_at hl 1 rfl) ?_
  refine lv_iload hx hb dL_law_118 (lv_at hl 0 rfl) ?_
  refine lv_iconst (v := 1) hx hb dL_law_120 (by decide) ?_
  refine lv_iadd hx hb dL_law_121 ?_
  refine xsld hx hb hX hbl hbA hS hL (i + 1) (nIa rfl) (by omega) dL_law_122 ?_
  refine lv_aload_n hx hb dL_law_123 rfl (lv_at hl 1 rfl) ?_
  refine lv_iload hx hb dL_law_124 (lv_at hl 0 rfl) ?_
  refine lv_iconst (v := 2) hx hb dL_law_126 (by decide) ?_
  refine lv_iadd hx hb dL_law_127 ?_
  refine xsld hx hb hX hbl hbA hS hL (i + 2) (nIa rfl) (by omega) dL_law_128 ?_
  refine lv_aload_n hx hb dL_law_129 rfl (lv_at hl 1 rfl) ?_
  refine lv_iload hx hb dL_law_130 (lv_at hl 0 rfl) ?_
  refine lv_iconst (v := 3) hx hb dL_law_132 (by decide) ?_
  refine lv_iadd hx hb dL_law_133 ?_
  refine xsld hx hb hX hbl hbA hS hL (i + 3) (nIa rfl) (by omega) dL_law_134 ?_
  refine lv_aload_n hx hb dL_law_135 rfl (lv_at hl 4 rfl) ?_
  refine zcallw (invSW (As := [.ref o, .int (xs (i + 1)), .int (xs (i + 2)), .int (xs (i + 3)), .ref z]) (rest := []) (rm := RML) ⟨hx, hb, hml, hown, hts⟩ (vx_cwSW 5 hts gL_law_L_setStation rfl rfl rfl (by decide +kernel) ⟨Nat.le_of_ble_eq_true rfl, Nat.le_of_ble_eq_true rfl⟩) rfl rfl hl.1 (Nat.le_of_ble_eq_true rfl) dL_law_136) hW hK hN hT hTN hA hP hD hS ⟨by show cells + 1 ≤ room_1.cells; omega, by show slots + 6 ≤ room_1.slots; omega⟩ (fun v9 H locs hP hD hS => ?_)
  refine lv_istore (lv' := (5, .int k9) :: [(4, .int (nI i)), (0, .ref bs), (1, .ref o), (2, .ref (h 0)), (3, .ref z)]) hx hb dL_law_139 hl (by decide) rfl (fun ls hl => ?_)
  refine lv_aload_n hx hb dL_law_141 rfl (lv_at hl 4 rfl) ?_
  refine lv_aload_n hx hb dL_law_142 rfl (lv_at hl 2 rfl) ?_
  refine lv_iload hx hb dL_law_143 (lv_at hl 1 rfl) ?_
  refine lv_iconst (v := 1) hx hb dL_law_145 (by decide) ?_
  refine lv_iadd hx hb dL_law_146 ?_
  refine xsld hx hb hX hbl hbA hS hL (i + 1) (nIa rfl) (by omega) dL_law_147 ?_
  refine lv_aload_n hx hb dL_law_148 rfl (lv_at hl 2 rfl) ?_
  refine lv_iload hx hb dL_law_149 (lv_at hl 1 rfl) ?_
  refine lv_iconst (v := 2) hx hb dL_law_151 (by decide) ?_
  refine lv_iadd hx hb dL_law_152 ?_
  refine xsld hx hb hX hbl hbA hS hL (i + 2) (nIa rfl) (by omega) dL_law_153 ?_
  refine lv_aload_n hx hb dL_law_154 rfl (lv_at hl 2 rfl) ?_
  refine lv_iload hx hb dL_law_155 (lv_at hl 1 rfl) ?_
  refine lv_iconst (v := 3) hx hb dL_law_157 (by decide) ?_
  refine lv_iadd hx hb dL_law_158 ?_
  refine xsld hx hb hX hbl hbA hS hL (i + 3) (nIa rfl) (by omega) dL_law_159 ?_
  refine zcalle (invV (As := [.int (xs (i + 1)), .int (xs (i + 2)), .int (xs (i + 3))]) (rest := []) (rm := ({ frames := 2, cells := 0, slots := 0, locals := 42 } : Room)) ⟨hx, hb, hml, hown, hts⟩ (cwV 3 hts gL_law_X6_setStation rfl rfl rfl (by decide +kernel) ⟨Nat.le_of_ble_eq_true rfl, Nat.le_of_ble_eq_true rfl⟩) (va_recv hK hP (ci := 6) (q0 := 39) rfl rfl) rfl rfl hl.1 (Nat.le_of_ble_eq_true rfl) dL_law_160) hM hKi hN hA hP hD hS ⟨by show cells + 1 + 0 ≤ room_1.cells; omega, by show slots + 6 + 0 ≤ room_1.slots; omega⟩ (fun w9 H locs hP hD hS => ?_)
  refine lv_istore (lv' := (6, .int b9) :: (5, .int k9) :: [(4, .int (nI i)), (0, .ref bs), (1, .ref o), (2, .ref (h 0)), (3, .ref z)]) hx hb dL_law_163 hl (by decide) rfl (fun ls hl => ?_)
  refine lv_aload_n hx hb dL_law_165 rfl (lv_at hl 5 rfl) ?_
  refine zcalli (invV (As := []) (rest := []) (rm := ({ frames := 0, cells := 0, slots := 0, locals := 0 } : Room)) ⟨hx, hb, hml, hown, hts⟩ (cwV 0 hts gL_law_X6_thrown rfl rfl rfl (by decide +kernel) ⟨Nat.le_of_ble_eq_true rfl, Nat.le_of_ble_eq_true rfl⟩) (va_recv hK hP (ci := 6) (q0 := 39) rfl rfl) rfl rfl hl.1 (Nat.le_of_ble_eq_true rfl) dL_law_166) (c_X6_thrown l D cI h b2 d n1 q1 w9) hKi hN hA hP hD hS ⟨by show cells + 1 + 0 + 0 ≤ room_1.cells; omega, by show slots + 6 + 0 + 0 ≤ room_1.slots; omega⟩ (fun H locs hP hD hS => ?_)
  refine lv_iload hx hb dL_law_169 (lv_at hl 1 rfl) ?_
  refine lv_icmp_eq (tgt := 176) hx hb dL_law_171 (by decide) (fun c1 => ?_) (fun c1 => absurd e31 c1)
  refine lv_iload hx hb dL_law_176 (lv_at hl 1 rfl) ?_
  refine lv_if_ne (tgt := 193) hx hb dL_law_178 (by decide) (fun c2 => ?_) (fun c2 => ?_)
  · refine lv_goto (tgt := 1075) hx hb dL_law_193 (by decide) ?_
    refine W.widen (k := cells + 400) (n := slots + 2000) (by dsimp only [RML]; omega) (by dsimp only [RML]; omega) ?_
    exact kk _ _ _ _ _ _ _ _ _ _ S1 hP hD hS (lv_sub hl [2, 3, 4, 5, 6] rfl)
  · refine lv_aload_n hx hb dL_law_181 rfl (lv_at hl 6 rfl) ?_
    refine lv_iconst (v := 0) hx hb dL_law_182 (by decide) ?_
    refine va_lald hx hb hK hP 0 1 rfl rfl vp0 dL_law_183 ?_
    refine lv_iload hx hb dL_law_184 (lv_at hl 0 rfl) ?_
    refine lv_i2l (v := b9.toInt64) hx hb dL_law_186 rfl ?_
    refine W.lcmp hx hb dL_law_187 ?_
    have ec : lg_cmp (f1 (0 : Int32).toNatClampNeg) b9.toInt64 = 0 := by rw [show (0 : Int32).toNatClampNeg = 0 from rfl, eo c2]; exact lg_self _
    rw [ec]
    refine lv_if_eq (tgt := 193) hx hb dL_law_188 (by decide) (fun _ => ?_) (fun c3 => absurd rfl c3)
    refine lv_goto (tgt := 1075) hx hb dL_law_193 (by decide) ?_
    refine W.widen (k := cells + 400) (n := slots + 2000) (by dsimp only [RML]; omega) (by dsimp only [RML]; omega) ?_
    exact kk _ _ _ _ _ _ _ _ _ _ S1 hP hD hS (lv_sub hl [2, 3, 4, 5, 6] rfl)
set_option maxHeartbeats 4000000 in
set_option maxRecDepth 100000 in
theorem k_post {p : Program} {l : Launch} {e : Env} {s : State} {m : MethodId} {args : Array Value} {below : List Frame} {meth : Method} {c : Code} {Q : State → Prop} {A : Nat → Prop} {bs L : Nat} {xs : Nat → Int32} {D : va_G} {cI cL : ClassId} {o z : Nat} {g a b h b2 d : Nat → Nat} {i cells slots : Nat} (F : LF p l s m args c bs L xs D cI cL A) (hi : i + 4 ≤ L) (hc : cells + 400 ≤ room_1.cells) (hs : slots + 2000 ≤ room_1.slots) (kk : LG p l e s m args below meth c Q A bs D cI cL o z g a b h b2 d i (cells + 400) (slots + 2000) 1075) : LG p l e s m args below meth c Q A bs D cI cL o z g a b h b2 d i cells slots 196 := by
  intro H locs f n q u r v w ls S hP hD hS hl
  obtain ⟨hx, hb, hml, hown, hts, hX, hbl, hK, hN, hT, hTN, hA, hbA, hlt, hL⟩ := F
  have hKi := hK.sub (tys' := [(cI, .int)]) [0] rfl
  obtain ⟨k9, b9, n1, q1, u1, r1, f1, hW, hM, e31, eo, S1⟩ := j_post l hlt D cI cL o z g a b h b2 d n q u r S (xs (i + 1)) (xs (i + 2)) v w f
  refine lv_aload_n hx hb dL_law_196 rfl (lv_at hl 2 rfl) ?_
  refine lv_aload_n hx hb dL_law_197 rfl (lv_at hl 1 rfl) ?_
  refine lv_iload hx hb dL_law_198 (lv_at hl 0 rfl) ?_
  refine lv_iconst (v := 1) hx hb dL_law_200 (by decide) ?_
  refine lv_iadd hx hb dL_law_201 ?_
  refine xsld hx hb hX hbl hbA hS hL (i + 1) (nIa rfl) (by omega) dL_law_202 ?_
  refine lv_aload_n hx hb dL_law_203 rfl (lv_at hl 1 rfl) ?_
  refine lv_iload hx hb dL_law_204 (lv_at hl 0 rfl) ?_
  refine lv_iconst (v := 2) hx hb dL_law_206 (by decide) ?_
  refine lv_iadd hx hb dL_law_207 ?_
  refine xsld hx hb hX hbl hbA hS hL (i + 2) (nIa rfl) (by omega) dL_law_208 ?_
  refine lv_aload_n hx hb dL_law_209 rfl (lv_at hl 4 rfl) ?_
  refine zcallw (invSW (As := [.ref o, .int (xs (i + 1)), .int (xs (i + 2)), .ref z]) (rest := []) (rm := RML) ⟨hx, hb, hml, hown, hts⟩ (vx_cwSW 4 hts gL_law_L_post rfl rfl rfl (by decide +kernel) ⟨Nat.le_of_ble_eq_true rfl, Nat.le_of_ble_eq_true rfl⟩) rfl rfl hl.1 (Nat.le_of_ble_eq_true rfl) dL_law_210) hW hK hN hT hTN hA hP hD hS ⟨by show cells + 1 ≤ room_1.cells; omega, by show slots + 6 ≤ room_1.slots; omega⟩ (fun v9 H locs hP hD hS => ?_)
  refine lv_istore (lv' := (5, .int k9) :: [(4, .int (nI i)), (0, .ref bs), (1, .ref o), (2, .ref (h 0)), (3, .ref z)]) hx hb dL_law_213 hl (by decide) rfl (fun ls hl => ?_)
  refine lv_aload_n hx hb dL_law_215 rfl (lv_at hl 4 rfl) ?_
  refine lv_aload_n hx hb dL_law_216 rfl (lv_at hl 2 rfl) ?_
  refine lv_iload hx hb dL_law_217 (lv_at hl 1 rfl) ?_
  refine lv_iconst (v := 1) hx hb dL_law_219 (by decide) ?_
  refine lv_iadd hx hb dL_law_220 ?_
  refine xsld hx hb hX hbl hbA hS hL (i + 1) (nIa rfl) (by omega) dL_law_221 ?_
  refine lv_aload_n hx hb dL_law_222 rfl (lv_at hl 2 rfl) ?_
  refine lv_iload hx hb dL_law_223 (lv_at hl 1 rfl) ?_
  refine lv_iconst (v := 2) hx hb dL_law_225 (by decide) ?_
  refine lv_iadd hx hb dL_law_226 ?_
  refine xsld hx hb hX hbl hbA hS hL (i + 2) (nIa rfl) (by omega) dL_law_227 ?_
  refine zcalle (invV (As := [.int (xs (i + 1)), .int (xs (i + 2))]) (rest := []) (rm := ({ frames := 2, cells := 0, slots := 0, locals := 42 } : Room)) ⟨hx, hb, hml, hown, hts⟩ (cwV 2 hts gL_law_X6_post rfl rfl rfl (by decide +kernel) ⟨Nat.le_of_ble_eq_true rfl, Nat.le_of_ble_eq_true rfl⟩) (va_recv hK hP (ci := 6) (q0 := 39) rfl rfl) rfl rfl hl.1 (Nat.le_of_ble_eq_true rfl) dL_law_228) hM hKi hN hA hP hD hS ⟨by show cells + 1 + 0 ≤ room_1.cells; omega, by show slots + 6 + 0 ≤ room_1.slots; omega⟩ (fun w9 H locs hP hD hS => ?_)
  refine lv_istore (lv' := (6, .int b9) :: (5, .int k9) :: [(4, .int (nI i)), (0, .ref bs), (1, .ref o), (2, .ref (h 0)), (3, .ref z)]) hx hb dL_law_231 hl (by decide) rfl (fun ls hl => ?_)
  refine lv_aload_n hx hb dL_law_233 rfl (lv_at hl 5 rfl) ?_
  refine zcalli (invV (As := []) (rest := []) (rm := ({ frames := 0, cells := 0, slots := 0, locals := 0 } : Room)) ⟨hx, hb, hml, hown, hts⟩ (cwV 0 hts gL_law_X6_thrown rfl rfl rfl (by decide +kernel) ⟨Nat.le_of_ble_eq_true rfl, Nat.le_of_ble_eq_true rfl⟩) (va_recv hK hP (ci := 6) (q0 := 39) rfl rfl) rfl rfl hl.1 (Nat.le_of_ble_eq_true rfl) dL_law_234) (c_X6_thrown l D cI h b2 d n1 q1 w9) hKi hN hA hP hD hS ⟨by show cells + 1 + 0 + 0 ≤ room_1.cells; omega, by show slots + 6 + 0 + 0 ≤ room_1.slots; omega⟩ (fun H locs hP hD hS => ?_)
  refine lv_iload hx hb dL_law_237 (lv_at hl 1 rfl) ?_
  refine lv_icmp_eq (tgt := 244) hx hb dL_law_239 (by decide) (fun c1 => ?_) (fun c1 => absurd e31 c1)
  refine lv_iload hx hb dL_law_244 (lv_at hl 1 rfl) ?_
  refine lv_if_ne (tgt := 261) hx hb dL_law_246 (by decide) (fun c2 => ?_) (fun c2 => ?_)
  · refine lv_goto (tgt := 1075) hx hb dL_law_261 (by decide) ?_
    refine W.widen (k := cells + 400) (n := slots + 2000) (by dsimp only [RML]; omega) (by dsimp only [RML]; omega) ?_
    exact kk _ _ _ _ _ _ _ _ _ _ S1 hP hD hS (lv_sub hl [2, 3, 4, 5, 6] rfl)
  · refine lv_aload_n hx hb dL_law_249 rfl (lv_at hl 6 rfl) ?_
    refine lv_iconst (v := 0) hx hb dL_law_250 (by decide) ?_
    refine va_lald hx hb hK hP 0 1 rfl rfl vp0 dL_law_251 ?_
    refine lv_iload hx hb dL_law_252 (lv_at hl 0 rfl) ?_
    refine lv_i2l (v := b9.toInt64) hx hb dL_law_254 rfl ?_
    refine W.lcmp hx hb dL_law_255 ?_
    have ec : lg_cmp (f1 (0 : Int32).toNatClampNeg) b9.toInt64 = 0 := by rw [show (0 : Int32).toNatClampNeg = 0 from rfl, eo c2]; exact lg_self _
    rw [ec]
    refine lv_if_eq (tgt := 261) hx hb dL_law_256 (by decide) (fun _ => ?_) (fun c3 => absurd rfl c3)
    refine lv_goto (tgt := 1075) hx hb dL_law_261 (by decide) ?_
    refine W.widen (k := cells + 400) (n := slots + 2000) (by dsimp only [RML]; omega) (by dsimp only [RML]; omega) ?_
    exact kk _ _ _ _ _ _ _ _ _ _ S1 hP hD hS (lv_sub hl [2, 3, 4, 5, 6] rfl)
set_option maxHeartbeats 4000000 in
set_option maxRecDepth 100000 in
theorem k_hire {p : Program} {l : Launch} {e : Env} {s : State} {m : MethodId} {args : Array Value} {below : List Frame} {meth : Method} {c : Code} {Q : State → Prop} {A : Nat → Prop} {bs L : Nat} {xs : Nat → Int32} {D : va_G} {cI cL : ClassId} {o z : Nat} {g a b h b2 d : Nat → Nat} {i cells slots : Nat} (F : LF p l s m args c bs L xs D cI cL A) (hi : i + 4 ≤ L) (hc : cells + 400 ≤ room_1.cells) (hs : slots + 2000 ≤ room_1.slots) (kk : LG p l e s m args below meth c Q A bs D cI cL o z g a b h b2 d i (cells + 400) (slots + 2000) 1075) : LG p l e s m args below meth c Q A bs D cI cL o z g a b h b2 d i cells slots 264 := by
  intro H locs f n q u r v w ls S hP hD hS hl
  obtain ⟨hx, hb, hml, hown, hts, hX, hbl, hK, hN, hT, hTN, hA, hbA, hlt, hL⟩ := F
  have hKi := hK.sub (tys' := [(cI, .int)]) [0] rfl
  obtain ⟨k9, b9, n1, q1, u1, r1, f1, hW, hM, e31, eo, S1⟩ := j_hire l hlt D cI cL o z g a b h b2 d n q u r S (xs (i + 1)) (xs (i + 2)) v w f
  refine lv_aload_n hx hb dL_law_264 rfl (lv_at hl 2 rfl) ?_
  refine lv_aload_n hx hb dL_law_265 rfl (lv_at hl 1 rfl) ?_
  refine lv_iload hx hb dL_law_266 (lv_at hl 0 rfl) ?_
  refine lv_iconst (v := 1) hx hb dL_law_268 (by decide) ?_
  refine lv_iadd hx hb dL_law_269 ?_
  refine xsld hx hb hX hbl hbA hS hL (i + 1) (nIa rfl) (by omega) dL_law_270 ?_
  refine lv_aload_n hx hb dL_law_271 rfl (lv_at hl 1 rfl) ?_
  refine lv_iload hx hb dL_law_272 (lv_at hl 0 rfl) ?_
  refine lv_iconst (v := 2) hx hb dL_law_274 (by decide) ?_
  refine lv_iadd hx hb dL_law_275 ?_
  refine xsld hx hb hX hbl hbA hS hL (i + 2) (nIa rfl) (by omega) dL_law_276 ?_
  refine lv_aload_n hx hb dL_law_277 rfl (lv_at hl 4 rfl) ?_
  refine zcallw (invSW (As := [.ref o, .int (xs (i + 1)), .int (xs (i + 2)), .ref z]) (rest := []) (rm := RML) ⟨hx, hb, hml, hown, hts⟩ (vx_cwSW 4 hts gL_law_L_hire rfl rfl rfl (by decide +kernel) ⟨Nat.le_of_ble_eq_true rfl, Nat.le_of_ble_eq_true rfl⟩) rfl rfl hl.1 (Nat.le_of_ble_eq_true rfl) dL_law_278) hW hK hN hT hTN hA hP hD hS ⟨by show cells + 1 ≤ room_1.cells; omega, by show slots + 6 ≤ room_1.slots; omega⟩ (fun v9 H locs hP hD hS => ?_)
  refine lv_istore (lv' := (5, .int k9) :: [(4, .int (nI i)), (0, .ref bs), (1, .ref o), (2, .ref (h 0)), (3, .ref z)]) hx hb dL_law_281 hl (by decide) rfl (fun ls hl => ?_)
  refine lv_aload_n hx hb dL_law_283 rfl (lv_at hl 4 rfl) ?_
  refine lv_aload_n hx hb dL_law_284 rfl (lv_at hl 2 rfl) ?_
  refine lv_iload hx hb dL_law_285 (lv_at hl 1 rfl) ?_
  refine lv_iconst (v := 1) hx hb dL_law_287 (by decide) ?_
  refine lv_iadd hx hb dL_law_288 ?_
  refine xsld hx hb hX hbl hbA hS hL (i + 1) (nIa rfl) (by omega) dL_law_289 ?_
  refine lv_aload_n hx hb dL_law_290 rfl (lv_at hl 2 rfl) ?_
  refine lv_iload hx hb dL_law_291 (lv_at hl 1 rfl) ?_
  refine lv_iconst (v := 2) hx hb dL_law_293 (by decide) ?_
  refine lv_iadd hx hb dL_law_294 ?_
  refine xsld hx hb hX hbl hbA hS hL (i + 2) (nIa rfl) (by omega) dL_law_295 ?_
  refine zcalle (invV (As := [.int (xs (i + 1)), .int (xs (i + 2))]) (rest := []) (rm := ({ frames := 2, cells := 0, slots := 0, locals := 42 } : Room)) ⟨hx, hb, hml, hown, hts⟩ (cwV 2 hts gL_law_X6_hire rfl rfl rfl (by decide +kernel) ⟨Nat.le_of_ble_eq_true rfl, Nat.le_of_ble_eq_true rfl⟩) (va_recv hK hP (ci := 6) (q0 := 39) rfl rfl) rfl rfl hl.1 (Nat.le_of_ble_eq_true rfl) dL_law_296) hM hKi hN hA hP hD hS ⟨by show cells + 1 + 0 ≤ room_1.cells; omega, by show slots + 6 + 0 ≤ room_1.slots; omega⟩ (fun w9 H locs hP hD hS => ?_)
  refine lv_istore (lv' := (6, .int b9) :: (5, .int k9) :: [(4, .int (nI i)), (0, .ref bs), (1, .ref o), (2, .ref (h 0)), (3, .ref z)]) hx hb dL_law_299 hl (by decide) rfl (fun ls hl => ?_)
  refine lv_aload_n hx hb dL_law_301 rfl (lv_at hl 5 rfl) ?_
  refine zcalli (invV (As := []) (rest := []) (rm := ({ frames := 0, cells := 0, slots := 0, locals := 0 } : Room)) ⟨hx, hb, hml, hown, hts⟩ (cwV 0 hts gL_law_X6_thrown rfl rfl rfl (by decide +kernel) ⟨Nat.le_of_ble_eq_true rfl, Nat.le_of_ble_eq_true rfl⟩) (va_recv hK hP (ci := 6) (q0 := 39) rfl rfl) rfl rfl hl.1 (Nat.le_of_ble_eq_true rfl) dL_law_302) (c_X6_thrown l D cI h b2 d n1 q1 w9) hKi hN hA hP hD hS ⟨by show cells + 1 + 0 + 0 ≤ room_1.cells; omega, by show slots + 6 + 0 + 0 ≤ room_1.slots; omega⟩ (fun H locs hP hD hS => ?_)
  refine lv_iload hx hb dL_law_305 (lv_at hl 1 rfl) ?_
  refine lv_icmp_eq (tgt := 312) hx hb dL_law_307 (by decide) (fun c1 => ?_) (fun c1 => absurd e31 c1)
  refine lv_iload hx hb dL_law_312 (lv_at hl 1 rfl) ?_
  refine lv_if_ne (tgt := 329) hx hb dL_law_314 (by decide) (fun c2 => ?_) (fun c2 => ?_)
  · refine lv_goto (tgt := 1075) hx hb dL_law_329 (by decide) ?_
    refine W.widen (k := cells + 400) (n := slots + 2000) (by dsimp only [RML]; omega) (by dsimp only [RML]; omega) ?_
    exact kk _ _ _ _ _ _ _ _ _ _ S1 hP hD hS (lv_sub hl [2, 3, 4, 5, 6] rfl)
  · refine lv_aload_n hx hb dL_law_317 rfl (lv_at hl 6 rfl) ?_
    refine lv_iconst (v := 0) hx hb dL_law_318 (by decide) ?_
    refine va_lald hx hb hK hP 0 1 rfl rfl vp0 dL_law_319 ?_
    refine lv_iload hx hb dL_law_320 (lv_at hl 0 rfl) ?_
    refine lv_i2l (v := b9.toInt64) hx hb dL_law_322 rfl ?_
    refine W.lcmp hx hb dL_law_323 ?_
    have ec : lg_cmp (f1 (0 : Int32).toNatClampNeg) b9.toInt64 = 0 := by rw [show (0 : Int32).toNatClampNeg = 0 from rfl, eo c2]; exact lg_self _
    rw [ec]
    refine lv_if_eq (tgt := 329) hx hb dL_law_324 (by decide) (fun _ => ?_) (fun c3 => absurd rfl c3)
    refine lv_goto (tgt := 1075) hx hb dL_law_329 (by decide) ?_
    refine W.widen (k := cells + 400) (n := slots + 2000) (by dsimp only [RML]; omega) (by dsimp only [RML]; omega) ?_
    exact kk _ _ _ _ _ _ _ _ _ _ S1 hP hD hS (lv_sub hl [2, 3, 4, 5, 6] rfl)
set_option maxHeartbeats 4000000 in
set_option maxRecDepth 100000 in
theorem k_assign {p : Program} {l : Launch} {e : Env} {s : State} {m : MethodId} {args : Array Value} {below : List Frame} {meth : Method} {c : Code} {Q : State → Prop} {A : Nat → Prop} {bs L : Nat} {xs : Nat → Int32} {D : va_G} {cI cL : ClassId} {o z : Nat} {g a b h b2 d : Nat → Nat} {i cells slots : Nat} (F : LF p l s m args c bs L xs D cI cL A) (hi : i + 4 ≤ L) (hc : cells + 400 ≤ room_1.cells) (hs : slots + 2000 ≤ room_1.slots) (kk : LG p l e s m args below meth c Q A bs D cI cL o z g a b h b2 d i (cells + 400) (slots + 2000) 1075) : LG p l e s m args below meth c Q A bs D cI cL o z g a b h b2 d i cells slots 332 := by
  intro H locs f n q u r v w ls S hP hD hS hl
  obtain ⟨hx, hb, hml, hown, hts, hX, hbl, hK, hN, hT, hTN, hA, hbA, hlt, hL⟩ := F
  have hKi := hK.sub (tys' := [(cI, .int)]) [0] rfl
  obtain ⟨k9, b9, n1, q1, u1, r1, f1, hW, hM, e31, eo, S1⟩ := j_assign l hlt D cI cL o z g a b h b2 d n q u r S (xs (i + 1)) (xs (i + 2)) v w f
  refine lv_aload_n hx hb dL_law_332 rfl (lv_at hl 2 rfl) ?_
  refine lv_aload_n hx hb dL_law_333 rfl (lv_at hl 1 rfl) ?_
  refine lv_iload hx hb dL_law_334 (lv_at hl 0 rfl) ?_
  refine lv_iconst (v := 1) hx hb dL_law_336 (by decide) ?_
  refine lv_iadd hx hb dL_law_337 ?_
  refine xsld hx hb hX hbl hbA hS hL (i + 1) (nIa rfl) (by omega) dL_law_338 ?_
  refine lv_aload_n hx hb dL_law_339 rfl (lv_at hl 1 rfl) ?_
  refine lv_iload hx hb dL_law_340 (lv_at hl 0 rfl) ?_
  refine lv_iconst (v := 2) hx hb dL_law_342 (by decide) ?_
  refine lv_iadd hx hb dL_law_343 ?_
  refine xsld hx hb hX hbl hbA hS hL (i + 2) (nIa rfl) (by omega) dL_law_344 ?_
  refine lv_aload_n hx hb dL_law_345 rfl (lv_at hl 4 rfl) ?_
  refine zcallw (invSW (As := [.ref o, .int (xs (i + 1)), .int (xs (i + 2)), .ref z]) (rest := []) (rm := RML) ⟨hx, hb, hml, hown, hts⟩ (vx_cwSW 4 hts gL_law_L_assign rfl rfl rfl (by decide +kernel) ⟨Nat.le_of_ble_eq_true rfl, Nat.le_of_ble_eq_true rfl⟩) rfl rfl hl.1 (Nat.le_of_ble_eq_true rfl) dL_law_346) hW hK hN hT hTN hA hP hD hS ⟨by show cells + 1 ≤ room_1.cells; omega, by show slots + 6 ≤ room_1.slots; omega⟩ (fun v9 H locs hP hD hS => ?_)
  refine lv_istore (lv' := (5, .int k9) :: [(4, .int (nI i)), (0, .ref bs), (1, .ref o), (2, .ref (h 0)), (3, .ref z)]) hx hb dL_law_349 hl (by decide) rfl (fun ls hl => ?_)
  refine lv_aload_n hx hb dL_law_351 rfl (lv_at hl 4 rfl) ?_
  refine lv_aload_n hx hb dL_law_352 rfl (lv_at hl 2 rfl) ?_
  refine lv_iload hx hb dL_law_353 (lv_at hl 1 rfl) ?_
  refine lv_iconst (v := 1) hx hb dL_law_355 (by decide) ?_
  refine lv_iadd hx hb dL_law_356 ?_
  refine xsld hx hb hX hbl hbA hS hL (i + 1) (nIa rfl) (by omega) dL_law_357 ?_
  refine lv_aload_n hx hb dL_law_358 rfl (lv_at hl 2 rfl) ?_
  refine lv_iload hx hb dL_law_359 (lv_at hl 1 rfl) ?_
  refine lv_iconst (v := 2) hx hb dL_law_361 (by decide) ?_
  refine lv_iadd hx hb dL_law_362 ?_
  refine xsld hx hb hX hbl hbA hS hL (i + 2) (nIa rfl) (by omega) dL_law_363 ?_
  refine zcalle (invV (As := [.int (xs (i + 1)), .int (xs (i + 2))]) (rest := []) (rm := ({ frames := 2, cells := 0, slots := 0, locals := 43 } : Room)) ⟨hx, hb, hml, hown, hts⟩ (cwV 2 hts gL_law_X6_assign rfl rfl rfl (by decide +kernel) ⟨Nat.le_of_ble_eq_true rfl, Nat.le_of_ble_eq_true rfl⟩) (va_recv hK hP (ci := 6) (q0 := 39) rfl rfl) rfl rfl hl.1 (Nat.le_of_ble_eq_true rfl) dL_law_364) hM hKi hN hA hP hD hS ⟨by show cells + 1 + 0 ≤ room_1.cells; omega, by show slots + 6 + 0 ≤ room_1.slots; omega⟩ (fun w9 H locs hP hD hS => ?_)
  refine lv_istore (lv' := (6, .int b9) :: (5, .int k9) :: [(4, .int (nI i)), (0, .ref bs), (1, .ref o), (2, .ref (h 0)), (3, .ref z)]) hx hb dL_law_367 hl (by decide) rfl (fun ls hl => ?_)
  refine lv_aload_n hx hb dL_law_369 rfl (lv_at hl 5 rfl) ?_
  refine zcalli (invV (As := []) (rest := []) (rm := ({ frames := 0, cells := 0, slots := 0, locals := 0 } : Room)) ⟨hx, hb, hml, hown, hts⟩ (cwV 0 hts gL_law_X6_thrown rfl rfl rfl (by decide +kernel) ⟨Nat.le_of_ble_eq_true rfl, Nat.le_of_ble_eq_true rfl⟩) (va_recv hK hP (ci := 6) (q0 := 39) rfl rfl) rfl rfl hl.1 (Nat.le_of_ble_eq_true rfl) dL_law_370) (c_X6_thrown l D cI h b2 d n1 q1 w9) hKi hN hA hP hD hS ⟨by show cells + 1 + 0 + 0 ≤ room_1.cells; omega, by show slots + 6 + 0 + 0 ≤ room_1.slots; omega⟩ (fun H locs hP hD hS => ?_)
  refine lv_iload hx hb dL_law_373 (lv_at hl 1 rfl) ?_
  refine lv_icmp_eq (tgt := 380) hx hb dL_law_375 (by decide) (fun c1 => ?_) (fun c1 => absurd e31 c1)
  refine lv_iload hx hb dL_law_380 (lv_at hl 1 rfl) ?_
  refine lv_if_ne (tgt := 397) hx hb dL_law_382 (by decide) (fun c2 => ?_) (fun c2 => ?_)
  · refine lv_goto (tgt := 1075) hx hb dL_law_397 (by decide) ?_
    refine W.widen (k := cells + 400) (n := slots + 2000) (by dsimp only [RML]; omega) (by dsimp only [RML]; omega) ?_
    exact kk _ _ _ _ _ _ _ _ _ _ S1 hP hD hS (lv_sub hl [2, 3, 4, 5, 6] rfl)
  · refine lv_aload_n hx hb dL_law_385 rfl (lv_at hl 6 rfl) ?_
    refine lv_iconst (v := 0) hx hb dL_law_386 (by decide) ?_
    refine va_lald hx hb hK hP 0 1 rfl rfl vp0 dL_law_387 ?_
    refine lv_iload hx hb dL_law_388 (lv_at hl 0 rfl) ?_
    refine lv_i2l (v := b9.toInt64) hx hb dL_law_390 rfl ?_
    refine W.lcmp hx hb dL_law_391 ?_
    have ec : lg_cmp (f1 (0 : Int32).toNatClampNeg) b9.toInt64 = 0 := by rw [show (0 : Int32).toNatClampNeg = 0 from rfl, eo c2]; exact lg_self _
    rw [ec]
    refine lv_if_eq (tgt := 397) hx hb dL_law_392 (by decide) (fun _ => ?_) (fun c3 => absurd rfl c3)
    refine lv_goto (tgt := 1075) hx hb dL_law_397 (by decide) ?_
    refine W.widen (k := cells + 400) (n := slots + 2000) (by dsimp only [RML]; omega) (by dsimp only [RML]; omega) ?_
    exact kk _ _ _ _ _ _ _ _ _ _ S1 hP hD hS (lv_sub hl [2, 3, 4, 5, 6] rfl)
set_option maxHeartbeats 4000000 in
set_option maxRecDepth 100000 in
theorem k_tea {p : Program} {l : Launch} {e : Env} {s : State} {m : MethodId} {args : Array Value} {below : List Frame} {meth : Method} {c : Code} {Q : State → Prop} {A : Nat → Prop} {bs L : Nat} {xs : Nat → Int32} {D : va_G} {cI cL : ClassId} {o z : Nat} {g a b h b2 d : Nat → Nat} {i cells slots : Nat} (F : LF p l s m args c bs L xs D cI cL A) (hi : i + 4 ≤ L) (hc : cells + 400 ≤ room_1.cells) (hs : slots + 2000 ≤ room_1.slots) (kk : LG p l e s m args below meth c Q A bs D cI cL o z g a b h b2 d i (cells + 400) (slots + 2000) 1075) : LG p l e s m args below meth c Q A bs D cI cL o z g a b h b2 d i cells slots 400 := by
  intro H locs f n q u r v w ls S hP hD hS hl
  obtain ⟨hx, hb, hml, hown, hts, hX, hbl, hK, hN, hT, hTN, hA, hbA, hlt, hL⟩ := F
  have hKi := hK.sub (tys' := [(cI, .int)]) [0] rfl
  obtain ⟨k9, b9, n1, q1, u1, r1, f1, hW, hM, e31, eo, S1⟩ := j_tea l hlt D cI cL o z g a b h b2 d n q u r S (xs (i + 1)) v w f
  refine lv_aload_n hx hb dL_law_400 rfl (lv_at hl 2 rfl) ?_
  refine lv_aload_n hx hb dL_law_401 rfl (lv_at hl 1 rfl) ?_
  refine lv_iload hx hb dL_law_402 (lv_at hl 0 rfl) ?_
  refine lv_iconst (v := 1) hx hb dL_law_404 (by decide) ?_
  refine lv_iadd hx hb dL_law_405 ?_
  refine xsld hx hb hX hbl hbA hS hL (i + 1) (nIa rfl) (by omega) dL_law_406 ?_
  refine lv_aload_n hx hb dL_law_407 rfl (lv_at hl 4 rfl) ?_
  refine zcallw (invSW (As := [.ref o, .int (xs (i + 1)), .ref z]) (rest := []) (rm := RML) ⟨hx, hb, hml, hown, hts⟩ (vx_cwSW 3 hts gL_law_L_tea rfl rfl rfl (by decide +kernel) ⟨Nat.le_of_ble_eq_true rfl, Nat.le_of_ble_eq_true rfl⟩) rfl rfl hl.1 (Nat.le_of_ble_eq_true rfl) dL_law_408) hW hK hN hT hTN hA hP hD hS ⟨by show cells + 1 ≤ room_1.cells; omega, by show slots + 6 ≤ room_1.slots; omega⟩ (fun v9 H locs hP hD hS => ?_)
  refine lv_istore (lv' := (5, .int k9) :: [(4, .int (nI i)), (0, .ref bs), (1, .ref o), (2, .ref (h 0)), (3, .ref z)]) hx hb dL_law_411 hl (by decide) rfl (fun ls hl => ?_)
  refine lv_aload_n hx hb dL_law_413 rfl (lv_at hl 4 rfl) ?_
  refine lv_aload_n hx hb dL_law_414 rfl (lv_at hl 2 rfl) ?_
  refine lv_iload hx hb dL_law_415 (lv_at hl 1 rfl) ?_
  refine lv_iconst (v := 1) hx hb dL_law_417 (by decide) ?_
  refine lv_iadd hx hb dL_law_418 ?_
  refine xsld hx hb hX hbl hbA hS hL (i + 1) (nIa rfl) (by omega) dL_law_419 ?_
  refine zcalle (invV (As := [.int (xs (i + 1))]) (rest := []) (rm := ({ frames := 2, cells := 0, slots := 0, locals := 43 } : Room)) ⟨hx, hb, hml, hown, hts⟩ (cwV 1 hts gL_law_X6_tea rfl rfl rfl (by decide +kernel) ⟨Nat.le_of_ble_eq_true rfl, Nat.le_of_ble_eq_true rfl⟩) (va_recv hK hP (ci := 6) (q0 := 39) rfl rfl) rfl rfl hl.1 (Nat.le_of_ble_eq_true rfl) dL_law_420) hM hKi hN hA hP hD hS ⟨by show cells + 1 + 0 ≤ room_1.cells; omega, by show slots + 6 + 0 ≤ room_1.slots; omega⟩ (fun w9 H locs hP hD hS => ?_)
  refine lv_istore (lv' := (6, .int b9) :: (5, .int k9) :: [(4, .int (nI i)), (0, .ref bs), (1, .ref o), (2, .ref (h 0)), (3, .ref z)]) hx hb dL_law_423 hl (by decide) rfl (fun ls hl => ?_)
  refine lv_aload_n hx hb dL_law_425 rfl (lv_at hl 5 rfl) ?_
  refine zcalli (invV (As := []) (rest := []) (rm := ({ frames := 0, cells := 0, slots := 0, locals := 0 } : Room)) ⟨hx, hb, hml, hown, hts⟩ (cwV 0 hts gL_law_X6_thrown rfl rfl rfl (by decide +kernel) ⟨Nat.le_of_ble_eq_true rfl, Nat.le_of_ble_eq_true rfl⟩) (va_recv hK hP (ci := 6) (q0 := 39) rfl rfl) rfl rfl hl.1 (Nat.le_of_ble_eq_true rfl) dL_law_426) (c_X6_thrown l D cI h b2 d n1 q1 w9) hKi hN hA hP hD hS ⟨by show cells + 1 + 0 + 0 ≤ room_1.cells; omega, by show slots + 6 + 0 + 0 ≤ room_1.slots; omega⟩ (fun H locs hP hD hS => ?_)
  refine lv_iload hx hb dL_law_429 (lv_at hl 1 rfl) ?_
  refine lv_icmp_eq (tgt := 436) hx hb dL_law_431 (by decide) (fun c1 => ?_) (fun c1 => absurd e31 c1)
  refine lv_iload hx hb dL_law_436 (lv_at hl 1 rfl) ?_
  refine lv_if_ne (tgt := 453) hx hb dL_law_438 (by decide) (fun c2 => ?_) (fun c2 => ?_)
  · refine lv_goto (tgt := 1075) hx hb dL_law_453 (by decide) ?_
    refine W.widen (k := cells + 400) (n := slots + 2000) (by dsimp only [RML]; omega) (by dsimp only [RML]; omega) ?_
    exact kk _ _ _ _ _ _ _ _ _ _ S1 hP hD hS (lv_sub hl [2, 3, 4, 5, 6] rfl)
  · refine lv_aload_n hx hb dL_law_441 rfl (lv_at hl 6 rfl) ?_
    refine lv_iconst (v := 0) hx hb dL_law_442 (by decide) ?_
    refine va_lald hx hb hK hP 0 1 rfl rfl vp0 dL_law_443 ?_
    refine lv_iload hx hb dL_law_444 (lv_at hl 0 rfl) ?_
    refine lv_i2l (v := b9.toInt64) hx hb dL_law_446 rfl ?_
    refine W.lcmp hx hb dL_law_447 ?_
    have ec : lg_cmp (f1 (0 : Int32).toNatClampNeg) b9.toInt64 = 0 := by rw [show (0 : Int32).toNatClampNeg = 0 from rfl, eo c2]; exact lg_self _
    rw [ec]
    refine lv_if_eq (tgt := 453) hx hb dL_law_448 (by decide) (fun _ => ?_) (fun c3 => absurd rfl c3)
    refine lv_goto (tgt := 1075) hx hb dL_law_453 (by decide) ?_
    refine W.widen (k := cells + 400) (n := slots + 2000) (by dsimp only [RML]; omega) (by dsimp only [RML]; omega) ?_
    exact kk _ _ _ _ _ _ _ _ _ _ S1 hP hD hS (lv_sub hl [2, 3, 4, 5, 6] rfl)
set_option maxHeartbeats 4000000 in
set_option maxRecDepth 100000 in
theorem k_letter {p : Program} {l : Launch} {e : Env} {s : State} {m : MethodId} {args : Array Value} {below : List Frame} {meth : Method} {c : Code} {Q : State → Prop} {A : Nat → Prop} {bs L : Nat} {xs : Nat → Int32} {D : va_G} {cI cL : ClassId} {o z : Nat} {g a b h b2 d : Nat → Nat} {i cells slots : Nat} (F : LF p l s m args c bs L xs D cI cL A) (hi : i + 4 ≤ L) (hc : cells + 400 ≤ room_1.cells) (hs : slots + 2000 ≤ room_1.slots) (kk : LG p l e s m args below meth c Q A bs D cI cL o z g a b h b2 d i (cells + 400) (slots + 2000) 1075) : LG p l e s m args below meth c Q A bs D cI cL o z g a b h b2 d i cells slots 456 := by
  intro H locs f n q u r v w ls S hP hD hS hl
  obtain ⟨hx, hb, hml, hown, hts, hX, hbl, hK, hN, hT, hTN, hA, hbA, hlt, hL⟩ := F
  have hKi := hK.sub (tys' := [(cI, .int)]) [0] rfl
  obtain ⟨k9, b9, n1, q1, u1, r1, f1, hW, hM, e31, eo, S1⟩ := j_letter l hlt D cI cL o z g a b h b2 d n q u r S (xs (i + 1)) (xs (i + 2)) v w f
  refine lv_aload_n hx hb dL_law_456 rfl (lv_at hl 2 rfl) ?_
  refine lv_aload_n hx hb dL_law_457 rfl (lv_at hl 1 rfl) ?_
  refine lv_iload hx hb dL_law_458 (lv_at hl 0 rfl) ?_
  refine lv_iconst (v := 1) hx hb dL_law_460 (by decide) ?_
  refine lv_iadd hx hb dL_law_461 ?_
  refine xsld hx hb hX hbl hbA hS hL (i + 1) (nIa rfl) (by omega) dL_law_462 ?_
  refine lv_aload_n hx hb dL_law_463 rfl (lv_at hl 1 rfl) ?_
  refine lv_iload hx hb dL_law_464 (lv_at hl 0 rfl) ?_
  refine lv_iconst (v := 2) hx hb dL_law_466 (by decide) ?_
  refine lv_iadd hx hb dL_law_467 ?_
  refine xsld hx hb hX hbl hbA hS hL (i + 2) (nIa rfl) (by omega) dL_law_468 ?_
  refine lv_aload_n hx hb dL_law_469 rfl (lv_at hl 4 rfl) ?_
  refine zcallw (invSW (As := [.ref o, .int (xs (i + 1)), .int (xs (i + 2)), .ref z]) (rest := []) (rm := RML) ⟨hx, hb, hml, hown, hts⟩ (vx_cwSW 4 hts gL_law_L_letter rfl rfl rfl (by decide +kernel) ⟨Nat.le_of_ble_eq_true rfl, Nat.le_of_ble_eq_true rfl⟩) rfl rfl hl.1 (Nat.le_of_ble_eq_true rfl) dL_law_470) hW hK hN hT hTN hA hP hD hS ⟨by show cells + 1 ≤ room_1.cells; omega, by show slots + 6 ≤ room_1.slots; omega⟩ (fun v9 H locs hP hD hS => ?_)
  refine lv_istore (lv' := (5, .int k9) :: [(4, .int (nI i)), (0, .ref bs), (1, .ref o), (2, .ref (h 0)), (3, .ref z)]) hx hb dL_law_473 hl (by decide) rfl (fun ls hl => ?_)
  refine lv_aload_n hx hb dL_law_475 rfl (lv_at hl 4 rfl) ?_
  refine lv_aload_n hx hb dL_law_476 rfl (lv_at hl 2 rfl) ?_
  refine lv_iload hx hb dL_law_477 (lv_at hl 1 rfl) ?_
  refine lv_iconst (v := 1) hx hb dL_law_479 (by decide) ?_
  refine lv_iadd hx hb dL_law_480 ?_
  refine xsld hx hb hX hbl hbA hS hL (i + 1) (nIa rfl) (by omega) dL_law_481 ?_
  refine lv_aload_n hx hb dL_law_482 rfl (lv_at hl 2 rfl) ?_
  refine lv_iload hx hb dL_law_483 (lv_at hl 1 rfl) ?_
  refine lv_iconst (v := 2) hx hb dL_law_485 (by decide) ?_
  refine lv_iadd hx hb dL_law_486 ?_
  refine xsld hx hb hX hbl hbA hS hL (i + 2) (nIa rfl) (by omega) dL_law_487 ?_
  refine zcalle (invV (As := [.int (xs (i + 1)), .int (xs (i + 2))]) (rest := []) (rm := ({ frames := 2, cells := 1, slots := 5, locals := 43 } : Room)) ⟨hx, hb, hml, hown, hts⟩ (cwV 2 hts gL_law_X6_letter rfl rfl rfl (by decide +kernel) ⟨Nat.le_of_ble_eq_true rfl, Nat.le_of_ble_eq_true rfl⟩) (va_recv hK hP (ci := 6) (q0 := 39) rfl rfl) rfl rfl hl.1 (Nat.le_of_ble_eq_true rfl) dL_law_488) hM hKi hN hA hP hD hS ⟨by show cells + 1 + 1 ≤ room_1.cells; omega, by show slots + 6 + 5 ≤ room_1.slots; omega⟩ (fun w9 H locs hP hD hS => ?_)
  refine lv_istore (lv' := (6, .int b9) :: (5, .int k9) :: [(4, .int (nI i)), (0, .ref bs), (1, .ref o), (2, .ref (h 0)), (3, .ref z)]) hx hb dL_law_491 hl (by decide) rfl (fun ls hl => ?_)
  refine lv_aload_n hx hb dL_law_493 rfl (lv_at hl 5 rfl) ?_
  refine zcalli (invV (As := []) (rest := []) (rm := ({ frames := 0, cells := 0, slots := 0, locals := 0 } : Room)) ⟨hx, hb, hml, hown, hts⟩ (cwV 0 hts gL_law_X6_thrown rfl rfl rfl (by decide +kernel) ⟨Nat.le_of_ble_eq_true rfl, Nat.le_of_ble_eq_true rfl⟩) (va_recv hK hP (ci := 6) (q0 := 39) rfl rfl) rfl rfl hl.1 (Nat.le_of_ble_eq_true rfl) dL_law_494) (c_X6_thrown l D cI h b2 d n1 q1 w9) hKi hN hA hP hD hS ⟨by show cells + 1 + 1 + 0 ≤ room_1.cells; omega, by show slots + 6 + 5 + 0 ≤ room_1.slots; omega⟩ (fun H locs hP hD hS => ?_)
  refine lv_iload hx hb dL_law_497 (lv_at hl 1 rfl) ?_
  refine lv_icmp_eq (tgt := 504) hx hb dL_law_499 (by decide) (fun c1 => ?_) (fun c1 => absurd e31 c1)
  refine lv_iload hx hb dL_law_504 (lv_at hl 1 rfl) ?_
  refine lv_if_ne (tgt := 521) hx hb dL_law_506 (by decide) (fun c2 => ?_) (fun c2 => ?_)
  · refine lv_goto (tgt := 1075) hx hb dL_law_521 (by decide) ?_
    refine W.widen (k := cells + 400) (n := slots + 2000) (by dsimp only [RML]; omega) (by dsimp only [RML]; omega) ?_
    exact kk _ _ _ _ _ _ _ _ _ _ S1 hP hD hS (lv_sub hl [2, 3, 4, 5, 6] rfl)
  · refine lv_aload_n hx hb dL_law_509 rfl (lv_at hl 6 rfl) ?_
    refine lv_iconst (v := 0) hx hb dL_law_510 (by decide) ?_
    refine va_lald hx hb hK hP 0 1 rfl rfl vp0 dL_law_511 ?_
    refine lv_iload hx hb dL_law_512 (lv_at hl 0 rfl) ?_
    refine lv_i2l (v := b9.toInt64) hx hb dL_law_514 rfl ?_
    refine W.lcmp hx hb dL_law_515 ?_
    have ec : lg_cmp (f1 (0 : Int32).toNatClampNeg) b9.toInt64 = 0 := by rw [show (0 : Int32).toNatClampNeg = 0 from rfl, eo c2]; exact lg_self _
    rw [ec]
    refine lv_if_eq (tgt := 521) hx hb dL_law_516 (by decide) (fun _ => ?_) (fun c3 => absurd rfl c3)
    refine lv_goto (tgt := 1075) hx hb dL_law_521 (by decide) ?_
    refine W.widen (k := cells + 400) (n := slots + 2000) (by dsimp only [RML]; omega) (by dsimp only [RML]; omega) ?_
    exact kk _ _ _ _ _ _ _ _ _ _ S1 hP hD hS (lv_sub hl [2, 3, 4, 5, 6] rfl)
set_option maxHeartbeats 4000000 in
set_option maxRecDepth 100000 in
theorem k_sorter {p : Program} {l : Launch} {e : Env} {s : State} {m : MethodId} {args : Array Value} {below : List Frame} {meth : Method} {c : Code} {Q : State → Prop} {A : Nat → Prop} {bs L : Nat} {xs : Nat → Int32} {D : va_G} {cI cL : ClassId} {o z : Nat} {g a b h b2 d : Nat → Nat} {i cells slots : Nat} (F : LF p l s m args c bs L xs D cI cL A) (hi : i + 4 ≤ L) (hc : cells + 400 ≤ room_1.cells) (hs : slots + 2000 ≤ room_1.slots) (kk : LG p l e s m args below meth c Q A bs D cI cL o z g a b h b2 d i (cells + 400) (slots + 2000) 1075) : LG p l e s m args below meth c Q A bs D cI cL o z g a b h b2 d i cells slots 524 := by
  intro H locs f n q u r v w ls S hP hD hS hl
  obtain ⟨hx, hb, hml, hown, hts, hX, hbl, hK, hN, hT, hTN, hA, hbA, hlt, hL⟩ := F
  have hKi := hK.sub (tys' := [(cI, .int)]) [0] rfl
  obtain ⟨k9, b9, n1, q1, u1, r1, f1, hW, hM, e31, eo, S1⟩ := j_sorter l hlt D cI cL o z g a b h b2 d n q u r S (xs (i + 1)) (xs (i + 2)) v w f
  refine lv_aload_n hx hb dL_law_524 rfl (lv_at hl 2 rfl) ?_
  refine lv_aload_n hx hb dL_law_525 rfl (lv_at hl 1 rfl) ?_
  refine lv_iload hx hb dL_law_526 (lv_at hl 0 rfl) ?_
  refine lv_iconst (v := 1) hx hb dL_law_528 (by decide) ?_
  refine lv_iadd hx hb dL_law_529 ?_
  refine xsld hx hb hX hbl hbA hS hL (i + 1) (nIa rfl) (by omega) dL_law_530 ?_
  refine lv_aload_n hx hb dL_law_531 rfl (lv_at hl 1 rfl) ?_
  refine lv_iload hx hb dL_law_532 (lv_at hl 0 rfl) ?_
  refine lv_iconst (v := 2) hx hb dL_law_534 (by decide) ?_
  refine lv_iadd hx hb dL_law_535 ?_
  refine xsld hx hb hX hbl hbA hS hL (i + 2) (nIa rfl) (by omega) dL_law_536 ?_
  refine lv_aload_n hx hb dL_law_537 rfl (lv_at hl 4 rfl) ?_
  refine zcallw (invSW (As := [.ref o, .int (xs (i + 1)), .int (xs (i + 2)), .ref z]) (rest := []) (rm := RML) ⟨hx, hb, hml, hown, hts⟩ (vx_cwSW 4 hts gL_law_L_sorter rfl rfl rfl (by decide +kernel) ⟨Nat.le_of_ble_eq_true rfl, Nat.le_of_ble_eq_true rfl⟩) rfl rfl hl.1 (Nat.le_of_ble_eq_true rfl) dL_law_538) hW hK hN hT hTN hA hP hD hS ⟨by show cells + 1 ≤ room_1.cells; omega, by show slots + 6 ≤ room_1.slots; omega⟩ (fun v9 H locs hP hD hS => ?_)
  refine lv_istore (lv' := (5, .int k9) :: [(4, .int (nI i)), (0, .ref bs), (1, .ref o), (2, .ref (h 0)), (3, .ref z)]) hx hb dL_law_541 hl (by decide) rfl (fun ls hl => ?_)
  refine lv_aload_n hx hb dL_law_543 rfl (lv_at hl 4 rfl) ?_
  refine lv_aload_n hx hb dL_law_544 rfl (lv_at hl 2 rfl) ?_
  refine lv_iload hx hb dL_law_545 (lv_at hl 1 rfl) ?_
  refine lv_iconst (v := 1) hx hb dL_law_547 (by decide) ?_
  refine lv_iadd hx hb dL_law_548 ?_
  refine xsld hx hb hX hbl hbA hS hL (i + 1) (nIa rfl) (by omega) dL_law_549 ?_
  refine lv_aload_n hx hb dL_law_550 rfl (lv_at hl 2 rfl) ?_
  refine lv_iload hx hb dL_law_551 (lv_at hl 1 rfl) ?_
  refine lv_iconst (v := 2) hx hb dL_law_553 (by decide) ?_
  refine lv_iadd hx hb dL_law_554 ?_
  refine xsld hx hb hX hbl hbA hS hL (i + 2) (nIa rfl) (by omega) dL_law_555 ?_
  refine zcalle (invV (As := [.int (xs (i + 1)), .int (xs (i + 2))]) (rest := []) (rm := ({ frames := 2, cells := 1, slots := 7, locals := 43 } : Room)) ⟨hx, hb, hml, hown, hts⟩ (cwV 2 hts gL_law_X6_sorter rfl rfl rfl (by decide +kernel) ⟨Nat.le_of_ble_eq_true rfl, Nat.le_of_ble_eq_true rfl⟩) (va_recv hK hP (ci := 6) (q0 := 39) rfl rfl) rfl rfl hl.1 (Nat.le_of_ble_eq_true rfl) dL_law_556) hM hKi hN hA hP hD hS ⟨by show cells + 1 + 1 ≤ room_1.cells; omega, by show slots + 6 + 7 ≤ room_1.slots; omega⟩ (fun w9 H locs hP hD hS => ?_)
  refine lv_istore (lv' := (6, .int b9) :: (5, .int k9) :: [(4, .int (nI i)), (0, .ref bs), (1, .ref o), (2, .ref (h 0)), (3, .ref z)]) hx hb dL_law_559 hl (by decide) rfl (fun ls hl => ?_)
  refine lv_aload_n hx hb dL_law_561 rfl (lv_at hl 5 rfl) ?_
  refine zcalli (invV (As := []) (rest := []) (rm := ({ frames := 0, cells := 0, slots := 0, locals := 0 } : Room)) ⟨hx, hb, hml, hown, hts⟩ (cwV 0 hts gL_law_X6_thrown rfl rfl rfl (by decide +kernel) ⟨Nat.le_of_ble_eq_true rfl, Nat.le_of_ble_eq_true rfl⟩) (va_recv hK hP (ci := 6) (q0 := 39) rfl rfl) rfl rfl hl.1 (Nat.le_of_ble_eq_true rfl) dL_law_562) (c_X6_thrown l D cI h b2 d n1 q1 w9) hKi hN hA hP hD hS ⟨by show cells + 1 + 1 + 0 ≤ room_1.cells; omega, by show slots + 6 + 7 + 0 ≤ room_1.slots; omega⟩ (fun H locs hP hD hS => ?_)
  refine lv_iload hx hb dL_law_565 (lv_at hl 1 rfl) ?_
  refine lv_icmp_eq (tgt := 572) hx hb dL_law_567 (by decide) (fun c1 => ?_) (fun c1 => absurd e31 c1)
  refine lv_iload hx hb dL_law_572 (lv_at hl 1 rfl) ?_
  refine lv_if_ne (tgt := 589) hx hb dL_law_574 (by decide) (fun c2 => ?_) (fun c2 => ?_)
  · refine lv_goto (tgt := 1075) hx hb dL_law_589 (by decide) ?_
    refine W.widen (k := cells + 400) (n := slots + 2000) (by dsimp only [RML]; omega) (by dsimp only [RML]; omega) ?_
    exact kk _ _ _ _ _ _ _ _ _ _ S1 hP hD hS (lv_sub hl [2, 3, 4, 5, 6] rfl)
  · refine lv_aload_n hx hb dL_law_577 rfl (lv_at hl 6 rfl) ?_
    refine lv_iconst (v := 0) hx hb dL_law_578 (by decide) ?_
    refine va_lald hx hb hK hP 0 1 rfl rfl vp0 dL_law_579 ?_
    refine lv_iload hx hb dL_law_580 (lv_at hl 0 rfl) ?_
    refine lv_i2l (v := b9.toInt64) hx hb dL_law_582 rfl ?_
    refine W.lcmp hx hb dL_law_583 ?_
    have ec : lg_cmp (f1 (0 : Int32).toNatClampNeg) b9.toInt64 = 0 := by rw [show (0 : Int32).toNatClampNeg = 0 from rfl, eo c2]; exact lg_self _
    rw [ec]
    refine lv_if_eq (tgt := 589) hx hb dL_law_584 (by decide) (fun _ => ?_) (fun c3 => absurd rfl c3)
    refine lv_goto (tgt := 1075) hx hb dL_law_589 (by decide) ?_
    refine W.widen (k := cells + 400) (n := slots + 2000) (by dsimp only [RML]; omega) (by dsimp only [RML]; omega) ?_
    exact kk _ _ _ _ _ _ _ _ _ _ S1 hP hD hS (lv_sub hl [2, 3, 4, 5, 6] rfl)
set_option maxHeartbeats 4000000 in
set_option maxRecDepth 100000 in
theorem k_hole {p : Program} {l : Launch} {e : Env} {s : State} {m : MethodId} {args : Array Value} {below : List Frame} {meth : Method} {c : Code} {Q : State → Prop} {A : Nat → Prop} {bs L : Nat} {xs : Nat → Int32} {D : va_G} {cI cL : ClassId} {o z : Nat} {g a b h b2 d : Nat → Nat} {i cells slots : Nat} (F : LF p l s m args c bs L xs D cI cL A) (hi : i + 4 ≤ L) (hc : cells + 400 ≤ room_1.cells) (hs : slots + 2000 ≤ room_1.slots) (kk : LG p l e s m args below meth c Q A bs D cI cL o z g a b h b2 d i (cells + 400) (slots + 2000) 1075) : LG p l e s m args below meth c Q A bs D cI cL o z g a b h b2 d i cells slots 592 := by
  intro H locs f n q u r v w ls S hP hD hS hl
  obtain ⟨hx, hb, hml, hown, hts, hX, hbl, hK, hN, hT, hTN, hA, hbA, hlt, hL⟩ := F
  have hKi := hK.sub (tys' := [(cI, .int)]) [0] rfl
  obtain ⟨k9, b9, n1, q1, u1, r1, f1, hW, hM, e31, eo, S1⟩ := j_hole l hlt D cI cL o z g a b h b2 d n q u r S (xs (i + 1)) v w f
  refine lv_aload_n hx hb dL_law_592 rfl (lv_at hl 2 rfl) ?_
  refine lv_aload_n hx hb dL_law_593 rfl (lv_at hl 1 rfl) ?_
  refine lv_iload hx hb dL_law_594 (lv_at hl 0 rfl) ?_
  refine lv_iconst (v := 1) hx hb dL_law_596 (by decide) ?_
  refine lv_iadd hx hb dL_law_597 ?_
  refine xsld hx hb hX hbl hbA hS hL (i + 1) (nIa rfl) (by omega) dL_law_598 ?_
  refine lv_aload_n hx hb dL_law_599 rfl (lv_at hl 4 rfl) ?_
  refine zcallw (invSW (As := [.ref o, .int (xs (i + 1)), .ref z]) (rest := []) (rm := RML) ⟨hx, hb, hml, hown, hts⟩ (vx_cwSW 3 hts gL_law_L_hole rfl rfl rfl (by decide +kernel) ⟨Nat.le_of_ble_eq_true rfl, Nat.le_of_ble_eq_true rfl⟩) rfl rfl hl.1 (Nat.le_of_ble_eq_true rfl) dL_law_600) hW hK hN hT hTN hA hP hD hS ⟨by show cells + 1 ≤ room_1.cells; omega, by show slots + 6 ≤ room_1.slots; omega⟩ (fun v9 H locs hP hD hS => ?_)
  refine lv_istore (lv' := (5, .int k9) :: [(4, .int (nI i)), (0, .ref bs), (1, .ref o), (2, .ref (h 0)), (3, .ref z)]) hx hb dL_law_603 hl (by decide) rfl (fun ls hl => ?_)
  refine lv_aload_n hx hb dL_law_605 rfl (lv_at hl 4 rfl) ?_
  refine lv_aload_n hx hb dL_law_606 rfl (lv_at hl 2 rfl) ?_
  refine lv_iload hx hb dL_law_607 (lv_at hl 1 rfl) ?_
  refine lv_iconst (v := 1) hx hb dL_law_609 (by decide) ?_
  refine lv_iadd hx hb dL_law_610 ?_
  refine xsld hx hb hX hbl hbA hS hL (i + 1) (nIa rfl) (by omega) dL_law_611 ?_
  refine zcalle (invV (As := [.int (xs (i + 1))]) (rest := []) (rm := ({ frames := 2, cells := 0, slots := 0, locals := 42 } : Room)) ⟨hx, hb, hml, hown, hts⟩ (cwV 1 hts gL_law_X6_hole rfl rfl rfl (by decide +kernel) ⟨Nat.le_of_ble_eq_true rfl, Nat.le_of_ble_eq_true rfl⟩) (va_recv hK hP (ci := 6) (q0 := 39) rfl rfl) rfl rfl hl.1 (Nat.le_of_ble_eq_true rfl) dL_law_612) hM hKi hN hA hP hD hS ⟨by show cells + 1 + 0 ≤ room_1.cells; omega, by show slots + 6 + 0 ≤ room_1.slots; omega⟩ (fun w9 H locs hP hD hS => ?_)
  refine lv_istore (lv' := (6, .int b9) :: (5, .int k9) :: [(4, .int (nI i)), (0, .ref bs), (1, .ref o), (2, .ref (h 0)), (3, .ref z)]) hx hb dL_law_615 hl (by decide) rfl (fun ls hl => ?_)
  refine lv_aload_n hx hb dL_law_617 rfl (lv_at hl 5 rfl) ?_
  refine zcalli (invV (As := []) (rest := []) (rm := ({ frames := 0, cells := 0, slots := 0, locals := 0 } : Room)) ⟨hx, hb, hml, hown, hts⟩ (cwV 0 hts gL_law_X6_thrown rfl rfl rfl (by decide +kernel) ⟨Nat.le_of_ble_eq_true rfl, Nat.le_of_ble_eq_true rfl⟩) (va_recv hK hP (ci := 6) (q0 := 39) rfl rfl) rfl rfl hl.1 (Nat.le_of_ble_eq_true rfl) dL_law_618) (c_X6_thrown l D cI h b2 d n1 q1 w9) hKi hN hA hP hD hS ⟨by show cells + 1 + 0 + 0 ≤ room_1.cells; omega, by show slots + 6 + 0 + 0 ≤ room_1.slots; omega⟩ (fun H locs hP hD hS => ?_)
  refine lv_iload hx hb dL_law_621 (lv_at hl 1 rfl) ?_
  refine lv_icmp_eq (tgt := 628) hx hb dL_law_623 (by decide) (fun c1 => ?_) (fun c1 => absurd e31 c1)
  refine lv_iload hx hb dL_law_628 (lv_at hl 1 rfl) ?_
  refine lv_if_ne (tgt := 645) hx hb dL_law_630 (by decide) (fun c2 => ?_) (fun c2 => ?_)
  · refine lv_goto (tgt := 1075) hx hb dL_law_645 (by decide) ?_
    refine W.widen (k := cells + 400) (n := slots + 2000) (by dsimp only [RML]; omega) (by dsimp only [RML]; omega) ?_
    exact kk _ _ _ _ _ _ _ _ _ _ S1 hP hD hS (lv_sub hl [2, 3, 4, 5, 6] rfl)
  · refine lv_aload_n hx hb dL_law_633 rfl (lv_at hl 6 rfl) ?_
    refine lv_iconst (v := 0) hx hb dL_law_634 (by decide) ?_
    refine va_lald hx hb hK hP 0 1 rfl rfl vp0 dL_law_635 ?_
    refine lv_iload hx hb dL_law_636 (lv_at hl 0 rfl) ?_
    refine lv_i2l (v := b9.toInt64) hx hb dL_law_638 rfl ?_
    refine W.lcmp hx hb dL_law_639 ?_
    have ec : lg_cmp (f1 (0 : Int32).toNatClampNeg) b9.toInt64 = 0 := by rw [show (0 : Int32).toNatClampNeg = 0 from rfl, eo c2]; exact lg_self _
    rw [ec]
    refine lv_if_eq (tgt := 645) hx hb dL_law_640 (by decide) (fun _ => ?_) (fun c3 => absurd rfl c3)
    refine lv_goto (tgt := 1075) hx hb dL_law_645 (by decide) ?_
    refine W.widen (k := cells + 400) (n := slots + 2000) (by dsimp only [RML]; omega) (by dsimp only [RML]; omega) ?_
    exact kk _ _ _ _ _ _ _ _ _ _ S1 hP hD hS (lv_sub hl [2, 3, 4, 5, 6] rfl)
set_option maxHeartbeats 4000000 in
set_option maxRecDepth 100000 in
theorem k_station {p : Program} {l : Launch} {e : Env} {s : State} {m : MethodId} {args : Array Value} {below : List Frame} {meth : Method} {c : Code} {Q : State → Prop} {A : Nat → Prop} {bs L : Nat} {xs : Nat → Int32} {D : va_G} {cI cL : ClassId} {o z : Nat} {g a b h b2 d : Nat → Nat} {i cells slots : Nat} (F : LF p l s m args c bs L xs D cI cL A) (hi : i + 4 ≤ L) (hc : cells + 400 ≤ room_1.cells) (hs : slots + 2000 ≤ room_1.slots) (kk : LG p l e s m args below meth c Q A bs D cI cL o z g a b h b2 d i (cells + 400) (slots + 2000) 1075) : LG p l e s m args below meth c Q A bs D cI cL o z g a b h b2 d i cells slots 648 := by
  intro H locs f n q u r v w ls S hP hD hS hl
  obtain ⟨hx, hb, hml, hown, hts, hX, hbl, hK, hN, hT, hTN, hA, hbA, hlt, hL⟩ := F
  have hKi := hK.sub (tys' := [(cI, .int)]) [0] rfl
  obtain ⟨k9, b9, n1, q1, u1, r1, f1, hW, hM, e31, eo, S1⟩ := j_station l hlt D cI cL o z g a b h b2 d n q u r S (xs (i + 1)) (xs (i + 2)) v w f
  refine lv_aload_n hx hb dL_law_648 rfl (lv_at hl 2 rfl) ?_
  refine lv_aload_n hx hb dL_law_649 rfl (lv_at hl 1 rfl) ?_
  refine lv_iload hx hb dL_law_650 (lv_at hl 0 rfl) ?_
  refine lv_iconst (v := 1) hx hb dL_law_652 (by decide) ?_
  refine lv_iadd hx hb dL_law_653 ?_
  refine xsld hx hb hX hbl hbA hS hL (i + 1) (nIa rfl) (by omega) dL_law_654 ?_
  refine lv_aload_n hx hb dL_law_655 rfl (lv_at hl 1 rfl) ?_
  refine lv_iload hx hb dL_law_656 (lv_at hl 0 rfl) ?_
  refine lv_iconst (v := 2) hx hb dL_law_658 (by decide) ?_
  refine lv_iadd hx hb dL_law_659 ?_
  refine xsld hx hb hX hbl hbA hS hL (i + 2) (nIa rfl) (by omega) dL_law_660 ?_
  refine lv_aload_n hx hb dL_law_661 rfl (lv_at hl 4 rfl) ?_
  refine zcallw (invSW (As := [.ref o, .int (xs (i + 1)), .int (xs (i + 2)), .ref z]) (rest := []) (rm := RML) ⟨hx, hb, hml, hown, hts⟩ (vx_cwSW 4 hts gL_law_L_station rfl rfl rfl (by decide +kernel) ⟨Nat.le_of_ble_eq_true rfl, Nat.le_of_ble_eq_true rfl⟩) rfl rfl hl.1 (Nat.le_of_ble_eq_true rfl) dL_law_662) hW hK hN hT hTN hA hP hD hS ⟨by show cells + 1 ≤ room_1.cells; omega, by show slots + 6 ≤ room_1.slots; omega⟩ (fun v9 H locs hP hD hS => ?_)
  refine lv_istore (lv' := (5, .int k9) :: [(4, .int (nI i)), (0, .ref bs), (1, .ref o), (2, .ref (h 0)), (3, .ref z)]) hx hb dL_law_665 hl (by decide) rfl (fun ls hl => ?_)
  refine lv_aload_n hx hb dL_law_667 rfl (lv_at hl 4 rfl) ?_
  refine lv_aload_n hx hb dL_law_668 rfl (lv_at hl 2 rfl) ?_
  refine lv_iload hx hb dL_law_669 (lv_at hl 1 rfl) ?_
  refine lv_iconst (v := 1) hx hb dL_law_671 (by decide) ?_
  refine lv_iadd hx hb dL_law_672 ?_
  refine xsld hx hb hX hbl hbA hS hL (i + 1) (nIa rfl) (by omega) dL_law_673 ?_
  refine lv_aload_n hx hb dL_law_674 rfl (lv_at hl 2 rfl) ?_
  refine lv_iload hx hb dL_law_675 (lv_at hl 1 rfl) ?_
  refine lv_iconst (v := 2) hx hb dL_law_677 (by decide) ?_
  refine lv_iadd hx hb dL_law_678 ?_
  refine xsld hx hb hX hbl hbA hS hL (i + 2) (nIa rfl) (by omega) dL_law_679 ?_
  refine zcalle (invV (As := [.int (xs (i + 1)), .int (xs (i + 2))]) (rest := []) (rm := ({ frames := 2, cells := 0, slots := 0, locals := 42 } : Room)) ⟨hx, hb, hml, hown, hts⟩ (cwV 2 hts gL_law_X6_station rfl rfl rfl (by decide +kernel) ⟨Nat.le_of_ble_eq_true rfl, Nat.le_of_ble_eq_true rfl⟩) (va_recv hK hP (ci := 6) (q0 := 39) rfl rfl) rfl rfl hl.1 (Nat.le_of_ble_eq_true rfl) dL_law_680) hM hKi hN hA hP hD hS ⟨by show cells + 1 + 0 ≤ room_1.cells; omega, by show slots + 6 + 0 ≤ room_1.slots; omega⟩ (fun w9 H locs hP hD hS => ?_)
  refine lv_istore (lv' := (6, .int b9) :: (5, .int k9) :: [(4, .int (nI i)), (0, .ref bs), (1, .ref o), (2, .ref (h 0)), (3, .ref z)]) hx hb dL_law_683 hl (by decide) rfl (fun ls hl => ?_)
  refine lv_aload_n hx hb dL_law_685 rfl (lv_at hl 5 rfl) ?_
  refine zcalli (invV (As := []) (rest := []) (rm := ({ frames := 0, cells := 0, slots := 0, locals := 0 } : Room)) ⟨hx, hb, hml, hown, hts⟩ (cwV 0 hts gL_law_X6_thrown rfl rfl rfl (by decide +kernel) ⟨Nat.le_of_ble_eq_true rfl, Nat.le_of_ble_eq_true rfl⟩) (va_recv hK hP (ci := 6) (q0 := 39) rfl rfl) rfl rfl hl.1 (Nat.le_of_ble_eq_true rfl) dL_law_686) (c_X6_thrown l D cI h b2 d n1 q1 w9) hKi hN hA hP hD hS ⟨by show cells + 1 + 0 + 0 ≤ room_1.cells; omega, by show slots + 6 + 0 + 0 ≤ room_1.slots; omega⟩ (fun H locs hP hD hS => ?_)
  refine lv_iload hx hb dL_law_689 (lv_at hl 1 rfl) ?_
  refine lv_icmp_eq (tgt := 696) hx hb dL_law_691 (by decide) (fun c1 => ?_) (fun c1 => absurd e31 c1)
  refine lv_iload hx hb dL_law_696 (lv_at hl 1 rfl) ?_
  refine lv_if_ne (tgt := 713) hx hb dL_law_698 (by decide) (fun c2 => ?_) (fun c2 => ?_)
  · refine lv_goto (tgt := 1075) hx hb dL_law_713 (by decide) ?_
    refine W.widen (k := cells + 400) (n := slots + 2000) (by dsimp only [RML]; omega) (by dsimp only [RML]; omega) ?_
    exact kk _ _ _ _ _ _ _ _ _ _ S1 hP hD hS (lv_sub hl [2, 3, 4, 5, 6] rfl)
  · refine lv_aload_n hx hb dL_law_701 rfl (lv_at hl 6 rfl) ?_
    refine lv_iconst (v := 0) hx hb dL_law_702 (by decide) ?_
    refine va_lald hx hb hK hP 0 1 rfl rfl vp0 dL_law_703 ?_
    refine lv_iload hx hb dL_law_704 (lv_at hl 0 rfl) ?_
    refine lv_i2l (v := b9.toInt64) hx hb dL_law_706 rfl ?_
    refine W.lcmp hx hb dL_law_707 ?_
    have ec : lg_cmp (f1 (0 : Int32).toNatClampNeg) b9.toInt64 = 0 := by rw [show (0 : Int32).toNatClampNeg = 0 from rfl, eo c2]; exact lg_self _
    rw [ec]
    refine lv_if_eq (tgt := 713) hx hb dL_law_708 (by decide) (fun _ => ?_) (fun c3 => absurd rfl c3)
    refine lv_goto (tgt := 1075) hx hb dL_law_713 (by decide) ?_
    refine W.widen (k := cells + 400) (n := slots + 2000) (by dsimp only [RML]; omega) (by dsimp only [RML]; omega) ?_
    exact kk _ _ _ _ _ _ _ _ _ _ S1 hP hD hS (lv_sub hl [2, 3, 4, 5, 6] rfl)
set_option maxHeartbeats 4000000 in
set_option maxRecDepth 100000 in
theorem k_count {p : Program} {l : Launch} {e : Env} {s : State} {m : MethodId} {args : Array Value} {below : List Frame} {meth : Method} {c : Code} {Q : State → Prop} {A : Nat → Prop} {bs L : Nat} {xs : Nat → Int32} {D : va_G} {cI cL : ClassId} {o z : Nat} {g a b h b2 d : Nat → Nat} {i cells slots : Nat} (F : LF p l s m args c bs L xs D cI cL A) (hi : i + 4 ≤ L) (hc : cells + 400 ≤ room_1.cells) (hs : slots + 2000 ≤ room_1.slots) (kk : LG p l e s m args below meth c Q A bs D cI cL o z g a b h b2 d i (cells + 400) (slots + 2000) 1075) : LG p l e s m args below meth c Q A bs D cI cL o z g a b h b2 d i cells slots 716 := by
  intro H locs f n q u r v w ls S hP hD hS hl
  obtain ⟨hx, hb, hml, hown, hts, hX, hbl, hK, hN, hT, hTN, hA, hbA, hlt, hL⟩ := F
  have hKi := hK.sub (tys' := [(cI, .int)]) [0] rfl
  obtain ⟨k9, b9, n1, q1, u1, r1, f1, hW, hM, e31, eo, S1⟩ := j_count l hlt D cI cL o z g a b h b2 d n q u r S (xs (i + 1)) v w f
  refine lv_aload_n hx hb dL_law_716 rfl (lv_at hl 2 rfl) ?_
  refine lv_aload_n hx hb dL_law_717 rfl (lv_at hl 1 rfl) ?_
  refine lv_iload hx hb dL_law_718 (lv_at hl 0 rfl) ?_
  refine lv_iconst (v := 1) hx hb dL_law_720 (by decide) ?_
  refine lv_iadd hx hb dL_law_721 ?_
  refine xsld hx hb hX hbl hbA hS hL (i + 1) (nIa rfl) (by omega) dL_law_722 ?_
  refine lv_aload_n hx hb dL_law_723 rfl (lv_at hl 4 rfl) ?_
  refine zcallw (invSW (As := [.ref o, .int (xs (i + 1)), .ref z]) (rest := []) (rm := RML) ⟨hx, hb, hml, hown, hts⟩ (vx_cwSW 3 hts gL_law_L_count rfl rfl rfl (by decide +kernel) ⟨Nat.le_of_ble_eq_true rfl, Nat.le_of_ble_eq_true rfl⟩) rfl rfl hl.1 (Nat.le_of_ble_eq_true rfl) dL_law_724) hW hK hN hT hTN hA hP hD hS ⟨by show cells + 1 ≤ room_1.cells; omega, by show slots + 6 ≤ room_1.slots; omega⟩ (fun v9 H locs hP hD hS => ?_)
  refine lv_istore (lv' := (5, .int k9) :: [(4, .int (nI i)), (0, .ref bs), (1, .ref o), (2, .ref (h 0)), (3, .ref z)]) hx hb dL_law_727 hl (by decide) rfl (fun ls hl => ?_)
  refine lv_aload_n hx hb dL_law_729 rfl (lv_at hl 4 rfl) ?_
  refine lv_aload_n hx hb dL_law_730 rfl (lv_at hl 2 rfl) ?_
  refine lv_iload hx hb dL_law_731 (lv_at hl 1 rfl) ?_
  refine lv_iconst (v := 1) hx hb dL_law_733 (by decide) ?_
  refine lv_iadd hx hb dL_law_734 ?_
  refine xsld hx hb hX hbl hbA hS hL (i + 1) (nIa rfl) (by omega) dL_law_735 ?_
  refine zcalle (invV (As := [.int (xs (i + 1))]) (rest := []) (rm := ({ frames := 3, cells := 0, slots := 0, locals := 64 } : Room)) ⟨hx, hb, hml, hown, hts⟩ (cwV 1 hts gL_law_X6_count rfl rfl rfl (by decide +kernel) ⟨Nat.le_of_ble_eq_true rfl, Nat.le_of_ble_eq_true rfl⟩) (va_recv hK hP (ci := 6) (q0 := 39) rfl rfl) rfl rfl hl.1 (Nat.le_of_ble_eq_true rfl) dL_law_736) hM hKi hN hA hP hD hS ⟨by show cells + 1 + 0 ≤ room_1.cells; omega, by show slots + 6 + 0 ≤ room_1.slots; omega⟩ (fun w9 H locs hP hD hS => ?_)
  refine lv_istore (lv' := (6, .int b9) :: (5, .int k9) :: [(4, .int (nI i)), (0, .ref bs), (1, .ref o), (2, .ref (h 0)), (3, .ref z)]) hx hb dL_law_739 hl (by decide) rfl (fun ls hl => ?_)
  refine lv_aload_n hx hb dL_law_741 rfl (lv_at hl 5 rfl) ?_
  refine zcalli (invV (As := []) (rest := []) (rm := ({ frames := 0, cells := 0, slots := 0, locals := 0 } : Room)) ⟨hx, hb, hml, hown, hts⟩ (cwV 0 hts gL_law_X6_thrown rfl rfl rfl (by decide +kernel) ⟨Nat.le_of_ble_eq_true rfl, Nat.le_of_ble_eq_true rfl⟩) (va_recv hK hP (ci := 6) (q0 := 39) rfl rfl) rfl rfl hl.1 (Nat.le_of_ble_eq_true rfl) dL_law_742) (c_X6_thrown l D cI h b2 d n1 q1 w9) hKi hN hA hP hD hS ⟨by show cells + 1 + 0 + 0 ≤ room_1.cells; omega, by show slots + 6 + 0 + 0 ≤ room_1.slots; omega⟩ (fun H locs hP hD hS => ?_)
  refine lv_iload hx hb dL_law_745 (lv_at hl 1 rfl) ?_
  refine lv_icmp_eq (tgt := 752) hx hb dL_law_747 (by decide) (fun c1 => ?_) (fun c1 => absurd e31 c1)
  refine lv_iload hx hb dL_law_752 (lv_at hl 1 rfl) ?_
  refine lv_if_ne (tgt := 769) hx hb dL_law_754 (by decide) (fun c2 => ?_) (fun c2 => ?_)
  · refine lv_goto (tgt := 1075) hx hb dL_law_769 (by decide) ?_
    refine W.widen (k := cells + 400) (n := slots + 2000) (by dsimp only [RML]; omega) (by dsimp only [RML]; omega) ?_
    exact kk _ _ _ _ _ _ _ _ _ _ S1 hP hD hS (lv_sub hl [2, 3, 4, 5, 6] rfl)
  · refine lv_aload_n hx hb dL_law_757 rfl (lv_at hl 6 rfl) ?_
    refine lv_iconst (v := 0) hx hb dL_law_758 (by decide) ?_
    refine va_lald hx hb hK hP 0 1 rfl rfl vp0 dL_law_759 ?_
    refine lv_iload hx hb dL_law_760 (lv_at hl 0 rfl) ?_
    refine lv_i2l (v := b9.toInt64) hx hb dL_law_762 rfl ?_
    refine W.lcmp hx hb dL_law_763 ?_
    have ec : lg_cmp (f1 (0 : Int32).toNatClampNeg) b9.toInt64 = 0 := by rw [show (0 : Int32).toNatClampNeg = 0 from rfl, eo c2]; exact lg_self _
    rw [ec]
    refine lv_if_eq (tgt := 769) hx hb dL_law_764 (by decide) (fun _ => ?_) (fun c3 => absurd rfl c3)
    refine lv_goto (tgt := 1075) hx hb dL_law_769 (by decide) ?_
    refine W.widen (k := cells + 400) (n := slots + 2000) (by dsimp only [RML]; omega) (by dsimp only [RML]; omega) ?_
    exact kk _ _ _ _ _ _ _ _ _ _ S1 hP hD hS (lv_sub hl [2, 3, 4, 5, 6] rfl)
set_option maxHeartbeats 4000000 in
set_option maxRecDepth 100000 in
theorem k_pass {p : Program} {l : Launch} {e : Env} {s : State} {m : MethodId} {args : Array Value} {below : List Frame} {meth : Method} {c : Code} {Q : State → Prop} {A : Nat → Prop} {bs L : Nat} {xs : Nat → Int32} {D : va_G} {cI cL : ClassId} {o z : Nat} {g a b h b2 d : Nat → Nat} {i cells slots : Nat} (F : LF p l s m args c bs L xs D cI cL A) (hi : i + 4 ≤ L) (hc : cells + 400 ≤ room_1.cells) (hs : slots + 2000 ≤ room_1.slots) (kk : LG p l e s m args below meth c Q A bs D cI cL o z g a b h b2 d i (cells + 400) (slots + 2000) 1075) : LG p l e s m args below meth c Q A bs D cI cL o z g a b h b2 d i cells slots 772 := by
  intro H locs f n q u r v w ls S hP hD hS hl
  obtain ⟨hx, hb, hml, hown, hts, hX, hbl, hK, hN, hT, hTN, hA, hbA, hlt, hL⟩ := F
  have hKi := hK.sub (tys' := [(cI, .int)]) [0] rfl
  obtain ⟨k9, b9, n1, q1, u1, r1, f1, hW, hM, e31, eo, S1⟩ := j_pass l hlt D cI cL o z g a b h b2 d n q u r S (xs (i + 1)) v w f
  refine lv_aload_n hx hb dL_law_772 rfl (lv_at hl 2 rfl) ?_
  refine lv_aload_n hx hb dL_law_773 rfl (lv_at hl 1 rfl) ?_
  refine lv_iload hx hb dL_law_774 (lv_at hl 0 rfl) ?_
  refine lv_iconst (v := 1) hx hb dL_law_776 (by decide) ?_
  refine lv_iadd hx hb dL_law_777 ?_
  refine xsld hx hb hX hbl hbA hS hL (i + 1) (nIa rfl) (by omega) dL_law_778 ?_
  refine lv_aload_n hx hb dL_law_779 rfl (lv_at hl 4 rfl) ?_
  refine zcallw (invSW (As := [.ref o, .int (xs (i + 1)), .ref z]) (rest := []) (rm := RML) ⟨hx, hb, hml, hown, hts⟩ (vx_cwSW 3 hts gL_law_L_pass rfl rfl rfl (by decide +kernel) ⟨Nat.le_of_ble_eq_true rfl, Nat.le_of_ble_eq_true rfl⟩) rfl rfl hl.1 (Nat.le_of_ble_eq_true rfl) dL_law_780) hW hK hN hT hTN hA hP hD hS ⟨by show cells + 1 ≤ room_1.cells; omega, by show slots + 6 ≤ room_1.slots; omega⟩ (fun v9 H locs hP hD hS => ?_)
  refine lv_istore (lv' := (5, .int k9) :: [(4, .int (nI i)), (0, .ref bs), (1, .ref o), (2, .ref (h 0)), (3, .ref z)]) hx hb dL_law_783 hl (by decide) rfl (fun ls hl => ?_)
  refine lv_aload_n hx hb dL_law_785 rfl (lv_at hl 4 rfl) ?_
  refine lv_aload_n hx hb dL_law_786 rfl (lv_at hl 2 rfl) ?_
  refine lv_iload hx hb dL_law_787 (lv_at hl 1 rfl) ?_
  refine lv_iconst (v := 1) hx hb dL_law_789 (by decide) ?_
  refine lv_iadd hx hb dL_law_790 ?_
  refine xsld hx hb hX hbl hbA hS hL (i + 1) (nIa rfl) (by omega) dL_law_791 ?_
  refine zcalle (invV (As := [.int (xs (i + 1))]) (rest := []) (rm := ({ frames := 5, cells := 0, slots := 0, locals := 149 } : Room)) ⟨hx, hb, hml, hown, hts⟩ (cwV 1 hts gL_law_X6_pass rfl rfl rfl (by decide +kernel) ⟨Nat.le_of_ble_eq_true rfl, Nat.le_of_ble_eq_true rfl⟩) (va_recv hK hP (ci := 6) (q0 := 39) rfl rfl) rfl rfl hl.1 (Nat.le_of_ble_eq_true rfl) dL_law_792) hM hKi hN hA hP hD hS ⟨by show cells + 1 + 0 ≤ room_1.cells; omega, by show slots + 6 + 0 ≤ room_1.slots; omega⟩ (fun w9 H locs hP hD hS => ?_)
  refine lv_istore (lv' := (6, .int b9) :: (5, .int k9) :: [(4, .int (nI i)), (0, .ref bs), (1, .ref o), (2, .ref (h 0)), (3, .ref z)]) hx hb dL_law_795 hl (by decide) rfl (fun ls hl => ?_)
  refine lv_aload_n hx hb dL_law_797 rfl (lv_at hl 5 rfl) ?_
  refine zcalli (invV (As := []) (rest := []) (rm := ({ frames := 0, cells := 0, slots := 0, locals := 0 } : Room)) ⟨hx, hb, hml, hown, hts⟩ (cwV 0 hts gL_law_X6_thrown rfl rfl rfl (by decide +kernel) ⟨Nat.le_of_ble_eq_true rfl, Nat.le_of_ble_eq_true rfl⟩) (va_recv hK hP (ci := 6) (q0 := 39) rfl rfl) rfl rfl hl.1 (Nat.le_of_ble_eq_true rfl) dL_law_798) (c_X6_thrown l D cI h b2 d n1 q1 w9) hKi hN hA hP hD hS ⟨by show cells + 1 + 0 + 0 ≤ room_1.cells; omega, by show slots + 6 + 0 + 0 ≤ room_1.slots; omega⟩ (fun H locs hP hD hS => ?_)
  refine lv_iload hx hb dL_law_801 (lv_at hl 1 rfl) ?_
  refine lv_icmp_eq (tgt := 808) hx hb dL_law_803 (by decide) (fun c1 => ?_) (fun c1 => absurd e31 c1)
  refine lv_iload hx hb dL_law_808 (lv_at hl 1 rfl) ?_
  refine lv_if_ne (tgt := 825) hx hb dL_law_810 (by decide) (fun c2 => ?_) (fun c2 => ?_)
  · refine lv_goto (tgt := 1075) hx hb dL_law_825 (by decide) ?_
    refine W.widen (k := cells + 400) (n := slots + 2000) (by dsimp only [RML]; omega) (by dsimp only [RML]; omega) ?_
    exact kk _ _ _ _ _ _ _ _ _ _ S1 hP hD hS (lv_sub hl [2, 3, 4, 5, 6] rfl)
  · refine lv_aload_n hx hb dL_law_813 rfl (lv_at hl 6 rfl) ?_
    refine lv_iconst (v := 0) hx hb dL_law_814 (by decide) ?_
    refine va_lald hx hb hK hP 0 1 rfl rfl vp0 dL_law_815 ?_
    refine lv_iload hx hb dL_law_816 (lv_at hl 0 rfl) ?_
    refine lv_i2l (v := b9.toInt64) hx hb dL_law_818 rfl ?_
    refine W.lcmp hx hb dL_law_819 ?_
    have ec : lg_cmp (f1 (0 : Int32).toNatClampNeg) b9.toInt64 = 0 := by rw [show (0 : Int32).toNatClampNeg = 0 from rfl, eo c2]; exact lg_self _
    rw [ec]
    refine lv_if_eq (tgt := 825) hx hb dL_law_820 (by decide) (fun _ => ?_) (fun c3 => absurd rfl c3)
    refine lv_goto (tgt := 1075) hx hb dL_law_825 (by decide) ?_
    refine W.widen (k := cells + 400) (n := slots + 2000) (by dsimp only [RML]; omega) (by dsimp only [RML]; omega) ?_
    exact kk _ _ _ _ _ _ _ _ _ _ S1 hP hD hS (lv_sub hl [2, 3, 4, 5, 6] rfl)
set_option maxHeartbeats 4000000 in
set_option maxRecDepth 100000 in
theorem k_arrives {p : Program} {l : Launch} {e : Env} {s : State} {m : MethodId} {args : Array Value} {below : List Frame} {meth : Method} {c : Code} {Q : State → Prop} {A : Nat → Prop} {bs L : Nat} {xs : Nat → Int32} {D : va_G} {cI cL : ClassId} {o z : Nat} {g a b h b2 d : Nat → Nat} {i cells slots : Nat} (F : LF p l s m args c bs L xs D cI cL A) (hi : i + 4 ≤ L) (hc : cells + 400 ≤ room_1.cells) (hs : slots + 2000 ≤ room_1.slots) (kk : LG p l e s m args below meth c Q A bs D cI cL o z g a b h b2 d i (cells + 400) (slots + 2000) 1075) : LG p l e s m args below meth c Q A bs D cI cL o z g a b h b2 d i cells slots 828 := by
  intro H locs f n q u r v w ls S hP hD hS hl
  obtain ⟨hx, hb, hml, hown, hts, hX, hbl, hK, hN, hT, hTN, hA, hbA, hlt, hL⟩ := F
  have hKi := hK.sub (tys' := [(cI, .int)]) [0] rfl
  obtain ⟨k9, b9, n1, q1, u1, r1, f1, hW, hM, e31, eo, S1⟩ := j_arrives l hlt D cI cL o z g a b h b2 d n q u r S (xs (i + 1)) v w f
  refine lv_aload_n hx hb dL_law_828 rfl (lv_at hl 2 rfl) ?_
  refine lv_aload_n hx hb dL_law_829 rfl (lv_at hl 1 rfl) ?_
  refine lv_iload hx hb dL_law_830 (lv_at hl 0 rfl) ?_
  refine lv_iconst (v := 1) hx hb dL_law_832 (by decide) ?_
  refine lv_iadd hx hb dL_law_833 ?_
  refine xsld hx hb hX hbl hbA hS hL (i + 1) (nIa rfl) (by omega) dL_law_834 ?_
  refine lv_aload_n hx hb dL_law_835 rfl (lv_at hl 4 rfl) ?_
  refine zcallw (invSW (As := [.ref o, .int (xs (i + 1)), .ref z]) (rest := []) (rm := RML) ⟨hx, hb, hml, hown, hts⟩ (vx_cwSW 3 hts gL_law_L_arrives rfl rfl rfl (by decide +kernel) ⟨Nat.le_of_ble_eq_true rfl, Nat.le_of_ble_eq_true rfl⟩) rfl rfl hl.1 (Nat.le_of_ble_eq_true rfl) dL_law_836) hW hK hN hT hTN hA hP hD hS ⟨by show cells + 1 ≤ room_1.cells; omega, by show slots + 6 ≤ room_1.slots; omega⟩ (fun v9 H locs hP hD hS => ?_)
  refine lv_istore (lv' := (5, .int k9) :: [(4, .int (nI i)), (0, .ref bs), (1, .ref o), (2, .ref (h 0)), (3, .ref z)]) hx hb dL_law_839 hl (by decide) rfl (fun ls hl => ?_)
  refine lv_aload_n hx hb dL_law_841 rfl (lv_at hl 4 rfl) ?_
  refine lv_aload_n hx hb dL_law_842 rfl (lv_at hl 2 rfl) ?_
  refine lv_iload hx hb dL_law_843 (lv_at hl 1 rfl) ?_
  refine lv_iconst (v := 1) hx hb dL_law_845 (by decide) ?_
  refine lv_iadd hx hb dL_law_846 ?_
  refine xsld hx hb hX hbl hbA hS hL (i + 1) (nIa rfl) (by omega) dL_law_847 ?_
  refine zcalle (invV (As := [.int (xs (i + 1))]) (rest := []) (rm := ({ frames := 4, cells := 0, slots := 0, locals := 126 } : Room)) ⟨hx, hb, hml, hown, hts⟩ (cwV 1 hts gL_law_X6_arrives rfl rfl rfl (by decide +kernel) ⟨Nat.le_of_ble_eq_true rfl, Nat.le_of_ble_eq_true rfl⟩) (va_recv hK hP (ci := 6) (q0 := 39) rfl rfl) rfl rfl hl.1 (Nat.le_of_ble_eq_true rfl) dL_law_848) hM hKi hN hA hP hD hS ⟨by show cells + 1 + 0 ≤ room_1.cells; omega, by show slots + 6 + 0 ≤ room_1.slots; omega⟩ (fun w9 H locs hP hD hS => ?_)
  refine lv_istore (lv' := (6, .int b9) :: (5, .int k9) :: [(4, .int (nI i)), (0, .ref bs), (1, .ref o), (2, .ref (h 0)), (3, .ref z)]) hx hb dL_law_851 hl (by decide) rfl (fun ls hl => ?_)
  refine lv_aload_n hx hb dL_law_853 rfl (lv_at hl 5 rfl) ?_
  refine zcalli (invV (As := []) (rest := []) (rm := ({ frames := 0, cells := 0, slots := 0, locals := 0 } : Room)) ⟨hx, hb, hml, hown, hts⟩ (cwV 0 hts gL_law_X6_thrown rfl rfl rfl (by decide +kernel) ⟨Nat.le_of_ble_eq_true rfl, Nat.le_of_ble_eq_true rfl⟩) (va_recv hK hP (ci := 6) (q0 := 39) rfl rfl) rfl rfl hl.1 (Nat.le_of_ble_eq_true rfl) dL_law_854) (c_X6_thrown l D cI h b2 d n1 q1 w9) hKi hN hA hP hD hS ⟨by show cells + 1 + 0 + 0 ≤ room_1.cells; omega, by show slots + 6 + 0 + 0 ≤ room_1.slots; omega⟩ (fun H locs hP hD hS => ?_)
  refine lv_iload hx hb dL_law_857 (lv_at hl 1 rfl) ?_
  refine lv_icmp_eq (tgt := 864) hx hb dL_law_859 (by decide) (fun c1 => ?_) (fun c1 => absurd e31 c1)
  refine lv_iload hx hb dL_law_864 (lv_at hl 1 rfl) ?_
  refine lv_if_ne (tgt := 881) hx hb dL_law_866 (by decide) (fun c2 => ?_) (fun c2 => ?_)
  · refine lv_goto (tgt := 1075) hx hb dL_law_881 (by decide) ?_
    refine W.widen (k := cells + 400) (n := slots + 2000) (by dsimp only [RML]; omega) (by dsimp only [RML]; omega) ?_
    exact kk _ _ _ _ _ _ _ _ _ _ S1 hP hD hS (lv_sub hl [2, 3, 4, 5, 6] rfl)
  · refine lv_aload_n hx hb dL_law_869 rfl (lv_at hl 6 rfl) ?_
    refine lv_iconst (v := 0) hx hb dL_law_870 (by decide) ?_
    refine va_lald hx hb hK hP 0 1 rfl rfl vp0 dL_law_871 ?_
    refine lv_iload hx hb dL_law_872 (lv_at hl 0 rfl) ?_
    refine lv_i2l (v := b9.toInt64) hx hb dL_law_874 rfl ?_
    refine W.lcmp hx hb dL_law_875 ?_
    have ec : lg_cmp (f1 (0 : Int32).toNatClampNeg) b9.toInt64 = 0 := by rw [show (0 : Int32).toNatClampNeg = 0 from rfl, eo c2]; exact lg_self _
    rw [ec]
    refine lv_if_eq (tgt := 881) hx hb dL_law_876 (by decide) (fun _ => ?_) (fun c3 => absurd rfl c3)
    refine lv_goto (tgt := 1075) hx hb dL_law_881 (by decide) ?_
    refine W.widen (k := cells + 400) (n := slots + 2000) (by dsimp only [RML]; omega) (by dsimp only [RML]; omega) ?_
    exact kk _ _ _ _ _ _ _ _ _ _ S1 hP hD hS (lv_sub hl [2, 3, 4, 5, 6] rfl)
set_option maxHeartbeats 4000000 in
set_option maxRecDepth 100000 in
theorem k_foresee {p : Program} {l : Launch} {e : Env} {s : State} {m : MethodId} {args : Array Value} {below : List Frame} {meth : Method} {c : Code} {Q : State → Prop} {A : Nat → Prop} {bs L : Nat} {xs : Nat → Int32} {D : va_G} {cI cL : ClassId} {o z : Nat} {g a b h b2 d : Nat → Nat} {i cells slots : Nat} (F : LF p l s m args c bs L xs D cI cL A) (hi : i + 4 ≤ L) (hc : cells + 400 ≤ room_1.cells) (hs : slots + 2000 ≤ room_1.slots) (kk : LG p l e s m args below meth c Q A bs D cI cL o z g a b h b2 d i (cells + 400) (slots + 2000) 1075) : LG p l e s m args below meth c Q A bs D cI cL o z g a b h b2 d i cells slots 884 := by
  intro H locs f n q u r v w ls S hP hD hS hl
  obtain ⟨hx, hb, hml, hown, hts, hX, hbl, hK, hN, hT, hTN, hA, hbA, hlt, hL⟩ := F
  have hKi := hK.sub (tys' := [(cI, .int)]) [0] rfl
  obtain ⟨k9, b9, n1, q1, u1, r1, f1, hW, hM, e31, eo, S1⟩ := j_foresee l hlt D cI cL o z g a b h b2 d n q u r S (xs (i + 1)) (xs (i + 2)) v w f
  refine lv_aload_n hx hb dL_law_884 rfl (lv_at hl 2 rfl) ?_
  refine lv_aload_n hx hb dL_law_885 rfl (lv_at hl 1 rfl) ?_
  refine lv_iload hx hb dL_law_886 (lv_at hl 0 rfl) ?_
  refine lv_iconst (v := 1) hx hb dL_law_888 (by decide) ?_
  refine lv_iadd hx hb dL_law_889 ?_
  refine xsld hx hb hX hbl hbA hS hL (i + 1) (nIa rfl) (by omega) dL_law_890 ?_
  refine lv_aload_n hx hb dL_law_891 rfl (lv_at hl 1 rfl) ?_
  refine lv_iload hx hb dL_law_892 (lv_at hl 0 rfl) ?_
  refine lv_iconst (v := 2) hx hb dL_law_894 (by decide) ?_
  refine lv_iadd hx hb dL_law_895 ?_
  refine xsld hx hb hX hbl hbA hS hL (i + 2) (nIa rfl) (by omega) dL_law_896 ?_
  refine lv_aload_n hx hb dL_law_897 rfl (lv_at hl 4 rfl) ?_
  refine zcallw (invSW (As := [.ref o, .int (xs (i + 1)), .int (xs (i + 2)), .ref z]) (rest := []) (rm := RML) ⟨hx, hb, hml, hown, hts⟩ (vx_cwSW 4 hts gL_law_L_foresee rfl rfl rfl (by decide +kernel) ⟨Nat.le_of_ble_eq_true rfl, Nat.le_of_ble_eq_true rfl⟩) rfl rfl hl.1 (Nat.le_of_ble_eq_true rfl) dL_law_898) hW hK hN hT hTN hA hP hD hS ⟨by show cells + 1 ≤ room_1.cells; omega, by show slots + 6 ≤ room_1.slots; omega⟩ (fun v9 H locs hP hD hS => ?_)
  refine lv_istore (lv' := (5, .int k9) :: [(4, .int (nI i)), (0, .ref bs), (1, .ref o), (2, .ref (h 0)), (3, .ref z)]) hx hb dL_law_901 hl (by decide) rfl (fun ls hl => ?_)
  refine lv_aload_n hx hb dL_law_903 rfl (lv_at hl 4 rfl) ?_
  refine lv_aload_n hx hb dL_law_904 rfl (lv_at hl 2 rfl) ?_
  refine lv_iload hx hb dL_law_905 (lv_at hl 1 rfl) ?_
  refine lv_iconst (v := 1) hx hb dL_law_907 (by decide) ?_
  refine lv_iadd hx hb dL_law_908 ?_
  refine xsld hx hb hX hbl hbA hS hL (i + 1) (nIa rfl) (by omega) dL_law_909 ?_
  refine lv_aload_n hx hb dL_law_910 rfl (lv_at hl 2 rfl) ?_
  refine lv_iload hx hb dL_law_911 (lv_at hl 1 rfl) ?_
  refine lv_iconst (v := 2) hx hb dL_law_913 (by decide) ?_
  refine lv_iadd hx hb dL_law_914 ?_
  refine xsld hx hb hX hbl hbA hS hL (i + 2) (nIa rfl) (by omega) dL_law_915 ?_
  refine zcalle (invV (As := [.int (xs (i + 1)), .int (xs (i + 2))]) (rest := []) (rm := ({ frames := 5, cells := 0, slots := 0, locals := 149 } : Room)) ⟨hx, hb, hml, hown, hts⟩ (cwV 2 hts gL_law_X6_foresee rfl rfl rfl (by decide +kernel) ⟨Nat.le_of_ble_eq_true rfl, Nat.le_of_ble_eq_true rfl⟩) (va_recv hK hP (ci := 6) (q0 := 39) rfl rfl) rfl rfl hl.1 (Nat.le_of_ble_eq_true rfl) dL_law_916) hM hKi hN hA hP hD hS ⟨by show cells + 1 + 0 ≤ room_1.cells; omega, by show slots + 6 + 0 ≤ room_1.slots; omega⟩ (fun w9 H locs hP hD hS => ?_)
  refine lv_istore (lv' := (6, .int b9) :: (5, .int k9) :: [(4, .int (nI i)), (0, .ref bs), (1, .ref o), (2, .ref (h 0)), (3, .ref z)]) hx hb dL_law_919 hl (by decide) rfl (fun ls hl => ?_)
  refine lv_aload_n hx hb dL_law_921 rfl (lv_at hl 5 rfl) ?_
  refine zcalli (invV (As := []) (rest := []) (rm := ({ frames := 0, cells := 0, slots := 0, locals := 0 } : Room)) ⟨hx, hb, hml, hown, hts⟩ (cwV 0 hts gL_law_X6_thrown rfl rfl rfl (by decide +kernel) ⟨Nat.le_of_ble_eq_true rfl, Nat.le_of_ble_eq_true rfl⟩) (va_recv hK hP (ci := 6) (q0 := 39) rfl rfl) rfl rfl hl.1 (Nat.le_of_ble_eq_true rfl) dL_law_922) (c_X6_thrown l D cI h b2 d n1 q1 w9) hKi hN hA hP hD hS ⟨by show cells + 1 + 0 + 0 ≤ room_1.cells; omega, by show slots + 6 + 0 + 0 ≤ room_1.slots; omega⟩ (fun H locs hP hD hS => ?_)
  refine lv_iload hx hb dL_law_925 (lv_at hl 1 rfl) ?_
  refine lv_icmp_eq (tgt := 932) hx hb dL_law_927 (by decide) (fun c1 => ?_) (fun c1 => absurd e31 c1)
  refine lv_iload hx hb dL_law_932 (lv_at hl 1 rfl) ?_
  refine lv_if_ne (tgt := 949) hx hb dL_law_934 (by decide) (fun c2 => ?_) (fun c2 => ?_)
  · refine lv_goto (tgt := 1075) hx hb dL_law_949 (by decide) ?_
    refine W.widen (k := cells + 400) (n := slots + 2000) (by dsimp only [RML]; omega) (by dsimp only [RML]; omega) ?_
    exact kk _ _ _ _ _ _ _ _ _ _ S1 hP hD hS (lv_sub hl [2, 3, 4, 5, 6] rfl)
  · refine lv_aload_n hx hb dL_law_937 rfl (lv_at hl 6 rfl) ?_
    refine lv_iconst (v := 0) hx hb dL_law_938 (by decide) ?_
    refine va_lald hx hb hK hP 0 1 rfl rfl vp0 dL_law_939 ?_
    refine lv_iload hx hb dL_law_940 (lv_at hl 0 rfl) ?_
    refine lv_i2l (v := b9.toInt64) hx hb dL_law_942 rfl ?_
    refine W.lcmp hx hb dL_law_943 ?_
    have ec : lg_cmp (f1 (0 : Int32).toNatClampNeg) b9.toInt64 = 0 := by rw [show (0 : Int32).toNatClampNeg = 0 from rfl, eo c2]; exact lg_self _
    rw [ec]
    refine lv_if_eq (tgt := 949) hx hb dL_law_944 (by decide) (fun _ => ?_) (fun c3 => absurd rfl c3)
    refine lv_goto (tgt := 1075) hx hb dL_law_949 (by decide) ?_
    refine W.widen (k := cells + 400) (n := slots + 2000) (by dsimp only [RML]; omega) (by dsimp only [RML]; omega) ?_
    exact kk _ _ _ _ _ _ _ _ _ _ S1 hP hD hS (lv_sub hl [2, 3, 4, 5, 6] rfl)
set_option maxHeartbeats 4000000 in
set_option maxRecDepth 100000 in
theorem k_advise {p : Program} {l : Launch} {e : Env} {s : State} {m : MethodId} {args : Array Value} {below : List Frame} {meth : Method} {c : Code} {Q : State → Prop} {A : Nat → Prop} {bs L : Nat} {xs : Nat → Int32} {D : va_G} {cI cL : ClassId} {o z : Nat} {g a b h b2 d : Nat → Nat} {i cells slots : Nat} (F : LF p l s m args c bs L xs D cI cL A) (hi : i + 4 ≤ L) (hc : cells + 400 ≤ room_1.cells) (hs : slots + 2000 ≤ room_1.slots) (kk : LG p l e s m args below meth c Q A bs D cI cL o z g a b h b2 d i (cells + 400) (slots + 2000) 1075) : LG p l e s m args below meth c Q A bs D cI cL o z g a b h b2 d i cells slots 952 := by
  intro H locs f n q u r v w ls S hP hD hS hl
  obtain ⟨hx, hb, hml, hown, hts, hX, hbl, hK, hN, hT, hTN, hA, hbA, hlt, hL⟩ := F
  have hKi := hK.sub (tys' := [(cI, .int)]) [0] rfl
  obtain ⟨k9, b9, n1, q1, u1, r1, f1, hW, hM, e31, eo, S1⟩ := j_advise l hlt D cI cL o z g a b h b2 d n q u r S (xs (i + 1)) (xs (i + 2)) v w f
  refine lv_aload_n hx hb dL_law_952 rfl (lv_at hl 2 rfl) ?_
  refine lv_aload_n hx hb dL_law_953 rfl (lv_at hl 1 rfl) ?_
  refine lv_iload hx hb dL_law_954 (lv_at hl 0 rfl) ?_
  refine lv_iconst (v := 1) hx hb dL_law_956 (by decide) ?_
  refine lv_iadd hx hb dL_law_957 ?_
  refine xsld hx hb hX hbl hbA hS hL (i + 1) (nIa rfl) (by omega) dL_law_958 ?_
  refine lv_aload_n hx hb dL_law_959 rfl (lv_at hl 1 rfl) ?_
  refine lv_iload hx hb dL_law_960 (lv_at hl 0 rfl) ?_
  refine lv_iconst (v := 2) hx hb dL_law_962 (by decide) ?_
  refine lv_iadd hx hb dL_law_963 ?_
  refine xsld hx hb hX hbl hbA hS hL (i + 2) (nIa rfl) (by omega) dL_law_964 ?_
  refine lv_aload_n hx hb dL_law_965 rfl (lv_at hl 4 rfl) ?_
  refine zcallw (invSW (As := [.ref o, .int (xs (i + 1)), .int (xs (i + 2)), .ref z]) (rest := []) (rm := RML) ⟨hx, hb, hml, hown, hts⟩ (vx_cwSW 4 hts gL_law_L_advise rfl rfl rfl (by decide +kernel) ⟨Nat.le_of_ble_eq_true rfl, Nat.le_of_ble_eq_true rfl⟩) rfl rfl hl.1 (Nat.le_of_ble_eq_true rfl) dL_law_966) hW hK hN hT hTN hA hP hD hS ⟨by show cells + 1 ≤ room_1.cells; omega, by show slots + 6 ≤ room_1.slots; omega⟩ (fun v9 H locs hP hD hS => ?_)
  refine lv_istore (lv' := (5, .int k9) :: [(4, .int (nI i)), (0, .ref bs), (1, .ref o), (2, .ref (h 0)), (3, .ref z)]) hx hb dL_law_969 hl (by decide) rfl (fun ls hl => ?_)
  refine lv_aload_n hx hb dL_law_971 rfl (lv_at hl 4 rfl) ?_
  refine lv_aload_n hx hb dL_law_972 rfl (lv_at hl 2 rfl) ?_
  refine lv_iload hx hb dL_law_973 (lv_at hl 1 rfl) ?_
  refine lv_iconst (v := 1) hx hb dL_law_975 (by decide) ?_
  refine lv_iadd hx hb dL_law_976 ?_
  refine xsld hx hb hX hbl hbA hS hL (i + 1) (nIa rfl) (by omega) dL_law_977 ?_
  refine lv_aload_n hx hb dL_law_978 rfl (lv_at hl 2 rfl) ?_
  refine lv_iload hx hb dL_law_979 (lv_at hl 1 rfl) ?_
  refine lv_iconst (v := 2) hx hb dL_law_981 (by decide) ?_
  refine lv_iadd hx hb dL_law_982 ?_
  refine xsld hx hb hX hbl hbA hS hL (i + 2) (nIa rfl) (by omega) dL_law_983 ?_
  refine zcalle (invV (As := [.int (xs (i + 1)), .int (xs (i + 2))]) (rest := []) (rm := ({ frames := 5, cells := 0, slots := 0, locals := 149 } : Room)) ⟨hx, hb, hml, hown, hts⟩ (cwV 2 hts gL_law_X6_advise rfl rfl rfl (by decide +kernel) ⟨Nat.le_of_ble_eq_true rfl, Nat.le_of_ble_eq_true rfl⟩) (va_recv hK hP (ci := 6) (q0 := 39) rfl rfl) rfl rfl hl.1 (Nat.le_of_ble_eq_true rfl) dL_law_984) hM hKi hN hA hP hD hS ⟨by show cells + 1 + 0 ≤ room_1.cells; omega, by show slots + 6 + 0 ≤ room_1.slots; omega⟩ (fun w9 H locs hP hD hS => ?_)
  refine lv_istore (lv' := (6, .int b9) :: (5, .int k9) :: [(4, .int (nI i)), (0, .ref bs), (1, .ref o), (2, .ref (h 0)), (3, .ref z)]) hx hb dL_law_987 hl (by decide) rfl (fun ls hl => ?_)
  refine lv_aload_n hx hb dL_law_989 rfl (lv_at hl 5 rfl) ?_
  refine zcalli (invV (As := []) (rest := []) (rm := ({ frames := 0, cells := 0, slots := 0, locals := 0 } : Room)) ⟨hx, hb, hml, hown, hts⟩ (cwV 0 hts gL_law_X6_thrown rfl rfl rfl (by decide +kernel) ⟨Nat.le_of_ble_eq_true rfl, Nat.le_of_ble_eq_true rfl⟩) (va_recv hK hP (ci := 6) (q0 := 39) rfl rfl) rfl rfl hl.1 (Nat.le_of_ble_eq_true rfl) dL_law_990) (c_X6_thrown l D cI h b2 d n1 q1 w9) hKi hN hA hP hD hS ⟨by show cells + 1 + 0 + 0 ≤ room_1.cells; omega, by show slots + 6 + 0 + 0 ≤ room_1.slots; omega⟩ (fun H locs hP hD hS => ?_)
  refine lv_iload hx hb dL_law_993 (lv_at hl 1 rfl) ?_
  refine lv_icmp_eq (tgt := 1000) hx hb dL_law_995 (by decide) (fun c1 => ?_) (fun c1 => absurd e31 c1)
  refine lv_iload hx hb dL_law_1000 (lv_at hl 1 rfl) ?_
  refine lv_if_ne (tgt := 1017) hx hb dL_law_1002 (by decide) (fun c2 => ?_) (fun c2 => ?_)
  · refine lv_goto (tgt := 1075) hx hb dL_law_1017 (by decide) ?_
    refine W.widen (k := cells + 400) (n := slots + 2000) (by dsimp only [RML]; omega) (by dsimp only [RML]; omega) ?_
    exact kk _ _ _ _ _ _ _ _ _ _ S1 hP hD hS (lv_sub hl [2, 3, 4, 5, 6] rfl)
  · refine lv_aload_n hx hb dL_law_1005 rfl (lv_at hl 6 rfl) ?_
    refine lv_iconst (v := 0) hx hb dL_law_1006 (by decide) ?_
    refine va_lald hx hb hK hP 0 1 rfl rfl vp0 dL_law_1007 ?_
    refine lv_iload hx hb dL_law_1008 (lv_at hl 0 rfl) ?_
    refine lv_i2l (v := b9.toInt64) hx hb dL_law_1010 rfl ?_
    refine W.lcmp hx hb dL_law_1011 ?_
    have ec : lg_cmp (f1 (0 : Int32).toNatClampNeg) b9.toInt64 = 0 := by rw [show (0 : Int32).toNatClampNeg = 0 from rfl, eo c2]; exact lg_self _
    rw [ec]
    refine lv_if_eq (tgt := 1017) hx hb dL_law_1012 (by decide) (fun _ => ?_) (fun c3 => absurd rfl c3)
    refine lv_goto (tgt := 1075) hx hb dL_law_1017 (by decide) ?_
    refine W.widen (k := cells + 400) (n := slots + 2000) (by dsimp only [RML]; omega) (by dsimp only [RML]; omega) ?_
    exact kk _ _ _ _ _ _ _ _ _ _ S1 hP hD hS (lv_sub hl [2, 3, 4, 5, 6] rfl)
set_option maxHeartbeats 4000000 in
set_option maxRecDepth 100000 in
theorem k_share {p : Program} {l : Launch} {e : Env} {s : State} {m : MethodId} {args : Array Value} {below : List Frame} {meth : Method} {c : Code} {Q : State → Prop} {A : Nat → Prop} {bs L : Nat} {xs : Nat → Int32} {D : va_G} {cI cL : ClassId} {o z : Nat} {g a b h b2 d : Nat → Nat} {i cells slots : Nat} (F : LF p l s m args c bs L xs D cI cL A) (hi : i + 4 ≤ L) (hc : cells + 400 ≤ room_1.cells) (hs : slots + 2000 ≤ room_1.slots) {d0 : Drawn} (hd0 : s.drawn.sameBut d0 lw_cs) (kk : ∀ d1 : Drawn, s.drawn.sameBut d1 lw_cs → LG p l e (s.setDrawn d1) m args below meth c Q A bs D cI cL o z g a b h b2 d i (cells + 400) (slots + 2000) 1075) : LG p l e (s.setDrawn d0) m args below meth c Q A bs D cI cL o z g a b h b2 d i cells slots 1020 := by
  intro H locs f n q u r v w ls S hP hD hS hl
  obtain ⟨hx, hb, hml, hown, hts, hX, hbl, hK, hN, hT, hTN, hA, hbA, hlt, hL⟩ := F
  have hKi := hK.sub (tys' := [(cI, .int)]) [0] rfl
  refine lv_aload_n hx hb dL_law_1020 rfl (lv_at hl 2 rfl) ?_
  obtain ⟨hP, hD⟩ := mid_to (zc := (z, .inl (cL, 1, .inr (.inl f)))) (W := wX cI o g a b r u v) (V := wMo cI h b2 d n q w) hP hD
  refine zcalld hd0 (invDV (As := []) (rest := []) (rm := ({ frames := 0, cells := 0, slots := 0, locals := 0 } : Room)) ⟨hx, hb, hml, hown, dr_words hts _⟩ (cwV 0 (dr_words hts _) gL_law_X4_share rfl rfl rfl (by decide +kernel) ⟨Nat.le_of_ble_eq_true rfl, Nat.le_of_ble_eq_true rfl⟩) (va_recv hK hP (ci := 4) (q0 := 27) rfl rfl) rfl rfl hl.1 (Nat.le_of_ble_eq_true rfl) dL_law_1021) (c_X4_share l D cI o g a b r u v) hKi hN hA hP hD hS ⟨by show cells + 0 ≤ room_1.cells; omega, by show slots + 0 ≤ room_1.slots; omega⟩ (fun r1 d1 H locs ad1 hd1 hP hD hS => ?_)
  obtain ⟨hP, hD⟩ := mid_of hP hD
  refine lv_dstore (lv' := (5, .double r1) :: [(4, .int (nI i)), (0, .ref bs), (1, .ref o), (2, .ref (h 0)), (3, .ref z)]) hx hb dL_law_1024 hl (by decide) rfl (fun ls hl => ?_)
  refine lv_aload_n hx hb dL_law_1026 rfl (lv_at hl 4 rfl) ?_
  refine zcalld hd1 (invDV (As := []) (rest := []) (rm := ({ frames := 1, cells := 0, slots := 0, locals := 30 } : Room)) ⟨hx, hb, hml, hown, dr_words hts _⟩ (cwV 0 (dr_words hts _) gL_law_X6_share rfl rfl rfl (by decide +kernel) ⟨Nat.le_of_ble_eq_true rfl, Nat.le_of_ble_eq_true rfl⟩) (va_recv hK hP (ci := 6) (q0 := 39) rfl rfl) rfl rfl hl.1 (Nat.le_of_ble_eq_true rfl) dL_law_1027) (c_X6_share l D cI h b2 d n q w S.okn) hKi hN hA hP hD hS ⟨by show cells + 0 + 0 ≤ room_1.cells; omega, by show slots + 0 + 0 ≤ room_1.slots; omega⟩ (fun r2 d2 H locs ad2 hd2 hP hD hS => ?_)
  have es : shF (areR (put n 31 0 0) q 4) (areR (put n 31 0 0) q 4 + areR (put n 31 0 0) q 5) = shF (u 6 4) (u 6 4 + u 6 5) := by rw [are_4 (S.th (c := 0)).1 (p := 4) (by omega), are_4 (S.th (c := 0)).1 (p := 5) (by omega)]; rfl
  rw [es] at ad2
  have hcs := cmp_sh ad1 ad2
  refine lv_dstore (lv' := (7, .double r2) :: (5, .double r1) :: [(4, .int (nI i)), (0, .ref bs), (1, .ref o), (2, .ref (h 0)), (3, .ref z)]) hx hb dL_law_1030 hl (by decide) rfl (fun ls hl => ?_)
  have fin : W p l e room_1 (s.setDrawn d2) m args below meth c H locs (cells + 0 + 0) (slots + 0 + 0) Q (F0 m 1058 ls []) := by
    refine lv_goto (tgt := 1075) hx hb dL_law_1058 (by decide) ?_
    refine W.widen (k := cells + 400) (n := slots + 2000) (by omega) (by omega) ?_
    exact kk d2 hd2 _ _ _ _ _ _ _ _ _ _ (S.th (c := 0)) hP hD hS (lv_sub hl [2, 3, 4, 5, 6] rfl)
  refine lv_dload hx hb dL_law_1032 (lv_at hl 1 rfl) ?_
  refine lv_dload hx hb dL_law_1034 (lv_at hl 0 rfl) ?_
  refine lv_dcmp hx hb dL_law_1036 ?_
  refine lv_if_eq (tgt := 1058) hx hb dL_law_1037 (by decide) (fun _ => fin) (fun c1 => ?_)
  have hno : ¬ Op.cmpValue (FP.dcmp r1 r1) CmpOp.l = 0 ∧ ¬ Op.cmpValue (FP.dcmp r2 r2) CmpOp.l = 0 := by
    rcases hcs with rfl | hn
    · exact ⟨c1, c1⟩
    · exact ⟨cmp_no hn.1, cmp_no hn.2⟩
  refine lv_dload hx hb dL_law_1040 (lv_at hl 1 rfl) ?_
  refine lv_dload hx hb dL_law_1042 (lv_at hl 1 rfl) ?_
  refine lv_dcmp hx hb dL_law_1044 ?_
  refine lv_if_eq (tgt := 1056) hx hb dL_law_1045 (by decide) (fun c2 => absurd c2 hno.1) (fun _ => ?_)
  refine lv_dload hx hb dL_law_1048 (lv_at hl 0 rfl) ?_
  refine lv_dload hx hb dL_law_1050 (lv_at hl 0 rfl) ?_
  refine lv_dcmp hx hb dL_law_1052 ?_
  refine lv_if_ne (tgt := 1058) hx hb dL_law_1053 (by decide) (fun _ => fin) (fun c2 => absurd c2 hno.2)
set_option maxHeartbeats 4000000 in
set_option maxRecDepth 100000 in
theorem k_digest {p : Program} {l : Launch} {e : Env} {s : State} {m : MethodId} {args : Array Value} {below : List Frame} {meth : Method} {c : Code} {Q : State → Prop} {A : Nat → Prop} {bs L : Nat} {xs : Nat → Int32} {D : va_G} {cI cL : ClassId} {o z : Nat} {g a b h b2 d : Nat → Nat} {i cells slots : Nat} (F : LF p l s m args c bs L xs D cI cL A) (hi : i + 4 ≤ L) (hc : cells + 400 ≤ room_1.cells) (hs : slots + 2000 ≤ room_1.slots) (kk : LG p l e s m args below meth c Q A bs D cI cL o z g a b h b2 d i (cells + 400) (slots + 2000) 1075) : LG p l e s m args below meth c Q A bs D cI cL o z g a b h b2 d i cells slots 1061 := by
  intro H locs f n q u r v w ls S hP hD hS hl
  obtain ⟨hx, hb, hml, hown, hts, hX, hbl, hK, hN, hT, hTN, hA, hbA, hlt, hL⟩ := F
  have hKi := hK.sub (tys' := [(cI, .int)]) [0] rfl
  refine lv_aload_n hx hb dL_law_1061 rfl (lv_at hl 2 rfl) ?_
  obtain ⟨hP, hD⟩ := mid_to (zc := (z, .inl (cL, 1, .inr (.inl f)))) (W := wX cI o g a b r u v) (V := wMo cI h b2 d n q w) hP hD
  refine zcalll (invV (As := []) (rest := []) (rm := ({ frames := 3, cells := 0, slots := 0, locals := 67 } : Room)) ⟨hx, hb, hml, hown, hts⟩ (cwV 0 hts gL_law_X4_digest rfl rfl rfl (by decide +kernel) ⟨Nat.le_of_ble_eq_true rfl, Nat.le_of_ble_eq_true rfl⟩) (va_recv hK hP (ci := 4) (q0 := 27) rfl rfl) rfl rfl hl.1 (Nat.le_of_ble_eq_true rfl) dL_law_1062) (c_X4_digest l D cI o g a b r u v S.ok) hKi hN hA hP hD hS ⟨by show cells + 0 ≤ room_1.cells; omega, by show slots + 0 ≤ room_1.slots; omega⟩ (fun H locs hP hD hS => ?_)
  obtain ⟨hP, hD⟩ := mid_of hP hD
  refine lv_aload_n hx hb dL_law_1065 rfl (lv_at hl 3 rfl) ?_
  refine zcalll (invV (As := []) (rest := [.long (dig5 r u)]) (rm := ({ frames := 3, cells := 328, slots := 1696, locals := 64 } : Room)) ⟨hx, hb, hml, hown, hts⟩ (cwV 0 hts gL_law_X6_digest rfl rfl rfl (by decide +kernel) ⟨Nat.le_of_ble_eq_true rfl, Nat.le_of_ble_eq_true rfl⟩) (va_recv hK hP (ci := 6) (q0 := 39) rfl rfl) rfl rfl hl.1 (Nat.le_of_ble_eq_true rfl) dL_law_1066) (c_X6_digest l D cI h b2 d n q w S.okn) hKi hN hA hP hD hS ⟨by show cells + 0 + 328 ≤ room_1.cells; omega, by show slots + 0 + 1696 ≤ room_1.slots; omega⟩ (fun H locs hP hD hS => ?_)
  refine W.lcmp hx hb dL_law_1069 ?_
  have ec : lg_cmp (dig5 r u) (dgR5 (put n 31 0 0) q) = 0 := by rw [(S.th (c := 0)).digest]; exact lg_self _
  rw [ec]
  refine lv_if_eq (tgt := 1075) hx hb dL_law_1070 (by decide) (fun _ => ?_) (fun c3 => absurd rfl c3)
  refine W.widen (k := cells + 400) (n := slots + 2000) (by dsimp only; omega) (by dsimp only; omega) ?_
  exact kk _ _ _ _ _ _ _ _ _ _ (S.th (c := 0)) hP hD hS hl
