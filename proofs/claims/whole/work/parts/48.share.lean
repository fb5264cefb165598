/-! share: a contract of methods that may draw (the quotient, or a NaN where that is one) -/
def CD (l : Launch) (y : MethodName) (ws : List Cond) (rm : Room) (D : va_G) (cI : ClassId) (av : List Value) (W0 : va_W) (r : UInt64) (W1 : va_W) : Prop :=
  ∀ sz : Nat, MetD lw_cs l y ws rm (va_Pc av (MP D cI W0 sz)) (va_Qd (fun (r' : UInt64) (_ : Unit) => alike64 r' r = true) (fun _ => PO D W1 (va_A W0 sz)) (va_A W0 sz)) rm.cells rm.slots (va_A W0 sz)
section XDM
variable {l : Launch} {y : MethodName} {ws ws' : List Cond} {rm : Room} {D : va_G} {cI : ClassId} {av : List Value} {W0 W1 : va_W} {cc : ByteArray} {maxL : Nat} {r : UInt64}
theorem CD.mk (hy : plainName y.cls = true) (hw : ws = Cond.code y cc maxL (some .double) :: ws') (hsz : (lg_sl av).length ≤ maxL)
    (body : ∀ (p : Program) (e : Env) (s : State) (m : MethodId) (args : Array Value) (below : List Frame) (meth : Method) (c : Code) (A : Nat → Prop) (Q : State → Prop) (ls : Array Slot), p.tables.exec = Jvm.exec → c.code = cc → (∀ w ∈ ws, w.before args s = true) → s.vm.findClass y.cls = some m.cls → c.maxLocals = maxL → va_K D vwCl [(cI, .int)] s → NW s → (∀ q, s.heap.size ≤ q → A q) → va_P D vwCl W0 s.heap → va_D A W0 → va_S A s.heap s.heap [] → lv_has ls maxL (lv_args 0 av) →
      (∀ (d1 : Drawn) (H : Heap) (locs : List Loc) (k n pc : Nat) (ls' : Array Slot) (r' : UInt64) (W1' : va_W), s.drawn.sameBut d1 lw_cs → alike64 r' r = true → W1' = W1 → va_P D vwCl W1' H → va_D A W1' → va_S A s.heap H locs → k ≤ rm.cells → n ≤ rm.slots → decode cc pc = .ok (.dreturn, 1) → W p l e rm (s.setDrawn d1) m args below meth c H locs k n Q (F0 m pc ls' [.double r'])) →
      W p l e rm s m args below meth c s.heap [] 0 0 Q (F0 m 0 ls [])) : CD l y ws rm D cI av W0 r W1 := by
  intro sz
  refine MetD.ofW (cc := cc) (maxL := maxL) (ret := some .double) hy hw ?_
  intro p e s m args below meth c s₁ B hml hv hd0
  obtain ⟨rfl, hsz0, hP, ⟨hK, hN⟩, hD0⟩ := hv
  have hr := B.returns
  have hlocks := B.notSynchronized
  have hts := atoms_spec (ws := ws) B.pre
  have hown : s.vm.findClass y.cls = some m.cls := findClass_of_methodNamed B.named
  subst hsz0
  have hA : ∀ q : Nat, s.heap.size ≤ q → va_A W0 s.heap.size q := fun q h => Or.inr h
  have hl := lv_entry av (n := maxL) hsz
  rw [lg_entry_eq]
  refine body p e s m av.toArray below meth c (va_A W0 s.heap.size) _ _ B.exec B.bytes hts hown hml hK hN hA hP (hD0.self (sz := s.heap.size)) va_S.rf hl ?_
  intro d1 H locs k n pc ls' r' W1' hd1 hal e2 hP1 hD1 hS1 hk hn hdg
  subst e2
  refine W.endD hd1 ?_
  refine W.widen hk hn ?_
  exact W.dret B.exec B.bytes hr (fun t ht hW => ⟨⟨r', (), rfl, hal, by rw [ht]; exact hP1, hD1⟩, hS1.F ht⟩) hS1.2.2 hdg hlocks
end XDM
/-- share's answer: x delivered, z in all that is over -/
def shF (x z : Int32) : UInt64 := if z = 0 then 0 else FP.ddiv (FP.i2d x) (FP.i2d z)
theorem shF_0 {x z : Int32} (h : z = 0) : shF x z = 0 := if_pos h
theorem shF_1 {x z : Int32} (h : ¬ z = 0) : shF x z = FP.ddiv (FP.i2d x) (FP.i2d z) := if_neg h
set_option maxHeartbeats 4000000 in
set_option maxRecDepth 100000 in
theorem c_X4_share (l : Launch) (D : va_G) (cI : ClassId) (o : Nat) (g a b : Nat → Nat) (r u v : Rc) : CD l yX4_share wsX4_share ({ frames := 0, cells := 0, slots := 0, locals := 0 } : Room) D cI [.ref o] (wX cI o g a b r u v) (shF (u 6 4) (u 6 4 + u 6 5)) (wX cI o g a b r u v) := by
  refine CD.mk (cc := cX4_share) (maxL := 3) (by decide) rfl (Nat.le_of_ble_eq_true rfl) ?_
  intro p e s m args below meth c A Q ls hx hb hts hown hml hK hN hA hP hD hS hl fin
  have hown : s.vm.findClass RX4 = some m.cls := hown
  have hl : lv_has ls 3 [(0, .ref o)] := hl
  have f17 := hts (.fieldLink RX4 17 "NightSorters" "train" "LNightSorters$Train;") (by decide +kernel)
  have f58 := hts (.fieldLink RX4 58 "NightSorters$Train" "mail" "LNightSorters$Mail;") (by decide +kernel)
  have f109 := hts (.fieldLink RX4 109 "NightSorters$Mail" "inPlace" "[I") (by decide +kernel)
  have inX4 : ∀ w ∈ wsX40, w ∈ wsX4_share := by decide +kernel
  have inX3 : ∀ w ∈ wsX30, w ∈ wsX4_share := by decide +kernel
  have inX2 : ∀ w ∈ wsX20, w ∈ wsX4_share := by decide +kernel
  refine lv_aload_n hx hb dX4_share_0 rfl (lv_at hl 0 rfl) ?_
  refine va_get (D := D) (ci := 4) (v := .ref (a 30)) (C := RX4) (T := TX4) (N := 2) hx hb hts inX4 hown hK hP 0 rfl rfl 0 (by decide) f17 (fun _ h9 => h9) rfl dX4_share_1 ?_
  refine va_get (D := D) (ci := 3) (v := .ref (a 0)) (C := RX3) (T := TX3) (N := 4) hx hb hts inX3 hown hK hP 1 rfl rfl 1 (by decide) f58 (fun _ h9 => h9) rfl dX4_share_4 ?_
  refine va_get (D := D) (ci := 2) (v := .ref (a 6)) (C := RX2) (T := TX2) (N := 8) hx hb hts inX2 hown hK hP 2 rfl rfl 6 (by decide) f109 (fun _ h9 => h9) rfl dX4_share_7 ?_
  refine lv_iconst (v := 4) hx hb dX4_share_10 (by decide) ?_
  refine xald hx hb hK hP 8 rfl rfl 4 rfl (by omega) (by omega) dX4_share_11 ?_
  refine lv_istore_n (lv' := [(1, .int (u 6 4)), (0, .ref o)]) hx hb dX4_share_12 rfl hl (by decide) rfl (fun ls hl => ?_)
  refine lv_iload_n hx hb dX4_share_13 rfl (lv_at hl 0 rfl) ?_
  refine lv_aload_n hx hb dX4_share_14 rfl (lv_at hl 1 rfl) ?_
  refine va_get (D := D) (ci := 4) (v := .ref (a 30)) (C := RX4) (T := TX4) (N := 2) hx hb hts inX4 hown hK hP 0 rfl rfl 0 (by decide) f17 (fun _ h9 => h9) rfl dX4_share_15 ?_
  refine va_get (D := D) (ci := 3) (v := .ref (a 0)) (C := RX3) (T := TX3) (N := 4) hx hb hts inX3 hown hK hP 1 rfl rfl 1 (by decide) f58 (fun _ h9 => h9) rfl dX4_share_18 ?_
  refine va_get (D := D) (ci := 2) (v := .ref (a 6)) (C := RX2) (T := TX2) (N := 8) hx hb hts inX2 hown hK hP 2 rfl rfl 6 (by decide) f109 (fun _ h9 => h9) rfl dX4_share_21 ?_
  refine lv_iconst (v := 5) hx hb dX4_share_24 (by decide) ?_
  refine xald hx hb hK hP 8 rfl rfl 5 rfl (by omega) (by omega) dX4_share_25 ?_
  refine lv_iadd hx hb dX4_share_26 ?_
  refine lv_istore_n (lv' := [(2, .int (u 6 4 + u 6 5)), (1, .int (u 6 4)), (0, .ref o)]) hx hb dX4_share_27 rfl hl (by decide) rfl (fun ls hl => ?_)
  refine lv_iload_n hx hb dX4_share_28 rfl (lv_at hl 0 rfl) ?_
  refine lv_if_ne (tgt := 36) hx hb dX4_share_29 (by decide) (fun c1 => ?_) (fun c1 => ?_)
  · rw [shF_1 c1] at fin
    refine lv_iload_n hx hb dX4_share_36 rfl (lv_at hl 1 rfl) ?_
    refine lv_i2d hx hb dX4_share_37 ?_
    refine lv_iload_n hx hb dX4_share_38 rfl (lv_at hl 0 rfl) ?_
    refine lv_i2d hx hb dX4_share_39 ?_
    refine W.base ?_
    refine lv_ddiv_any (Drawn.sameBut.refl s.drawn lw_cs) lw_bits hx hb dX4_share_40 (fun r9 d1 hal hd1 => ?_)
    exact fin d1 _ _ _ _ _ _ _ _ hd1 hal rfl hP hD hS (Nat.le_of_ble_eq_true rfl) (Nat.le_of_ble_eq_true rfl) dX4_share_41
  · rw [shF_0 c1] at fin
    refine lv_dconst0 hx hb dX4_share_32 ?_
    refine lv_goto (tgt := 41) hx hb dX4_share_33 (by decide) ?_
    refine W.base ?_
    exact fin s.drawn _ _ _ _ _ _ _ _ (Drawn.sameBut.refl s.drawn lw_cs) (alike64_refl _) rfl hP hD hS (Nat.le_of_ble_eq_true rfl) (Nat.le_of_ble_eq_true rfl) dX4_share_41
set_option maxHeartbeats 4000000 in
set_option maxRecDepth 100000 in
theorem c_X6_share (l : Launch) (D : va_G) (cI : ClassId) (h b d : Nat → Nat) (n q w0 : Rc) (okn : Ok n) : CD l yX6_share wsX6_share ({ frames := 1, cells := 0, slots := 0, locals := 30 } : Room) D cI [.ref (h 0)] (wMo cI h b d n q w0) (shF (areR (put n 31 0 0) q 4) (areR (put n 31 0 0) q 4 + areR (put n 31 0 0) q 5)) (wMo cI h b d (put n 31 0 0) q w0) := by
  refine CD.mk (cc := cX6_share) (maxL := 2) (by decide) rfl (Nat.le_of_ble_eq_true rfl) ?_
  intro p e s m args below meth c A Q ls hx hb hts hown hml hK hN hA hP hD hS hl fin
  have hown : s.vm.findClass RX6 = some m.cls := hown
  have hl : lv_has ls 2 [(0, .ref (h 0))] := hl
  have f37 := hts (.fieldLink RX6 37 "NightSortersModel" "thrown" "I") (by decide +kernel)
  have f30 := hts (.fieldLink RX6 30 "NightSortersModel" "s" "LNightSortersModel$State;") (by decide +kernel)
  have inX6 : ∀ w ∈ wsX60, w ∈ wsX6_share := by decide +kernel
  refine lv_aload_n hx hb dX6_share_0 rfl (lv_at hl 0 rfl) ?_
  refine lv_iconst (v := 0) hx hb dX6_share_1 (by decide) ?_
  obtain ⟨u1, eu1⟩ : ∃ z0 : Rc, z0 = put n 31 0 0 := ⟨_, rfl⟩
  refine va_put (D := D) (ci := 6) (v := .int 0) (ty := .int) (C := RX6) (T := TX6) (N := 10) hx hb hts inX6 tyX6 tyX6_ok nmX6 hown hK hP hD hS 0 rfl rfl 0 (by decide) f37 (fun _ h9 => h9) rfl (by decide +kernel) rfl rfl (Nat.le_of_ble_eq_true rfl) dX6_share_2 (fun H locs hP hD hS => ?_)
  have hP : va_P D vwCl (wMo cI h b d u1 q w0) H := by subst eu1; exact hP
  have hD : va_D A (wMo cI h b d u1 q w0) := by subst eu1; exact hD
  have okn1 : Ok u1 := (by (try subst eu1); exact Ok.ptt okn trivial)
  rw [← eu1] at fin
  refine lv_aload_n hx hb dX6_share_5 rfl (lv_at hl 0 rfl) ?_
  refine va_get (D := D) (ci := 6) (v := .ref (b 30)) (C := RX6) (T := TX6) (N := 10) hx hb hts inX6 hown hK hP 0 rfl rfl 8 (by decide) f30 (fun _ h9 => h9) rfl dX6_share_6 ?_
  refine lv_iconst (v := 4) hx hb dX6_share_9 (by decide) ?_
  refine ycalli (invV (As := [.int 4]) (rest := []) (rm := ({ frames := 0, cells := 0, slots := 0, locals := 0 } : Room)) ⟨hx, hb, hml, hown, hts⟩ (cwV 1 hts gX6_share_X5_are rfl rfl rfl (by decide +kernel) ⟨Nat.le_of_ble_eq_true rfl, Nat.le_of_ble_eq_true rfl⟩) (va_recv hK hP (ci := 5) (q0 := 6) rfl rfl) rfl rfl hl.1 (Nat.le_of_ble_eq_true rfl) dX6_share_10) (c_X5_are l D cI h b (b 30) (d 30) u1 q okn1 4) hK hN hA hP hD hS (W2 := wMo cI h b d u1 q w0) [6, 7, 8, 9, 10, 11, 12, 13, 14, 15, 0, 1, 2, 3, 4, 5] [16, 17, 18, 19, 20, 21, 22, 23, 24, 25] [20, 21, 22, 23, 24, 25, 10, 11, 12, 13, 14, 15, 16, 17, 18, 19, 0, 1, 2, 3, 4, 5, 6, 7, 8, 9] rfl rfl rfl (by decide) ⟨Nat.le_of_ble_eq_true rfl, Nat.le_of_ble_eq_true rfl⟩ (fun H locs hP hD hS => ?_)
  refine lv_aload_n hx hb dX6_share_13 rfl (lv_at hl 0 rfl) ?_
  refine va_get (D := D) (ci := 6) (v := .ref (b 30)) (C := RX6) (T := TX6) (N := 10) hx hb hts inX6 hown hK hP 0 rfl rfl 8 (by decide) f30 (fun _ h9 => h9) rfl dX6_share_14 ?_
  refine lv_iconst (v := 5) hx hb dX6_share_17 (by decide) ?_
  refine ycalli (invV (As := [.int 5]) (rest := [.int (areR u1 q 4)]) (rm := ({ frames := 0, cells := 0, slots := 0, locals := 0 } : Room)) ⟨hx, hb, hml, hown, hts⟩ (cwV 1 hts gX6_share_X5_are rfl rfl rfl (by decide +kernel) ⟨Nat.le_of_ble_eq_true rfl, Nat.le_of_ble_eq_true rfl⟩) (va_recv hK hP (ci := 5) (q0 := 6) rfl rfl) rfl rfl hl.1 (Nat.le_of_ble_eq_true rfl) dX6_share_18) (c_X5_are l D cI h b (b 30) (d 30) u1 q okn1 5) hK hN hA hP hD hS (W2 := wMo cI h b d u1 q w0) [6, 7, 8, 9, 10, 11, 12, 13, 14, 15, 0, 1, 2, 3, 4, 5] [16, 17, 18, 19, 20, 21, 22, 23, 24, 25] [20, 21, 22, 23, 24, 25, 10, 11, 12, 13, 14, 15, 16, 17, 18, 19, 0, 1, 2, 3, 4, 5, 6, 7, 8, 9] rfl rfl rfl (by decide) ⟨Nat.le_of_ble_eq_true rfl, Nat.le_of_ble_eq_true rfl⟩ (fun H locs hP hD hS => ?_)
  refine lv_iadd hx hb dX6_share_21 ?_
  refine lv_istore_n (lv' := [(1, .int (areR u1 q 4 + areR u1 q 5)), (0, .ref (h 0))]) hx hb dX6_share_22 rfl hl (by decide) rfl (fun ls hl => ?_)
  refine lv_iload_n hx hb dX6_share_23 rfl (lv_at hl 0 rfl) ?_
  refine lv_if_ne (tgt := 31) hx hb dX6_share_24 (by decide) (fun c1 => ?_) (fun c1 => ?_)
  · rw [shF_1 c1] at fin
    refine lv_aload_n hx hb dX6_share_31 rfl (lv_at hl 1 rfl) ?_
    refine va_get (D := D) (ci := 6) (v := .ref (b 30)) (C := RX6) (T := TX6) (N := 10) hx hb hts inX6 hown hK hP 0 rfl rfl 8 (by decide) f30 (fun _ h9 => h9) rfl dX6_share_32 ?_
    refine lv_iconst (v := 4) hx hb dX6_share_35 (by decide) ?_
    refine ycalli (invV (As := [.int 4]) (rest := []) (rm := ({ frames := 0, cells := 0, slots := 0, locals := 0 } : Room)) ⟨hx, hb, hml, hown, hts⟩ (cwV 1 hts gX6_share_X5_are rfl rfl rfl (by decide +kernel) ⟨Nat.le_of_ble_eq_true rfl, Nat.le_of_ble_eq_true rfl⟩) (va_recv hK hP (ci := 5) (q0 := 6) rfl rfl) rfl rfl hl.1 (Nat.le_of_ble_eq_true rfl) dX6_share_36) (c_X5_are l D cI h b (b 30) (d 30) u1 q okn1 4) hK hN hA hP hD hS (W2 := wMo cI h b d u1 q w0) [6, 7, 8, 9, 10, 11, 12, 13, 14, 15, 0, 1, 2, 3, 4, 5] [16, 17, 18, 19, 20, 21, 22, 23, 24, 25] [20, 21, 22, 23, 24, 25, 10, 11, 12, 13, 14, 15, 16, 17, 18, 19, 0, 1, 2, 3, 4, 5, 6, 7, 8, 9] rfl rfl rfl (by decide) ⟨Nat.le_of_ble_eq_true rfl, Nat.le_of_ble_eq_true rfl⟩ (fun H locs hP hD hS => ?_)
    refine lv_i2d hx hb dX6_share_39 ?_
    refine lv_iload_n hx hb dX6_share_40 rfl (lv_at hl 0 rfl) ?_
    refine lv_i2d hx hb dX6_share_41 ?_
    refine W.base ?_
    refine lv_ddiv_any (Drawn.sameBut.refl s.drawn lw_cs) lw_bits hx hb dX6_share_42 (fun r9 d1 hal hd1 => ?_)
    exact fin d1 _ _ _ _ _ _ _ _ hd1 hal rfl hP hD hS (Nat.le_of_ble_eq_true rfl) (Nat.le_of_ble_eq_true rfl) dX6_share_43
  · rw [shF_0 c1] at fin
    refine lv_dconst0 hx hb dX6_share_27 ?_
    refine lv_goto (tgt := 43) hx hb dX6_share_28 (by decide) ?_
    refine W.base ?_
    exact fin s.drawn _ _ _ _ _ _ _ _ (Drawn.sameBut.refl s.drawn lw_cs) (alike64_refl _) rfl hP hD hS (Nat.le_of_ble_eq_true rfl) (Nat.le_of_ble_eq_true rfl) dX6_share_43
