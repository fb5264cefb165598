/-! the class's own methods -/
set_option maxHeartbeats 4000000 in
set_option maxRecDepth 100000 in
theorem c_X4_checkIndex_x (l : Launch) (hlt : l.stackTraces = false) (D : va_G) (cI : ClassId) (x y : Int32) (h : x < 0 ∨ y ≤ x) : CX l yX4_checkIndex wsX4_checkIndex ({ frames := 6, cells := 1, slots := 6, locals := 100 } : Room) D cI [.int x, .int y] (w0 cI) "java/lang/IndexOutOfBoundsException" := by
  refine CX.mk (cc := cX4_checkIndex) (maxL := 2) (ret := none) hlt (by decide) rfl rfl (Nat.le_of_ble_eq_true rfl) ?_
  intro p e s m args below meth c A Q ls hx hb hts hown hml hK hN hT hA hP hD hS hl finx fint
  have hown : s.vm.findClass RX4 = some m.cls := hown
  have hl : lv_has ls 2 [(0, .int x), (1, .int y)] := hl
  refine lv_iload_n hx hb dX4_checkIndex_0 rfl (lv_at hl 0 rfl) ?_
  refine lv_if_lt (tgt := 9) hx hb dX4_checkIndex_1 (by decide) (fun c1 => ?_) (fun c1 => ?_)
  · skip
    have hat : ∀ w ∈ (vx_atS RX4 130 "java/lang/IndexOutOfBoundsException" ["java/lang/RuntimeException", "java/lang/Exception"]).filter goodWord, w.before args s = true := by
      intro w hw
      refine hts w ?_
      unfold wsX4_checkIndex
      simp only [List.mem_cons, List.mem_append, hw, or_true, true_or]
    exact fint _ _ _ _ _ 126 157 130 "there is no such number" _ _ hP hD hS hl.1 (by decide +kernel) (by decide +kernel) (by decide +kernel) (hts (.classLink RX4 126 "java/lang/IndexOutOfBoundsException") (by decide +kernel)) (hts (.initialized "java/lang/IndexOutOfBoundsException") (by decide +kernel)) hat (by decide +kernel) (by decide +kernel) dX4_checkIndex_9 dX4_checkIndex_12 dX4_checkIndex_13 dX4_checkIndex_15 dX4_checkIndex_18 (Nat.le_of_ble_eq_true rfl) (Nat.le_of_ble_eq_true rfl) (Nat.le_of_ble_eq_true rfl) (Nat.le_of_ble_eq_true rfl)
  · skip
    refine lv_iload_n hx hb dX4_checkIndex_4 rfl (lv_at hl 0 rfl) ?_
    refine lv_iload_n hx hb dX4_checkIndex_5 rfl (lv_at hl 1 rfl) ?_
    refine lv_icmp_lt (tgt := 19) hx hb dX4_checkIndex_6 (by decide) (fun c2 => ?_) (fun c2 => ?_)
    · exact absurd c2 (Int32.not_lt.mpr (h.resolve_left c1))
    · skip
      have hat : ∀ w ∈ (vx_atS RX4 130 "java/lang/IndexOutOfBoundsException" ["java/lang/RuntimeException", "java/lang/Exception"]).filter goodWord, w.before args s = true := by
        intro w hw
        refine hts w ?_
        unfold wsX4_checkIndex
        simp only [List.mem_cons, List.mem_append, hw, or_true, true_or]
      exact fint _ _ _ _ _ 126 157 130 "there is no such number" _ _ hP hD hS hl.1 (by decide +kernel) (by decide +kernel) (by decide +kernel) (hts (.classLink RX4 126 "java/lang/IndexOutOfBoundsException") (by decide +kernel)) (hts (.initialized "java/lang/IndexOutOfBoundsException") (by decide +kernel)) hat (by decide +kernel) (by decide +kernel) dX4_checkIndex_9 dX4_checkIndex_12 dX4_checkIndex_13 dX4_checkIndex_15 dX4_checkIndex_18 (Nat.le_of_ble_eq_true rfl) (Nat.le_of_ble_eq_true rfl) (Nat.le_of_ble_eq_true rfl) (Nat.le_of_ble_eq_true rfl)

set_option maxHeartbeats 4000000 in
set_option maxRecDepth 100000 in
theorem c_X4_checkArgument_x (l : Launch) (hlt : l.stackTraces = false) (D : va_G) (cI : ClassId) (x y z : Int32) (h : x < y ∨ z < x) : CX l yX4_checkArgument wsX4_checkArgument ({ frames := 6, cells := 1, slots := 6, locals := 100 } : Room) D cI [.int x, .int y, .int z] (w0 cI) "java/lang/IllegalArgumentException" := by
  refine CX.mk (cc := cX4_checkArgument) (maxL := 3) (ret := none) hlt (by decide) rfl rfl (Nat.le_of_ble_eq_true rfl) ?_
  intro p e s m args below meth c A Q ls hx hb hts hown hml hK hN hT hA hP hD hS hl finx fint
  have hown : s.vm.findClass RX4 = some m.cls := hown
  have hl : lv_has ls 3 [(0, .int x), (1, .int y), (2, .int z)] := hl
  refine lv_iload_n hx hb dX4_checkArgument_0 rfl (lv_at hl 0 rfl) ?_
  refine lv_iload_n hx hb dX4_checkArgument_1 rfl (lv_at hl 1 rfl) ?_
  refine lv_icmp_lt (tgt := 10) hx hb dX4_checkArgument_2 (by decide) (fun c1 => ?_) (fun c1 => ?_)
  · skip
    have hat : ∀ w ∈ (vx_atS RX4 163 "java/lang/IllegalArgumentException" ["java/lang/RuntimeException", "java/lang/Exception"]).filter goodWord, w.before args s = true := by
      intro w hw
      refine hts w ?_
      unfold wsX4_checkArgument
      simp only [List.mem_cons, List.mem_append, hw, or_true, true_or]
    exact fint _ _ _ _ _ 159 161 163 "a value is out of its range" _ _ hP hD hS hl.1 (by decide +kernel) (by decide +kernel) (by decide +kernel) (hts (.classLink RX4 159 "java/lang/IllegalArgumentException") (by decide +kernel)) (hts (.initialized "java/lang/IllegalArgumentException") (by decide +kernel)) hat (by decide +kernel) (by decide +kernel) dX4_checkArgument_10 dX4_checkArgument_13 dX4_checkArgument_14 dX4_checkArgument_16 dX4_checkArgument_19 (Nat.le_of_ble_eq_true rfl) (Nat.le_of_ble_eq_true rfl) (Nat.le_of_ble_eq_true rfl) (Nat.le_of_ble_eq_true rfl)
  · skip
    refine lv_iload_n hx hb dX4_checkArgument_5 rfl (lv_at hl 0 rfl) ?_
    refine lv_iload_n hx hb dX4_checkArgument_6 rfl (lv_at hl 2 rfl) ?_
    refine lv_icmp_le (tgt := 20) hx hb dX4_checkArgument_7 (by decide) (fun c2 => ?_) (fun c2 => ?_)
    · exact absurd c2 (Int32.not_le.mpr (h.resolve_left c1))
    · skip
      have hat : ∀ w ∈ (vx_atS RX4 163 "java/lang/IllegalArgumentException" ["java/lang/RuntimeException", "java/lang/Exception"]).filter goodWord, w.before args s = true := by
        intro w hw
        refine hts w ?_
        unfold wsX4_checkArgument
        simp only [List.mem_cons, List.mem_append, hw, or_true, true_or]
      exact fint _ _ _ _ _ 159 161 163 "a value is out of its range" _ _ hP hD hS hl.1 (by decide +kernel) (by decide +kernel) (by decide +kernel) (hts (.classLink RX4 159 "java/lang/IllegalArgumentException") (by decide +kernel)) (hts (.initialized "java/lang/IllegalArgumentException") (by decide +kernel)) hat (by decide +kernel) (by decide +kernel) dX4_checkArgument_10 dX4_checkArgument_13 dX4_checkArgument_14 dX4_checkArgument_16 dX4_checkArgument_19 (Nat.le_of_ble_eq_true rfl) (Nat.le_of_ble_eq_true rfl) (Nat.le_of_ble_eq_true rfl) (Nat.le_of_ble_eq_true rfl)

set_option maxHeartbeats 4000000 in
set_option maxRecDepth 100000 in
theorem c_X4_setStation (l : Launch) (D : va_G) (cI : ClassId) (o : Nat) (g a b : Nat → Nat) (r u v : Rc) (ok : Ok u) (s9 : Nat) (hs : s9 < 8) (x : Int32) (ex : x = nI s9) (y z : Int32) (h1 : ¬ y < 1) (h2 : y ≤ 999) (h3 : ¬ z < 0) (h4 : z ≤ 3) (h5 : ¬ r 20 s9 < u 30 0) (h6 : ¬ y < u 30 0) (h7 : riseF r s9 y) : CI l yX4_setStation wsX4_setStation ({ frames := 1, cells := 0, slots := 0, locals := 24 } : Room) D cI [.ref o, .int x, .int y, .int z] (wX cI o g a b r u v) (10 * r 20 s9 + r 21 s9) (wX cI o g a b (put (put r 20 s9 y) 21 s9 z) u v) := by
  refine CI.mk (cc := cX4_setStation) (maxL := 6) (ret := (some .int)) rfl rfl (by decide) rfl (Nat.le_of_ble_eq_true rfl) ?_
  intro p e s m args below meth c A Q ls hx hb hts hown hml hK hN hA hP hD hS hl fin
  have hown : s.vm.findClass RX4 = some m.cls := hown
  subst ex
  have hl : lv_has ls 6 [(0, .ref o), (1, .int (nI s9)), (2, .int y), (3, .int z)] := hl
  have f17 := hts (.fieldLink RX4 17 "NightSorters" "train" "LNightSorters$Train;") (by decide +kernel)
  have f32 := hts (.fieldLink RX4 32 "NightSorters$Train" "line" "LNightSorters$Line;") (by decide +kernel)
  have f36 := hts (.fieldLink RX4 36 "NightSorters$Train" "minute" "I") (by decide +kernel)
  have f40 := hts (.fieldLink RX4 40 "NightSorters$Line" "minutes" "[I") (by decide +kernel)
  have f55 := hts (.fieldLink RX4 55 "NightSorters$Line" "jolts" "[I") (by decide +kernel)
  have inX1 : ∀ w ∈ wsX10, w ∈ wsX4_setStation := by decide +kernel
  have inX3 : ∀ w ∈ wsX30, w ∈ wsX4_setStation := by decide +kernel
  have inX4 : ∀ w ∈ wsX40, w ∈ wsX4_setStation := by decide +kernel
  refine lv_iload_n hx hb dX4_setStation_0 rfl (lv_at hl 1 rfl) ?_
  refine lv_bipush (v := 8) hx hb dX4_setStation_1 (by decide) ?_
  refine ycallv (invS (As := [.int (nI s9), .int 8]) (rest := []) (rm := ({ frames := 0, cells := 0, slots := 0, locals := 0 } : Room)) ⟨hx, hb, hml, hown, hts⟩ (va_cwS 2 hts gX4_setStation_X4_checkIndex rfl rfl rfl (by decide +kernel) ⟨Nat.le_of_ble_eq_true rfl, Nat.le_of_ble_eq_true rfl⟩) rfl rfl hl.1 (Nat.le_of_ble_eq_true rfl) dX4_setStation_3) (c_X4_checkIndex l D cI (nI s9) (8) (ci1 (j := s9) rfl (by omega)) (ci2 (j := s9) (N := 8) rfl (show (8 : Int32) = nI 8 from rfl) (by omega) (by omega))) hK hN hA hP hD hS (W2 := wX cI o g a b r u v) [] [0, 1, 2, 3, 4, 5, 6, 7, 8, 9, 10, 11, 12, 13, 14, 15, 16, 17, 18, 19, 20, 21, 22, 23, 24, 25, 26, 27, 28, 29, 30, 31, 32, 33, 34, 35, 36, 37] [0, 1, 2, 3, 4, 5, 6, 7, 8, 9, 10, 11, 12, 13, 14, 15, 16, 17, 18, 19, 20, 21, 22, 23, 24, 25, 26, 27, 28, 29, 30, 31, 32, 33, 34, 35, 36, 37] rfl rfl rfl (by decide) ⟨Nat.le_of_ble_eq_true rfl, Nat.le_of_ble_eq_true rfl⟩ (fun H locs hP hD hS => ?_)
  refine lv_iload_n hx hb dX4_setStation_6 rfl (lv_at hl 2 rfl) ?_
  refine lv_iconst (v := 1) hx hb dX4_setStation_7 (by decide) ?_
  refine lv_sipush (v := 999) hx hb dX4_setStation_8 (by decide) ?_
  refine ycallv (invS (As := [.int y, .int 1, .int 999]) (rest := []) (rm := ({ frames := 0, cells := 0, slots := 0, locals := 0 } : Room)) ⟨hx, hb, hml, hown, hts⟩ (va_cwS 3 hts gX4_setStation_X4_checkArgument rfl rfl rfl (by decide +kernel) ⟨Nat.le_of_ble_eq_true rfl, Nat.le_of_ble_eq_true rfl⟩) rfl rfl hl.1 (Nat.le_of_ble_eq_true rfl) dX4_setStation_11) (c_X4_checkArgument l D cI (y) (1) (999) h1 h2) hK hN hA hP hD hS (W2 := wX cI o g a b r u v) [] [0, 1, 2, 3, 4, 5, 6, 7, 8, 9, 10, 11, 12, 13, 14, 15, 16, 17, 18, 19, 20, 21, 22, 23, 24, 25, 26, 27, 28, 29, 30, 31, 32, 33, 34, 35, 36, 37] [0, 1, 2, 3, 4, 5, 6, 7, 8, 9, 10, 11, 12, 13, 14, 15, 16, 17, 18, 19, 20, 21, 22, 23, 24, 25, 26, 27, 28, 29, 30, 31, 32, 33, 34, 35, 36, 37] rfl rfl rfl (by decide) ⟨Nat.le_of_ble_eq_true rfl, Nat.le_of_ble_eq_true rfl⟩ (fun H locs hP hD hS => ?_)
  refine lv_iload_n hx hb dX4_setStation_14 rfl (lv_at hl 3 rfl) ?_
  refine lv_iconst (v := 0) hx hb dX4_setStation_15 (by decide) ?_
  refine lv_iconst (v := 3) hx hb dX4_setStation_16 (by decide) ?_
  refine ycallv (invS (As := [.int z, .int 0, .int 3]) (rest := []) (rm := ({ frames := 0, cells := 0, slots := 0, locals := 0 } : Room)) ⟨hx, hb, hml, hown, hts⟩ (va_cwS 3 hts gX4_setStation_X4_checkArgument rfl rfl rfl (by decide +kernel) ⟨Nat.le_of_ble_eq_true rfl, Nat.le_of_ble_eq_true rfl⟩) rfl rfl hl.1 (Nat.le_of_ble_eq_true rfl) dX4_setStation_17) (c_X4_checkArgument l D cI (z) (0) (3) h3 h4) hK hN hA hP hD hS (W2 := wX cI o g a b r u v) [] [0, 1, 2, 3, 4, 5, 6, 7, 8, 9, 10, 11, 12, 13, 14, 15, 16, 17, 18, 19, 20, 21, 22, 23, 24, 25, 26, 27, 28, 29, 30, 31, 32, 33, 34, 35, 36, 37] [0, 1, 2, 3, 4, 5, 6, 7, 8, 9, 10, 11, 12, 13, 14, 15, 16, 17, 18, 19, 20, 21, 22, 23, 24, 25, 26, 27, 28, 29, 30, 31, 32, 33, 34, 35, 36, 37] rfl rfl rfl (by decide) ⟨Nat.le_of_ble_eq_true rfl, Nat.le_of_ble_eq_true rfl⟩ (fun H locs hP hD hS => ?_)
  refine lv_aload_n hx hb dX4_setStation_20 rfl (lv_at hl 0 rfl) ?_
  refine va_get (D := D) (ci := 4) (v := .ref (a 30)) (C := RX4) (T := TX4) (N := 2) hx hb hts inX4 hown hK hP 0 rfl rfl 0 (by decide) f17 (fun _ h9 => h9) rfl dX4_setStation_21 ?_
  refine va_get (D := D) (ci := 3) (v := .ref (g 0)) (C := RX3) (T := TX3) (N := 4) hx hb hts inX3 hown hK hP 1 rfl rfl 0 (by decide) f32 (fun _ h9 => h9) rfl dX4_setStation_24 ?_
  refine lv_astore (lv' := [(4, .ref (g 0)), (0, .ref o), (1, .int (nI s9)), (2, .int y), (3, .int z)]) hx hb dX4_setStation_27 hl (by decide) rfl (fun ls hl => ?_)
  refine lv_aload_n hx hb dX4_setStation_29 rfl (lv_at hl 1 rfl) ?_
  refine va_get (D := D) (ci := 4) (v := .ref (a 30)) (C := RX4) (T := TX4) (N := 2) hx hb hts inX4 hown hK hP 0 rfl rfl 0 (by decide) f17 (fun _ h9 => h9) rfl dX4_setStation_30 ?_
  refine va_get (D := D) (ci := 3) (v := .int (u 30 0)) (C := RX3) (T := TX3) (N := 4) hx hb hts inX3 hown hK hP 1 rfl rfl 3 (by decide) f36 (fun _ h9 => h9) rfl dX4_setStation_33 ?_
  refine lv_aload hx hb dX4_setStation_36 (lv_at hl 0 rfl) ?_
  refine va_get (D := D) (ci := 1) (v := .ref (g 20)) (C := RX1) (T := TX1) (N := 2) hx hb hts inX1 hown hK hP 18 rfl rfl 0 (by decide) f40 (fun _ h9 => h9) rfl dX4_setStation_38 ?_
  refine lv_iload_n hx hb dX4_setStation_41 rfl (lv_at hl 2 rfl) ?_
  refine xald hx hb hK hP 19 rfl rfl (s9) (rfl) (by omega) (by decide) dX4_setStation_42 ?_
  refine lv_icmp_gt (tgt := 67) hx hb dX4_setStation_43 (by decide) (fun c1 => ?_) (fun c1 => ?_)
  · exact absurd c1 h5
  · skip
    refine lv_aload_n hx hb dX4_setStation_46 rfl (lv_at hl 1 rfl) ?_
    refine va_get (D := D) (ci := 4) (v := .ref (a 30)) (C := RX4) (T := TX4) (N := 2) hx hb hts inX4 hown hK hP 0 rfl rfl 0 (by decide) f17 (fun _ h9 => h9) rfl dX4_setStation_47 ?_
    refine va_get (D := D) (ci := 3) (v := .int (u 30 0)) (C := RX3) (T := TX3) (N := 4) hx hb hts inX3 hown hK hP 1 rfl rfl 3 (by decide) f36 (fun _ h9 => h9) rfl dX4_setStation_50 ?_
    refine lv_iload_n hx hb dX4_setStation_53 rfl (lv_at hl 3 rfl) ?_
    refine lv_icmp_gt (tgt := 67) hx hb dX4_setStation_54 (by decide) (fun c2 => ?_) (fun c2 => ?_)
    · exact absurd c2 h6
    · skip
      refine lv_aload hx hb dX4_setStation_57 (lv_at hl 0 rfl) ?_
      refine lv_iload_n hx hb dX4_setStation_59 rfl (lv_at hl 2 rfl) ?_
      refine lv_iload_n hx hb dX4_setStation_60 rfl (lv_at hl 3 rfl) ?_
      refine ycalli (invV (As := [.int (nI s9), .int y]) (rest := []) (rm := ({ frames := 0, cells := 0, slots := 0, locals := 0 } : Room)) ⟨hx, hb, hml, hown, hts⟩ (cwV 2 hts gX4_setStation_X1_wouldRise rfl rfl rfl (by decide +kernel) ⟨Nat.le_of_ble_eq_true rfl, Nat.le_of_ble_eq_true rfl⟩) (va_recv hK hP (ci := 1) (q0 := 18) rfl rfl) rfl rfl hl.1 (Nat.le_of_ble_eq_true rfl) dX4_setStation_61) (c_X1_wouldRise l D cI g r s9 hs (nI s9) rfl y) hK hN hA hP hD hS (W2 := wX cI o g a b r u v) [18, 19, 20] [0, 1, 2, 3, 4, 5, 6, 7, 8, 9, 10, 11, 12, 13, 14, 15, 16, 17, 21, 22, 23, 24, 25, 26, 27, 28, 29, 30, 31, 32, 33, 34, 35, 36, 37] [0, 1, 2, 3, 4, 5, 6, 7, 8, 9, 10, 11, 12, 13, 14, 15, 16, 17, 35, 36, 37, 18, 19, 20, 21, 22, 23, 24, 25, 26, 27, 28, 29, 30, 31, 32, 33, 34] rfl rfl rfl (by decide) ⟨Nat.le_of_ble_eq_true rfl, Nat.le_of_ble_eq_true rfl⟩ (fun H locs hP hD hS => ?_)
      refine lv_if_ne (tgt := 77) hx hb dX4_setStation_64 (by decide) (fun c3 => ?_) (fun c3 => ?_)
      · skip
        have c3 := b01f c3
        refine lv_bipush (v := 10) hx hb dX4_setStation_77 (by decide) ?_
        refine lv_aload hx hb dX4_setStation_79 (lv_at hl 0 rfl) ?_
        refine va_get (D := D) (ci := 1) (v := .ref (g 20)) (C := RX1) (T := TX1) (N := 2) hx hb hts inX1 hown hK hP 18 rfl rfl 0 (by decide) f40 (fun _ h9 => h9) rfl dX4_setStation_81 ?_
        refine lv_iload_n hx hb dX4_setStation_84 rfl (lv_at hl 2 rfl) ?_
        refine xald hx hb hK hP 19 rfl rfl (s9) (rfl) (by omega) (by decide) dX4_setStation_85 ?_
        refine lv_imul hx hb dX4_setStation_86 ?_
        refine lv_aload hx hb dX4_setStation_87 (lv_at hl 0 rfl) ?_
        refine va_get (D := D) (ci := 1) (v := .ref (g 21)) (C := RX1) (T := TX1) (N := 2) hx hb hts inX1 hown hK hP 18 rfl rfl 1 (by decide) f55 (fun _ h9 => h9) rfl dX4_setStation_89 ?_
        refine lv_iload_n hx hb dX4_setStation_92 rfl (lv_at hl 2 rfl) ?_
        refine xald hx hb hK hP 20 rfl rfl (s9) (rfl) (by omega) (by decide) dX4_setStation_93 ?_
        refine lv_iadd hx hb dX4_setStation_94 ?_
        refine lv_istore (lv' := [(5, .int ((10 * (r 20 s9)) + (r 21 s9))), (4, .ref (g 0)), (0, .ref o), (1, .int (nI s9)), (2, .int y), (3, .int z)]) hx hb dX4_setStation_95 hl (by decide) rfl (fun ls hl => ?_)
        refine lv_aload hx hb dX4_setStation_97 (lv_at hl 1 rfl) ?_
        refine va_get (D := D) (ci := 1) (v := .ref (g 20)) (C := RX1) (T := TX1) (N := 2) hx hb hts inX1 hown hK hP 18 rfl rfl 0 (by decide) f40 (fun _ h9 => h9) rfl dX4_setStation_99 ?_
        refine lv_iload_n hx hb dX4_setStation_102 rfl (lv_at hl 3 rfl) ?_
        refine lv_iload_n hx hb dX4_setStation_103 rfl (lv_at hl 4 rfl) ?_
        obtain ⟨u4, eu4⟩ : ∃ z0 : Rc, z0 = put r 20 s9 y := ⟨_, rfl⟩
        refine xast hx hb hK hP hD hS 19 rfl rfl (s9) (rfl) (by omega) (by decide) (wX cI o g a b u4 u v) (by subst eu4; rfl) dX4_setStation_104 (fun H locs hP hD hS => ?_)
        refine lv_aload hx hb dX4_setStation_105 (lv_at hl 1 rfl) ?_
        refine va_get (D := D) (ci := 1) (v := .ref (g 21)) (C := RX1) (T := TX1) (N := 2) hx hb hts inX1 hown hK hP 18 rfl rfl 1 (by decide) f55 (fun _ h9 => h9) rfl dX4_setStation_107 ?_
        refine lv_iload_n hx hb dX4_setStation_110 rfl (lv_at hl 3 rfl) ?_
        refine lv_iload_n hx hb dX4_setStation_111 rfl (lv_at hl 5 rfl) ?_
        obtain ⟨u5, eu5⟩ : ∃ z0 : Rc, z0 = put u4 21 s9 z := ⟨_, rfl⟩
        refine xast hx hb hK hP hD hS 20 rfl rfl (s9) (rfl) (by omega) (by decide) (wX cI o g a b u5 u v) (by subst eu5; rfl) dX4_setStation_112 (fun H locs hP hD hS => ?_)
        refine lv_iload hx hb dX4_setStation_113 (lv_at hl 0 rfl) ?_
        have h6 : u5 = put (put r 20 s9 y) 21 s9 z := (by (try subst eu5); (try subst eu4); rfl)
        exact fin _ _ _ _ _ _ _ _ (by (try subst eu5); (try subst eu4); rfl) (congrArg (fun z9 : Rc => wX cI o g a b z9 u v) h6) hP hD hS (Nat.le_of_ble_eq_true rfl) (Nat.le_of_ble_eq_true rfl) dX4_setStation_115
      · exact absurd h7 (b01t c3)

set_option maxHeartbeats 4000000 in
set_option maxRecDepth 100000 in
theorem c_X4_setStation_x1 (l : Launch) (hlt : l.stackTraces = false) (D : va_G) (cI : ClassId) (o : Nat) (g a b : Nat → Nat) (r u v : Rc) (ok : Ok u) (x y z : Int32) (h : x < 0 ∨ 8 ≤ x) : CX l yX4_setStation wsX4_setStation ({ frames := 7, cells := 1, slots := 6, locals := 130 } : Room) D cI [.ref o, .int x, .int y, .int z] (wX cI o g a b r u v) "java/lang/IndexOutOfBoundsException" := by
  refine CX.mk (cc := cX4_setStation) (maxL := 6) (ret := (some .int)) hlt (by decide) rfl rfl (Nat.le_of_ble_eq_true rfl) ?_
  intro p e s m args below meth c A Q ls hx hb hts hown hml hK hN hT hA hP hD hS hl finx fint
  have hown : s.vm.findClass RX4 = some m.cls := hown
  have hl : lv_has ls 6 [(0, .ref o), (1, .int x), (2, .int y), (3, .int z)] := hl
  refine lv_iload_n hx hb dX4_setStation_0 rfl (lv_at hl 1 rfl) ?_
  refine lv_bipush (v := 8) hx hb dX4_setStation_1 (by decide) ?_
  refine ycallx (invXS (As := [.int x, .int 8]) (rest := []) (rm := ({ frames := 6, cells := 1, slots := 6, locals := 100 } : Room)) ⟨hx, hb, hml, hown, hts⟩ (va_cwS 2 hts gX4_setStation_X4_checkIndex rfl rfl rfl (by decide +kernel) ⟨Nat.le_of_ble_eq_true rfl, Nat.le_of_ble_eq_true rfl⟩) rfl rfl hl.1 (Nat.le_of_ble_eq_true rfl) dX4_setStation_3) (c_X4_checkIndex_x l hlt D cI (x) (8) h) hK hN hT hA hP hD hS [] [0, 1, 2, 3, 4, 5, 6, 7, 8, 9, 10, 11, 12, 13, 14, 15, 16, 17, 18, 19, 20, 21, 22, 23, 24, 25, 26, 27, 28, 29, 30, 31, 32, 33, 34, 35, 36, 37] [0, 1, 2, 3, 4, 5, 6, 7, 8, 9, 10, 11, 12, 13, 14, 15, 16, 17, 18, 19, 20, 21, 22, 23, 24, 25, 26, 27, 28, 29, 30, 31, 32, 33, 34, 35, 36, 37] rfl rfl rfl (by decide) ⟨Nat.le_of_ble_eq_true rfl, Nat.le_of_ble_eq_true rfl⟩ (fun q9 ce H locs hP hD hS h1 h2 h3 => ?_)
  exact finx _ _ _ _ _ _ _ _ _ hP hD hS (Nat.le_of_ble_eq_true rfl) (Nat.le_of_ble_eq_true rfl) h1 h2 h3

set_option maxHeartbeats 4000000 in
set_option maxRecDepth 100000 in
theorem c_X4_setStation_x2 (l : Launch) (hlt : l.stackTraces = false) (D : va_G) (cI : ClassId) (o : Nat) (g a b : Nat → Nat) (r u v : Rc) (ok : Ok u) (s9 : Nat) (hs : s9 < 8) (x : Int32) (ex : x = nI s9) (y z : Int32) (h : y < 1 ∨ 999 < y) : CX l yX4_setStation wsX4_setStation ({ frames := 7, cells := 1, slots := 6, locals := 130 } : Room) D cI [.ref o, .int x, .int y, .int z] (wX cI o g a b r u v) "java/lang/IllegalArgumentException" := by
  refine CX.mk (cc := cX4_setStation) (maxL := 6) (ret := (some .int)) hlt (by decide) rfl rfl (Nat.le_of_ble_eq_true rfl) ?_
  intro p e s m args below meth c A Q ls hx hb hts hown hml hK hN hT hA hP hD hS hl finx fint
  have hown : s.vm.findClass RX4 = some m.cls := hown
  subst ex
  have hl : lv_has ls 6 [(0, .ref o), (1, .int (nI s9)), (2, .int y), (3, .int z)] := hl
  refine lv_iload_n hx hb dX4_setStation_0 rfl (lv_at hl 1 rfl) ?_
  refine lv_bipush (v := 8) hx hb dX4_setStation_1 (by decide) ?_
  refine ycallv (invS (As := [.int (nI s9), .int 8]) (rest := []) (rm := ({ frames := 0, cells := 0, slots := 0, locals := 0 } : Room)) ⟨hx, hb, hml, hown, hts⟩ (va_cwS 2 hts gX4_setStation_X4_checkIndex rfl rfl rfl (by decide +kernel) ⟨Nat.le_of_ble_eq_true rfl, Nat.le_of_ble_eq_true rfl⟩) rfl rfl hl.1 (Nat.le_of_ble_eq_true rfl) dX4_setStation_3) (c_X4_checkIndex l D cI (nI s9) (8) (ci1 (j := s9) rfl (by omega)) (ci2 (j := s9) (N := 8) rfl (show (8 : Int32) = nI 8 from rfl) (by omega) (by omega))) hK hN hA hP hD hS (W2 := wX cI o g a b r u v) [] [0, 1, 2, 3, 4, 5, 6, 7, 8, 9, 10, 11, 12, 13, 14, 15, 16, 17, 18, 19, 20, 21, 22, 23, 24, 25, 26, 27, 28, 29, 30, 31, 32, 33, 34, 35, 36, 37] [0, 1, 2, 3, 4, 5, 6, 7, 8, 9, 10, 11, 12, 13, 14, 15, 16, 17, 18, 19, 20, 21, 22, 23, 24, 25, 26, 27, 28, 29, 30, 31, 32, 33, 34, 35, 36, 37] rfl rfl rfl (by decide) ⟨Nat.le_of_ble_eq_true rfl, Nat.le_of_ble_eq_true rfl⟩ (fun H locs hP hD hS => ?_)
  refine lv_iload_n hx hb dX4_setStation_6 rfl (lv_at hl 2 rfl) ?_
  refine lv_iconst (v := 1) hx hb dX4_setStation_7 (by decide) ?_
  refine lv_sipush (v := 999) hx hb dX4_setStation_8 (by decide) ?_
  refine ycallx (invXS (As := [.int y, .int 1, .int 999]) (rest := []) (rm := ({ frames := 6, cells := 1, slots := 6, locals := 100 } : Room)) ⟨hx, hb, hml, hown, hts⟩ (va_cwS 3 hts gX4_setStation_X4_checkArgument rfl rfl rfl (by decide +kernel) ⟨Nat.le_of_ble_eq_true rfl, Nat.le_of_ble_eq_true rfl⟩) rfl rfl hl.1 (Nat.le_of_ble_eq_true rfl) dX4_setStation_11) (c_X4_checkArgument_x l hlt D cI (y) (1) (999) h) hK hN hT hA hP hD hS [] [0, 1, 2, 3, 4, 5, 6, 7, 8, 9, 10, 11, 12, 13, 14, 15, 16, 17, 18, 19, 20, 21, 22, 23, 24, 25, 26, 27, 28, 29, 30, 31, 32, 33, 34, 35, 36, 37] [0, 1, 2, 3, 4, 5, 6, 7, 8, 9, 10, 11, 12, 13, 14, 15, 16, 17, 18, 19, 20, 21, 22, 23, 24, 25, 26, 27, 28, 29, 30, 31, 32, 33, 34, 35, 36, 37] rfl rfl rfl (by decide) ⟨Nat.le_of_ble_eq_true rfl, Nat.le_of_ble_eq_true rfl⟩ (fun q9 ce H locs hP hD hS h1 h2 h3 => ?_)
  exact finx _ _ _ _ _ _ _ _ _ hP hD hS (Nat.le_of_ble_eq_true rfl) (Nat.le_of_ble_eq_true rfl) h1 h2 h3

set_option maxHeartbeats 4000000 in
set_option maxRecDepth 100000 in
theorem c_X4_setStation_x3 (l : Launch) (hlt : l.stackTraces = false) (D : va_G) (cI : ClassId) (o : Nat) (g a b : Nat → Nat) (r u v : Rc) (ok : Ok u) (s9 : Nat) (hs : s9 < 8) (x : Int32) (ex : x = nI s9) (y z : Int32) (h1 : ¬ y < 1) (h2 : y ≤ 999) (h : z < 0 ∨ 3 < z) : CX l yX4_setStation wsX4_setStation ({ frames := 7, cells := 1, slots := 6, locals := 130 } : Room) D cI [.ref o, .int x, .int y, .int z] (wX cI o g a b r u v) "java/lang/IllegalArgumentException" := by
  refine CX.mk (cc := cX4_setStation) (maxL := 6) (ret := (some .int)) hlt (by decide) rfl rfl (Nat.le_of_ble_eq_true rfl) ?_
  intro p e s m args below meth c A Q ls hx hb hts hown hml hK hN hT hA hP hD hS hl finx fint
  have hown : s.vm.findClass RX4 = some m.cls := hown
  subst ex
  have hl : lv_has ls 6 [(0, .ref o), (1, .int (nI s9)), (2, .int y), (3, .int z)] := hl
  refine lv_iload_n hx hb dX4_setStation_0 rfl (lv_at hl 1 rfl) ?_
  refine lv_bipush (v := 8) hx hb dX4_setStation_1 (by decide) ?_
  refine ycallv (invS (As := [.int (nI s9), .int 8]) (rest := []) (rm := ({ frames := 0, cells := 0, slots := 0, locals := 0 } : Room)) ⟨hx, hb, hml, hown, hts⟩ (va_cwS 2 hts gX4_setStation_X4_checkIndex rfl rfl rfl (by decide +kernel) ⟨Nat.le_of_ble_eq_true rfl, Nat.le_of_ble_eq_true rfl⟩) rfl rfl hl.1 (Nat.le_of_ble_eq_true rfl) dX4_setStation_3) (c_X4_checkIndex l D cI (nI s9) (8) (ci1 (j := s9) rfl (by omega)) (ci2 (j := s9) (N := 8) rfl (show (8 : Int32) = nI 8 from rfl) (by omega) (by omega))) hK hN hA hP hD hS (W2 := wX cI o g a b r u v) [] [0, 1, 2, 3, 4, 5, 6, 7, 8, 9, 10, 11, 12, 13, 14, 15, 16, 17, 18, 19, 20, 21, 22, 23, 24, 25, 26, 27, 28, 29, 30, 31, 32, 33, 34, 35, 36, 37] [0, 1, 2, 3, 4, 5, 6, 7, 8, 9, 10, 11, 12, 13, 14, 15, 16, 17, 18, 19, 20, 21, 22, 23, 24, 25, 26, 27, 28, 29, 30, 31, 32, 33, 34, 35, 36, 37] rfl rfl rfl (by decide) ⟨Nat.le_of_ble_eq_true rfl, Nat.le_of_ble_eq_true rfl⟩ (fun H locs hP hD hS => ?_)
  refine lv_iload_n hx hb dX4_setStation_6 rfl (lv_at hl 2 rfl) ?_
  refine lv_iconst (v := 1) hx hb dX4_setStation_7 (by decide) ?_
  refine lv_sipush (v := 999) hx hb dX4_setStation_8 (by decide) ?_
  refine ycallv (invS (As := [.int y, .int 1, .int 999]) (rest := []) (rm := ({ frames := 0, cells := 0, slots := 0, locals := 0 } : Room)) ⟨hx, hb, hml, hown, hts⟩ (va_cwS 3 hts gX4_setStation_X4_checkArgument rfl rfl rfl (by decide +kernel) ⟨Nat.le_of_ble_eq_true rfl, Nat.le_of_ble_eq_true rfl⟩) rfl rfl hl.1 (Nat.le_of_ble_eq_true rfl) dX4_setStation_11) (c_X4_checkArgument l D cI (y) (1) (999) h1 h2) hK hN hA hP hD hS (W2 := wX cI o g a b r u v) [] [0, 1, 2, 3, 4, 5, 6, 7, 8, 9, 10, 11, 12, 13, 14, 15, 16, 17, 18, 19, 20, 21, 22, 23, 24, 25, 26, 27, 28, 29, 30, 31, 32, 33, 34, 35, 36, 37] [0, 1, 2, 3, 4, 5, 6, 7, 8, 9, 10, 11, 12, 13, 14, 15, 16, 17, 18, 19, 20, 21, 22, 23, 24, 25, 26, 27, 28, 29, 30, 31, 32, 33, 34, 35, 36, 37] rfl rfl rfl (by decide) ⟨Nat.le_of_ble_eq_true rfl, Nat.le_of_ble_eq_true rfl⟩ (fun H locs hP hD hS => ?_)
  refine lv_iload_n hx hb dX4_setStation_14 rfl (lv_at hl 3 rfl) ?_
  refine lv_iconst (v := 0) hx hb dX4_setStation_15 (by decide) ?_
  refine lv_iconst (v := 3) hx hb dX4_setStation_16 (by decide) ?_
  refine ycallx (invXS (As := [.int z, .int 0, .int 3]) (rest := []) (rm := ({ frames := 6, cells := 1, slots := 6, locals := 100 } : Room)) ⟨hx, hb, hml, hown, hts⟩ (va_cwS 3 hts gX4_setStation_X4_checkArgument rfl rfl rfl (by decide +kernel) ⟨Nat.le_of_ble_eq_true rfl, Nat.le_of_ble_eq_true rfl⟩) rfl rfl hl.1 (Nat.le_of_ble_eq_true rfl) dX4_setStation_17) (c_X4_checkArgument_x l hlt D cI (z) (0) (3) h) hK hN hT hA hP hD hS [] [0, 1, 2, 3, 4, 5, 6, 7, 8, 9, 10, 11, 12, 13, 14, 15, 16, 17, 18, 19, 20, 21, 22, 23, 24, 25, 26, 27, 28, 29, 30, 31, 32, 33, 34, 35, 36, 37] [0, 1, 2, 3, 4, 5, 6, 7, 8, 9, 10, 11, 12, 13, 14, 15, 16, 17, 18, 19, 20, 21, 22, 23, 24, 25, 26, 27, 28, 29, 30, 31, 32, 33, 34, 35, 36, 37] rfl rfl rfl (by decide) ⟨Nat.le_of_ble_eq_true rfl, Nat.le_of_ble_eq_true rfl⟩ (fun q9 ce H locs hP hD hS h1 h2 h3 => ?_)
  exact finx _ _ _ _ _ _ _ _ _ hP hD hS (Nat.le_of_ble_eq_true rfl) (Nat.le_of_ble_eq_true rfl) h1 h2 h3

set_option maxHeartbeats 4000000 in
set_option maxRecDepth 100000 in
theorem c_X4_setStation_x4 (l : Launch) (hlt : l.stackTraces = false) (D : va_G) (cI : ClassId) (o : Nat) (g a b : Nat → Nat) (r u v : Rc) (ok : Ok u) (s9 : Nat) (hs : s9 < 8) (x : Int32) (ex : x = nI s9) (y z : Int32) (h1 : ¬ y < 1) (h2 : y ≤ 999) (h3 : ¬ z < 0) (h4 : z ≤ 3) (h : r 20 s9 < u 30 0 ∨ y < u 30 0 ∨ ¬ riseF r s9 y) : CX l yX4_setStation wsX4_setStation ({ frames := 7, cells := 1, slots := 6, locals := 130 } : Room) D cI [.ref o, .int x, .int y, .int z] (wX cI o g a b r u v) "java/lang/IllegalStateException" := by
  refine CX.mk (cc := cX4_setStation) (maxL := 6) (ret := (some .int)) hlt (by decide) rfl rfl (Nat.le_of_ble_eq_true rfl) ?_
  intro p e s m args below meth c A Q ls hx hb hts hown hml hK hN hT hA hP hD hS hl finx fint
  have hown : s.vm.findClass RX4 = some m.cls := hown
  subst ex
  have hl : lv_has ls 6 [(0, .ref o), (1, .int (nI s9)), (2, .int y), (3, .int z)] := hl
  have f17 := hts (.fieldLink RX4 17 "NightSorters" "train" "LNightSorters$Train;") (by decide +kernel)
  have f32 := hts (.fieldLink RX4 32 "NightSorters$Train" "line" "LNightSorters$Line;") (by decide +kernel)
  have f36 := hts (.fieldLink RX4 36 "NightSorters$Train" "minute" "I") (by decide +kernel)
  have f40 := hts (.fieldLink RX4 40 "NightSorters$Line" "minutes" "[I") (by decide +kernel)
  have inX1 : ∀ w ∈ wsX10, w ∈ wsX4_setStation := by decide +kernel
  have inX3 : ∀ w ∈ wsX30, w ∈ wsX4_setStation := by decide +kernel
  have inX4 : ∀ w ∈ wsX40, w ∈ wsX4_setStation := by decide +kernel
  refine lv_iload_n hx hb dX4_setStation_0 rfl (lv_at hl 1 rfl) ?_
  refine lv_bipush (v := 8) hx hb dX4_setStation_1 (by decide) ?_
  refine ycallv (invS (As := [.int (nI s9), .int 8]) (rest := []) (rm := ({ frames := 0, cells := 0, slots := 0, locals := 0 } : Room)) ⟨hx, hb, hml, hown, hts⟩ (va_cwS 2 hts gX4_setStation_X4_checkIndex rfl rfl rfl (by decide +kernel) ⟨Nat.le_of_ble_eq_true rfl, Nat.le_of_ble_eq_true rfl⟩) rfl rfl hl.1 (Nat.le_of_ble_eq_true rfl) dX4_setStation_3) (c_X4_checkIndex l D cI (nI s9) (8) (ci1 (j := s9) rfl (by omega)) (ci2 (j := s9) (N := 8) rfl (show (8 : Int32) = nI 8 from rfl) (by omega) (by omega))) hK hN hA hP hD hS (W2 := wX cI o g a b r u v) [] [0, 1, 2, 3, 4, 5, 6, 7, 8, 9, 10, 11, 12, 13, 14, 15, 16, 17, 18, 19, 20, 21, 22, 23, 24, 25, 26, 27, 28, 29, 30, 31, 32, 33, 34, 35, 36, 37] [0, 1, 2, 3, 4, 5, 6, 7, 8, 9, 10, 11, 12, 13, 14, 15, 16, 17, 18, 19, 20, 21, 22, 23, 24, 25, 26, 27, 28, 29, 30, 31, 32, 33, 34, 35, 36, 37] rfl rfl rfl (by decide) ⟨Nat.le_of_ble_eq_true rfl, Nat.le_of_ble_eq_true rfl⟩ (fun H locs hP hD hS => ?_)
  refine lv_iload_n hx hb dX4_setStation_6 rfl (lv_at hl 2 rfl) ?_
  refine lv_iconst (v := 1) hx hb dX4_setStation_7 (by decide) ?_
  refine lv_sipush (v := 999) hx hb dX4_setStation_8 (by decide) ?_
  refine ycallv (invS (As := [.int y, .int 1, .int 999]) (rest := []) (rm := ({ frames := 0, cells := 0, slots := 0, locals := 0 } : Room)) ⟨hx, hb, hml, hown, hts⟩ (va_cwS 3 hts gX4_setStation_X4_checkArgument rfl rfl rfl (by decide +kernel) ⟨Nat.le_of_ble_eq_true rfl, Nat.le_of_ble_eq_true rfl⟩) rfl rfl hl.1 (Nat.le_of_ble_eq_true rfl) dX4_setStation_11) (c_X4_checkArgument l D cI (y) (1) (999) h1 h2) hK hN hA hP hD hS (W2 := wX cI o g a b r u v) [] [0, 1, 2, 3, 4, 5, 6, 7, 8, 9, 10, 11, 12, 13, 14, 15, 16, 17, 18, 19, 20, 21, 22, 23, 24, 25, 26, 27, 28, 29, 30, 31, 32, 33, 34, 35, 36, 37] [0, 1, 2, 3, 4, 5, 6, 7, 8, 9, 10, 11, 12, 13, 14, 15, 16, 17, 18, 19, 20, 21, 22, 23, 24, 25, 26, 27, 28, 29, 30, 31, 32, 33, 34, 35, 36, 37] rfl rfl rfl (by decide) ⟨Nat.le_of_ble_eq_true rfl, Nat.le_of_ble_eq_true rfl⟩ (fun H locs hP hD hS => ?_)
  refine lv_iload_n hx hb dX4_setStation_14 rfl (lv_at hl 3 rfl) ?_
  refine lv_iconst (v := 0) hx hb dX4_setStation_15 (by decide) ?_
  refine lv_iconst (v := 3) hx hb dX4_setStation_16 (by decide) ?_
  refine ycallv (invS (As := [.int z, .int 0, .int 3]) (rest := []) (rm := ({ frames := 0, cells := 0, slots := 0, locals := 0 } : Room)) ⟨hx, hb, hml, hown, hts⟩ (va_cwS 3 hts gX4_setStation_X4_checkArgument rfl rfl rfl (by decide +kernel) ⟨Nat.le_of_ble_eq_true rfl, Nat.le_of_ble_eq_true rfl⟩) rfl rfl hl.1 (Nat.le_of_ble_eq_true rfl) dX4_setStation_17) (c_X4_checkArgument l D cI (z) (0) (3) h3 h4) hK hN hA hP hD hS (W2 := wX cI o g a b r u v) [] [0, 1, 2, 3, 4, 5, 6, 7, 8, 9, 10, 11, 12, 13, 14, 15, 16, 17, 18, 19, 20, 21, 22, 23, 24, 25, 26, 27, 28, 29, 30, 31, 32, 33, 34, 35, 36, 37] [0, 1, 2, 3, 4, 5, 6, 7, 8, 9, 10, 11, 12, 13, 14, 15, 16, 17, 18, 19, 20, 21, 22, 23, 24, 25, 26, 27, 28, 29, 30, 31, 32, 33, 34, 35, 36, 37] rfl rfl rfl (by decide) ⟨Nat.le_of_ble_eq_true rfl, Nat.le_of_ble_eq_true rfl⟩ (fun H locs hP hD hS => ?_)
  refine lv_aload_n hx hb dX4_setStation_20 rfl (lv_at hl 0 rfl) ?_
  refine va_get (D := D) (ci := 4) (v := .ref (a 30)) (C := RX4) (T := TX4) (N := 2) hx hb hts inX4 hown hK hP 0 rfl rfl 0 (by decide) f17 (fun _ h9 => h9) rfl dX4_setStation_21 ?_
  refine va_get (D := D) (ci := 3) (v := .ref (g 0)) (C := RX3) (T := TX3) (N := 4) hx hb hts inX3 hown hK hP 1 rfl rfl 0 (by decide) f32 (fun _ h9 => h9) rfl dX4_setStation_24 ?_
  refine lv_astore (lv' := [(4, .ref (g 0)), (0, .ref o), (1, .int (nI s9)), (2, .int y), (3, .int z)]) hx hb dX4_setStation_27 hl (by decide) rfl (fun ls hl => ?_)
  refine lv_aload_n hx hb dX4_setStation_29 rfl (lv_at hl 1 rfl) ?_
  refine va_get (D := D) (ci := 4) (v := .ref (a 30)) (C := RX4) (T := TX4) (N := 2) hx hb hts inX4 hown hK hP 0 rfl rfl 0 (by decide) f17 (fun _ h9 => h9) rfl dX4_setStation_30 ?_
  refine va_get (D := D) (ci := 3) (v := .int (u 30 0)) (C := RX3) (T := TX3) (N := 4) hx hb hts inX3 hown hK hP 1 rfl rfl 3 (by decide) f36 (fun _ h9 => h9) rfl dX4_setStation_33 ?_
  refine lv_aload hx hb dX4_setStation_36 (lv_at hl 0 rfl) ?_
  refine va_get (D := D) (ci := 1) (v := .ref (g 20)) (C := RX1) (T := TX1) (N := 2) hx hb hts inX1 hown hK hP 18 rfl rfl 0 (by decide) f40 (fun _ h9 => h9) rfl dX4_setStation_38 ?_
  refine lv_iload_n hx hb dX4_setStation_41 rfl (lv_at hl 2 rfl) ?_
  refine xald hx hb hK hP 19 rfl rfl (s9) (rfl) (by omega) (by decide) dX4_setStation_42 ?_
  refine lv_icmp_gt (tgt := 67) hx hb dX4_setStation_43 (by decide) (fun c1 => ?_) (fun c1 => ?_)
  · skip
    have hat : ∀ w ∈ (vx_atS RX4 52 "java/lang/IllegalStateException" ["java/lang/RuntimeException", "java/lang/Exception"]).filter goodWord, w.before args s = true := by
      intro w hw
      refine hts w ?_
      unfold wsX4_setStation
      simp only [List.mem_cons, List.mem_append, hw, or_true, true_or]
    exact fint _ _ _ _ _ 48 50 52 "the station is passed, or the minutes would not rise" _ _ hP hD hS hl.1 (by decide +kernel) (by decide +kernel) (by decide +kernel) (hts (.classLink RX4 48 "java/lang/IllegalStateException") (by decide +kernel)) (hts (.initialized "java/lang/IllegalStateException") (by decide +kernel)) hat (by decide +kernel) (by decide +kernel) dX4_setStation_67 dX4_setStation_70 dX4_setStation_71 dX4_setStation_73 dX4_setStation_76 (Nat.le_of_ble_eq_true rfl) (Nat.le_of_ble_eq_true rfl) (Nat.le_of_ble_eq_true rfl) (Nat.le_of_ble_eq_true rfl)
  · skip
    refine lv_aload_n hx hb dX4_setStation_46 rfl (lv_at hl 1 rfl) ?_
    refine va_get (D := D) (ci := 4) (v := .ref (a 30)) (C := RX4) (T := TX4) (N := 2) hx hb hts inX4 hown hK hP 0 rfl rfl 0 (by decide) f17 (fun _ h9 => h9) rfl dX4_setStation_47 ?_
    refine va_get (D := D) (ci := 3) (v := .int (u 30 0)) (C := RX3) (T := TX3) (N := 4) hx hb hts inX3 hown hK hP 1 rfl rfl 3 (by decide) f36 (fun _ h9 => h9) rfl dX4_setStation_50 ?_
    refine lv_iload_n hx hb dX4_setStation_53 rfl (lv_at hl 3 rfl) ?_
    refine lv_icmp_gt (tgt := 67) hx hb dX4_setStation_54 (by decide) (fun c2 => ?_) (fun c2 => ?_)
    · skip
      have hat : ∀ w ∈ (vx_atS RX4 52 "java/lang/IllegalStateException" ["java/lang/RuntimeException", "java/lang/Exception"]).filter goodWord, w.before args s = true := by
        intro w hw
        refine hts w ?_
        unfold wsX4_setStation
        simp only [List.mem_cons, List.mem_append, hw, or_true, true_or]
      exact fint _ _ _ _ _ 48 50 52 "the station is passed, or the minutes would not rise" _ _ hP hD hS hl.1 (by decide +kernel) (by decide +kernel) (by decide +kernel) (hts (.classLink RX4 48 "java/lang/IllegalStateException") (by decide +kernel)) (hts (.initialized "java/lang/IllegalStateException") (by decide +kernel)) hat (by decide +kernel) (by decide +kernel) dX4_setStation_67 dX4_setStation_70 dX4_setStation_71 dX4_setStation_73 dX4_setStation_76 (Nat.le_of_ble_eq_true rfl) (Nat.le_of_ble_eq_true rfl) (Nat.le_of_ble_eq_true rfl) (Nat.le_of_ble_eq_true rfl)
    · skip
      refine lv_aload hx hb dX4_setStation_57 (lv_at hl 0 rfl) ?_
      refine lv_iload_n hx hb dX4_setStation_59 rfl (lv_at hl 2 rfl) ?_
      refine lv_iload_n hx hb dX4_setStation_60 rfl (lv_at hl 3 rfl) ?_
      refine ycalli (invV (As := [.int (nI s9), .int y]) (rest := []) (rm := ({ frames := 0, cells := 0, slots := 0, locals := 0 } : Room)) ⟨hx, hb, hml, hown, hts⟩ (cwV 2 hts gX4_setStation_X1_wouldRise rfl rfl rfl (by decide +kernel) ⟨Nat.le_of_ble_eq_true rfl, Nat.le_of_ble_eq_true rfl⟩) (va_recv hK hP (ci := 1) (q0 := 18) rfl rfl) rfl rfl hl.1 (Nat.le_of_ble_eq_true rfl) dX4_setStation_61) (c_X1_wouldRise l D cI g r s9 hs (nI s9) rfl y) hK hN hA hP hD hS (W2 := wX cI o g a b r u v) [18, 19, 20] [0, 1, 2, 3, 4, 5, 6, 7, 8, 9, 10, 11, 12, 13, 14, 15, 16, 17, 21, 22, 23, 24, 25, 26, 27, 28, 29, 30, 31, 32, 33, 34, 35, 36, 37] [0, 1, 2, 3, 4, 5, 6, 7, 8, 9, 10, 11, 12, 13, 14, 15, 16, 17, 35, 36, 37, 18, 19, 20, 21, 22, 23, 24, 25, 26, 27, 28, 29, 30, 31, 32, 33, 34] rfl rfl rfl (by decide) ⟨Nat.le_of_ble_eq_true rfl, Nat.le_of_ble_eq_true rfl⟩ (fun H locs hP hD hS => ?_)
      refine lv_if_ne (tgt := 77) hx hb dX4_setStation_64 (by decide) (fun c3 => ?_) (fun c3 => ?_)
      · exact absurd (b01f c3) ((h.resolve_left c1).resolve_left c2)
      · skip
        have c3 := b01t c3
        have hat : ∀ w ∈ (vx_atS RX4 52 "java/lang/IllegalStateException" ["java/lang/RuntimeException", "java/lang/Exception"]).filter goodWord, w.before args s = true := by
          intro w hw
          refine hts w ?_
          unfold wsX4_setStation
          simp only [List.mem_cons, List.mem_append, hw, or_true, true_or]
        exact fint _ _ _ _ _ 48 50 52 "the station is passed, or the minutes would not rise" _ _ hP hD hS hl.1 (by decide +kernel) (by decide +kernel) (by decide +kernel) (hts (.classLink RX4 48 "java/lang/IllegalStateException") (by decide +kernel)) (hts (.initialized "java/lang/IllegalStateException") (by decide +kernel)) hat (by decide +kernel) (by decide +kernel) dX4_setStation_67 dX4_setStation_70 dX4_setStation_71 dX4_setStation_73 dX4_setStation_76 (Nat.le_of_ble_eq_true rfl) (Nat.le_of_ble_eq_true rfl) (Nat.le_of_ble_eq_true rfl) (Nat.le_of_ble_eq_true rfl)

set_option maxHeartbeats 4000000 in
set_option maxRecDepth 100000 in
theorem c_X4_post (l : Launch) (D : va_G) (cI : ClassId) (o : Nat) (g a b : Nat → Nat) (r u v : Rc) (ok : Ok u) (s9 : Nat) (hs : s9 < 8) (x : Int32) (ex : x = nI s9) (t9 : Nat) (ht9 : t9 < 16) (y : Int32) (ey : y = nI t9) (h : iv (u 0 0) < 60) : CI l yX4_post wsX4_post ({ frames := 1, cells := 0, slots := 0, locals := 23 } : Room) D cI [.ref o, .int x, .int y] (wX cI o g a b r u v) (u 0 0) (wX cI o g a b r (addF u (nI s9) (nI t9)) v) := by
  refine CI.mk (cc := cX4_post) (maxL := 3) (ret := (some .int)) rfl rfl (by decide) rfl (Nat.le_of_ble_eq_true rfl) ?_
  intro p e s m args below meth c A Q ls hx hb hts hown hml hK hN hA hP hD hS hl fin
  have hown : s.vm.findClass RX4 = some m.cls := hown
  subst ex
  subst ey
  have hn60 := ok.n60
  have hl : lv_has ls 3 [(0, .ref o), (1, .int (nI s9)), (2, .int (nI t9))] := hl
  have f17 := hts (.fieldLink RX4 17 "NightSorters" "train" "LNightSorters$Train;") (by decide +kernel)
  have f58 := hts (.fieldLink RX4 58 "NightSorters$Train" "mail" "LNightSorters$Mail;") (by decide +kernel)
  have f62 := hts (.fieldLink RX4 62 "NightSorters$Mail" "size" "I") (by decide +kernel)
  have inX2 : ∀ w ∈ wsX20, w ∈ wsX4_post := by decide +kernel
  have inX3 : ∀ w ∈ wsX30, w ∈ wsX4_post := by decide +kernel
  have inX4 : ∀ w ∈ wsX40, w ∈ wsX4_post := by decide +kernel
  refine lv_iload_n hx hb dX4_post_0 rfl (lv_at hl 1 rfl) ?_
  refine lv_bipush (v := 8) hx hb dX4_post_1 (by decide) ?_
  refine ycallv (invS (As := [.int (nI s9), .int 8]) (rest := []) (rm := ({ frames := 0, cells := 0, slots := 0, locals := 0 } : Room)) ⟨hx, hb, hml, hown, hts⟩ (va_cwS 2 hts gX4_post_X4_checkIndex rfl rfl rfl (by decide +kernel) ⟨Nat.le_of_ble_eq_true rfl, Nat.le_of_ble_eq_true rfl⟩) rfl rfl hl.1 (Nat.le_of_ble_eq_true rfl) dX4_post_3) (c_X4_checkIndex l D cI (nI s9) (8) (ci1 (j := s9) rfl (by omega)) (ci2 (j := s9) (N := 8) rfl (show (8 : Int32) = nI 8 from rfl) (by omega) (by omega))) hK hN hA hP hD hS (W2 := wX cI o g a b r u v) [] [0, 1, 2, 3, 4, 5, 6, 7, 8, 9, 10, 11, 12, 13, 14, 15, 16, 17, 18, 19, 20, 21, 22, 23, 24, 25, 26, 27, 28, 29, 30, 31, 32, 33, 34, 35, 36, 37] [0, 1, 2, 3, 4, 5, 6, 7, 8, 9, 10, 11, 12, 13, 14, 15, 16, 17, 18, 19, 20, 21, 22, 23, 24, 25, 26, 27, 28, 29, 30, 31, 32, 33, 34, 35, 36, 37] rfl rfl rfl (by decide) ⟨Nat.le_of_ble_eq_true rfl, Nat.le_of_ble_eq_true rfl⟩ (fun H locs hP hD hS => ?_)
  refine lv_iload_n hx hb dX4_post_6 rfl (lv_at hl 2 rfl) ?_
  refine lv_bipush (v := 16) hx hb dX4_post_7 (by decide) ?_
  refine ycallv (invS (As := [.int (nI t9), .int 16]) (rest := []) (rm := ({ frames := 0, cells := 0, slots := 0, locals := 0 } : Room)) ⟨hx, hb, hml, hown, hts⟩ (va_cwS 2 hts gX4_post_X4_checkIndex rfl rfl rfl (by decide +kernel) ⟨Nat.le_of_ble_eq_true rfl, Nat.le_of_ble_eq_true rfl⟩) rfl rfl hl.1 (Nat.le_of_ble_eq_true rfl) dX4_post_9) (c_X4_checkIndex l D cI (nI t9) (16) (ci1 (j := t9) rfl (by omega)) (ci2 (j := t9) (N := 16) rfl (show (16 : Int32) = nI 16 from rfl) (by omega) (by omega))) hK hN hA hP hD hS (W2 := wX cI o g a b r u v) [] [0, 1, 2, 3, 4, 5, 6, 7, 8, 9, 10, 11, 12, 13, 14, 15, 16, 17, 18, 19, 20, 21, 22, 23, 24, 25, 26, 27, 28, 29, 30, 31, 32, 33, 34, 35, 36, 37] [0, 1, 2, 3, 4, 5, 6, 7, 8, 9, 10, 11, 12, 13, 14, 15, 16, 17, 18, 19, 20, 21, 22, 23, 24, 25, 26, 27, 28, 29, 30, 31, 32, 33, 34, 35, 36, 37] rfl rfl rfl (by decide) ⟨Nat.le_of_ble_eq_true rfl, Nat.le_of_ble_eq_true rfl⟩ (fun H locs hP hD hS => ?_)
  refine lv_aload_n hx hb dX4_post_12 rfl (lv_at hl 0 rfl) ?_
  refine va_get (D := D) (ci := 4) (v := .ref (a 30)) (C := RX4) (T := TX4) (N := 2) hx hb hts inX4 hown hK hP 0 rfl rfl 0 (by decide) f17 (fun _ h9 => h9) rfl dX4_post_13 ?_
  refine va_get (D := D) (ci := 3) (v := .ref (a 0)) (C := RX3) (T := TX3) (N := 4) hx hb hts inX3 hown hK hP 1 rfl rfl 1 (by decide) f58 (fun _ h9 => h9) rfl dX4_post_16 ?_
  refine va_get (D := D) (ci := 2) (v := .int (u 0 0)) (C := RX2) (T := TX2) (N := 8) hx hb hts inX2 hown hK hP 2 rfl rfl 0 (by decide) f62 (fun _ h9 => h9) rfl dX4_post_19 ?_
  refine lv_bipush (v := 60) hx hb dX4_post_22 (by decide) ?_
  refine lv_icmp_lt (tgt := 37) hx hb dX4_post_24 (by decide) (fun c1 => ?_) (fun c1 => ?_)
  · skip
    refine lv_aload_n hx hb dX4_post_37 rfl (lv_at hl 0 rfl) ?_
    refine va_get (D := D) (ci := 4) (v := .ref (a 30)) (C := RX4) (T := TX4) (N := 2) hx hb hts inX4 hown hK hP 0 rfl rfl 0 (by decide) f17 (fun _ h9 => h9) rfl dX4_post_38 ?_
    refine va_get (D := D) (ci := 3) (v := .ref (a 0)) (C := RX3) (T := TX3) (N := 4) hx hb hts inX3 hown hK hP 1 rfl rfl 1 (by decide) f58 (fun _ h9 => h9) rfl dX4_post_41 ?_
    refine lv_iload_n hx hb dX4_post_44 rfl (lv_at hl 1 rfl) ?_
    refine lv_iload_n hx hb dX4_post_45 rfl (lv_at hl 2 rfl) ?_
    obtain ⟨u2, eu2⟩ : ∃ z0 : Rc, z0 = addF u (nI s9) (nI t9) := ⟨_, rfl⟩
    refine ycalli (invV (As := [.int (nI s9), .int (nI t9)]) (rest := []) (rm := ({ frames := 0, cells := 0, slots := 0, locals := 0 } : Room)) ⟨hx, hb, hml, hown, hts⟩ (cwV 2 hts gX4_post_X2_addToBag rfl rfl rfl (by decide +kernel) ⟨Nat.le_of_ble_eq_true rfl, Nat.le_of_ble_eq_true rfl⟩) (va_recv hK hP (ci := 2) (q0 := 2) rfl rfl) rfl rfl hl.1 (Nat.le_of_ble_eq_true rfl) dX4_post_46) (c_X2_addToBag l D cI a u ok h (nI s9) (nI t9)) hK hN hA hP hD hS (W2 := wX cI o g a b r u2 v) [2, 3, 4, 5, 6, 7, 8, 9] [0, 1, 10, 11, 12, 13, 14, 15, 16, 17, 18, 19, 20, 21, 22, 23, 24, 25, 26, 27, 28, 29, 30, 31, 32, 33, 34, 35, 36, 37] [0, 1, 30, 31, 32, 33, 34, 35, 36, 37, 2, 3, 4, 5, 6, 7, 8, 9, 10, 11, 12, 13, 14, 15, 16, 17, 18, 19, 20, 21, 22, 23, 24, 25, 26, 27, 28, 29] rfl rfl (by subst eu2; rfl) (by decide) ⟨Nat.le_of_ble_eq_true rfl, Nat.le_of_ble_eq_true rfl⟩ (fun H locs hP hD hS => ?_)
    have h3 : u2 = addF u (nI s9) (nI t9) := (by (try subst eu2); simp only [c1, ↓reduceIte, not_false_eq_true, not_true_eq_false, and_true, true_and, and_false, false_and, or_true, true_or, or_false, false_or, and_self, or_self])
    exact fin _ _ _ _ _ _ _ _ rfl (congrArg (fun z9 : Rc => wX cI o g a b r z9 v) h3) hP hD hS (Nat.le_of_ble_eq_true rfl) (Nat.le_of_ble_eq_true rfl) dX4_post_49
  · exact absurd (ci2 ok.n (show (60 : Int32) = nI 60 from rfl) h (by decide)) c1

set_option maxHeartbeats 4000000 in
set_option maxRecDepth 100000 in
theorem c_X4_post_x1 (l : Launch) (hlt : l.stackTraces = false) (D : va_G) (cI : ClassId) (o : Nat) (g a b : Nat → Nat) (r u v : Rc) (ok : Ok u) (x y : Int32) (h : x < 0 ∨ 8 ≤ x) : CX l yX4_post wsX4_post ({ frames := 7, cells := 1, slots := 6, locals := 130 } : Room) D cI [.ref o, .int x, .int y] (wX cI o g a b r u v) "java/lang/IndexOutOfBoundsException" := by
  refine CX.mk (cc := cX4_post) (maxL := 3) (ret := (some .int)) hlt (by decide) rfl rfl (Nat.le_of_ble_eq_true rfl) ?_
  intro p e s m args below meth c A Q ls hx hb hts hown hml hK hN hT hA hP hD hS hl finx fint
  have hown : s.vm.findClass RX4 = some m.cls := hown
  have hl : lv_has ls 3 [(0, .ref o), (1, .int x), (2, .int y)] := hl
  refine lv_iload_n hx hb dX4_post_0 rfl (lv_at hl 1 rfl) ?_
  refine lv_bipush (v := 8) hx hb dX4_post_1 (by decide) ?_
  refine ycallx (invXS (As := [.int x, .int 8]) (rest := []) (rm := ({ frames := 6, cells := 1, slots := 6, locals := 100 } : Room)) ⟨hx, hb, hml, hown, hts⟩ (va_cwS 2 hts gX4_post_X4_checkIndex rfl rfl rfl (by decide +kernel) ⟨Nat.le_of_ble_eq_true rfl, Nat.le_of_ble_eq_true rfl⟩) rfl rfl hl.1 (Nat.le_of_ble_eq_true rfl) dX4_post_3) (c_X4_checkIndex_x l hlt D cI (x) (8) h) hK hN hT hA hP hD hS [] [0, 1, 2, 3, 4, 5, 6, 7, 8, 9, 10, 11, 12, 13, 14, 15, 16, 17, 18, 19, 20, 21, 22, 23, 24, 25, 26, 27, 28, 29, 30, 31, 32, 33, 34, 35, 36, 37] [0, 1, 2, 3, 4, 5, 6, 7, 8, 9, 10, 11, 12, 13, 14, 15, 16, 17, 18, 19, 20, 21, 22, 23, 24, 25, 26, 27, 28, 29, 30, 31, 32, 33, 34, 35, 36, 37] rfl rfl rfl (by decide) ⟨Nat.le_of_ble_eq_true rfl, Nat.le_of_ble_eq_true rfl⟩ (fun q9 ce H locs hP hD hS h1 h2 h3 => ?_)
  exact finx _ _ _ _ _ _ _ _ _ hP hD hS (Nat.le_of_ble_eq_true rfl) (Nat.le_of_ble_eq_true rfl) h1 h2 h3

set_option maxHeartbeats 4000000 in
set_option maxRecDepth 100000 in
theorem c_X4_post_x2 (l : Launch) (hlt : l.stackTraces = false) (D : va_G) (cI : ClassId) (o : Nat) (g a b : Nat → Nat) (r u v : Rc) (ok : Ok u) (s9 : Nat) (hs : s9 < 8) (x : Int32) (ex : x = nI s9) (y : Int32) (h : y < 0 ∨ 16 ≤ y) : CX l yX4_post wsX4_post ({ frames := 7, cells := 1, slots := 6, locals := 130 } : Room) D cI [.ref o, .int x, .int y] (wX cI o g a b r u v) "java/lang/IndexOutOfBoundsException" := by
  refine CX.mk (cc := cX4_post) (maxL := 3) (ret := (some .int)) hlt (by decide) rfl rfl (Nat.le_of_ble_eq_true rfl) ?_
  intro p e s m args below meth c A Q ls hx hb hts hown hml hK hN hT hA hP hD hS hl finx fint
  have hown : s.vm.findClass RX4 = some m.cls := hown
  subst ex
  have hl : lv_has ls 3 [(0, .ref o), (1, .int (nI s9)), (2, .int y)] := hl
  refine lv_iload_n hx hb dX4_post_0 rfl (lv_at hl 1 rfl) ?_
  refine lv_bipush (v := 8) hx hb dX4_post_1 (by decide) ?_
  refine ycallv (invS (As := [.int (nI s9), .int 8]) (rest := []) (rm := ({ frames := 0, cells := 0, slots := 0, locals := 0 } : Room)) ⟨hx, hb, hml, hown, hts⟩ (va_cwS 2 hts gX4_post_X4_checkIndex rfl rfl rfl (by decide +kernel) ⟨Nat.le_of_ble_eq_true rfl, Nat.le_of_ble_eq_true rfl⟩) rfl rfl hl.1 (Nat.le_of_ble_eq_true rfl) dX4_post_3) (c_X4_checkIndex l D cI (nI s9) (8) (ci1 (j := s9) rfl (by omega)) (ci2 (j := s9) (N := 8) rfl (show (8 : Int32) = nI 8 from rfl) (by omega) (by omega))) hK hN hA hP hD hS (W2 := wX cI o g a b r u v) [] [0, 1, 2, 3, 4, 5, 6, 7, 8, 9, 10, 11, 12, 13, 14, 15, 16, 17, 18, 19, 20, 21, 22, 23, 24, 25, 26, 27, 28, 29, 30, 31, 32, 33, 34, 35, 36, 37] [0, 1, 2, 3, 4, 5, 6, 7, 8, 9, 10, 11, 12, 13, 14, 15, 16, 17, 18, 19, 20, 21, 22, 23, 24, 25, 26, 27, 28, 29, 30, 31, 32, 33, 34, 35, 36, 37] rfl rfl rfl (by decide) ⟨Nat.le_of_ble_eq_true rfl, Nat.le_of_ble_eq_true rfl⟩ (fun H locs hP hD hS => ?_)
  refine lv_iload_n hx hb dX4_post_6 rfl (lv_at hl 2 rfl) ?_
  refine lv_bipush (v := 16) hx hb dX4_post_7 (by decide) ?_
  refine ycallx (invXS (As := [.int y, .int 16]) (rest := []) (rm := ({ frames := 6, cells := 1, slots := 6, locals := 100 } : Room)) ⟨hx, hb, hml, hown, hts⟩ (va_cwS 2 hts gX4_post_X4_checkIndex rfl rfl rfl (by decide +kernel) ⟨Nat.le_of_ble_eq_true rfl, Nat.le_of_ble_eq_true rfl⟩) rfl rfl hl.1 (Nat.le_of_ble_eq_true rfl) dX4_post_9) (c_X4_checkIndex_x l hlt D cI (y) (16) h) hK hN hT hA hP hD hS [] [0, 1, 2, 3, 4, 5, 6, 7, 8, 9, 10, 11, 12, 13, 14, 15, 16, 17, 18, 19, 20, 21, 22, 23, 24, 25, 26, 27, 28, 29, 30, 31, 32, 33, 34, 35, 36, 37] [0, 1, 2, 3, 4, 5, 6, 7, 8, 9, 10, 11, 12, 13, 14, 15, 16, 17, 18, 19, 20, 21, 22, 23, 24, 25, 26, 27, 28, 29, 30, 31, 32, 33, 34, 35, 36, 37] rfl rfl rfl (by decide) ⟨Nat.le_of_ble_eq_true rfl, Nat.le_of_ble_eq_true rfl⟩ (fun q9 ce H locs hP hD hS h1 h2 h3 => ?_)
  exact finx _ _ _ _ _ _ _ _ _ hP hD hS (Nat.le_of_ble_eq_true rfl) (Nat.le_of_ble_eq_true rfl) h1 h2 h3

set_option maxHeartbeats 4000000 in
set_option maxRecDepth 100000 in
theorem c_X4_post_x3 (l : Launch) (hlt : l.stackTraces = false) (D : va_G) (cI : ClassId) (o : Nat) (g a b : Nat → Nat) (r u v : Rc) (ok : Ok u) (s9 : Nat) (hs : s9 < 8) (x : Int32) (ex : x = nI s9) (t9 : Nat) (ht9 : t9 < 16) (y : Int32) (ey : y = nI t9) (h : 60 ≤ iv (u 0 0)) : CX l yX4_post wsX4_post ({ frames := 7, cells := 1, slots := 6, locals := 130 } : Room) D cI [.ref o, .int x, .int y] (wX cI o g a b r u v) "java/lang/IllegalStateException" := by
  refine CX.mk (cc := cX4_post) (maxL := 3) (ret := (some .int)) hlt (by decide) rfl rfl (Nat.le_of_ble_eq_true rfl) ?_
  intro p e s m args below meth c A Q ls hx hb hts hown hml hK hN hT hA hP hD hS hl finx fint
  have hown : s.vm.findClass RX4 = some m.cls := hown
  subst ex
  subst ey
  have hn60 := ok.n60
  have hl : lv_has ls 3 [(0, .ref o), (1, .int (nI s9)), (2, .int (nI t9))] := hl
  have f17 := hts (.fieldLink RX4 17 "NightSorters" "train" "LNightSorters$Train;") (by decide +kernel)
  have f58 := hts (.fieldLink RX4 58 "NightSorters$Train" "mail" "LNightSorters$Mail;") (by decide +kernel)
  have f62 := hts (.fieldLink RX4 62 "NightSorters$Mail" "size" "I") (by decide +kernel)
  have inX2 : ∀ w ∈ wsX20, w ∈ wsX4_post := by decide +kernel
  have inX3 : ∀ w ∈ wsX30, w ∈ wsX4_post := by decide +kernel
  have inX4 : ∀ w ∈ wsX40, w ∈ wsX4_post := by decide +kernel
  refine lv_iload_n hx hb dX4_post_0 rfl (lv_at hl 1 rfl) ?_
  refine lv_bipush (v := 8) hx hb dX4_post_1 (by decide) ?_
  refine ycallv (invS (As := [.int (nI s9), .int 8]) (rest := []) (rm := ({ frames := 0, cells := 0, slots := 0, locals := 0 } : Room)) ⟨hx, hb, hml, hown, hts⟩ (va_cwS 2 hts gX4_post_X4_checkIndex rfl rfl rfl (by decide +kernel) ⟨Nat.le_of_ble_eq_true rfl, Nat.le_of_ble_eq_true rfl⟩) rfl rfl hl.1 (Nat.le_of_ble_eq_true rfl) dX4_post_3) (c_X4_checkIndex l D cI (nI s9) (8) (ci1 (j := s9) rfl (by omega)) (ci2 (j := s9) (N := 8) rfl (show (8 : Int32) = nI 8 from rfl) (by omega) (by omega))) hK hN hA hP hD hS (W2 := wX cI o g a b r u v) [] [0, 1, 2, 3, 4, 5, 6, 7, 8, 9, 10, 11, 12, 13, 14, 15, 16, 17, 18, 19, 20, 21, 22, 23, 24, 25, 26, 27, 28, 29, 30, 31, 32, 33, 34, 35, 36, 37] [0, 1, 2, 3, 4, 5, 6, 7, 8, 9, 10, 11, 12, 13, 14, 15, 16, 17, 18, 19, 20, 21, 22, 23, 24, 25, 26, 27, 28, 29, 30, 31, 32, 33, 34, 35, 36, 37] rfl rfl rfl (by decide) ⟨Nat.le_of_ble_eq_true rfl, Nat.le_of_ble_eq_true rfl⟩ (fun H locs hP hD hS => ?_)
  refine lv_iload_n hx hb dX4_post_6 rfl (lv_at hl 2 rfl) ?_
  refine lv_bipush (v := 16) hx hb dX4_post_7 (by decide) ?_
  refine ycallv (invS (As := [.int (nI t9), .int 16]) (rest := []) (rm := ({ frames := 0, cells := 0, slots := 0, locals := 0 } : Room)) ⟨hx, hb, hml, hown, hts⟩ (va_cwS 2 hts gX4_post_X4_checkIndex rfl rfl rfl (by decide +kernel) ⟨Nat.le_of_ble_eq_true rfl, Nat.le_of_ble_eq_true rfl⟩) rfl rfl hl.1 (Nat.le_of_ble_eq_true rfl) dX4_post_9) (c_X4_checkIndex l D cI (nI t9) (16) (ci1 (j := t9) rfl (by omega)) (ci2 (j := t9) (N := 16) rfl (show (16 : Int32) = nI 16 from rfl) (by omega) (by omega))) hK hN hA hP hD hS (W2 := wX cI o g a b r u v) [] [0, 1, 2, 3, 4, 5, 6, 7, 8, 9, 10, 11, 12, 13, 14, 15, 16, 17, 18, 19, 20, 21, 22, 23, 24, 25, 26, 27, 28, 29, 30, 31, 32, 33, 34, 35, 36, 37] [0, 1, 2, 3, 4, 5, 6, 7, 8, 9, 10, 11, 12, 13, 14, 15, 16, 17, 18, 19, 20, 21, 22, 23, 24, 25, 26, 27, 28, 29, 30, 31, 32, 33, 34, 35, 36, 37] rfl rfl rfl (by decide) ⟨Nat.le_of_ble_eq_true rfl, Nat.le_of_ble_eq_true rfl⟩ (fun H locs hP hD hS => ?_)
  refine lv_aload_n hx hb dX4_post_12 rfl (lv_at hl 0 rfl) ?_
  refine va_get (D := D) (ci := 4) (v := .ref (a 30)) (C := RX4) (T := TX4) (N := 2) hx hb hts inX4 hown hK hP 0 rfl rfl 0 (by decide) f17 (fun _ h9 => h9) rfl dX4_post_13 ?_
  refine va_get (D := D) (ci := 3) (v := .ref (a 0)) (C := RX3) (T := TX3) (N := 4) hx hb hts inX3 hown hK hP 1 rfl rfl 1 (by decide) f58 (fun _ h9 => h9) rfl dX4_post_16 ?_
  refine va_get (D := D) (ci := 2) (v := .int (u 0 0)) (C := RX2) (T := TX2) (N := 8) hx hb hts inX2 hown hK hP 2 rfl rfl 0 (by decide) f62 (fun _ h9 => h9) rfl dX4_post_19 ?_
  refine lv_bipush (v := 60) hx hb dX4_post_22 (by decide) ?_
  refine lv_icmp_lt (tgt := 37) hx hb dX4_post_24 (by decide) (fun c1 => ?_) (fun c1 => ?_)
  · exact absurd c1 (ci3 ok.n (show (60 : Int32) = nI 60 from rfl) h (by omega))
  · skip
    have hat : ∀ w ∈ (vx_atS RX4 52 "java/lang/IllegalStateException" ["java/lang/RuntimeException", "java/lang/Exception"]).filter goodWord, w.before args s = true := by
      intro w hw
      refine hts w ?_
      unfold wsX4_post
      simp only [List.mem_cons, List.mem_append, hw, or_true, true_or]
    exact fint _ _ _ _ _ 48 67 52 "there is no room for another letter" _ _ hP hD hS hl.1 (by decide +kernel) (by decide +kernel) (by decide +kernel) (hts (.classLink RX4 48 "java/lang/IllegalStateException") (by decide +kernel)) (hts (.initialized "java/lang/IllegalStateException") (by decide +kernel)) hat (by decide +kernel) (by decide +kernel) dX4_post_27 dX4_post_30 dX4_post_31 dX4_post_33 dX4_post_36 (Nat.le_of_ble_eq_true rfl) (Nat.le_of_ble_eq_true rfl) (Nat.le_of_ble_eq_true rfl) (Nat.le_of_ble_eq_true rfl)

set_option maxHeartbeats 4000000 in
set_option maxRecDepth 100000 in
theorem c_X4_hire (l : Launch) (D : va_G) (cI : ClassId) (o : Nat) (g a b : Nat → Nat) (r u v : Rc) (ok : Ok u) (x y : Int32) (h1 : ¬ x < 1) (h2 : x ≤ 9) (h3 : ¬ y < 0) (h4 : y ≤ 65535) (h : iv (u 10 0) < 4) : CI l yX4_hire wsX4_hire ({ frames := 1, cells := 0, slots := 0, locals := 23 } : Room) D cI [.ref o, .int x, .int y] (wX cI o g a b r u v) (u 10 0) (wX cI o g a b r (crAddF u x y) v) := by
  refine CI.mk (cc := cX4_hire) (maxL := 3) (ret := (some .int)) rfl rfl (by decide) rfl (Nat.le_of_ble_eq_true rfl) ?_
  intro p e s m args below meth c A Q ls hx hb hts hown hml hK hN hA hP hD hS hl fin
  have hown : s.vm.findClass RX4 = some m.cls := hown
  have hk4 := ok.k4
  have hl : lv_has ls 3 [(0, .ref o), (1, .int x), (2, .int y)] := hl
  have f17 := hts (.fieldLink RX4 17 "NightSorters" "train" "LNightSorters$Train;") (by decide +kernel)
  have f74 := hts (.fieldLink RX4 74 "NightSorters$Train" "crew" "LNightSorters$Crew;") (by decide +kernel)
  have f78 := hts (.fieldLink RX4 78 "NightSorters$Crew" "size" "I") (by decide +kernel)
  have inX0 : ∀ w ∈ wsX00, w ∈ wsX4_hire := by decide +kernel
  have inX3 : ∀ w ∈ wsX30, w ∈ wsX4_hire := by decide +kernel
  have inX4 : ∀ w ∈ wsX40, w ∈ wsX4_hire := by decide +kernel
  refine lv_iload_n hx hb dX4_hire_0 rfl (lv_at hl 1 rfl) ?_
  refine lv_iconst (v := 1) hx hb dX4_hire_1 (by decide) ?_
  refine lv_bipush (v := 9) hx hb dX4_hire_2 (by decide) ?_
  refine ycallv (invS (As := [.int x, .int 1, .int 9]) (rest := []) (rm := ({ frames := 0, cells := 0, slots := 0, locals := 0 } : Room)) ⟨hx, hb, hml, hown, hts⟩ (va_cwS 3 hts gX4_hire_X4_checkArgument rfl rfl rfl (by decide +kernel) ⟨Nat.le_of_ble_eq_true rfl, Nat.le_of_ble_eq_true rfl⟩) rfl rfl hl.1 (Nat.le_of_ble_eq_true rfl) dX4_hire_4) (c_X4_checkArgument l D cI (x) (1) (9) h1 h2) hK hN hA hP hD hS (W2 := wX cI o g a b r u v) [] [0, 1, 2, 3, 4, 5, 6, 7, 8, 9, 10, 11, 12, 13, 14, 15, 16, 17, 18, 19, 20, 21, 22, 23, 24, 25, 26, 27, 28, 29, 30, 31, 32, 33, 34, 35, 36, 37] [0, 1, 2, 3, 4, 5, 6, 7, 8, 9, 10, 11, 12, 13, 14, 15, 16, 17, 18, 19, 20, 21, 22, 23, 24, 25, 26, 27, 28, 29, 30, 31, 32, 33, 34, 35, 36, 37] rfl rfl rfl (by decide) ⟨Nat.le_of_ble_eq_true rfl, Nat.le_of_ble_eq_true rfl⟩ (fun H locs hP hD hS => ?_)
  refine lv_iload_n hx hb dX4_hire_7 rfl (lv_at hl 2 rfl) ?_
  refine lv_iconst (v := 0) hx hb dX4_hire_8 (by decide) ?_
  refine lv_ldc hx hb hown (hts (.constant RX4 73 (65535)) (by decide +kernel)) dX4_hire_9 ?_
  refine ycallv (invS (As := [.int y, .int 0, .int 65535]) (rest := []) (rm := ({ frames := 0, cells := 0, slots := 0, locals := 0 } : Room)) ⟨hx, hb, hml, hown, hts⟩ (va_cwS 3 hts gX4_hire_X4_checkArgument rfl rfl rfl (by decide +kernel) ⟨Nat.le_of_ble_eq_true rfl, Nat.le_of_ble_eq_true rfl⟩) rfl rfl hl.1 (Nat.le_of_ble_eq_true rfl) dX4_hire_11) (c_X4_checkArgument l D cI (y) (0) (65535) h3 h4) hK hN hA hP hD hS (W2 := wX cI o g a b r u v) [] [0, 1, 2, 3, 4, 5, 6, 7, 8, 9, 10, 11, 12, 13, 14, 15, 16, 17, 18, 19, 20, 21, 22, 23, 24, 25, 26, 27, 28, 29, 30, 31, 32, 33, 34, 35, 36, 37] [0, 1, 2, 3, 4, 5, 6, 7, 8, 9, 10, 11, 12, 13, 14, 15, 16, 17, 18, 19, 20, 21, 22, 23, 24, 25, 26, 27, 28, 29, 30, 31, 32, 33, 34, 35, 36, 37] rfl rfl rfl (by decide) ⟨Nat.le_of_ble_eq_true rfl, Nat.le_of_ble_eq_true rfl⟩ (fun H locs hP hD hS => ?_)
  refine lv_aload_n hx hb dX4_hire_14 rfl (lv_at hl 0 rfl) ?_
  refine va_get (D := D) (ci := 4) (v := .ref (a 30)) (C := RX4) (T := TX4) (N := 2) hx hb hts inX4 hown hK hP 0 rfl rfl 0 (by decide) f17 (fun _ h9 => h9) rfl dX4_hire_15 ?_
  refine va_get (D := D) (ci := 3) (v := .ref (a 10)) (C := RX3) (T := TX3) (N := 4) hx hb hts inX3 hown hK hP 1 rfl rfl 2 (by decide) f74 (fun _ h9 => h9) rfl dX4_hire_18 ?_
  refine va_get (D := D) (ci := 0) (v := .int (u 10 0)) (C := RX0) (T := TX0) (N := 8) hx hb hts inX0 hown hK hP 10 rfl rfl 0 (by decide) f78 (fun _ h9 => h9) rfl dX4_hire_21 ?_
  refine lv_iconst (v := 4) hx hb dX4_hire_24 (by decide) ?_
  refine lv_icmp_lt (tgt := 38) hx hb dX4_hire_25 (by decide) (fun c1 => ?_) (fun c1 => ?_)
  · skip
    refine lv_aload_n hx hb dX4_hire_38 rfl (lv_at hl 0 rfl) ?_
    refine va_get (D := D) (ci := 4) (v := .ref (a 30)) (C := RX4) (T := TX4) (N := 2) hx hb hts inX4 hown hK hP 0 rfl rfl 0 (by decide) f17 (fun _ h9 => h9) rfl dX4_hire_39 ?_
    refine va_get (D := D) (ci := 3) (v := .ref (a 10)) (C := RX3) (T := TX3) (N := 4) hx hb hts inX3 hown hK hP 1 rfl rfl 2 (by decide) f74 (fun _ h9 => h9) rfl dX4_hire_42 ?_
    refine lv_iload_n hx hb dX4_hire_45 rfl (lv_at hl 1 rfl) ?_
    refine lv_iload_n hx hb dX4_hire_46 rfl (lv_at hl 2 rfl) ?_
    obtain ⟨u2, eu2⟩ : ∃ z0 : Rc, z0 = crAddF u x y := ⟨_, rfl⟩
    refine ycalli (invV (As := [.int x, .int y]) (rest := []) (rm := ({ frames := 0, cells := 0, slots := 0, locals := 0 } : Room)) ⟨hx, hb, hml, hown, hts⟩ (cwV 2 hts gX4_hire_X0_add rfl rfl rfl (by decide +kernel) ⟨Nat.le_of_ble_eq_true rfl, Nat.le_of_ble_eq_true rfl⟩) (va_recv hK hP (ci := 0) (q0 := 10) rfl rfl) rfl rfl hl.1 (Nat.le_of_ble_eq_true rfl) dX4_hire_47) (c_X0_add l D cI a u ok h x y) hK hN hA hP hD hS (W2 := wX cI o g a b r u2 v) [10, 11, 12, 13, 14, 15, 16, 17] [0, 1, 2, 3, 4, 5, 6, 7, 8, 9, 18, 19, 20, 21, 22, 23, 24, 25, 26, 27, 28, 29, 30, 31, 32, 33, 34, 35, 36, 37] [0, 1, 2, 3, 4, 5, 6, 7, 8, 9, 30, 31, 32, 33, 34, 35, 36, 37, 10, 11, 12, 13, 14, 15, 16, 17, 18, 19, 20, 21, 22, 23, 24, 25, 26, 27, 28, 29] rfl rfl (by subst eu2; rfl) (by decide) ⟨Nat.le_of_ble_eq_true rfl, Nat.le_of_ble_eq_true rfl⟩ (fun H locs hP hD hS => ?_)
    have h3 : u2 = crAddF u x y := (by (try subst eu2); simp only [c1, ↓reduceIte, not_false_eq_true, not_true_eq_false, and_true, true_and, and_false, false_and, or_true, true_or, or_false, false_or, and_self, or_self])
    exact fin _ _ _ _ _ _ _ _ rfl (congrArg (fun z9 : Rc => wX cI o g a b r z9 v) h3) hP hD hS (Nat.le_of_ble_eq_true rfl) (Nat.le_of_ble_eq_true rfl) dX4_hire_50
  · exact absurd (ci2 ok.k (show (4 : Int32) = nI 4 from rfl) h (by decide)) c1

set_option maxHeartbeats 4000000 in
set_option maxRecDepth 100000 in
theorem c_X4_hire_x1 (l : Launch) (hlt : l.stackTraces = false) (D : va_G) (cI : ClassId) (o : Nat) (g a b : Nat → Nat) (r u v : Rc) (ok : Ok u) (x y : Int32) (h : x < 1 ∨ 9 < x) : CX l yX4_hire wsX4_hire ({ frames := 7, cells := 1, slots := 6, locals := 130 } : Room) D cI [.ref o, .int x, .int y] (wX cI o g a b r u v) "java/lang/IllegalArgumentException" := by
  refine CX.mk (cc := cX4_hire) (maxL := 3) (ret := (some .int)) hlt (by decide) rfl rfl (Nat.le_of_ble_eq_true rfl) ?_
  intro p e s m args below meth c A Q ls hx hb hts hown hml hK hN hT hA hP hD hS hl finx fint
  have hown : s.vm.findClass RX4 = some m.cls := hown
  have hl : lv_has ls 3 [(0, .ref o), (1, .int x), (2, .int y)] := hl
  refine lv_iload_n hx hb dX4_hire_0 rfl (lv_at hl 1 rfl) ?_
  refine lv_iconst (v := 1) hx hb dX4_hire_1 (by decide) ?_
  refine lv_bipush (v := 9) hx hb dX4_hire_2 (by decide) ?_
  refine ycallx (invXS (As := [.int x, .int 1, .int 9]) (rest := []) (rm := ({ frames := 6, cells := 1, slots := 6, locals := 100 } : Room)) ⟨hx, hb, hml, hown, hts⟩ (va_cwS 3 hts gX4_hire_X4_checkArgument rfl rfl rfl (by decide +kernel) ⟨Nat.le_of_ble_eq_true rfl, Nat.le_of_ble_eq_true rfl⟩) rfl rfl hl.1 (Nat.le_of_ble_eq_true rfl) dX4_hire_4) (c_X4_checkArgument_x l hlt D cI (x) (1) (9) h) hK hN hT hA hP hD hS [] [0, 1, 2, 3, 4, 5, 6, 7, 8, 9, 10, 11, 12, 13, 14, 15, 16, 17, 18, 19, 20, 21, 22, 23, 24, 25, 26, 27, 28, 29, 30, 31, 32, 33, 34, 35, 36, 37] [0, 1, 2, 3, 4, 5, 6, 7, 8, 9, 10, 11, 12, 13, 14, 15, 16, 17, 18, 19, 20, 21, 22, 23, 24, 25, 26, 27, 28, 29, 30, 31, 32, 33, 34, 35, 36, 37] rfl rfl rfl (by decide) ⟨Nat.le_of_ble_eq_true rfl, Nat.le_of_ble_eq_true rfl⟩ (fun q9 ce H locs hP hD hS h1 h2 h3 => ?_)
  exact finx _ _ _ _ _ _ _ _ _ hP hD hS (Nat.le_of_ble_eq_true rfl) (Nat.le_of_ble_eq_true rfl) h1 h2 h3

set_option maxHeartbeats 4000000 in
set_option maxRecDepth 100000 in
theorem c_X4_hire_x2 (l : Launch) (hlt : l.stackTraces = false) (D : va_G) (cI : ClassId) (o : Nat) (g a b : Nat → Nat) (r u v : Rc) (ok : Ok u) (x y : Int32) (h1 : ¬ x < 1) (h2 : x ≤ 9) (h : y < 0 ∨ 65535 < y) : CX l yX4_hire wsX4_hire ({ frames := 7, cells := 1, slots := 6, locals := 130 } : Room) D cI [.ref o, .int x, .int y] (wX cI o g a b r u v) "java/lang/IllegalArgumentException" := by
  refine CX.mk (cc := cX4_hire) (maxL := 3) (ret := (some .int)) hlt (by decide) rfl rfl (Nat.le_of_ble_eq_true rfl) ?_
  intro p e s m args below meth c A Q ls hx hb hts hown hml hK hN hT hA hP hD hS hl finx fint
  have hown : s.vm.findClass RX4 = some m.cls := hown
  have hl : lv_has ls 3 [(0, .ref o), (1, .int x), (2, .int y)] := hl
  refine lv_iload_n hx hb dX4_hire_0 rfl (lv_at hl 1 rfl) ?_
  refine lv_iconst (v := 1) hx hb dX4_hire_1 (by decide) ?_
  refine lv_bipush (v := 9) hx hb dX4_hire_2 (by decide) ?_
  refine ycallv (invS (As := [.int x, .int 1, .int 9]) (rest := []) (rm := ({ frames := 0, cells := 0, slots := 0, locals := 0 } : Room)) ⟨hx, hb, hml, hown, hts⟩ (va_cwS 3 hts gX4_hire_X4_checkArgument rfl rfl rfl (by decide +kernel) ⟨Nat.le_of_ble_eq_true rfl, Nat.le_of_ble_eq_true rfl⟩) rfl rfl hl.1 (Nat.le_of_ble_eq_true rfl) dX4_hire_4) (c_X4_checkArgument l D cI (x) (1) (9) h1 h2) hK hN hA hP hD hS (W2 := wX cI o g a b r u v) [] [0, 1, 2, 3, 4, 5, 6, 7, 8, 9, 10, 11, 12, 13, 14, 15, 16, 17, 18, 19, 20, 21, 22, 23, 24, 25, 26, 27, 28, 29, 30, 31, 32, 33, 34, 35, 36, 37] [0, 1, 2, 3, 4, 5, 6, 7, 8, 9, 10, 11, 12, 13, 14, 15, 16, 17, 18, 19, 20, 21, 22, 23, 24, 25, 26, 27, 28, 29, 30, 31, 32, 33, 34, 35, 36, 37] rfl rfl rfl (by decide) ⟨Nat.le_of_ble_eq_true rfl, Nat.le_of_ble_eq_true rfl⟩ (fun H locs hP hD hS => ?_)
  refine lv_iload_n hx hb dX4_hire_7 rfl (lv_at hl 2 rfl) ?_
  refine lv_iconst (v := 0) hx hb dX4_hire_8 (by decide) ?_
  refine lv_ldc hx hb hown (hts (.constant RX4 73 (65535)) (by decide +kernel)) dX4_hire_9 ?_
  refine ycallx (invXS (As := [.int y, .int 0, .int 65535]) (rest := []) (rm := ({ frames := 6, cells := 1, slots := 6, locals := 100 } : Room)) ⟨hx, hb, hml, hown, hts⟩ (va_cwS 3 hts gX4_hire_X4_checkArgument rfl rfl rfl (by decide +kernel) ⟨Nat.le_of_ble_eq_true rfl, Nat.le_of_ble_eq_true rfl⟩) rfl rfl hl.1 (Nat.le_of_ble_eq_true rfl) dX4_hire_11) (c_X4_checkArgument_x l hlt D cI (y) (0) (65535) h) hK hN hT hA hP hD hS [] [0, 1, 2, 3, 4, 5, 6, 7, 8, 9, 10, 11, 12, 13, 14, 15, 16, 17, 18, 19, 20, 21, 22, 23, 24, 25, 26, 27, 28, 29, 30, 31, 32, 33, 34, 35, 36, 37] [0, 1, 2, 3, 4, 5, 6, 7, 8, 9, 10, 11, 12, 13, 14, 15, 16, 17, 18, 19, 20, 21, 22, 23, 24, 25, 26, 27, 28, 29, 30, 31, 32, 33, 34, 35, 36, 37] rfl rfl rfl (by decide) ⟨Nat.le_of_ble_eq_true rfl, Nat.le_of_ble_eq_true rfl⟩ (fun q9 ce H locs hP hD hS h1 h2 h3 => ?_)
  exact finx _ _ _ _ _ _ _ _ _ hP hD hS (Nat.le_of_ble_eq_true rfl) (Nat.le_of_ble_eq_true rfl) h1 h2 h3

set_option maxHeartbeats 4000000 in
set_option maxRecDepth 100000 in
theorem c_X4_hire_x3 (l : Launch) (hlt : l.stackTraces = false) (D : va_G) (cI : ClassId) (o : Nat) (g a b : Nat → Nat) (r u v : Rc) (ok : Ok u) (x y : Int32) (h1 : ¬ x < 1) (h2 : x ≤ 9) (h3 : ¬ y < 0) (h4 : y ≤ 65535) (h : 4 ≤ iv (u 10 0)) : CX l yX4_hire wsX4_hire ({ frames := 7, cells := 1, slots := 6, locals := 130 } : Room) D cI [.ref o, .int x, .int y] (wX cI o g a b r u v) "java/lang/IllegalStateException" := by
  refine CX.mk (cc := cX4_hire) (maxL := 3) (ret := (some .int)) hlt (by decide) rfl rfl (Nat.le_of_ble_eq_true rfl) ?_
  intro p e s m args below meth c A Q ls hx hb hts hown hml hK hN hT hA hP hD hS hl finx fint
  have hown : s.vm.findClass RX4 = some m.cls := hown
  have hk4 := ok.k4
  have hl : lv_has ls 3 [(0, .ref o), (1, .int x), (2, .int y)] := hl
  have f17 := hts (.fieldLink RX4 17 "NightSorters" "train" "LNightSorters$Train;") (by decide +kernel)
  have f74 := hts (.fieldLink RX4 74 "NightSorters$Train" "crew" "LNightSorters$Crew;") (by decide +kernel)
  have f78 := hts (.fieldLink RX4 78 "NightSorters$Crew" "size" "I") (by decide +kernel)
  have inX0 : ∀ w ∈ wsX00, w ∈ wsX4_hire := by decide +kernel
  have inX3 : ∀ w ∈ wsX30, w ∈ wsX4_hire := by decide +kernel
  have inX4 : ∀ w ∈ wsX40, w ∈ wsX4_hire := by decide +kernel
  refine lv_iload_n hx hb dX4_hire_0 rfl (lv_at hl 1 rfl) ?_
  refine lv_iconst (v := 1) hx hb dX4_hire_1 (by decide) ?_
  refine lv_bipush (v := 9) hx hb dX4_hire_2 (by decide) ?_
  refine ycallv (invS (As := [.int x, .int 1, .int 9]) (rest := []) (rm := ({ frames := 0, cells := 0, slots := 0, locals := 0 } : Room)) ⟨hx, hb, hml, hown, hts⟩ (va_cwS 3 hts gX4_hire_X4_checkArgument rfl rfl rfl (by decide +kernel) ⟨Nat.le_of_ble_eq_true rfl, Nat.le_of_ble_eq_true rfl⟩) rfl rfl hl.1 (Nat.le_of_ble_eq_true rfl) dX4_hire_4) (c_X4_checkArgument l D cI (x) (1) (9) h1 h2) hK hN hA hP hD hS (W2 := wX cI o g a b r u v) [] [0, 1, 2, 3, 4, 5, 6, 7, 8, 9, 10, 11, 12, 13, 14, 15, 16, 17, 18, 19, 20, 21, 22, 23, 24, 25, 26, 27, 28, 29, 30, 31, 32, 33, 34, 35, 36, 37] [0, 1, 2, 3, 4, 5, 6, 7, 8, 9, 10, 11, 12, 13, 14, 15, 16, 17, 18, 19, 20, 21, 22, 23, 24, 25, 26, 27, 28, 29, 30, 31, 32, 33, 34, 35, 36, 37] rfl rfl rfl (by decide) ⟨Nat.le_of_ble_eq_true rfl, Nat.le_of_ble_eq_true rfl⟩ (fun H locs hP hD hS => ?_)
  refine lv_iload_n hx hb dX4_hire_7 rfl (lv_at hl 2 rfl) ?_
  refine lv_iconst (v := 0) hx hb dX4_hire_8 (by decide) ?_
  refine lv_ldc hx hb hown (hts (.constant RX4 73 (65535)) (by decide +kernel)) dX4_hire_9 ?_
  refine ycallv (invS (As := [.int y, .int 0, .int 65535]) (rest := []) (rm := ({ frames := 0, cells := 0, slots := 0, locals := 0 } : Room)) ⟨hx, hb, hml, hown, hts⟩ (va_cwS 3 hts gX4_hire_X4_checkArgument rfl rfl rfl (by decide +kernel) ⟨Nat.le_of_ble_eq_true rfl, Nat.le_of_ble_eq_true rfl⟩) rfl rfl hl.1 (Nat.le_of_ble_eq_true rfl) dX4_hire_11) (c_X4_checkArgument l D cI (y) (0) (65535) h3 h4) hK hN hA hP hD hS (W2 := wX cI o g a b r u v) [] [0, 1, 2, 3, 4, 5, 6, 7, 8, 9, 10, 11, 12, 13, 14, 15, 16, 17, 18, 19, 20, 21, 22, 23, 24, 25, 26, 27, 28, 29, 30, 31, 32, 33, 34, 35, 36, 37] [0, 1, 2, 3, 4, 5, 6, 7, 8, 9, 10, 11, 12, 13, 14, 15, 16, 17, 18, 19, 20, 21, 22, 23, 24, 25, 26, 27, 28, 29, 30, 31, 32, 33, 34, 35, 36, 37] rfl rfl rfl (by decide) ⟨Nat.le_of_ble_eq_true rfl, Nat.le_of_ble_eq_true rfl⟩ (fun H locs hP hD hS => ?_)
  refine lv_aload_n hx hb dX4_hire_14 rfl (lv_at hl 0 rfl) ?_
  refine va_get (D := D) (ci := 4) (v := .ref (a 30)) (C := RX4) (T := TX4) (N := 2) hx hb hts inX4 hown hK hP 0 rfl rfl 0 (by decide) f17 (fun _ h9 => h9) rfl dX4_hire_15 ?_
  refine va_get (D := D) (ci := 3) (v := .ref (a 10)) (C := RX3) (T := TX3) (N := 4) hx hb hts inX3 hown hK hP 1 rfl rfl 2 (by decide) f74 (fun _ h9 => h9) rfl dX4_hire_18 ?_
  refine va_get (D := D) (ci := 0) (v := .int (u 10 0)) (C := RX0) (T := TX0) (N := 8) hx hb hts inX0 hown hK hP 10 rfl rfl 0 (by decide) f78 (fun _ h9 => h9) rfl dX4_hire_21 ?_
  refine lv_iconst (v := 4) hx hb dX4_hire_24 (by decide) ?_
  refine lv_icmp_lt (tgt := 38) hx hb dX4_hire_25 (by decide) (fun c1 => ?_) (fun c1 => ?_)
  · exact absurd c1 (ci3 ok.k (show (4 : Int32) = nI 4 from rfl) h (by omega))
  · skip
    have hat : ∀ w ∈ (vx_atS RX4 52 "java/lang/IllegalStateException" ["java/lang/RuntimeException", "java/lang/Exception"]).filter goodWord, w.before args s = true := by
      intro w hw
      refine hts w ?_
      unfold wsX4_hire
      simp only [List.mem_cons, List.mem_append, hw, or_true, true_or]
    exact fint _ _ _ _ _ 48 81 52 "there is no room for another sorter" _ _ hP hD hS hl.1 (by decide +kernel) (by decide +kernel) (by decide +kernel) (hts (.classLink RX4 48 "java/lang/IllegalStateException") (by decide +kernel)) (hts (.initialized "java/lang/IllegalStateException") (by decide +kernel)) hat (by decide +kernel) (by decide +kernel) dX4_hire_28 dX4_hire_31 dX4_hire_32 dX4_hire_34 dX4_hire_37 (Nat.le_of_ble_eq_true rfl) (Nat.le_of_ble_eq_true rfl) (Nat.le_of_ble_eq_true rfl) (Nat.le_of_ble_eq_true rfl)

set_option maxHeartbeats 4000000 in
set_option maxRecDepth 100000 in
theorem c_X4_assign (l : Launch) (D : va_G) (cI : ClassId) (o : Nat) (g a b : Nat → Nat) (r u v : Rc) (ok : Ok u) (s9 : Nat) (hs : s9 < iv (u 10 0)) (x : Int32) (ex : x = nI s9) (y : Int32) (h3 : ¬ y < 0) (h4 : y ≤ 65535) : CI l yX4_assign wsX4_assign ({ frames := 1, cells := 0, slots := 0, locals := 22 } : Room) D cI [.ref o, .int x, .int y] (wX cI o g a b r u v) (u 12 s9) (wX cI o g a b r (put u 12 s9 y) v) := by
  refine CI.mk (cc := cX4_assign) (maxL := 4) (ret := (some .int)) rfl rfl (by decide) rfl (Nat.le_of_ble_eq_true rfl) ?_
  intro p e s m args below meth c A Q ls hx hb hts hown hml hK hN hA hP hD hS hl fin
  have hown : s.vm.findClass RX4 = some m.cls := hown
  subst ex
  have hk4 := ok.k4
  have hl : lv_has ls 4 [(0, .ref o), (1, .int (nI s9)), (2, .int y)] := hl
  have f17 := hts (.fieldLink RX4 17 "NightSorters" "train" "LNightSorters$Train;") (by decide +kernel)
  have f74 := hts (.fieldLink RX4 74 "NightSorters$Train" "crew" "LNightSorters$Crew;") (by decide +kernel)
  have f78 := hts (.fieldLink RX4 78 "NightSorters$Crew" "size" "I") (by decide +kernel)
  have f86 := hts (.fieldLink RX4 86 "NightSorters$Crew" "towns" "[I") (by decide +kernel)
  have inX0 : ∀ w ∈ wsX00, w ∈ wsX4_assign := by decide +kernel
  have inX3 : ∀ w ∈ wsX30, w ∈ wsX4_assign := by decide +kernel
  have inX4 : ∀ w ∈ wsX40, w ∈ wsX4_assign := by decide +kernel
  refine lv_iload_n hx hb dX4_assign_0 rfl (lv_at hl 1 rfl) ?_
  refine lv_aload_n hx hb dX4_assign_1 rfl (lv_at hl 0 rfl) ?_
  refine va_get (D := D) (ci := 4) (v := .ref (a 30)) (C := RX4) (T := TX4) (N := 2) hx hb hts inX4 hown hK hP 0 rfl rfl 0 (by decide) f17 (fun _ h9 => h9) rfl dX4_assign_2 ?_
  refine va_get (D := D) (ci := 3) (v := .ref (a 10)) (C := RX3) (T := TX3) (N := 4) hx hb hts inX3 hown hK hP 1 rfl rfl 2 (by decide) f74 (fun _ h9 => h9) rfl dX4_assign_5 ?_
  refine va_get (D := D) (ci := 0) (v := .int (u 10 0)) (C := RX0) (T := TX0) (N := 8) hx hb hts inX0 hown hK hP 10 rfl rfl 0 (by decide) f78 (fun _ h9 => h9) rfl dX4_assign_8 ?_
  refine ycallv (invS (As := [.int (nI s9), .int (u 10 0)]) (rest := []) (rm := ({ frames := 0, cells := 0, slots := 0, locals := 0 } : Room)) ⟨hx, hb, hml, hown, hts⟩ (va_cwS 2 hts gX4_assign_X4_checkIndex rfl rfl rfl (by decide +kernel) ⟨Nat.le_of_ble_eq_true rfl, Nat.le_of_ble_eq_true rfl⟩) rfl rfl hl.1 (Nat.le_of_ble_eq_true rfl) dX4_assign_11) (c_X4_checkIndex l D cI (nI s9) (u 10 0) (ci1 (j := s9) rfl (by omega)) (ci2 (j := s9) (N := iv (u 10 0)) rfl ok.k (by omega) (by omega))) hK hN hA hP hD hS (W2 := wX cI o g a b r u v) [] [0, 1, 2, 3, 4, 5, 6, 7, 8, 9, 10, 11, 12, 13, 14, 15, 16, 17, 18, 19, 20, 21, 22, 23, 24, 25, 26, 27, 28, 29, 30, 31, 32, 33, 34, 35, 36, 37] [0, 1, 2, 3, 4, 5, 6, 7, 8, 9, 10, 11, 12, 13, 14, 15, 16, 17, 18, 19, 20, 21, 22, 23, 24, 25, 26, 27, 28, 29, 30, 31, 32, 33, 34, 35, 36, 37] rfl rfl rfl (by decide) ⟨Nat.le_of_ble_eq_true rfl, Nat.le_of_ble_eq_true rfl⟩ (fun H locs hP hD hS => ?_)
  refine lv_iload_n hx hb dX4_assign_14 rfl (lv_at hl 2 rfl) ?_
  refine lv_iconst (v := 0) hx hb dX4_assign_15 (by decide) ?_
  refine lv_ldc hx hb hown (hts (.constant RX4 73 (65535)) (by decide +kernel)) dX4_assign_16 ?_
  refine ycallv (invS (As := [.int y, .int 0, .int 65535]) (rest := []) (rm := ({ frames := 0, cells := 0, slots := 0, locals := 0 } : Room)) ⟨hx, hb, hml, hown, hts⟩ (va_cwS 3 hts gX4_assign_X4_checkArgument rfl rfl rfl (by decide +kernel) ⟨Nat.le_of_ble_eq_true rfl, Nat.le_of_ble_eq_true rfl⟩) rfl rfl hl.1 (Nat.le_of_ble_eq_true rfl) dX4_assign_18) (c_X4_checkArgument l D cI (y) (0) (65535) h3 h4) hK hN hA hP hD hS (W2 := wX cI o g a b r u v) [] [0, 1, 2, 3, 4, 5, 6, 7, 8, 9, 10, 11, 12, 13, 14, 15, 16, 17, 18, 19, 20, 21, 22, 23, 24, 25, 26, 27, 28, 29, 30, 31, 32, 33, 34, 35, 36, 37] [0, 1, 2, 3, 4, 5, 6, 7, 8, 9, 10, 11, 12, 13, 14, 15, 16, 17, 18, 19, 20, 21, 22, 23, 24, 25, 26, 27, 28, 29, 30, 31, 32, 33, 34, 35, 36, 37] rfl rfl rfl (by decide) ⟨Nat.le_of_ble_eq_true rfl, Nat.le_of_ble_eq_true rfl⟩ (fun H locs hP hD hS => ?_)
  refine lv_aload_n hx hb dX4_assign_21 rfl (lv_at hl 0 rfl) ?_
  refine va_get (D := D) (ci := 4) (v := .ref (a 30)) (C := RX4) (T := TX4) (N := 2) hx hb hts inX4 hown hK hP 0 rfl rfl 0 (by decide) f17 (fun _ h9 => h9) rfl dX4_assign_22 ?_
  refine va_get (D := D) (ci := 3) (v := .ref (a 10)) (C := RX3) (T := TX3) (N := 4) hx hb hts inX3 hown hK hP 1 rfl rfl 2 (by decide) f74 (fun _ h9 => h9) rfl dX4_assign_25 ?_
  refine va_get (D := D) (ci := 0) (v := .ref (a 12)) (C := RX0) (T := TX0) (N := 8) hx hb hts inX0 hown hK hP 10 rfl rfl 2 (by decide) f86 (fun _ h9 => h9) rfl dX4_assign_28 ?_
  refine lv_iload_n hx hb dX4_assign_31 rfl (lv_at hl 1 rfl) ?_
  refine xald hx hb hK hP 12 rfl rfl (s9) (rfl) (by omega) (by decide) dX4_assign_32 ?_
  refine lv_istore_n (lv' := [(3, .int (u 12 s9)), (0, .ref o), (1, .int (nI s9)), (2, .int y)]) hx hb dX4_assign_33 rfl hl (by decide) rfl (fun ls hl => ?_)
  refine lv_aload_n hx hb dX4_assign_34 rfl (lv_at hl 1 rfl) ?_
  refine va_get (D := D) (ci := 4) (v := .ref (a 30)) (C := RX4) (T := TX4) (N := 2) hx hb hts inX4 hown hK hP 0 rfl rfl 0 (by decide) f17 (fun _ h9 => h9) rfl dX4_assign_35 ?_
  refine va_get (D := D) (ci := 3) (v := .ref (a 10)) (C := RX3) (T := TX3) (N := 4) hx hb hts inX3 hown hK hP 1 rfl rfl 2 (by decide) f74 (fun _ h9 => h9) rfl dX4_assign_38 ?_
  refine va_get (D := D) (ci := 0) (v := .ref (a 12)) (C := RX0) (T := TX0) (N := 8) hx hb hts inX0 hown hK hP 10 rfl rfl 2 (by decide) f86 (fun _ h9 => h9) rfl dX4_assign_41 ?_
  refine lv_iload_n hx hb dX4_assign_44 rfl (lv_at hl 2 rfl) ?_
  refine lv_iload_n hx hb dX4_assign_45 rfl (lv_at hl 3 rfl) ?_
  obtain ⟨u1, eu1⟩ : ∃ z0 : Rc, z0 = put u 12 s9 y := ⟨_, rfl⟩
  refine xast hx hb hK hP hD hS 12 rfl rfl (s9) (rfl) (by omega) (by decide) (wX cI o g a b r u1 v) (by subst eu1; rfl) dX4_assign_46 (fun H locs hP hD hS => ?_)
  refine lv_iload_n hx hb dX4_assign_47 rfl (lv_at hl 0 rfl) ?_
  have h2 : u1 = put u 12 s9 y := (by (try subst eu1); rfl)
  exact fin _ _ _ _ _ _ _ _ rfl (congrArg (fun z9 : Rc => wX cI o g a b r z9 v) h2) hP hD hS (Nat.le_of_ble_eq_true rfl) (Nat.le_of_ble_eq_true rfl) dX4_assign_48

set_option maxHeartbeats 4000000 in
set_option maxRecDepth 100000 in
theorem c_X4_assign_x1 (l : Launch) (hlt : l.stackTraces = false) (D : va_G) (cI : ClassId) (o : Nat) (g a b : Nat → Nat) (r u v : Rc) (ok : Ok u) (x y : Int32) (h : x < 0 ∨ u 10 0 ≤ x) : CX l yX4_assign wsX4_assign ({ frames := 7, cells := 1, slots := 6, locals := 130 } : Room) D cI [.ref o, .int x, .int y] (wX cI o g a b r u v) "java/lang/IndexOutOfBoundsException" := by
  refine CX.mk (cc := cX4_assign) (maxL := 4) (ret := (some .int)) hlt (by decide) rfl rfl (Nat.le_of_ble_eq_true rfl) ?_
  intro p e s m args below meth c A Q ls hx hb hts hown hml hK hN hT hA hP hD hS hl finx fint
  have hown : s.vm.findClass RX4 = some m.cls := hown
  have hl : lv_has ls 4 [(0, .ref o), (1, .int x), (2, .int y)] := hl
  have f17 := hts (.fieldLink RX4 17 "NightSorters" "train" "LNightSorters$Train;") (by decide +kernel)
  have f74 := hts (.fieldLink RX4 74 "NightSorters$Train" "crew" "LNightSorters$Crew;") (by decide +kernel)
  have f78 := hts (.fieldLink RX4 78 "NightSorters$Crew" "size" "I") (by decide +kernel)
  have inX0 : ∀ w ∈ wsX00, w ∈ wsX4_assign := by decide +kernel
  have inX3 : ∀ w ∈ wsX30, w ∈ wsX4_assign := by decide +kernel
  have inX4 : ∀ w ∈ wsX40, w ∈ wsX4_assign := by decide +kernel
  refine lv_iload_n hx hb dX4_assign_0 rfl (lv_at hl 1 rfl) ?_
  refine lv_aload_n hx hb dX4_assign_1 rfl (lv_at hl 0 rfl) ?_
  refine va_get (D := D) (ci := 4) (v := .ref (a 30)) (C := RX4) (T := TX4) (N := 2) hx hb hts inX4 hown hK hP 0 rfl rfl 0 (by decide) f17 (fun _ h9 => h9) rfl dX4_assign_2 ?_
  refine va_get (D := D) (ci := 3) (v := .ref (a 10)) (C := RX3) (T := TX3) (N := 4) hx hb hts inX3 hown hK hP 1 rfl rfl 2 (by decide) f74 (fun _ h9 => h9) rfl dX4_assign_5 ?_
  refine va_get (D := D) (ci := 0) (v := .int (u 10 0)) (C := RX0) (T := TX0) (N := 8) hx hb hts inX0 hown hK hP 10 rfl rfl 0 (by decide) f78 (fun _ h9 => h9) rfl dX4_assign_8 ?_
  refine ycallx (invXS (As := [.int x, .int (u 10 0)]) (rest := []) (rm := ({ frames := 6, cells := 1, slots := 6, locals := 100 } : Room)) ⟨hx, hb, hml, hown, hts⟩ (va_cwS 2 hts gX4_assign_X4_checkIndex rfl rfl rfl (by decide +kernel) ⟨Nat.le_of_ble_eq_true rfl, Nat.le_of_ble_eq_true rfl⟩) rfl rfl hl.1 (Nat.le_of_ble_eq_true rfl) dX4_assign_11) (c_X4_checkIndex_x l hlt D cI (x) (u 10 0) h) hK hN hT hA hP hD hS [] [0, 1, 2, 3, 4, 5, 6, 7, 8, 9, 10, 11, 12, 13, 14, 15, 16, 17, 18, 19, 20, 21, 22, 23, 24, 25, 26, 27, 28, 29, 30, 31, 32, 33, 34, 35, 36, 37] [0, 1, 2, 3, 4, 5, 6, 7, 8, 9, 10, 11, 12, 13, 14, 15, 16, 17, 18, 19, 20, 21, 22, 23, 24, 25, 26, 27, 28, 29, 30, 31, 32, 33, 34, 35, 36, 37] rfl rfl rfl (by decide) ⟨Nat.le_of_ble_eq_true rfl, Nat.le_of_ble_eq_true rfl⟩ (fun q9 ce H locs hP hD hS h1 h2 h3 => ?_)
  exact finx _ _ _ _ _ _ _ _ _ hP hD hS (Nat.le_of_ble_eq_true rfl) (Nat.le_of_ble_eq_true rfl) h1 h2 h3

set_option maxHeartbeats 4000000 in
set_option maxRecDepth 100000 in
theorem c_X4_assign_x2 (l : Launch) (hlt : l.stackTraces = false) (D : va_G) (cI : ClassId) (o : Nat) (g a b : Nat → Nat) (r u v : Rc) (ok : Ok u) (s9 : Nat) (hs : s9 < iv (u 10 0)) (x : Int32) (ex : x = nI s9) (y : Int32) (h : y < 0 ∨ 65535 < y) : CX l yX4_assign wsX4_assign ({ frames := 7, cells := 1, slots := 6, locals := 130 } : Room) D cI [.ref o, .int x, .int y] (wX cI o g a b r u v) "java/lang/IllegalArgumentException" := by
  refine CX.mk (cc := cX4_assign) (maxL := 4) (ret := (some .int)) hlt (by decide) rfl rfl (Nat.le_of_ble_eq_true rfl) ?_
  intro p e s m args below meth c A Q ls hx hb hts hown hml hK hN hT hA hP hD hS hl finx fint
  have hown : s.vm.findClass RX4 = some m.cls := hown
  subst ex
  have hk4 := ok.k4
  have hl : lv_has ls 4 [(0, .ref o), (1, .int (nI s9)), (2, .int y)] := hl
  have f17 := hts (.fieldLink RX4 17 "NightSorters" "train" "LNightSorters$Train;") (by decide +kernel)
  have f74 := hts (.fieldLink RX4 74 "NightSorters$Train" "crew" "LNightSorters$Crew;") (by decide +kernel)
  have f78 := hts (.fieldLink RX4 78 "NightSorters$Crew" "size" "I") (by decide +kernel)
  have inX0 : ∀ w ∈ wsX00, w ∈ wsX4_assign := by decide +kernel
  have inX3 : ∀ w ∈ wsX30, w ∈ wsX4_assign := by decide +kernel
  have inX4 : ∀ w ∈ wsX40, w ∈ wsX4_assign := by decide +kernel
  refine lv_iload_n hx hb dX4_assign_0 rfl (lv_at hl 1 rfl) ?_
  refine lv_aload_n hx hb dX4_assign_1 rfl (lv_at hl 0 rfl) ?_
  refine va_get (D := D) (ci := 4) (v := .ref (a 30)) (C := RX4) (T := TX4) (N := 2) hx hb hts inX4 hown hK hP 0 rfl rfl 0 (by decide) f17 (fun _ h9 => h9) rfl dX4_assign_2 ?_
  refine va_get (D := D) (ci := 3) (v := .ref (a 10)) (C := RX3) (T := TX3) (N := 4) hx hb hts inX3 hown hK hP 1 rfl rfl 2 (by decide) f74 (fun _ h9 => h9) rfl dX4_assign_5 ?_
  refine va_get (D := D) (ci := 0) (v := .int (u 10 0)) (C := RX0) (T := TX0) (N := 8) hx hb hts inX0 hown hK hP 10 rfl rfl 0 (by decide) f78 (fun _ h9 => h9) rfl dX4_assign_8 ?_
  refine ycallv (invS (As := [.int (nI s9), .int (u 10 0)]) (rest := []) (rm := ({ frames := 0, cells := 0, slots := 0, locals := 0 } : Room)) ⟨hx, hb, hml, hown, hts⟩ (va_cwS 2 hts gX4_assign_X4_checkIndex rfl rfl rfl (by decide +kernel) ⟨Nat.le_of_ble_eq_true rfl, Nat.le_of_ble_eq_true rfl⟩) rfl rfl hl.1 (Nat.le_of_ble_eq_true rfl) dX4_assign_11) (c_X4_checkIndex l D cI (nI s9) (u 10 0) (ci1 (j := s9) rfl (by omega)) (ci2 (j := s9) (N := iv (u 10 0)) rfl ok.k (by omega) (by omega))) hK hN hA hP hD hS (W2 := wX cI o g a b r u v) [] [0, 1, 2, 3, 4, 5, 6, 7, 8, 9, 10, 11, 12, 13, 14, 15, 16, 17, 18, 19, 20, 21, 22, 23, 24, 25, 26, 27, 28, 29, 30, 31, 32, 33, 34, 35, 36, 37] [0, 1, 2, 3, 4, 5, 6, 7, 8, 9, 10, 11, 12, 13, 14, 15, 16, 17, 18, 19, 20, 21, 22, 23, 24, 25, 26, 27, 28, 29, 30, 31, 32, 33, 34, 35, 36, 37] rfl rfl rfl (by decide) ⟨Nat.le_of_ble_eq_true rfl, Nat.le_of_ble_eq_true rfl⟩ (fun H locs hP hD hS => ?_)
  refine lv_iload_n hx hb dX4_assign_14 rfl (lv_at hl 2 rfl) ?_
  refine lv_iconst (v := 0) hx hb dX4_assign_15 (by decide) ?_
  refine lv_ldc hx hb hown (hts (.constant RX4 73 (65535)) (by decide +kernel)) dX4_assign_16 ?_
  refine ycallx (invXS (As := [.int y, .int 0, .int 65535]) (rest := []) (rm := ({ frames := 6, cells := 1, slots := 6, locals := 100 } : Room)) ⟨hx, hb, hml, hown, hts⟩ (va_cwS 3 hts gX4_assign_X4_checkArgument rfl rfl rfl (by decide +kernel) ⟨Nat.le_of_ble_eq_true rfl, Nat.le_of_ble_eq_true rfl⟩) rfl rfl hl.1 (Nat.le_of_ble_eq_true rfl) dX4_assign_18) (c_X4_checkArgument_x l hlt D cI (y) (0) (65535) h) hK hN hT hA hP hD hS [] [0, 1, 2, 3, 4, 5, 6, 7, 8, 9, 10, 11, 12, 13, 14, 15, 16, 17, 18, 19, 20, 21, 22, 23, 24, 25, 26, 27, 28, 29, 30, 31, 32, 33, 34, 35, 36, 37] [0, 1, 2, 3, 4, 5, 6, 7, 8, 9, 10, 11, 12, 13, 14, 15, 16, 17, 18, 19, 20, 21, 22, 23, 24, 25, 26, 27, 28, 29, 30, 31, 32, 33, 34, 35, 36, 37] rfl rfl rfl (by decide) ⟨Nat.le_of_ble_eq_true rfl, Nat.le_of_ble_eq_true rfl⟩ (fun q9 ce H locs hP hD hS h1 h2 h3 => ?_)
  exact finx _ _ _ _ _ _ _ _ _ hP hD hS (Nat.le_of_ble_eq_true rfl) (Nat.le_of_ble_eq_true rfl) h1 h2 h3

set_option maxHeartbeats 4000000 in
set_option maxRecDepth 100000 in
theorem c_X4_tea (l : Launch) (D : va_G) (cI : ClassId) (o : Nat) (g a b : Nat → Nat) (r u v : Rc) (ok : Ok u) (s9 : Nat) (hs : s9 < iv (u 10 0)) (x : Int32) (ex : x = nI s9) : CI l yX4_tea wsX4_tea ({ frames := 1, cells := 0, slots := 0, locals := 21 } : Room) D cI [.ref o, .int x] (wX cI o g a b r u v) (u 13 s9) (wX cI o g a b r (put (put u 13 s9 0) 14 s9 1) v) := by
  refine CI.mk (cc := cX4_tea) (maxL := 3) (ret := (some .int)) rfl rfl (by decide) rfl (Nat.le_of_ble_eq_true rfl) ?_
  intro p e s m args below meth c A Q ls hx hb hts hown hml hK hN hA hP hD hS hl fin
  have hown : s.vm.findClass RX4 = some m.cls := hown
  subst ex
  have hk4 := ok.k4
  have hl : lv_has ls 3 [(0, .ref o), (1, .int (nI s9))] := hl
  have f17 := hts (.fieldLink RX4 17 "NightSorters" "train" "LNightSorters$Train;") (by decide +kernel)
  have f74 := hts (.fieldLink RX4 74 "NightSorters$Train" "crew" "LNightSorters$Crew;") (by decide +kernel)
  have f78 := hts (.fieldLink RX4 78 "NightSorters$Crew" "size" "I") (by decide +kernel)
  have f89 := hts (.fieldLink RX4 89 "NightSorters$Crew" "tired" "[I") (by decide +kernel)
  have f92 := hts (.fieldLink RX4 92 "NightSorters$Crew" "withTea" "[I") (by decide +kernel)
  have inX0 : ∀ w ∈ wsX00, w ∈ wsX4_tea := by decide +kernel
  have inX3 : ∀ w ∈ wsX30, w ∈ wsX4_tea := by decide +kernel
  have inX4 : ∀ w ∈ wsX40, w ∈ wsX4_tea := by decide +kernel
  refine lv_iload_n hx hb dX4_tea_0 rfl (lv_at hl 1 rfl) ?_
  refine lv_aload_n hx hb dX4_tea_1 rfl (lv_at hl 0 rfl) ?_
  refine va_get (D := D) (ci := 4) (v := .ref (a 30)) (C := RX4) (T := TX4) (N := 2) hx hb hts inX4 hown hK hP 0 rfl rfl 0 (by decide) f17 (fun _ h9 => h9) rfl dX4_tea_2 ?_
  refine va_get (D := D) (ci := 3) (v := .ref (a 10)) (C := RX3) (T := TX3) (N := 4) hx hb hts inX3 hown hK hP 1 rfl rfl 2 (by decide) f74 (fun _ h9 => h9) rfl dX4_tea_5 ?_
  refine va_get (D := D) (ci := 0) (v := .int (u 10 0)) (C := RX0) (T := TX0) (N := 8) hx hb hts inX0 hown hK hP 10 rfl rfl 0 (by decide) f78 (fun _ h9 => h9) rfl dX4_tea_8 ?_
  refine ycallv (invS (As := [.int (nI s9), .int (u 10 0)]) (rest := []) (rm := ({ frames := 0, cells := 0, slots := 0, locals := 0 } : Room)) ⟨hx, hb, hml, hown, hts⟩ (va_cwS 2 hts gX4_tea_X4_checkIndex rfl rfl rfl (by decide +kernel) ⟨Nat.le_of_ble_eq_true rfl, Nat.le_of_ble_eq_true rfl⟩) rfl rfl hl.1 (Nat.le_of_ble_eq_true rfl) dX4_tea_11) (c_X4_checkIndex l D cI (nI s9) (u 10 0) (ci1 (j := s9) rfl (by omega)) (ci2 (j := s9) (N := iv (u 10 0)) rfl ok.k (by omega) (by omega))) hK hN hA hP hD hS (W2 := wX cI o g a b r u v) [] [0, 1, 2, 3, 4, 5, 6, 7, 8, 9, 10, 11, 12, 13, 14, 15, 16, 17, 18, 19, 20, 21, 22, 23, 24, 25, 26, 27, 28, 29, 30, 31, 32, 33, 34, 35, 36, 37] [0, 1, 2, 3, 4, 5, 6, 7, 8, 9, 10, 11, 12, 13, 14, 15, 16, 17, 18, 19, 20, 21, 22, 23, 24, 25, 26, 27, 28, 29, 30, 31, 32, 33, 34, 35, 36, 37] rfl rfl rfl (by decide) ⟨Nat.le_of_ble_eq_true rfl, Nat.le_of_ble_eq_true rfl⟩ (fun H locs hP hD hS => ?_)
  refine lv_aload_n hx hb dX4_tea_14 rfl (lv_at hl 0 rfl) ?_
  refine va_get (D := D) (ci := 4) (v := .ref (a 30)) (C := RX4) (T := TX4) (N := 2) hx hb hts inX4 hown hK hP 0 rfl rfl 0 (by decide) f17 (fun _ h9 => h9) rfl dX4_tea_15 ?_
  refine va_get (D := D) (ci := 3) (v := .ref (a 10)) (C := RX3) (T := TX3) (N := 4) hx hb hts inX3 hown hK hP 1 rfl rfl 2 (by decide) f74 (fun _ h9 => h9) rfl dX4_tea_18 ?_
  refine va_get (D := D) (ci := 0) (v := .ref (a 13)) (C := RX0) (T := TX0) (N := 8) hx hb hts inX0 hown hK hP 10 rfl rfl 3 (by decide) f89 (fun _ h9 => h9) rfl dX4_tea_21 ?_
  refine lv_iload_n hx hb dX4_tea_24 rfl (lv_at hl 1 rfl) ?_
  refine xald hx hb hK hP 13 rfl rfl (s9) (rfl) (by omega) (by decide) dX4_tea_25 ?_
  refine lv_istore_n (lv' := [(2, .int (u 13 s9)), (0, .ref o), (1, .int (nI s9))]) hx hb dX4_tea_26 rfl hl (by decide) rfl (fun ls hl => ?_)
  refine lv_aload_n hx hb dX4_tea_27 rfl (lv_at hl 1 rfl) ?_
  refine va_get (D := D) (ci := 4) (v := .ref (a 30)) (C := RX4) (T := TX4) (N := 2) hx hb hts inX4 hown hK hP 0 rfl rfl 0 (by decide) f17 (fun _ h9 => h9) rfl dX4_tea_28 ?_
  refine va_get (D := D) (ci := 3) (v := .ref (a 10)) (C := RX3) (T := TX3) (N := 4) hx hb hts inX3 hown hK hP 1 rfl rfl 2 (by decide) f74 (fun _ h9 => h9) rfl dX4_tea_31 ?_
  refine va_get (D := D) (ci := 0) (v := .ref (a 13)) (C := RX0) (T := TX0) (N := 8) hx hb hts inX0 hown hK hP 10 rfl rfl 3 (by decide) f89 (fun _ h9 => h9) rfl dX4_tea_34 ?_
  refine lv_iload_n hx hb dX4_tea_37 rfl (lv_at hl 2 rfl) ?_
  refine lv_iconst (v := 0) hx hb dX4_tea_38 (by decide) ?_
  obtain ⟨u1, eu1⟩ : ∃ z0 : Rc, z0 = put u 13 s9 0 := ⟨_, rfl⟩
  refine xast hx hb hK hP hD hS 13 rfl rfl (s9) (rfl) (by omega) (by decide) (wX cI o g a b r u1 v) (by subst eu1; rfl) dX4_tea_39 (fun H locs hP hD hS => ?_)
  refine lv_aload_n hx hb dX4_tea_40 rfl (lv_at hl 1 rfl) ?_
  refine va_get (D := D) (ci := 4) (v := .ref (a 30)) (C := RX4) (T := TX4) (N := 2) hx hb hts inX4 hown hK hP 0 rfl rfl 0 (by decide) f17 (fun _ h9 => h9) rfl dX4_tea_41 ?_
  refine va_get (D := D) (ci := 3) (v := .ref (a 10)) (C := RX3) (T := TX3) (N := 4) hx hb hts inX3 hown hK hP 1 rfl rfl 2 (by decide) f74 (fun _ h9 => h9) rfl dX4_tea_44 ?_
  refine va_get (D := D) (ci := 0) (v := .ref (a 14)) (C := RX0) (T := TX0) (N := 8) hx hb hts inX0 hown hK hP 10 rfl rfl 4 (by decide) f92 (fun _ h9 => h9) rfl dX4_tea_47 ?_
  refine lv_iload_n hx hb dX4_tea_50 rfl (lv_at hl 2 rfl) ?_
  refine lv_iconst (v := 1) hx hb dX4_tea_51 (by decide) ?_
  obtain ⟨u2, eu2⟩ : ∃ z0 : Rc, z0 = put u1 14 s9 1 := ⟨_, rfl⟩
  refine xast hx hb hK hP hD hS 14 rfl rfl (s9) (rfl) (by omega) (by decide) (wX cI o g a b r u2 v) (by subst eu2; rfl) dX4_tea_52 (fun H locs hP hD hS => ?_)
  refine lv_iload_n hx hb dX4_tea_53 rfl (lv_at hl 0 rfl) ?_
  have h3 : u2 = put (put u 13 s9 0) 14 s9 1 := (by (try subst eu2); (try subst eu1); rfl)
  exact fin _ _ _ _ _ _ _ _ rfl (congrArg (fun z9 : Rc => wX cI o g a b r z9 v) h3) hP hD hS (Nat.le_of_ble_eq_true rfl) (Nat.le_of_ble_eq_true rfl) dX4_tea_54

set_option maxHeartbeats 4000000 in
set_option maxRecDepth 100000 in
theorem c_X4_tea_x1 (l : Launch) (hlt : l.stackTraces = false) (D : va_G) (cI : ClassId) (o : Nat) (g a b : Nat → Nat) (r u v : Rc) (ok : Ok u) (x : Int32) (h : x < 0 ∨ u 10 0 ≤ x) : CX l yX4_tea wsX4_tea ({ frames := 7, cells := 1, slots := 6, locals := 130 } : Room) D cI [.ref o, .int x] (wX cI o g a b r u v) "java/lang/IndexOutOfBoundsException" := by
  refine CX.mk (cc := cX4_tea) (maxL := 3) (ret := (some .int)) hlt (by decide) rfl rfl (Nat.le_of_ble_eq_true rfl) ?_
  intro p e s m args below meth c A Q ls hx hb hts hown hml hK hN hT hA hP hD hS hl finx fint
  have hown : s.vm.findClass RX4 = some m.cls := hown
  have hl : lv_has ls 3 [(0, .ref o), (1, .int x)] := hl
  have f17 := hts (.fieldLink RX4 17 "NightSorters" "train" "LNightSorters$Train;") (by decide +kernel)
  have f74 := hts (.fieldLink RX4 74 "NightSorters$Train" "crew" "LNightSorters$Crew;") (by decide +kernel)
  have f78 := hts (.fieldLink RX4 78 "NightSorters$Crew" "size" "I") (by decide +kernel)
  have inX0 : ∀ w ∈ wsX00, w ∈ wsX4_tea := by decide +kernel
  have inX3 : ∀ w ∈ wsX30, w ∈ wsX4_tea := by decide +kernel
  have inX4 : ∀ w ∈ wsX40, w ∈ wsX4_tea := by decide +kernel
  refine lv_iload_n hx hb dX4_tea_0 rfl (lv_at hl 1 rfl) ?_
  refine lv_aload_n hx hb dX4_tea_1 rfl (lv_at hl 0 rfl) ?_
  refine va_get (D := D) (ci := 4) (v := .ref (a 30)) (C := RX4) (T := TX4) (N := 2) hx hb hts inX4 hown hK hP 0 rfl rfl 0 (by decide) f17 (fun _ h9 => h9) rfl dX4_tea_2 ?_
  refine va_get (D := D) (ci := 3) (v := .ref (a 10)) (C := RX3) (T := TX3) (N := 4) hx hb hts inX3 hown hK hP 1 rfl rfl 2 (by decide) f74 (fun _ h9 => h9) rfl dX4_tea_5 ?_
  refine va_get (D := D) (ci := 0) (v := .int (u 10 0)) (C := RX0) (T := TX0) (N := 8) hx hb hts inX0 hown hK hP 10 rfl rfl 0 (by decide) f78 (fun _ h9 => h9) rfl dX4_tea_8 ?_
  refine ycallx (invXS (As := [.int x, .int (u 10 0)]) (rest := []) (rm := ({ frames := 6, cells := 1, slots := 6, locals := 100 } : Room)) ⟨hx, hb, hml, hown, hts⟩ (va_cwS 2 hts gX4_tea_X4_checkIndex rfl rfl rfl (by decide +kernel) ⟨Nat.le_of_ble_eq_true rfl, Nat.le_of_ble_eq_true rfl⟩) rfl rfl hl.1 (Nat.le_of_ble_eq_true rfl) dX4_tea_11) (c_X4_checkIndex_x l hlt D cI (x) (u 10 0) h) hK hN hT hA hP hD hS [] [0, 1, 2, 3, 4, 5, 6, 7, 8, 9, 10, 11, 12, 13, 14, 15, 16, 17, 18, 19, 20, 21, 22, 23, 24, 25, 26, 27, 28, 29, 30, 31, 32, 33, 34, 35, 36, 37] [0, 1, 2, 3, 4, 5, 6, 7, 8, 9, 10, 11, 12, 13, 14, 15, 16, 17, 18, 19, 20, 21, 22, 23, 24, 25, 26, 27, 28, 29, 30, 31, 32, 33, 34, 35, 36, 37] rfl rfl rfl (by decide) ⟨Nat.le_of_ble_eq_true rfl, Nat.le_of_ble_eq_true rfl⟩ (fun q9 ce H locs hP hD hS h1 h2 h3 => ?_)
  exact finx _ _ _ _ _ _ _ _ _ hP hD hS (Nat.le_of_ble_eq_true rfl) (Nat.le_of_ble_eq_true rfl) h1 h2 h3

set_option maxHeartbeats 4000000 in
set_option maxRecDepth 100000 in
theorem c_X4_letter (l : Launch) (D : va_G) (cI : ClassId) (o : Nat) (g a b : Nat → Nat) (r u v : Rc) (ok : Ok u) (j : Nat) (hj : j < iv (u 0 0)) (x : Int32) (ex : x = nI j) (w : Nat) (hw : w < 5) (y : Int32) (ey : y = nI w) : CI l yX4_letter wsX4_letter ({ frames := 1, cells := 0, slots := 0, locals := 22 } : Room) D cI [.ref o, .int x, .int y] (wX cI o g a b r u v) (mfact u j w) (wX cI o g a b r u v) := by
  refine CI.mk (cc := cX4_letter) (maxL := 3) (ret := (some .int)) rfl rfl (by decide) rfl (Nat.le_of_ble_eq_true rfl) ?_
  intro p e s m args below meth c A Q ls hx hb hts hown hml hK hN hA hP hD hS hl fin
  have hown : s.vm.findClass RX4 = some m.cls := hown
  subst ex
  subst ey
  have hn60 := ok.n60
  have hl : lv_has ls 3 [(0, .ref o), (1, .int (nI j)), (2, .int (nI w))] := hl
  have f17 := hts (.fieldLink RX4 17 "NightSorters" "train" "LNightSorters$Train;") (by decide +kernel)
  have f58 := hts (.fieldLink RX4 58 "NightSorters$Train" "mail" "LNightSorters$Mail;") (by decide +kernel)
  have f62 := hts (.fieldLink RX4 62 "NightSorters$Mail" "size" "I") (by decide +kernel)
  have inX2 : ∀ w ∈ wsX20, w ∈ wsX4_letter := by decide +kernel
  have inX3 : ∀ w ∈ wsX30, w ∈ wsX4_letter := by decide +kernel
  have inX4 : ∀ w ∈ wsX40, w ∈ wsX4_letter := by decide +kernel
  refine lv_iload_n hx hb dX4_letter_0 rfl (lv_at hl 1 rfl) ?_
  refine lv_aload_n hx hb dX4_letter_1 rfl (lv_at hl 0 rfl) ?_
  refine va_get (D := D) (ci := 4) (v := .ref (a 30)) (C := RX4) (T := TX4) (N := 2) hx hb hts inX4 hown hK hP 0 rfl rfl 0 (by decide) f17 (fun _ h9 => h9) rfl dX4_letter_2 ?_
  refine va_get (D := D) (ci := 3) (v := .ref (a 0)) (C := RX3) (T := TX3) (N := 4) hx hb hts inX3 hown hK hP 1 rfl rfl 1 (by decide) f58 (fun _ h9 => h9) rfl dX4_letter_5 ?_
  refine va_get (D := D) (ci := 2) (v := .int (u 0 0)) (C := RX2) (T := TX2) (N := 8) hx hb hts inX2 hown hK hP 2 rfl rfl 0 (by decide) f62 (fun _ h9 => h9) rfl dX4_letter_8 ?_
  refine ycallv (invS (As := [.int (nI j), .int (u 0 0)]) (rest := []) (rm := ({ frames := 0, cells := 0, slots := 0, locals := 0 } : Room)) ⟨hx, hb, hml, hown, hts⟩ (va_cwS 2 hts gX4_letter_X4_checkIndex rfl rfl rfl (by decide +kernel) ⟨Nat.le_of_ble_eq_true rfl, Nat.le_of_ble_eq_true rfl⟩) rfl rfl hl.1 (Nat.le_of_ble_eq_true rfl) dX4_letter_11) (c_X4_checkIndex l D cI (nI j) (u 0 0) (ci1 (j := j) rfl (by omega)) (ci2 (j := j) (N := iv (u 0 0)) rfl ok.n (by omega) (by omega))) hK hN hA hP hD hS (W2 := wX cI o g a b r u v) [] [0, 1, 2, 3, 4, 5, 6, 7, 8, 9, 10, 11, 12, 13, 14, 15, 16, 17, 18, 19, 20, 21, 22, 23, 24, 25, 26, 27, 28, 29, 30, 31, 32, 33, 34, 35, 36, 37] [0, 1, 2, 3, 4, 5, 6, 7, 8, 9, 10, 11, 12, 13, 14, 15, 16, 17, 18, 19, 20, 21, 22, 23, 24, 25, 26, 27, 28, 29, 30, 31, 32, 33, 34, 35, 36, 37] rfl rfl rfl (by decide) ⟨Nat.le_of_ble_eq_true rfl, Nat.le_of_ble_eq_true rfl⟩ (fun H locs hP hD hS => ?_)
  refine lv_iload_n hx hb dX4_letter_14 rfl (lv_at hl 2 rfl) ?_
  refine lv_iconst (v := 5) hx hb dX4_letter_15 (by decide) ?_
  refine ycallv (invS (As := [.int (nI w), .int 5]) (rest := []) (rm := ({ frames := 0, cells := 0, slots := 0, locals := 0 } : Room)) ⟨hx, hb, hml, hown, hts⟩ (va_cwS 2 hts gX4_letter_X4_checkIndex rfl rfl rfl (by decide +kernel) ⟨Nat.le_of_ble_eq_true rfl, Nat.le_of_ble_eq_true rfl⟩) rfl rfl hl.1 (Nat.le_of_ble_eq_true rfl) dX4_letter_16) (c_X4_checkIndex l D cI (nI w) (5) (ci1 (j := w) rfl (by omega)) (ci2 (j := w) (N := 5) rfl (show (5 : Int32) = nI 5 from rfl) (by omega) (by omega))) hK hN hA hP hD hS (W2 := wX cI o g a b r u v) [] [0, 1, 2, 3, 4, 5, 6, 7, 8, 9, 10, 11, 12, 13, 14, 15, 16, 17, 18, 19, 20, 21, 22, 23, 24, 25, 26, 27, 28, 29, 30, 31, 32, 33, 34, 35, 36, 37] [0, 1, 2, 3, 4, 5, 6, 7, 8, 9, 10, 11, 12, 13, 14, 15, 16, 17, 18, 19, 20, 21, 22, 23, 24, 25, 26, 27, 28, 29, 30, 31, 32, 33, 34, 35, 36, 37] rfl rfl rfl (by decide) ⟨Nat.le_of_ble_eq_true rfl, Nat.le_of_ble_eq_true rfl⟩ (fun H locs hP hD hS => ?_)
  refine lv_aload_n hx hb dX4_letter_19 rfl (lv_at hl 0 rfl) ?_
  refine va_get (D := D) (ci := 4) (v := .ref (a 30)) (C := RX4) (T := TX4) (N := 2) hx hb hts inX4 hown hK hP 0 rfl rfl 0 (by decide) f17 (fun _ h9 => h9) rfl dX4_letter_20 ?_
  refine va_get (D := D) (ci := 3) (v := .ref (a 0)) (C := RX3) (T := TX3) (N := 4) hx hb hts inX3 hown hK hP 1 rfl rfl 1 (by decide) f58 (fun _ h9 => h9) rfl dX4_letter_23 ?_
  refine lv_iload_n hx hb dX4_letter_26 rfl (lv_at hl 1 rfl) ?_
  refine lv_iload_n hx hb dX4_letter_27 rfl (lv_at hl 2 rfl) ?_
  refine ycalli (invV (As := [.int (nI j), .int (nI w)]) (rest := []) (rm := ({ frames := 0, cells := 0, slots := 0, locals := 0 } : Room)) ⟨hx, hb, hml, hown, hts⟩ (cwV 2 hts gX4_letter_X2_fact rfl rfl rfl (by decide +kernel) ⟨Nat.le_of_ble_eq_true rfl, Nat.le_of_ble_eq_true rfl⟩) (va_recv hK hP (ci := 2) (q0 := 2) rfl rfl) rfl rfl hl.1 (Nat.le_of_ble_eq_true rfl) dX4_letter_28) (c_X2_fact l D cI a u j (by omega) (nI j) rfl w hw (nI w) rfl) hK hN hA hP hD hS (W2 := wX cI o g a b r u v) [2, 3, 4, 5, 6, 7, 8, 9] [0, 1, 10, 11, 12, 13, 14, 15, 16, 17, 18, 19, 20, 21, 22, 23, 24, 25, 26, 27, 28, 29, 30, 31, 32, 33, 34, 35, 36, 37] [0, 1, 30, 31, 32, 33, 34, 35, 36, 37, 2, 3, 4, 5, 6, 7, 8, 9, 10, 11, 12, 13, 14, 15, 16, 17, 18, 19, 20, 21, 22, 23, 24, 25, 26, 27, 28, 29] rfl rfl rfl (by decide) ⟨Nat.le_of_ble_eq_true rfl, Nat.le_of_ble_eq_true rfl⟩ (fun H locs hP hD hS => ?_)
  exact fin _ _ _ _ _ _ _ _ rfl rfl hP hD hS (Nat.le_of_ble_eq_true rfl) (Nat.le_of_ble_eq_true rfl) dX4_letter_31

set_option maxHeartbeats 4000000 in
set_option maxRecDepth 100000 in
theorem c_X4_letter_x1 (l : Launch) (hlt : l.stackTraces = false) (D : va_G) (cI : ClassId) (o : Nat) (g a b : Nat → Nat) (r u v : Rc) (ok : Ok u) (x y : Int32) (h : x < 0 ∨ u 0 0 ≤ x) : CX l yX4_letter wsX4_letter ({ frames := 7, cells := 1, slots := 6, locals := 130 } : Room) D cI [.ref o, .int x, .int y] (wX cI o g a b r u v) "java/lang/IndexOutOfBoundsException" := by
  refine CX.mk (cc := cX4_letter) (maxL := 3) (ret := (some .int)) hlt (by decide) rfl rfl (Nat.le_of_ble_eq_true rfl) ?_
  intro p e s m args below meth c A Q ls hx hb hts hown hml hK hN hT hA hP hD hS hl finx fint
  have hown : s.vm.findClass RX4 = some m.cls := hown
  have hl : lv_has ls 3 [(0, .ref o), (1, .int x), (2, .int y)] := hl
  have f17 := hts (.fieldLink RX4 17 "NightSorters" "train" "LNightSorters$Train;") (by decide +kernel)
  have f58 := hts (.fieldLink RX4 58 "NightSorters$Train" "mail" "LNightSorters$Mail;") (by decide +kernel)
  have f62 := hts (.fieldLink RX4 62 "NightSorters$Mail" "size" "I") (by decide +kernel)
  have inX2 : ∀ w ∈ wsX20, w ∈ wsX4_letter := by decide +kernel
  have inX3 : ∀ w ∈ wsX30, w ∈ wsX4_letter := by decide +kernel
  have inX4 : ∀ w ∈ wsX40, w ∈ wsX4_letter := by decide +kernel
  refine lv_iload_n hx hb dX4_letter_0 rfl (lv_at hl 1 rfl) ?_
  refine lv_aload_n hx hb dX4_letter_1 rfl (lv_at hl 0 rfl) ?_
  refine va_get (D := D) (ci := 4) (v := .ref (a 30)) (C := RX4) (T := TX4) (N := 2) hx hb hts inX4 hown hK hP 0 rfl rfl 0 (by decide) f17 (fun _ h9 => h9) rfl dX4_letter_2 ?_
  refine va_get (D := D) (ci := 3) (v := .ref (a 0)) (C := RX3) (T := TX3) (N := 4) hx hb hts inX3 hown hK hP 1 rfl rfl 1 (by decide) f58 (fun _ h9 => h9) rfl dX4_letter_5 ?_
  refine va_get (D := D) (ci := 2) (v := .int (u 0 0)) (C := RX2) (T := TX2) (N := 8) hx hb hts inX2 hown hK hP 2 rfl rfl 0 (by decide) f62 (fun _ h9 => h9) rfl dX4_letter_8 ?_
  refine ycallx (invXS (As := [.int x, .int (u 0 0)]) (rest := []) (rm := ({ frames := 6, cells := 1, slots := 6, locals := 100 } : Room)) ⟨hx, hb, hml, hown, hts⟩ (va_cwS 2 hts gX4_letter_X4_checkIndex rfl rfl rfl (by decide +kernel) ⟨Nat.le_of_ble_eq_true rfl, Nat.le_of_ble_eq_true rfl⟩) rfl rfl hl.1 (Nat.le_of_ble_eq_true rfl) dX4_letter_11) (c_X4_checkIndex_x l hlt D cI (x) (u 0 0) h) hK hN hT hA hP hD hS [] [0, 1, 2, 3, 4, 5, 6, 7, 8, 9, 10, 11, 12, 13, 14, 15, 16, 17, 18, 19, 20, 21, 22, 23, 24, 25, 26, 27, 28, 29, 30, 31, 32, 33, 34, 35, 36, 37] [0, 1, 2, 3, 4, 5, 6, 7, 8, 9, 10, 11, 12, 13, 14, 15, 16, 17, 18, 19, 20, 21, 22, 23, 24, 25, 26, 27, 28, 29, 30, 31, 32, 33, 34, 35, 36, 37] rfl rfl rfl (by decide) ⟨Nat.le_of_ble_eq_true rfl, Nat.le_of_ble_eq_true rfl⟩ (fun q9 ce H locs hP hD hS h1 h2 h3 => ?_)
  exact finx _ _ _ _ _ _ _ _ _ hP hD hS (Nat.le_of_ble_eq_true rfl) (Nat.le_of_ble_eq_true rfl) h1 h2 h3

set_option maxHeartbeats 4000000 in
set_option maxRecDepth 100000 in
theorem c_X4_letter_x2 (l : Launch) (hlt : l.stackTraces = false) (D : va_G) (cI : ClassId) (o : Nat) (g a b : Nat → Nat) (r u v : Rc) (ok : Ok u) (j : Nat) (hj : j < iv (u 0 0)) (x : Int32) (ex : x = nI j) (y : Int32) (h : y < 0 ∨ 5 ≤ y) : CX l yX4_letter wsX4_letter ({ frames := 7, cells := 1, slots := 6, locals := 130 } : Room) D cI [.ref o, .int x, .int y] (wX cI o g a b r u v) "java/lang/IndexOutOfBoundsException" := by
  refine CX.mk (cc := cX4_letter) (maxL := 3) (ret := (some .int)) hlt (by decide) rfl rfl (Nat.le_of_ble_eq_true rfl) ?_
  intro p e s m args below meth c A Q ls hx hb hts hown hml hK hN hT hA hP hD hS hl finx fint
  have hown : s.vm.findClass RX4 = some m.cls := hown
  subst ex
  have hn60 := ok.n60
  have hl : lv_has ls 3 [(0, .ref o), (1, .int (nI j)), (2, .int y)] := hl
  have f17 := hts (.fieldLink RX4 17 "NightSorters" "train" "LNightSorters$Train;") (by decide +kernel)
  have f58 := hts (.fieldLink RX4 58 "NightSorters$Train" "mail" "LNightSorters$Mail;") (by decide +kernel)
  have f62 := hts (.fieldLink RX4 62 "NightSorters$Mail" "size" "I") (by decide +kernel)
  have inX2 : ∀ w ∈ wsX20, w ∈ wsX4_letter := by decide +kernel
  have inX3 : ∀ w ∈ wsX30, w ∈ wsX4_letter := by decide +kernel
  have inX4 : ∀ w ∈ wsX40, w ∈ wsX4_letter := by decide +kernel
  refine lv_iload_n hx hb dX4_letter_0 rfl (lv_at hl 1 rfl) ?_
  refine lv_aload_n hx hb dX4_letter_1 rfl (lv_at hl 0 rfl) ?_
  refine va_get (D := D) (ci := 4) (v := .ref (a 30)) (C := RX4) (T := TX4) (N := 2) hx hb hts inX4 hown hK hP 0 rfl rfl 0 (by decide) f17 (fun _ h9 => h9) rfl dX4_letter_2 ?_
  refine va_get (D := D) (ci := 3) (v := .ref (a 0)) (C := RX3) (T := TX3) (N := 4) hx hb hts inX3 hown hK hP 1 rfl rfl 1 (by decide) f58 (fun _ h9 => h9) rfl dX4_letter_5 ?_
  refine va_get (D := D) (ci := 2) (v := .int (u 0 0)) (C := RX2) (T := TX2) (N := 8) hx hb hts inX2 hown hK hP 2 rfl rfl 0 (by decide) f62 (fun _ h9 => h9) rfl dX4_letter_8 ?_
  refine ycallv (invS (As := [.int (nI j), .int (u 0 0)]) (rest := []) (rm := ({ frames := 0, cells := 0, slots := 0, locals := 0 } : Room)) ⟨hx, hb, hml, hown, hts⟩ (va_cwS 2 hts gX4_letter_X4_checkIndex rfl rfl rfl (by decide +kernel) ⟨Nat.le_of_ble_eq_true rfl, Nat.le_of_ble_eq_true rfl⟩) rfl rfl hl.1 (Nat.le_of_ble_eq_true rfl) dX4_letter_11) (c_X4_checkIndex l D cI (nI j) (u 0 0) (ci1 (j := j) rfl (by omega)) (ci2 (j := j) (N := iv (u 0 0)) rfl ok.n (by omega) (by omega))) hK hN hA hP hD hS (W2 := wX cI o g a b r u v) [] [0, 1, 2, 3, 4, 5, 6, 7, 8, 9, 10, 11, 12, 13, 14, 15, 16, 17, 18, 19, 20, 21, 22, 23, 24, 25, 26, 27, 28, 29, 30, 31, 32, 33, 34, 35, 36, 37] [0, 1, 2, 3, 4, 5, 6, 7, 8, 9, 10, 11, 12, 13, 14, 15, 16, 17, 18, 19, 20, 21, 22, 23, 24, 25, 26, 27, 28, 29, 30, 31, 32, 33, 34, 35, 36, 37] rfl rfl rfl (by decide) ⟨Nat.le_of_ble_eq_true rfl, Nat.le_of_ble_eq_true rfl⟩ (fun H locs hP hD hS => ?_)
  refine lv_iload_n hx hb dX4_letter_14 rfl (lv_at hl 2 rfl) ?_
  refine lv_iconst (v := 5) hx hb dX4_letter_15 (by decide) ?_
  refine ycallx (invXS (As := [.int y, .int 5]) (rest := []) (rm := ({ frames := 6, cells := 1, slots := 6, locals := 100 } : Room)) ⟨hx, hb, hml, hown, hts⟩ (va_cwS 2 hts gX4_letter_X4_checkIndex rfl rfl rfl (by decide +kernel) ⟨Nat.le_of_ble_eq_true rfl, Nat.le_of_ble_eq_true rfl⟩) rfl rfl hl.1 (Nat.le_of_ble_eq_true rfl) dX4_letter_16) (c_X4_checkIndex_x l hlt D cI (y) (5) h) hK hN hT hA hP hD hS [] [0, 1, 2, 3, 4, 5, 6, 7, 8, 9, 10, 11, 12, 13, 14, 15, 16, 17, 18, 19, 20, 21, 22, 23, 24, 25, 26, 27, 28, 29, 30, 31, 32, 33, 34, 35, 36, 37] [0, 1, 2, 3, 4, 5, 6, 7, 8, 9, 10, 11, 12, 13, 14, 15, 16, 17, 18, 19, 20, 21, 22, 23, 24, 25, 26, 27, 28, 29, 30, 31, 32, 33, 34, 35, 36, 37] rfl rfl rfl (by decide) ⟨Nat.le_of_ble_eq_true rfl, Nat.le_of_ble_eq_true rfl⟩ (fun q9 ce H locs hP hD hS h1 h2 h3 => ?_)
  exact finx _ _ _ _ _ _ _ _ _ hP hD hS (Nat.le_of_ble_eq_true rfl) (Nat.le_of_ble_eq_true rfl) h1 h2 h3

set_option maxHeartbeats 4000000 in
set_option maxRecDepth 100000 in
theorem c_X4_sorter (l : Launch) (D : va_G) (cI : ClassId) (o : Nat) (g a b : Nat → Nat) (r u v : Rc) (ok : Ok u) (s9 : Nat) (hs : s9 < iv (u 10 0)) (x : Int32) (ex : x = nI s9) (w : Nat) (hw : w < 7) (y : Int32) (ey : y = nI w) : CI l yX4_sorter wsX4_sorter ({ frames := 1, cells := 0, slots := 0, locals := 22 } : Room) D cI [.ref o, .int x, .int y] (wX cI o g a b r u v) (cfact u s9 w) (wX cI o g a b r u v) := by
  refine CI.mk (cc := cX4_sorter) (maxL := 3) (ret := (some .int)) rfl rfl (by decide) rfl (Nat.le_of_ble_eq_true rfl) ?_
  intro p e s m args below meth c A Q ls hx hb hts hown hml hK hN hA hP hD hS hl fin
  have hown : s.vm.findClass RX4 = some m.cls := hown
  subst ex
  subst ey
  have hk4 := ok.k4
  have hl : lv_has ls 3 [(0, .ref o), (1, .int (nI s9)), (2, .int (nI w))] := hl
  have f17 := hts (.fieldLink RX4 17 "NightSorters" "train" "LNightSorters$Train;") (by decide +kernel)
  have f74 := hts (.fieldLink RX4 74 "NightSorters$Train" "crew" "LNightSorters$Crew;") (by decide +kernel)
  have f78 := hts (.fieldLink RX4 78 "NightSorters$Crew" "size" "I") (by decide +kernel)
  have inX0 : ∀ w ∈ wsX00, w ∈ wsX4_sorter := by decide +kernel
  have inX3 : ∀ w ∈ wsX30, w ∈ wsX4_sorter := by decide +kernel
  have inX4 : ∀ w ∈ wsX40, w ∈ wsX4_sorter := by decide +kernel
  refine lv_iload_n hx hb dX4_sorter_0 rfl (lv_at hl 1 rfl) ?_
  refine lv_aload_n hx hb dX4_sorter_1 rfl (lv_at hl 0 rfl) ?_
  refine va_get (D := D) (ci := 4) (v := .ref (a 30)) (C := RX4) (T := TX4) (N := 2) hx hb hts inX4 hown hK hP 0 rfl rfl 0 (by decide) f17 (fun _ h9 => h9) rfl dX4_sorter_2 ?_
  refine va_get (D := D) (ci := 3) (v := .ref (a 10)) (C := RX3) (T := TX3) (N := 4) hx hb hts inX3 hown hK hP 1 rfl rfl 2 (by decide) f74 (fun _ h9 => h9) rfl dX4_sorter_5 ?_
  refine va_get (D := D) (ci := 0) (v := .int (u 10 0)) (C := RX0) (T := TX0) (N := 8) hx hb hts inX0 hown hK hP 10 rfl rfl 0 (by decide) f78 (fun _ h9 => h9) rfl dX4_sorter_8 ?_
  refine ycallv (invS (As := [.int (nI s9), .int (u 10 0)]) (rest := []) (rm := ({ frames := 0, cells := 0, slots := 0, locals := 0 } : Room)) ⟨hx, hb, hml, hown, hts⟩ (va_cwS 2 hts gX4_sorter_X4_checkIndex rfl rfl rfl (by decide +kernel) ⟨Nat.le_of_ble_eq_true rfl, Nat.le_of_ble_eq_true rfl⟩) rfl rfl hl.1 (Nat.le_of_ble_eq_true rfl) dX4_sorter_11) (c_X4_checkIndex l D cI (nI s9) (u 10 0) (ci1 (j := s9) rfl (by omega)) (ci2 (j := s9) (N := iv (u 10 0)) rfl ok.k (by omega) (by omega))) hK hN hA hP hD hS (W2 := wX cI o g a b r u v) [] [0, 1, 2, 3, 4, 5, 6, 7, 8, 9, 10, 11, 12, 13, 14, 15, 16, 17, 18, 19, 20, 21, 22, 23, 24, 25, 26, 27, 28, 29, 30, 31, 32, 33, 34, 35, 36, 37] [0, 1, 2, 3, 4, 5, 6, 7, 8, 9, 10, 11, 12, 13, 14, 15, 16, 17, 18, 19, 20, 21, 22, 23, 24, 25, 26, 27, 28, 29, 30, 31, 32, 33, 34, 35, 36, 37] rfl rfl rfl (by decide) ⟨Nat.le_of_ble_eq_true rfl, Nat.le_of_ble_eq_true rfl⟩ (fun H locs hP hD hS => ?_)
  refine lv_iload_n hx hb dX4_sorter_14 rfl (lv_at hl 2 rfl) ?_
  refine lv_bipush (v := 7) hx hb dX4_sorter_15 (by decide) ?_
  refine ycallv (invS (As := [.int (nI w), .int 7]) (rest := []) (rm := ({ frames := 0, cells := 0, slots := 0, locals := 0 } : Room)) ⟨hx, hb, hml, hown, hts⟩ (va_cwS 2 hts gX4_sorter_X4_checkIndex rfl rfl rfl (by decide +kernel) ⟨Nat.le_of_ble_eq_true rfl, Nat.le_of_ble_eq_true rfl⟩) rfl rfl hl.1 (Nat.le_of_ble_eq_true rfl) dX4_sorter_17) (c_X4_checkIndex l D cI (nI w) (7) (ci1 (j := w) rfl (by omega)) (ci2 (j := w) (N := 7) rfl (show (7 : Int32) = nI 7 from rfl) (by omega) (by omega))) hK hN hA hP hD hS (W2 := wX cI o g a b r u v) [] [0, 1, 2, 3, 4, 5, 6, 7, 8, 9, 10, 11, 12, 13, 14, 15, 16, 17, 18, 19, 20, 21, 22, 23, 24, 25, 26, 27, 28, 29, 30, 31, 32, 33, 34, 35, 36, 37] [0, 1, 2, 3, 4, 5, 6, 7, 8, 9, 10, 11, 12, 13, 14, 15, 16, 17, 18, 19, 20, 21, 22, 23, 24, 25, 26, 27, 28, 29, 30, 31, 32, 33, 34, 35, 36, 37] rfl rfl rfl (by decide) ⟨Nat.le_of_ble_eq_true rfl, Nat.le_of_ble_eq_true rfl⟩ (fun H locs hP hD hS => ?_)
  refine lv_aload_n hx hb dX4_sorter_20 rfl (lv_at hl 0 rfl) ?_
  refine va_get (D := D) (ci := 4) (v := .ref (a 30)) (C := RX4) (T := TX4) (N := 2) hx hb hts inX4 hown hK hP 0 rfl rfl 0 (by decide) f17 (fun _ h9 => h9) rfl dX4_sorter_21 ?_
  refine va_get (D := D) (ci := 3) (v := .ref (a 10)) (C := RX3) (T := TX3) (N := 4) hx hb hts inX3 hown hK hP 1 rfl rfl 2 (by decide) f74 (fun _ h9 => h9) rfl dX4_sorter_24 ?_
  refine lv_iload_n hx hb dX4_sorter_27 rfl (lv_at hl 1 rfl) ?_
  refine lv_iload_n hx hb dX4_sorter_28 rfl (lv_at hl 2 rfl) ?_
  refine ycalli (invV (As := [.int (nI s9), .int (nI w)]) (rest := []) (rm := ({ frames := 0, cells := 0, slots := 0, locals := 0 } : Room)) ⟨hx, hb, hml, hown, hts⟩ (cwV 2 hts gX4_sorter_X0_fact rfl rfl rfl (by decide +kernel) ⟨Nat.le_of_ble_eq_true rfl, Nat.le_of_ble_eq_true rfl⟩) (va_recv hK hP (ci := 0) (q0 := 10) rfl rfl) rfl rfl hl.1 (Nat.le_of_ble_eq_true rfl) dX4_sorter_29) (c_X0_fact l D cI a u s9 (by omega) (nI s9) rfl w hw (nI w) rfl) hK hN hA hP hD hS (W2 := wX cI o g a b r u v) [10, 11, 12, 13, 14, 15, 16, 17] [0, 1, 2, 3, 4, 5, 6, 7, 8, 9, 18, 19, 20, 21, 22, 23, 24, 25, 26, 27, 28, 29, 30, 31, 32, 33, 34, 35, 36, 37] [0, 1, 2, 3, 4, 5, 6, 7, 8, 9, 30, 31, 32, 33, 34, 35, 36, 37, 10, 11, 12, 13, 14, 15, 16, 17, 18, 19, 20, 21, 22, 23, 24, 25, 26, 27, 28, 29] rfl rfl rfl (by decide) ⟨Nat.le_of_ble_eq_true rfl, Nat.le_of_ble_eq_true rfl⟩ (fun H locs hP hD hS => ?_)
  exact fin _ _ _ _ _ _ _ _ rfl rfl hP hD hS (Nat.le_of_ble_eq_true rfl) (Nat.le_of_ble_eq_true rfl) dX4_sorter_32

set_option maxHeartbeats 4000000 in
set_option maxRecDepth 100000 in
theorem c_X4_sorter_x1 (l : Launch) (hlt : l.stackTraces = false) (D : va_G) (cI : ClassId) (o : Nat) (g a b : Nat → Nat) (r u v : Rc) (ok : Ok u) (x y : Int32) (h : x < 0 ∨ u 10 0 ≤ x) : CX l yX4_sorter wsX4_sorter ({ frames := 7, cells := 1, slots := 6, locals := 130 } : Room) D cI [.ref o, .int x, .int y] (wX cI o g a b r u v) "java/lang/IndexOutOfBoundsException" := by
  refine CX.mk (cc := cX4_sorter) (maxL := 3) (ret := (some .int)) hlt (by decide) rfl rfl (Nat.le_of_ble_eq_true rfl) ?_
  intro p e s m args below meth c A Q ls hx hb hts hown hml hK hN hT hA hP hD hS hl finx fint
  have hown : s.vm.findClass RX4 = some m.cls := hown
  have hl : lv_has ls 3 [(0, .ref o), (1, .int x), (2, .int y)] := hl
  have f17 := hts (.fieldLink RX4 17 "NightSorters" "train" "LNightSorters$Train;") (by decide +kernel)
  have f74 := hts (.fieldLink RX4 74 "NightSorters$Train" "crew" "LNightSorters$Crew;") (by decide +kernel)
  have f78 := hts (.fieldLink RX4 78 "NightSorters$Crew" "size" "I") (by decide +kernel)
  have inX0 : ∀ w ∈ wsX00, w ∈ wsX4_sorter := by decide +kernel
  have inX3 : ∀ w ∈ wsX30, w ∈ wsX4_sorter := by decide +kernel
  have inX4 : ∀ w ∈ wsX40, w ∈ wsX4_sorter := by decide +kernel
  refine lv_iload_n hx hb dX4_sorter_0 rfl (lv_at hl 1 rfl) ?_
  refine lv_aload_n hx hb dX4_sorter_1 rfl (lv_at hl 0 rfl) ?_
  refine va_get (D := D) (ci := 4) (v := .ref (a 30)) (C := RX4) (T := TX4) (N := 2) hx hb hts inX4 hown hK hP 0 rfl rfl 0 (by decide) f17 (fun _ h9 => h9) rfl dX4_sorter_2 ?_
  refine va_get (D := D) (ci := 3) (v := .ref (a 10)) (C := RX3) (T := TX3) (N := 4) hx hb hts inX3 hown hK hP 1 rfl rfl 2 (by decide) f74 (fun _ h9 => h9) rfl dX4_sorter_5 ?_
  refine va_get (D := D) (ci := 0) (v := .int (u 10 0)) (C := RX0) (T := TX0) (N := 8) hx hb hts inX0 hown hK hP 10 rfl rfl 0 (by decide) f78 (fun _ h9 => h9) rfl dX4_sorter_8 ?_
  refine ycallx (invXS (As := [.int x, .int (u 10 0)]) (rest := []) (rm := ({ frames := 6, cells := 1, slots := 6, locals := 100 } : Room)) ⟨hx, hb, hml, hown, hts⟩ (va_cwS 2 hts gX4_sorter_X4_checkIndex rfl rfl rfl (by decide +kernel) ⟨Nat.le_of_ble_eq_true rfl, Nat.le_of_ble_eq_true rfl⟩) rfl rfl hl.1 (Nat.le_of_ble_eq_true rfl) dX4_sorter_11) (c_X4_checkIndex_x l hlt D cI (x) (u 10 0) h) hK hN hT hA hP hD hS [] [0, 1, 2, 3, 4, 5, 6, 7, 8, 9, 10, 11, 12, 13, 14, 15, 16, 17, 18, 19, 20, 21, 22, 23, 24, 25, 26, 27, 28, 29, 30, 31, 32, 33, 34, 35, 36, 37] [0, 1, 2, 3, 4, 5, 6, 7, 8, 9, 10, 11, 12, 13, 14, 15, 16, 17, 18, 19, 20, 21, 22, 23, 24, 25, 26, 27, 28, 29, 30, 31, 32, 33, 34, 35, 36, 37] rfl rfl rfl (by decide) ⟨Nat.le_of_ble_eq_true rfl, Nat.le_of_ble_eq_true rfl⟩ (fun q9 ce H locs hP hD hS h1 h2 h3 => ?_)
  exact finx _ _ _ _ _ _ _ _ _ hP hD hS (Nat.le_of_ble_eq_true rfl) (Nat.le_of_ble_eq_true rfl) h1 h2 h3

set_option maxHeartbeats 4000000 in
set_option maxRecDepth 100000 in
theorem c_X4_sorter_x2 (l : Launch) (hlt : l.stackTraces = false) (D : va_G) (cI : ClassId) (o : Nat) (g a b : Nat → Nat) (r u v : Rc) (ok : Ok u) (s9 : Nat) (hs : s9 < iv (u 10 0)) (x : Int32) (ex : x = nI s9) (y : Int32) (h : y < 0 ∨ 7 ≤ y) : CX l yX4_sorter wsX4_sorter ({ frames := 7, cells := 1, slots := 6, locals := 130 } : Room) D cI [.ref o, .int x, .int y] (wX cI o g a b r u v) "java/lang/IndexOutOfBoundsException" := by
  refine CX.mk (cc := cX4_sorter) (maxL := 3) (ret := (some .int)) hlt (by decide) rfl rfl (Nat.le_of_ble_eq_true rfl) ?_
  intro p e s m args below meth c A Q ls hx hb hts hown hml hK hN hT hA hP hD hS hl finx fint
  have hown : s.vm.findClass RX4 = some m.cls := hown
  subst ex
  have hk4 := ok.k4
  have hl : lv_has ls 3 [(0, .ref o), (1, .int (nI s9)), (2, .int y)] := hl
  have f17 := hts (.fieldLink RX4 17 "NightSorters" "train" "LNightSorters$Train;") (by decide +kernel)
  have f74 := hts (.fieldLink RX4 74 "NightSorters$Train" "crew" "LNightSorters$Crew;") (by decide +kernel)
  have f78 := hts (.fieldLink RX4 78 "NightSorters$Crew" "size" "I") (by decide +kernel)
  have inX0 : ∀ w ∈ wsX00, w ∈ wsX4_sorter := by decide +kernel
  have inX3 : ∀ w ∈ wsX30, w ∈ wsX4_sorter := by decide +kernel
  have inX4 : ∀ w ∈ wsX40, w ∈ wsX4_sorter := by decide +kernel
  refine lv_iload_n hx hb dX4_sorter_0 rfl (lv_at hl 1 rfl) ?_
  refine lv_aload_n hx hb dX4_sorter_1 rfl (lv_at hl 0 rfl) ?_
  refine va_get (D := D) (ci := 4) (v := .ref (a 30)) (C := RX4) (T := TX4) (N := 2) hx hb hts inX4 hown hK hP 0 rfl rfl 0 (by decide) f17 (fun _ h9 => h9) rfl dX4_sorter_2 ?_
  refine va_get (D := D) (ci := 3) (v := .ref (a 10)) (C := RX3) (T := TX3) (N := 4) hx hb hts inX3 hown hK hP 1 rfl rfl 2 (by decide) f74 (fun _ h9 => h9) rfl dX4_sorter_5 ?_
  refine va_get (D := D) (ci := 0) (v := .int (u 10 0)) (C := RX0) (T := TX0) (N := 8) hx hb hts inX0 hown hK hP 10 rfl rfl 0 (by decide) f78 (fun _ h9 => h9) rfl dX4_sorter_8 ?_
  refine ycallv (invS (As := [.int (nI s9), .int (u 10 0)]) (rest := []) (rm := ({ frames := 0, cells := 0, slots := 0, locals := 0 } : Room)) ⟨hx, hb, hml, hown, hts⟩ (va_cwS 2 hts gX4_sorter_X4_checkIndex rfl rfl rfl (by decide +kernel) ⟨Nat.le_of_ble_eq_true rfl, Nat.le_of_ble_eq_true rfl⟩) rfl rfl hl.1 (Nat.le_of_ble_eq_true rfl) dX4_sorter_11) (c_X4_checkIndex l D cI (nI s9) (u 10 0) (ci1 (j := s9) rfl (by omega)) (ci2 (j := s9) (N := iv (u 10 0)) rfl ok.k (by omega) (by omega))) hK hN hA hP hD hS (W2 := wX cI o g a b r u v) [] [0, 1, 2, 3, 4, 5, 6, 7, 8, 9, 10, 11, 12, 13, 14, 15, 16, 17, 18, 19, 20, 21, 22, 23, 24, 25, 26, 27, 28, 29, 30, 31, 32, 33, 34, 35, 36, 37] [0, 1, 2, 3, 4, 5, 6, 7, 8, 9, 10, 11, 12, 13, 14, 15, 16, 17, 18, 19, 20, 21, 22, 23, 24, 25, 26, 27, 28, 29, 30, 31, 32, 33, 34, 35, 36, 37] rfl rfl rfl (by decide) ⟨Nat.le_of_ble_eq_true rfl, Nat.le_of_ble_eq_true rfl⟩ (fun H locs hP hD hS => ?_)
  refine lv_iload_n hx hb dX4_sorter_14 rfl (lv_at hl 2 rfl) ?_
  refine lv_bipush (v := 7) hx hb dX4_sorter_15 (by decide) ?_
  refine ycallx (invXS (As := [.int y, .int 7]) (rest := []) (rm := ({ frames := 6, cells := 1, slots := 6, locals := 100 } : Room)) ⟨hx, hb, hml, hown, hts⟩ (va_cwS 2 hts gX4_sorter_X4_checkIndex rfl rfl rfl (by decide +kernel) ⟨Nat.le_of_ble_eq_true rfl, Nat.le_of_ble_eq_true rfl⟩) rfl rfl hl.1 (Nat.le_of_ble_eq_true rfl) dX4_sorter_17) (c_X4_checkIndex_x l hlt D cI (y) (7) h) hK hN hT hA hP hD hS [] [0, 1, 2, 3, 4, 5, 6, 7, 8, 9, 10, 11, 12, 13, 14, 15, 16, 17, 18, 19, 20, 21, 22, 23, 24, 25, 26, 27, 28, 29, 30, 31, 32, 33, 34, 35, 36, 37] [0, 1, 2, 3, 4, 5, 6, 7, 8, 9, 10, 11, 12, 13, 14, 15, 16, 17, 18, 19, 20, 21, 22, 23, 24, 25, 26, 27, 28, 29, 30, 31, 32, 33, 34, 35, 36, 37] rfl rfl rfl (by decide) ⟨Nat.le_of_ble_eq_true rfl, Nat.le_of_ble_eq_true rfl⟩ (fun q9 ce H locs hP hD hS h1 h2 h3 => ?_)
  exact finx _ _ _ _ _ _ _ _ _ hP hD hS (Nat.le_of_ble_eq_true rfl) (Nat.le_of_ble_eq_true rfl) h1 h2 h3

set_option maxHeartbeats 4000000 in
set_option maxRecDepth 100000 in
theorem c_X4_hole (l : Launch) (D : va_G) (cI : ClassId) (o : Nat) (g a b : Nat → Nat) (r u v : Rc) (ok : Ok u) (t9 : Nat) (ht9 : t9 < 16) (x : Int32) (ex : x = nI t9) : CI l yX4_hole wsX4_hole ({ frames := 1, cells := 0, slots := 0, locals := 21 } : Room) D cI [.ref o, .int x] (wX cI o g a b r u v) (u 7 t9) (wX cI o g a b r u v) := by
  refine CI.mk (cc := cX4_hole) (maxL := 2) (ret := (some .int)) rfl rfl (by decide) rfl (Nat.le_of_ble_eq_true rfl) ?_
  intro p e s m args below meth c A Q ls hx hb hts hown hml hK hN hA hP hD hS hl fin
  have hown : s.vm.findClass RX4 = some m.cls := hown
  subst ex
  have hl : lv_has ls 2 [(0, .ref o), (1, .int (nI t9))] := hl
  have f17 := hts (.fieldLink RX4 17 "NightSorters" "train" "LNightSorters$Train;") (by decide +kernel)
  have f58 := hts (.fieldLink RX4 58 "NightSorters$Train" "mail" "LNightSorters$Mail;") (by decide +kernel)
  have f99 := hts (.fieldLink RX4 99 "NightSorters$Mail" "inHole" "[I") (by decide +kernel)
  have inX2 : ∀ w ∈ wsX20, w ∈ wsX4_hole := by decide +kernel
  have inX3 : ∀ w ∈ wsX30, w ∈ wsX4_hole := by decide +kernel
  have inX4 : ∀ w ∈ wsX40, w ∈ wsX4_hole := by decide +kernel
  refine lv_iload_n hx hb dX4_hole_0 rfl (lv_at hl 1 rfl) ?_
  refine lv_bipush (v := 16) hx hb dX4_hole_1 (by decide) ?_
  refine ycallv (invS (As := [.int (nI t9), .int 16]) (rest := []) (rm := ({ frames := 0, cells := 0, slots := 0, locals := 0 } : Room)) ⟨hx, hb, hml, hown, hts⟩ (va_cwS 2 hts gX4_hole_X4_checkIndex rfl rfl rfl (by decide +kernel) ⟨Nat.le_of_ble_eq_true rfl, Nat.le_of_ble_eq_true rfl⟩) rfl rfl hl.1 (Nat.le_of_ble_eq_true rfl) dX4_hole_3) (c_X4_checkIndex l D cI (nI t9) (16) (ci1 (j := t9) rfl (by omega)) (ci2 (j := t9) (N := 16) rfl (show (16 : Int32) = nI 16 from rfl) (by omega) (by omega))) hK hN hA hP hD hS (W2 := wX cI o g a b r u v) [] [0, 1, 2, 3, 4, 5, 6, 7, 8, 9, 10, 11, 12, 13, 14, 15, 16, 17, 18, 19, 20, 21, 22, 23, 24, 25, 26, 27, 28, 29, 30, 31, 32, 33, 34, 35, 36, 37] [0, 1, 2, 3, 4, 5, 6, 7, 8, 9, 10, 11, 12, 13, 14, 15, 16, 17, 18, 19, 20, 21, 22, 23, 24, 25, 26, 27, 28, 29, 30, 31, 32, 33, 34, 35, 36, 37] rfl rfl rfl (by decide) ⟨Nat.le_of_ble_eq_true rfl, Nat.le_of_ble_eq_true rfl⟩ (fun H locs hP hD hS => ?_)
  refine lv_aload_n hx hb dX4_hole_6 rfl (lv_at hl 0 rfl) ?_
  refine va_get (D := D) (ci := 4) (v := .ref (a 30)) (C := RX4) (T := TX4) (N := 2) hx hb hts inX4 hown hK hP 0 rfl rfl 0 (by decide) f17 (fun _ h9 => h9) rfl dX4_hole_7 ?_
  refine va_get (D := D) (ci := 3) (v := .ref (a 0)) (C := RX3) (T := TX3) (N := 4) hx hb hts inX3 hown hK hP 1 rfl rfl 1 (by decide) f58 (fun _ h9 => h9) rfl dX4_hole_10 ?_
  refine va_get (D := D) (ci := 2) (v := .ref (a 7)) (C := RX2) (T := TX2) (N := 8) hx hb hts inX2 hown hK hP 2 rfl rfl 7 (by decide) f99 (fun _ h9 => h9) rfl dX4_hole_13 ?_
  refine lv_iload_n hx hb dX4_hole_16 rfl (lv_at hl 1 rfl) ?_
  refine xald hx hb hK hP 9 rfl rfl (t9) (rfl) (by omega) (by decide) dX4_hole_17 ?_
  exact fin _ _ _ _ _ _ _ _ rfl rfl hP hD hS (Nat.le_of_ble_eq_true rfl) (Nat.le_of_ble_eq_true rfl) dX4_hole_18

set_option maxHeartbeats 4000000 in
set_option maxRecDepth 100000 in
theorem c_X4_hole_x1 (l : Launch) (hlt : l.stackTraces = false) (D : va_G) (cI : ClassId) (o : Nat) (g a b : Nat → Nat) (r u v : Rc) (ok : Ok u) (x : Int32) (h : x < 0 ∨ 16 ≤ x) : CX l yX4_hole wsX4_hole ({ frames := 7, cells := 1, slots := 6, locals := 130 } : Room) D cI [.ref o, .int x] (wX cI o g a b r u v) "java/lang/IndexOutOfBoundsException" := by
  refine CX.mk (cc := cX4_hole) (maxL := 2) (ret := (some .int)) hlt (by decide) rfl rfl (Nat.le_of_ble_eq_true rfl) ?_
  intro p e s m args below meth c A Q ls hx hb hts hown hml hK hN hT hA hP hD hS hl finx fint
  have hown : s.vm.findClass RX4 = some m.cls := hown
  have hl : lv_has ls 2 [(0, .ref o), (1, .int x)] := hl
  refine lv_iload_n hx hb dX4_hole_0 rfl (lv_at hl 1 rfl) ?_
  refine lv_bipush (v := 16) hx hb dX4_hole_1 (by decide) ?_
  refine ycallx (invXS (As := [.int x, .int 16]) (rest := []) (rm := ({ frames := 6, cells := 1, slots := 6, locals := 100 } : Room)) ⟨hx, hb, hml, hown, hts⟩ (va_cwS 2 hts gX4_hole_X4_checkIndex rfl rfl rfl (by decide +kernel) ⟨Nat.le_of_ble_eq_true rfl, Nat.le_of_ble_eq_true rfl⟩) rfl rfl hl.1 (Nat.le_of_ble_eq_true rfl) dX4_hole_3) (c_X4_checkIndex_x l hlt D cI (x) (16) h) hK hN hT hA hP hD hS [] [0, 1, 2, 3, 4, 5, 6, 7, 8, 9, 10, 11, 12, 13, 14, 15, 16, 17, 18, 19, 20, 21, 22, 23, 24, 25, 26, 27, 28, 29, 30, 31, 32, 33, 34, 35, 36, 37] [0, 1, 2, 3, 4, 5, 6, 7, 8, 9, 10, 11, 12, 13, 14, 15, 16, 17, 18, 19, 20, 21, 22, 23, 24, 25, 26, 27, 28, 29, 30, 31, 32, 33, 34, 35, 36, 37] rfl rfl rfl (by decide) ⟨Nat.le_of_ble_eq_true rfl, Nat.le_of_ble_eq_true rfl⟩ (fun q9 ce H locs hP hD hS h1 h2 h3 => ?_)
  exact finx _ _ _ _ _ _ _ _ _ hP hD hS (Nat.le_of_ble_eq_true rfl) (Nat.le_of_ble_eq_true rfl) h1 h2 h3

set_option maxHeartbeats 4000000 in
set_option maxRecDepth 100000 in
theorem c_X4_station (l : Launch) (D : va_G) (cI : ClassId) (o : Nat) (g a b : Nat → Nat) (r u v : Rc) (ok : Ok u) (s9 : Nat) (hs : s9 < 8) (x : Int32) (ex : x = nI s9) (w : Nat) (hw : w < 3) (y : Int32) (ey : y = nI w) : CI l yX4_station wsX4_station ({ frames := 2, cells := 0, slots := 0, locals := 45 } : Room) D cI [.ref o, .int x, .int y] (wX cI o g a b r u v) (stF r u s9 w) (wX cI o g a b r u v) := by
  refine CI.mk (cc := cX4_station) (maxL := 3) (ret := (some .int)) rfl rfl (by decide) rfl (Nat.le_of_ble_eq_true rfl) ?_
  intro p e s m args below meth c A Q ls hx hb hts hown hml hK hN hA hP hD hS hl fin
  have hown : s.vm.findClass RX4 = some m.cls := hown
  subst ex
  subst ey
  have hl : lv_has ls 3 [(0, .ref o), (1, .int (nI s9)), (2, .int (nI w))] := hl
  have f17 := hts (.fieldLink RX4 17 "NightSorters" "train" "LNightSorters$Train;") (by decide +kernel)
  have f32 := hts (.fieldLink RX4 32 "NightSorters$Train" "line" "LNightSorters$Line;") (by decide +kernel)
  have f40 := hts (.fieldLink RX4 40 "NightSorters$Line" "minutes" "[I") (by decide +kernel)
  have f55 := hts (.fieldLink RX4 55 "NightSorters$Line" "jolts" "[I") (by decide +kernel)
  have f58 := hts (.fieldLink RX4 58 "NightSorters$Train" "mail" "LNightSorters$Mail;") (by decide +kernel)
  have inX1 : ∀ w ∈ wsX10, w ∈ wsX4_station := by decide +kernel
  have inX3 : ∀ w ∈ wsX30, w ∈ wsX4_station := by decide +kernel
  have inX4 : ∀ w ∈ wsX40, w ∈ wsX4_station := by decide +kernel
  refine lv_iload_n hx hb dX4_station_0 rfl (lv_at hl 1 rfl) ?_
  refine lv_bipush (v := 8) hx hb dX4_station_1 (by decide) ?_
  refine ycallv (invS (As := [.int (nI s9), .int 8]) (rest := []) (rm := ({ frames := 0, cells := 0, slots := 0, locals := 0 } : Room)) ⟨hx, hb, hml, hown, hts⟩ (va_cwS 2 hts gX4_station_X4_checkIndex rfl rfl rfl (by decide +kernel) ⟨Nat.le_of_ble_eq_true rfl, Nat.le_of_ble_eq_true rfl⟩) rfl rfl hl.1 (Nat.le_of_ble_eq_true rfl) dX4_station_3) (c_X4_checkIndex l D cI (nI s9) (8) (ci1 (j := s9) rfl (by omega)) (ci2 (j := s9) (N := 8) rfl (show (8 : Int32) = nI 8 from rfl) (by omega) (by omega))) hK hN hA hP hD hS (W2 := wX cI o g a b r u v) [] [0, 1, 2, 3, 4, 5, 6, 7, 8, 9, 10, 11, 12, 13, 14, 15, 16, 17, 18, 19, 20, 21, 22, 23, 24, 25, 26, 27, 28, 29, 30, 31, 32, 33, 34, 35, 36, 37] [0, 1, 2, 3, 4, 5, 6, 7, 8, 9, 10, 11, 12, 13, 14, 15, 16, 17, 18, 19, 20, 21, 22, 23, 24, 25, 26, 27, 28, 29, 30, 31, 32, 33, 34, 35, 36, 37] rfl rfl rfl (by decide) ⟨Nat.le_of_ble_eq_true rfl, Nat.le_of_ble_eq_true rfl⟩ (fun H locs hP hD hS => ?_)
  refine lv_iload_n hx hb dX4_station_6 rfl (lv_at hl 2 rfl) ?_
  refine lv_iconst (v := 3) hx hb dX4_station_7 (by decide) ?_
  refine ycallv (invS (As := [.int (nI w), .int 3]) (rest := []) (rm := ({ frames := 0, cells := 0, slots := 0, locals := 0 } : Room)) ⟨hx, hb, hml, hown, hts⟩ (va_cwS 2 hts gX4_station_X4_checkIndex rfl rfl rfl (by decide +kernel) ⟨Nat.le_of_ble_eq_true rfl, Nat.le_of_ble_eq_true rfl⟩) rfl rfl hl.1 (Nat.le_of_ble_eq_true rfl) dX4_station_8) (c_X4_checkIndex l D cI (nI w) (3) (ci1 (j := w) rfl (by omega)) (ci2 (j := w) (N := 3) rfl (show (3 : Int32) = nI 3 from rfl) (by omega) (by omega))) hK hN hA hP hD hS (W2 := wX cI o g a b r u v) [] [0, 1, 2, 3, 4, 5, 6, 7, 8, 9, 10, 11, 12, 13, 14, 15, 16, 17, 18, 19, 20, 21, 22, 23, 24, 25, 26, 27, 28, 29, 30, 31, 32, 33, 34, 35, 36, 37] [0, 1, 2, 3, 4, 5, 6, 7, 8, 9, 10, 11, 12, 13, 14, 15, 16, 17, 18, 19, 20, 21, 22, 23, 24, 25, 26, 27, 28, 29, 30, 31, 32, 33, 34, 35, 36, 37] rfl rfl rfl (by decide) ⟨Nat.le_of_ble_eq_true rfl, Nat.le_of_ble_eq_true rfl⟩ (fun H locs hP hD hS => ?_)
  refine lv_iload_n hx hb dX4_station_11 rfl (lv_at hl 2 rfl) ?_
  have ht12 : w = 0 ∨ w = 1 ∨ w = 2 := by omega
  rcases ht12 with rfl | rfl | rfl
  · skip
    refine lv_lookup (off := 28) (tgt := 40) hx hb dX4_station_12 (by decide) (by decide) (by decide) ?_
    refine lv_aload_n hx hb dX4_station_40 rfl (lv_at hl 0 rfl) ?_
    refine va_get (D := D) (ci := 4) (v := .ref (a 30)) (C := RX4) (T := TX4) (N := 2) hx hb hts inX4 hown hK hP 0 rfl rfl 0 (by decide) f17 (fun _ h9 => h9) rfl dX4_station_41 ?_
    refine va_get (D := D) (ci := 3) (v := .ref (g 0)) (C := RX3) (T := TX3) (N := 4) hx hb hts inX3 hown hK hP 1 rfl rfl 0 (by decide) f32 (fun _ h9 => h9) rfl dX4_station_44 ?_
    refine va_get (D := D) (ci := 1) (v := .ref (g 20)) (C := RX1) (T := TX1) (N := 2) hx hb hts inX1 hown hK hP 18 rfl rfl 0 (by decide) f40 (fun _ h9 => h9) rfl dX4_station_47 ?_
    refine lv_iload_n hx hb dX4_station_50 rfl (lv_at hl 1 rfl) ?_
    refine xald hx hb hK hP 19 rfl rfl (s9) (rfl) (by omega) (by decide) dX4_station_51 ?_
    exact fin _ _ _ _ _ _ _ _ (by rfl) rfl hP hD hS (Nat.le_of_ble_eq_true rfl) (Nat.le_of_ble_eq_true rfl) dX4_station_52
  · skip
    refine lv_lookup (off := 41) (tgt := 53) hx hb dX4_station_12 (by decide) (by decide) (by decide) ?_
    refine lv_aload_n hx hb dX4_station_53 rfl (lv_at hl 0 rfl) ?_
    refine va_get (D := D) (ci := 4) (v := .ref (a 30)) (C := RX4) (T := TX4) (N := 2) hx hb hts inX4 hown hK hP 0 rfl rfl 0 (by decide) f17 (fun _ h9 => h9) rfl dX4_station_54 ?_
    refine va_get (D := D) (ci := 3) (v := .ref (g 0)) (C := RX3) (T := TX3) (N := 4) hx hb hts inX3 hown hK hP 1 rfl rfl 0 (by decide) f32 (fun _ h9 => h9) rfl dX4_station_57 ?_
    refine va_get (D := D) (ci := 1) (v := .ref (g 21)) (C := RX1) (T := TX1) (N := 2) hx hb hts inX1 hown hK hP 18 rfl rfl 1 (by decide) f55 (fun _ h9 => h9) rfl dX4_station_60 ?_
    refine lv_iload_n hx hb dX4_station_63 rfl (lv_at hl 1 rfl) ?_
    refine xald hx hb hK hP 20 rfl rfl (s9) (rfl) (by omega) (by decide) dX4_station_64 ?_
    exact fin _ _ _ _ _ _ _ _ (by rfl) rfl hP hD hS (Nat.le_of_ble_eq_true rfl) (Nat.le_of_ble_eq_true rfl) dX4_station_65
  · skip
    refine lv_lookup (off := 54) (tgt := 66) hx hb dX4_station_12 (by decide) (by decide) (by decide) ?_
    refine lv_aload_n hx hb dX4_station_66 rfl (lv_at hl 0 rfl) ?_
    refine va_get (D := D) (ci := 4) (v := .ref (a 30)) (C := RX4) (T := TX4) (N := 2) hx hb hts inX4 hown hK hP 0 rfl rfl 0 (by decide) f17 (fun _ h9 => h9) rfl dX4_station_67 ?_
    refine va_get (D := D) (ci := 3) (v := .ref (a 0)) (C := RX3) (T := TX3) (N := 4) hx hb hts inX3 hown hK hP 1 rfl rfl 1 (by decide) f58 (fun _ h9 => h9) rfl dX4_station_70 ?_
    refine lv_iload_n hx hb dX4_station_73 rfl (lv_at hl 1 rfl) ?_
    refine ycalli (invV (As := [.int (nI s9)]) (rest := []) (rm := ({ frames := 1, cells := 0, slots := 0, locals := 22 } : Room)) ⟨hx, hb, hml, hown, hts⟩ (cwV 1 hts gX4_station_X2_lettersInBag rfl rfl rfl (by decide +kernel) ⟨Nat.le_of_ble_eq_true rfl, Nat.le_of_ble_eq_true rfl⟩) (va_recv hK hP (ci := 2) (q0 := 2) rfl rfl) rfl rfl hl.1 (Nat.le_of_ble_eq_true rfl) dX4_station_74) (c_X2_lettersInBag l D cI a u ok (nI s9)) hK hN hA hP hD hS (W2 := wX cI o g a b r u v) [2, 3, 4, 5, 6, 7, 8, 9] [0, 1, 10, 11, 12, 13, 14, 15, 16, 17, 18, 19, 20, 21, 22, 23, 24, 25, 26, 27, 28, 29, 30, 31, 32, 33, 34, 35, 36, 37] [0, 1, 30, 31, 32, 33, 34, 35, 36, 37, 2, 3, 4, 5, 6, 7, 8, 9, 10, 11, 12, 13, 14, 15, 16, 17, 18, 19, 20, 21, 22, 23, 24, 25, 26, 27, 28, 29] rfl rfl rfl (by decide) ⟨Nat.le_of_ble_eq_true rfl, Nat.le_of_ble_eq_true rfl⟩ (fun H locs hP hD hS => ?_)
    exact fin _ _ _ _ _ _ _ _ (by rfl) rfl hP hD hS (Nat.le_of_ble_eq_true rfl) (Nat.le_of_ble_eq_true rfl) dX4_station_77

set_option maxHeartbeats 4000000 in
set_option maxRecDepth 100000 in
theorem c_X4_station_x1 (l : Launch) (hlt : l.stackTraces = false) (D : va_G) (cI : ClassId) (o : Nat) (g a b : Nat → Nat) (r u v : Rc) (ok : Ok u) (x y : Int32) (h : x < 0 ∨ 8 ≤ x) : CX l yX4_station wsX4_station ({ frames := 7, cells := 1, slots := 6, locals := 130 } : Room) D cI [.ref o, .int x, .int y] (wX cI o g a b r u v) "java/lang/IndexOutOfBoundsException" := by
  refine CX.mk (cc := cX4_station) (maxL := 3) (ret := (some .int)) hlt (by decide) rfl rfl (Nat.le_of_ble_eq_true rfl) ?_
  intro p e s m args below meth c A Q ls hx hb hts hown hml hK hN hT hA hP hD hS hl finx fint
  have hown : s.vm.findClass RX4 = some m.cls := hown
  have hl : lv_has ls 3 [(0, .ref o), (1, .int x), (2, .int y)] := hl
  refine lv_iload_n hx hb dX4_station_0 rfl (lv_at hl 1 rfl) ?_
  refine lv_bipush (v := 8) hx hb dX4_station_1 (by decide) ?_
  refine ycallx (invXS (As := [.int x, .int 8]) (rest := []) (rm := ({ frames := 6, cells := 1, slots := 6, locals := 100 } : Room)) ⟨hx, hb, hml, hown, hts⟩ (va_cwS 2 hts gX4_station_X4_checkIndex rfl rfl rfl (by decide +kernel) ⟨Nat.le_of_ble_eq_true rfl, Nat.le_of_ble_eq_true rfl⟩) rfl rfl hl.1 (Nat.le_of_ble_eq_true rfl) dX4_station_3) (c_X4_checkIndex_x l hlt D cI (x) (8) h) hK hN hT hA hP hD hS [] [0, 1, 2, 3, 4, 5, 6, 7, 8, 9, 10, 11, 12, 13, 14, 15, 16, 17, 18, 19, 20, 21, 22, 23, 24, 25, 26, 27, 28, 29, 30, 31, 32, 33, 34, 35, 36, 37] [0, 1, 2, 3, 4, 5, 6, 7, 8, 9, 10, 11, 12, 13, 14, 15, 16, 17, 18, 19, 20, 21, 22, 23, 24, 25, 26, 27, 28, 29, 30, 31, 32, 33, 34, 35, 36, 37] rfl rfl rfl (by decide) ⟨Nat.le_of_ble_eq_true rfl, Nat.le_of_ble_eq_true rfl⟩ (fun q9 ce H locs hP hD hS h1 h2 h3 => ?_)
  exact finx _ _ _ _ _ _ _ _ _ hP hD hS (Nat.le_of_ble_eq_true rfl) (Nat.le_of_ble_eq_true rfl) h1 h2 h3

set_option maxHeartbeats 4000000 in
set_option maxRecDepth 100000 in
theorem c_X4_station_x2 (l : Launch) (hlt : l.stackTraces = false) (D : va_G) (cI : ClassId) (o : Nat) (g a b : Nat → Nat) (r u v : Rc) (ok : Ok u) (s9 : Nat) (hs : s9 < 8) (x : Int32) (ex : x = nI s9) (y : Int32) (h : y < 0 ∨ 3 ≤ y) : CX l yX4_station wsX4_station ({ frames := 7, cells := 1, slots := 6, locals := 130 } : Room) D cI [.ref o, .int x, .int y] (wX cI o g a b r u v) "java/lang/IndexOutOfBoundsException" := by
  refine CX.mk (cc := cX4_station) (maxL := 3) (ret := (some .int)) hlt (by decide) rfl rfl (Nat.le_of_ble_eq_true rfl) ?_
  intro p e s m args below meth c A Q ls hx hb hts hown hml hK hN hT hA hP hD hS hl finx fint
  have hown : s.vm.findClass RX4 = some m.cls := hown
  subst ex
  have hl : lv_has ls 3 [(0, .ref o), (1, .int (nI s9)), (2, .int y)] := hl
  refine lv_iload_n hx hb dX4_station_0 rfl (lv_at hl 1 rfl) ?_
  refine lv_bipush (v := 8) hx hb dX4_station_1 (by decide) ?_
  refine ycallv (invS (As := [.int (nI s9), .int 8]) (rest := []) (rm := ({ frames := 0, cells := 0, slots := 0, locals := 0 } : Room)) ⟨hx, hb, hml, hown, hts⟩ (va_cwS 2 hts gX4_station_X4_checkIndex rfl rfl rfl (by decide +kernel) ⟨Nat.le_of_ble_eq_true rfl, Nat.le_of_ble_eq_true rfl⟩) rfl rfl hl.1 (Nat.le_of_ble_eq_true rfl) dX4_station_3) (c_X4_checkIndex l D cI (nI s9) (8) (ci1 (j := s9) rfl (by omega)) (ci2 (j := s9) (N := 8) rfl (show (8 : Int32) = nI 8 from rfl) (by omega) (by omega))) hK hN hA hP hD hS (W2 := wX cI o g a b r u v) [] [0, 1, 2, 3, 4, 5, 6, 7, 8, 9, 10, 11, 12, 13, 14, 15, 16, 17, 18, 19, 20, 21, 22, 23, 24, 25, 26, 27, 28, 29, 30, 31, 32, 33, 34, 35, 36, 37] [0, 1, 2, 3, 4, 5, 6, 7, 8, 9, 10, 11, 12, 13, 14, 15, 16, 17, 18, 19, 20, 21, 22, 23, 24, 25, 26, 27, 28, 29, 30, 31, 32, 33, 34, 35, 36, 37] rfl rfl rfl (by decide) ⟨Nat.le_of_ble_eq_true rfl, Nat.le_of_ble_eq_true rfl⟩ (fun H locs hP hD hS => ?_)
  refine lv_iload_n hx hb dX4_station_6 rfl (lv_at hl 2 rfl) ?_
  refine lv_iconst (v := 3) hx hb dX4_station_7 (by decide) ?_
  refine ycallx (invXS (As := [.int y, .int 3]) (rest := []) (rm := ({ frames := 6, cells := 1, slots := 6, locals := 100 } : Room)) ⟨hx, hb, hml, hown, hts⟩ (va_cwS 2 hts gX4_station_X4_checkIndex rfl rfl rfl (by decide +kernel) ⟨Nat.le_of_ble_eq_true rfl, Nat.le_of_ble_eq_true rfl⟩) rfl rfl hl.1 (Nat.le_of_ble_eq_true rfl) dX4_station_8) (c_X4_checkIndex_x l hlt D cI (y) (3) h) hK hN hT hA hP hD hS [] [0, 1, 2, 3, 4, 5, 6, 7, 8, 9, 10, 11, 12, 13, 14, 15, 16, 17, 18, 19, 20, 21, 22, 23, 24, 25, 26, 27, 28, 29, 30, 31, 32, 33, 34, 35, 36, 37] [0, 1, 2, 3, 4, 5, 6, 7, 8, 9, 10, 11, 12, 13, 14, 15, 16, 17, 18, 19, 20, 21, 22, 23, 24, 25, 26, 27, 28, 29, 30, 31, 32, 33, 34, 35, 36, 37] rfl rfl rfl (by decide) ⟨Nat.le_of_ble_eq_true rfl, Nat.le_of_ble_eq_true rfl⟩ (fun q9 ce H locs hP hD hS h1 h2 h3 => ?_)
  exact finx _ _ _ _ _ _ _ _ _ hP hD hS (Nat.le_of_ble_eq_true rfl) (Nat.le_of_ble_eq_true rfl) h1 h2 h3

set_option maxHeartbeats 4000000 in
set_option maxRecDepth 100000 in
theorem c_X4_count (l : Launch) (D : va_G) (cI : ClassId) (o : Nat) (g a b : Nat → Nat) (r u v : Rc) (ok : Ok u) (w : Nat) (hw : w < 10) (x : Int32) (ex : x = nI w) : CI l yX4_count wsX4_count ({ frames := 1, cells := 0, slots := 0, locals := 22 } : Room) D cI [.ref o, .int x] (wX cI o g a b r u v) (cntF r u w) (wX cI o g a b r u v) := by
  refine CI.mk (cc := cX4_count) (maxL := 2) (ret := (some .int)) rfl rfl (by decide) rfl (Nat.le_of_ble_eq_true rfl) ?_
  intro p e s m args below meth c A Q ls hx hb hts hown hml hK hN hA hP hD hS hl fin
  have hown : s.vm.findClass RX4 = some m.cls := hown
  subst ex
  have hl : lv_has ls 2 [(0, .ref o), (1, .int (nI w))] := hl
  have f17 := hts (.fieldLink RX4 17 "NightSorters" "train" "LNightSorters$Train;") (by decide +kernel)
  have f32 := hts (.fieldLink RX4 32 "NightSorters$Train" "line" "LNightSorters$Line;") (by decide +kernel)
  have f36 := hts (.fieldLink RX4 36 "NightSorters$Train" "minute" "I") (by decide +kernel)
  have f58 := hts (.fieldLink RX4 58 "NightSorters$Train" "mail" "LNightSorters$Mail;") (by decide +kernel)
  have f62 := hts (.fieldLink RX4 62 "NightSorters$Mail" "size" "I") (by decide +kernel)
  have f74 := hts (.fieldLink RX4 74 "NightSorters$Train" "crew" "LNightSorters$Crew;") (by decide +kernel)
  have f78 := hts (.fieldLink RX4 78 "NightSorters$Crew" "size" "I") (by decide +kernel)
  have f109 := hts (.fieldLink RX4 109 "NightSorters$Mail" "inPlace" "[I") (by decide +kernel)
  have inX0 : ∀ w ∈ wsX00, w ∈ wsX4_count := by decide +kernel
  have inX2 : ∀ w ∈ wsX20, w ∈ wsX4_count := by decide +kernel
  have inX3 : ∀ w ∈ wsX30, w ∈ wsX4_count := by decide +kernel
  have inX4 : ∀ w ∈ wsX40, w ∈ wsX4_count := by decide +kernel
  refine lv_iload_n hx hb dX4_count_0 rfl (lv_at hl 1 rfl) ?_
  refine lv_bipush (v := 10) hx hb dX4_count_1 (by decide) ?_
  refine ycallv (invS (As := [.int (nI w), .int 10]) (rest := []) (rm := ({ frames := 0, cells := 0, slots := 0, locals := 0 } : Room)) ⟨hx, hb, hml, hown, hts⟩ (va_cwS 2 hts gX4_count_X4_checkIndex rfl rfl rfl (by decide +kernel) ⟨Nat.le_of_ble_eq_true rfl, Nat.le_of_ble_eq_true rfl⟩) rfl rfl hl.1 (Nat.le_of_ble_eq_true rfl) dX4_count_3) (c_X4_checkIndex l D cI (nI w) (10) (ci1 (j := w) rfl (by omega)) (ci2 (j := w) (N := 10) rfl (show (10 : Int32) = nI 10 from rfl) (by omega) (by omega))) hK hN hA hP hD hS (W2 := wX cI o g a b r u v) [] [0, 1, 2, 3, 4, 5, 6, 7, 8, 9, 10, 11, 12, 13, 14, 15, 16, 17, 18, 19, 20, 21, 22, 23, 24, 25, 26, 27, 28, 29, 30, 31, 32, 33, 34, 35, 36, 37] [0, 1, 2, 3, 4, 5, 6, 7, 8, 9, 10, 11, 12, 13, 14, 15, 16, 17, 18, 19, 20, 21, 22, 23, 24, 25, 26, 27, 28, 29, 30, 31, 32, 33, 34, 35, 36, 37] rfl rfl rfl (by decide) ⟨Nat.le_of_ble_eq_true rfl, Nat.le_of_ble_eq_true rfl⟩ (fun H locs hP hD hS => ?_)
  refine lv_iload_n hx hb dX4_count_6 rfl (lv_at hl 1 rfl) ?_
  have ht7 : w = 0 ∨ w = 1 ∨ w = 2 ∨ w = 3 ∨ w = 4 ∨ w = 5 ∨ w = 6 ∨ w = 7 ∨ w = 8 ∨ w = 9 := by omega
  rcases ht7 with rfl | rfl | rfl | rfl | rfl | rfl | rfl | rfl | rfl | rfl
  · skip
    refine lv_tableIn (off := 53) (tgt := 60) hx hb dX4_count_7 (by decide) (by decide) (by decide) (by decide) ?_
    refine lv_aload_n hx hb dX4_count_60 rfl (lv_at hl 0 rfl) ?_
    refine va_get (D := D) (ci := 4) (v := .ref (a 30)) (C := RX4) (T := TX4) (N := 2) hx hb hts inX4 hown hK hP 0 rfl rfl 0 (by decide) f17 (fun _ h9 => h9) rfl dX4_count_61 ?_
    refine va_get (D := D) (ci := 3) (v := .int (u 30 0)) (C := RX3) (T := TX3) (N := 4) hx hb hts inX3 hown hK hP 1 rfl rfl 3 (by decide) f36 (fun _ h9 => h9) rfl dX4_count_64 ?_
    exact fin _ _ _ _ _ _ _ _ (by rfl) rfl hP hD hS (Nat.le_of_ble_eq_true rfl) (Nat.le_of_ble_eq_true rfl) dX4_count_67
  · skip
    refine lv_tableIn (off := 61) (tgt := 68) hx hb dX4_count_7 (by decide) (by decide) (by decide) (by decide) ?_
    refine lv_aload_n hx hb dX4_count_68 rfl (lv_at hl 0 rfl) ?_
    refine va_get (D := D) (ci := 4) (v := .ref (a 30)) (C := RX4) (T := TX4) (N := 2) hx hb hts inX4 hown hK hP 0 rfl rfl 0 (by decide) f17 (fun _ h9 => h9) rfl dX4_count_69 ?_
    refine va_get (D := D) (ci := 3) (v := .ref (a 0)) (C := RX3) (T := TX3) (N := 4) hx hb hts inX3 hown hK hP 1 rfl rfl 1 (by decide) f58 (fun _ h9 => h9) rfl dX4_count_72 ?_
    refine va_get (D := D) (ci := 2) (v := .int (u 0 0)) (C := RX2) (T := TX2) (N := 8) hx hb hts inX2 hown hK hP 2 rfl rfl 0 (by decide) f62 (fun _ h9 => h9) rfl dX4_count_75 ?_
    exact fin _ _ _ _ _ _ _ _ (by rfl) rfl hP hD hS (Nat.le_of_ble_eq_true rfl) (Nat.le_of_ble_eq_true rfl) dX4_count_78
  · skip
    refine lv_tableIn (off := 72) (tgt := 79) hx hb dX4_count_7 (by decide) (by decide) (by decide) (by decide) ?_
    refine lv_aload_n hx hb dX4_count_79 rfl (lv_at hl 0 rfl) ?_
    refine va_get (D := D) (ci := 4) (v := .ref (a 30)) (C := RX4) (T := TX4) (N := 2) hx hb hts inX4 hown hK hP 0 rfl rfl 0 (by decide) f17 (fun _ h9 => h9) rfl dX4_count_80 ?_
    refine va_get (D := D) (ci := 3) (v := .ref (a 10)) (C := RX3) (T := TX3) (N := 4) hx hb hts inX3 hown hK hP 1 rfl rfl 2 (by decide) f74 (fun _ h9 => h9) rfl dX4_count_83 ?_
    refine va_get (D := D) (ci := 0) (v := .int (u 10 0)) (C := RX0) (T := TX0) (N := 8) hx hb hts inX0 hown hK hP 10 rfl rfl 0 (by decide) f78 (fun _ h9 => h9) rfl dX4_count_86 ?_
    exact fin _ _ _ _ _ _ _ _ (by rfl) rfl hP hD hS (Nat.le_of_ble_eq_true rfl) (Nat.le_of_ble_eq_true rfl) dX4_count_89
  · skip
    refine lv_tableIn (off := 101) (tgt := 108) hx hb dX4_count_7 (by decide) (by decide) (by decide) (by decide) ?_
    refine lv_aload_n hx hb dX4_count_108 rfl (lv_at hl 0 rfl) ?_
    refine va_get (D := D) (ci := 4) (v := .ref (a 30)) (C := RX4) (T := TX4) (N := 2) hx hb hts inX4 hown hK hP 0 rfl rfl 0 (by decide) f17 (fun _ h9 => h9) rfl dX4_count_109 ?_
    refine va_get (D := D) (ci := 3) (v := .ref (a 0)) (C := RX3) (T := TX3) (N := 4) hx hb hts inX3 hown hK hP 1 rfl rfl 1 (by decide) f58 (fun _ h9 => h9) rfl dX4_count_112 ?_
    refine va_get (D := D) (ci := 2) (v := .ref (a 6)) (C := RX2) (T := TX2) (N := 8) hx hb hts inX2 hown hK hP 2 rfl rfl 6 (by decide) f109 (fun _ h9 => h9) rfl dX4_count_115 ?_
    refine lv_iload_n hx hb dX4_count_118 rfl (lv_at hl 1 rfl) ?_
    refine lv_iconst (v := 3) hx hb dX4_count_119 (by decide) ?_
    refine lv_isub hx hb dX4_count_120 ?_
    refine xald hx hb hK hP 8 rfl rfl (3 - 3) (by decide) (by decide) (by decide) dX4_count_121 ?_
    exact fin _ _ _ _ _ _ _ _ (by rfl) rfl hP hD hS (Nat.le_of_ble_eq_true rfl) (Nat.le_of_ble_eq_true rfl) dX4_count_122
  · skip
    refine lv_tableIn (off := 101) (tgt := 108) hx hb dX4_count_7 (by decide) (by decide) (by decide) (by decide) ?_
    refine lv_aload_n hx hb dX4_count_108 rfl (lv_at hl 0 rfl) ?_
    refine va_get (D := D) (ci := 4) (v := .ref (a 30)) (C := RX4) (T := TX4) (N := 2) hx hb hts inX4 hown hK hP 0 rfl rfl 0 (by decide) f17 (fun _ h9 => h9) rfl dX4_count_109 ?_
    refine va_get (D := D) (ci := 3) (v := .ref (a 0)) (C := RX3) (T := TX3) (N := 4) hx hb hts inX3 hown hK hP 1 rfl rfl 1 (by decide) f58 (fun _ h9 => h9) rfl dX4_count_112 ?_
    refine va_get (D := D) (ci := 2) (v := .ref (a 6)) (C := RX2) (T := TX2) (N := 8) hx hb hts inX2 hown hK hP 2 rfl rfl 6 (by decide) f109 (fun _ h9 => h9) rfl dX4_count_115 ?_
    refine lv_iload_n hx hb dX4_count_118 rfl (lv_at hl 1 rfl) ?_
    refine lv_iconst (v := 3) hx hb dX4_count_119 (by decide) ?_
    refine lv_isub hx hb dX4_count_120 ?_
    refine xald hx hb hK hP 8 rfl rfl (4 - 3) (by decide) (by decide) (by decide) dX4_count_121 ?_
    exact fin _ _ _ _ _ _ _ _ (by rfl) rfl hP hD hS (Nat.le_of_ble_eq_true rfl) (Nat.le_of_ble_eq_true rfl) dX4_count_122
  · skip
    refine lv_tableIn (off := 101) (tgt := 108) hx hb dX4_count_7 (by decide) (by decide) (by decide) (by decide) ?_
    refine lv_aload_n hx hb dX4_count_108 rfl (lv_at hl 0 rfl) ?_
    refine va_get (D := D) (ci := 4) (v := .ref (a 30)) (C := RX4) (T := TX4) (N := 2) hx hb hts inX4 hown hK hP 0 rfl rfl 0 (by decide) f17 (fun _ h9 => h9) rfl dX4_count_109 ?_
    refine va_get (D := D) (ci := 3) (v := .ref (a 0)) (C := RX3) (T := TX3) (N := 4) hx hb hts inX3 hown hK hP 1 rfl rfl 1 (by decide) f58 (fun _ h9 => h9) rfl dX4_count_112 ?_
    refine va_get (D := D) (ci := 2) (v := .ref (a 6)) (C := RX2) (T := TX2) (N := 8) hx hb hts inX2 hown hK hP 2 rfl rfl 6 (by decide) f109 (fun _ h9 => h9) rfl dX4_count_115 ?_
    refine lv_iload_n hx hb dX4_count_118 rfl (lv_at hl 1 rfl) ?_
    refine lv_iconst (v := 3) hx hb dX4_count_119 (by decide) ?_
    refine lv_isub hx hb dX4_count_120 ?_
    refine xald hx hb hK hP 8 rfl rfl (5 - 3) (by decide) (by decide) (by decide) dX4_count_121 ?_
    exact fin _ _ _ _ _ _ _ _ (by rfl) rfl hP hD hS (Nat.le_of_ble_eq_true rfl) (Nat.le_of_ble_eq_true rfl) dX4_count_122
  · skip
    refine lv_tableIn (off := 101) (tgt := 108) hx hb dX4_count_7 (by decide) (by decide) (by decide) (by decide) ?_
    refine lv_aload_n hx hb dX4_count_108 rfl (lv_at hl 0 rfl) ?_
    refine va_get (D := D) (ci := 4) (v := .ref (a 30)) (C := RX4) (T := TX4) (N := 2) hx hb hts inX4 hown hK hP 0 rfl rfl 0 (by decide) f17 (fun _ h9 => h9) rfl dX4_count_109 ?_
    refine va_get (D := D) (ci := 3) (v := .ref (a 0)) (C := RX3) (T := TX3) (N := 4) hx hb hts inX3 hown hK hP 1 rfl rfl 1 (by decide) f58 (fun _ h9 => h9) rfl dX4_count_112 ?_
    refine va_get (D := D) (ci := 2) (v := .ref (a 6)) (C := RX2) (T := TX2) (N := 8) hx hb hts inX2 hown hK hP 2 rfl rfl 6 (by decide) f109 (fun _ h9 => h9) rfl dX4_count_115 ?_
    refine lv_iload_n hx hb dX4_count_118 rfl (lv_at hl 1 rfl) ?_
    refine lv_iconst (v := 3) hx hb dX4_count_119 (by decide) ?_
    refine lv_isub hx hb dX4_count_120 ?_
    refine xald hx hb hK hP 8 rfl rfl (6 - 3) (by decide) (by decide) (by decide) dX4_count_121 ?_
    exact fin _ _ _ _ _ _ _ _ (by rfl) rfl hP hD hS (Nat.le_of_ble_eq_true rfl) (Nat.le_of_ble_eq_true rfl) dX4_count_122
  · skip
    refine lv_tableIn (off := 101) (tgt := 108) hx hb dX4_count_7 (by decide) (by decide) (by decide) (by decide) ?_
    refine lv_aload_n hx hb dX4_count_108 rfl (lv_at hl 0 rfl) ?_
    refine va_get (D := D) (ci := 4) (v := .ref (a 30)) (C := RX4) (T := TX4) (N := 2) hx hb hts inX4 hown hK hP 0 rfl rfl 0 (by decide) f17 (fun _ h9 => h9) rfl dX4_count_109 ?_
    refine va_get (D := D) (ci := 3) (v := .ref (a 0)) (C := RX3) (T := TX3) (N := 4) hx hb hts inX3 hown hK hP 1 rfl rfl 1 (by decide) f58 (fun _ h9 => h9) rfl dX4_count_112 ?_
    refine va_get (D := D) (ci := 2) (v := .ref (a 6)) (C := RX2) (T := TX2) (N := 8) hx hb hts inX2 hown hK hP 2 rfl rfl 6 (by decide) f109 (fun _ h9 => h9) rfl dX4_count_115 ?_
    refine lv_iload_n hx hb dX4_count_118 rfl (lv_at hl 1 rfl) ?_
    refine lv_iconst (v := 3) hx hb dX4_count_119 (by decide) ?_
    refine lv_isub hx hb dX4_count_120 ?_
    refine xald hx hb hK hP 8 rfl rfl (7 - 3) (by decide) (by decide) (by decide) dX4_count_121 ?_
    exact fin _ _ _ _ _ _ _ _ (by rfl) rfl hP hD hS (Nat.le_of_ble_eq_true rfl) (Nat.le_of_ble_eq_true rfl) dX4_count_122
  · skip
    refine lv_tableIn (off := 101) (tgt := 108) hx hb dX4_count_7 (by decide) (by decide) (by decide) (by decide) ?_
    refine lv_aload_n hx hb dX4_count_108 rfl (lv_at hl 0 rfl) ?_
    refine va_get (D := D) (ci := 4) (v := .ref (a 30)) (C := RX4) (T := TX4) (N := 2) hx hb hts inX4 hown hK hP 0 rfl rfl 0 (by decide) f17 (fun _ h9 => h9) rfl dX4_count_109 ?_
    refine va_get (D := D) (ci := 3) (v := .ref (a 0)) (C := RX3) (T := TX3) (N := 4) hx hb hts inX3 hown hK hP 1 rfl rfl 1 (by decide) f58 (fun _ h9 => h9) rfl dX4_count_112 ?_
    refine va_get (D := D) (ci := 2) (v := .ref (a 6)) (C := RX2) (T := TX2) (N := 8) hx hb hts inX2 hown hK hP 2 rfl rfl 6 (by decide) f109 (fun _ h9 => h9) rfl dX4_count_115 ?_
    refine lv_iload_n hx hb dX4_count_118 rfl (lv_at hl 1 rfl) ?_
    refine lv_iconst (v := 3) hx hb dX4_count_119 (by decide) ?_
    refine lv_isub hx hb dX4_count_120 ?_
    refine xald hx hb hK hP 8 rfl rfl (8 - 3) (by decide) (by decide) (by decide) dX4_count_121 ?_
    exact fin _ _ _ _ _ _ _ _ (by rfl) rfl hP hD hS (Nat.le_of_ble_eq_true rfl) (Nat.le_of_ble_eq_true rfl) dX4_count_122
  · skip
    refine lv_tableIn (off := 83) (tgt := 90) hx hb dX4_count_7 (by decide) (by decide) (by decide) (by decide) ?_
    refine lv_aload_n hx hb dX4_count_90 rfl (lv_at hl 0 rfl) ?_
    refine va_get (D := D) (ci := 4) (v := .ref (a 30)) (C := RX4) (T := TX4) (N := 2) hx hb hts inX4 hown hK hP 0 rfl rfl 0 (by decide) f17 (fun _ h9 => h9) rfl dX4_count_91 ?_
    refine va_get (D := D) (ci := 3) (v := .ref (g 0)) (C := RX3) (T := TX3) (N := 4) hx hb hts inX3 hown hK hP 1 rfl rfl 0 (by decide) f32 (fun _ h9 => h9) rfl dX4_count_94 ?_
    refine lv_aload_n hx hb dX4_count_97 rfl (lv_at hl 0 rfl) ?_
    refine va_get (D := D) (ci := 4) (v := .ref (a 30)) (C := RX4) (T := TX4) (N := 2) hx hb hts inX4 hown hK hP 0 rfl rfl 0 (by decide) f17 (fun _ h9 => h9) rfl dX4_count_98 ?_
    refine va_get (D := D) (ci := 3) (v := .int (u 30 0)) (C := RX3) (T := TX3) (N := 4) hx hb hts inX3 hown hK hP 1 rfl rfl 3 (by decide) f36 (fun _ h9 => h9) rfl dX4_count_101 ?_
    refine ycalli (invV (As := [.int (u 30 0)]) (rest := []) (rm := ({ frames := 0, cells := 0, slots := 0, locals := 0 } : Room)) ⟨hx, hb, hml, hown, hts⟩ (cwV 1 hts gX4_count_X1_nextFrom rfl rfl rfl (by decide +kernel) ⟨Nat.le_of_ble_eq_true rfl, Nat.le_of_ble_eq_true rfl⟩) (va_recv hK hP (ci := 1) (q0 := 18) rfl rfl) rfl rfl hl.1 (Nat.le_of_ble_eq_true rfl) dX4_count_104) (c_X1_nextFrom l D cI g r (u 30 0)) hK hN hA hP hD hS (W2 := wX cI o g a b r u v) [18, 19, 20] [0, 1, 2, 3, 4, 5, 6, 7, 8, 9, 10, 11, 12, 13, 14, 15, 16, 17, 21, 22, 23, 24, 25, 26, 27, 28, 29, 30, 31, 32, 33, 34, 35, 36, 37] [0, 1, 2, 3, 4, 5, 6, 7, 8, 9, 10, 11, 12, 13, 14, 15, 16, 17, 35, 36, 37, 18, 19, 20, 21, 22, 23, 24, 25, 26, 27, 28, 29, 30, 31, 32, 33, 34] rfl rfl rfl (by decide) ⟨Nat.le_of_ble_eq_true rfl, Nat.le_of_ble_eq_true rfl⟩ (fun H locs hP hD hS => ?_)
    exact fin _ _ _ _ _ _ _ _ (by rfl) rfl hP hD hS (Nat.le_of_ble_eq_true rfl) (Nat.le_of_ble_eq_true rfl) dX4_count_107

set_option maxHeartbeats 4000000 in
set_option maxRecDepth 100000 in
theorem c_X4_count_x1 (l : Launch) (hlt : l.stackTraces = false) (D : va_G) (cI : ClassId) (o : Nat) (g a b : Nat → Nat) (r u v : Rc) (ok : Ok u) (x : Int32) (h : x < 0 ∨ 10 ≤ x) : CX l yX4_count wsX4_count ({ frames := 7, cells := 1, slots := 6, locals := 130 } : Room) D cI [.ref o, .int x] (wX cI o g a b r u v) "java/lang/IndexOutOfBoundsException" := by
  refine CX.mk (cc := cX4_count) (maxL := 2) (ret := (some .int)) hlt (by decide) rfl rfl (Nat.le_of_ble_eq_true rfl) ?_
  intro p e s m args below meth c A Q ls hx hb hts hown hml hK hN hT hA hP hD hS hl finx fint
  have hown : s.vm.findClass RX4 = some m.cls := hown
  have hl : lv_has ls 2 [(0, .ref o), (1, .int x)] := hl
  refine lv_iload_n hx hb dX4_count_0 rfl (lv_at hl 1 rfl) ?_
  refine lv_bipush (v := 10) hx hb dX4_count_1 (by decide) ?_
  refine ycallx (invXS (As := [.int x, .int 10]) (rest := []) (rm := ({ frames := 6, cells := 1, slots := 6, locals := 100 } : Room)) ⟨hx, hb, hml, hown, hts⟩ (va_cwS 2 hts gX4_count_X4_checkIndex rfl rfl rfl (by decide +kernel) ⟨Nat.le_of_ble_eq_true rfl, Nat.le_of_ble_eq_true rfl⟩) rfl rfl hl.1 (Nat.le_of_ble_eq_true rfl) dX4_count_3) (c_X4_checkIndex_x l hlt D cI (x) (10) h) hK hN hT hA hP hD hS [] [0, 1, 2, 3, 4, 5, 6, 7, 8, 9, 10, 11, 12, 13, 14, 15, 16, 17, 18, 19, 20, 21, 22, 23, 24, 25, 26, 27, 28, 29, 30, 31, 32, 33, 34, 35, 36, 37] [0, 1, 2, 3, 4, 5, 6, 7, 8, 9, 10, 11, 12, 13, 14, 15, 16, 17, 18, 19, 20, 21, 22, 23, 24, 25, 26, 27, 28, 29, 30, 31, 32, 33, 34, 35, 36, 37] rfl rfl rfl (by decide) ⟨Nat.le_of_ble_eq_true rfl, Nat.le_of_ble_eq_true rfl⟩ (fun q9 ce H locs hP hD hS h1 h2 h3 => ?_)
  exact finx _ _ _ _ _ _ _ _ _ hP hD hS (Nat.le_of_ble_eq_true rfl) (Nat.le_of_ble_eq_true rfl) h1 h2 h3

set_option maxHeartbeats 4000000 in
set_option maxRecDepth 100000 in
theorem c_X4_pass (l : Launch) (D : va_G) (cI : ClassId) (o : Nat) (g a b : Nat → Nat) (r u v : Rc) (ok : Ok u) (k : Nat) (hk1 : 1 ≤ k) (hk : k ≤ 300) (x : Int32) (ex : x = nI k) : CI l yX4_pass wsX4_pass ({ frames := 6, cells := 0, slots := 0, locals := 135 } : Room) D cI [.ref o, .int x] (wX cI o g a b r u v) (runF r k u 6 4 - u 6 4) (wX cI o g a b r (runF r k u) v) := by
  refine CI.mk (cc := cX4_pass) (maxL := 3) (ret := (some .int)) rfl rfl (by decide) rfl (Nat.le_of_ble_eq_true rfl) ?_
  intro p e s m args below meth c A Q ls hx hb hts hown hml hK hN hA hP hD hS hl fin
  have hown : s.vm.findClass RX4 = some m.cls := hown
  subst ex
  have hl : lv_has ls 3 [(0, .ref o), (1, .int (nI k))] := hl
  have f17 := hts (.fieldLink RX4 17 "NightSorters" "train" "LNightSorters$Train;") (by decide +kernel)
  have f58 := hts (.fieldLink RX4 58 "NightSorters$Train" "mail" "LNightSorters$Mail;") (by decide +kernel)
  have f109 := hts (.fieldLink RX4 109 "NightSorters$Mail" "inPlace" "[I") (by decide +kernel)
  have inX2 : ∀ w ∈ wsX20, w ∈ wsX4_pass := by decide +kernel
  have inX3 : ∀ w ∈ wsX30, w ∈ wsX4_pass := by decide +kernel
  have inX4 : ∀ w ∈ wsX40, w ∈ wsX4_pass := by decide +kernel
  refine lv_iload_n hx hb dX4_pass_0 rfl (lv_at hl 1 rfl) ?_
  refine lv_iconst (v := 1) hx hb dX4_pass_1 (by decide) ?_
  refine lv_sipush (v := 300) hx hb dX4_pass_2 (by decide) ?_
  refine ycallv (invS (As := [.int (nI k), .int 1, .int 300]) (rest := []) (rm := ({ frames := 0, cells := 0, slots := 0, locals := 0 } : Room)) ⟨hx, hb, hml, hown, hts⟩ (va_cwS 3 hts gX4_pass_X4_checkArgument rfl rfl rfl (by decide +kernel) ⟨Nat.le_of_ble_eq_true rfl, Nat.le_of_ble_eq_true rfl⟩) rfl rfl hl.1 (Nat.le_of_ble_eq_true rfl) dX4_pass_5) (c_X4_checkArgument l D cI (nI k) (1) (300) (ci3 (j := k) (N := 1) rfl rfl hk1 (by omega)) (ci4 (j := k) (N := 300) rfl (show (300 : Int32) = nI 300 from rfl) hk (by decide))) hK hN hA hP hD hS (W2 := wX cI o g a b r u v) [] [0, 1, 2, 3, 4, 5, 6, 7, 8, 9, 10, 11, 12, 13, 14, 15, 16, 17, 18, 19, 20, 21, 22, 23, 24, 25, 26, 27, 28, 29, 30, 31, 32, 33, 34, 35, 36, 37] [0, 1, 2, 3, 4, 5, 6, 7, 8, 9, 10, 11, 12, 13, 14, 15, 16, 17, 18, 19, 20, 21, 22, 23, 24, 25, 26, 27, 28, 29, 30, 31, 32, 33, 34, 35, 36, 37] rfl rfl rfl (by decide) ⟨Nat.le_of_ble_eq_true rfl, Nat.le_of_ble_eq_true rfl⟩ (fun H locs hP hD hS => ?_)
  refine lv_aload_n hx hb dX4_pass_8 rfl (lv_at hl 0 rfl) ?_
  refine va_get (D := D) (ci := 4) (v := .ref (a 30)) (C := RX4) (T := TX4) (N := 2) hx hb hts inX4 hown hK hP 0 rfl rfl 0 (by decide) f17 (fun _ h9 => h9) rfl dX4_pass_9 ?_
  refine va_get (D := D) (ci := 3) (v := .ref (a 0)) (C := RX3) (T := TX3) (N := 4) hx hb hts inX3 hown hK hP 1 rfl rfl 1 (by decide) f58 (fun _ h9 => h9) rfl dX4_pass_12 ?_
  refine va_get (D := D) (ci := 2) (v := .ref (a 6)) (C := RX2) (T := TX2) (N := 8) hx hb hts inX2 hown hK hP 2 rfl rfl 6 (by decide) f109 (fun _ h9 => h9) rfl dX4_pass_15 ?_
  refine lv_iconst (v := 4) hx hb dX4_pass_18 (by decide) ?_
  refine xald hx hb hK hP 8 rfl rfl (4) (by decide) (by decide) (by decide) dX4_pass_19 ?_
  refine lv_istore_n (lv' := [(2, .int (u 6 4)), (0, .ref o), (1, .int (nI k))]) hx hb dX4_pass_20 rfl hl (by decide) rfl (fun ls hl => ?_)
  refine lv_aload_n hx hb dX4_pass_21 rfl (lv_at hl 1 rfl) ?_
  refine va_get (D := D) (ci := 4) (v := .ref (a 30)) (C := RX4) (T := TX4) (N := 2) hx hb hts inX4 hown hK hP 0 rfl rfl 0 (by decide) f17 (fun _ h9 => h9) rfl dX4_pass_22 ?_
  refine lv_iload_n hx hb dX4_pass_25 rfl (lv_at hl 2 rfl) ?_
  obtain ⟨u1, eu1⟩ : ∃ z0 : Rc, z0 = runF r k u := ⟨_, rfl⟩
  refine ycallv (invV (As := [.int (nI k)]) (rest := []) (rm := ({ frames := 5, cells := 0, slots := 0, locals := 113 } : Room)) ⟨hx, hb, hml, hown, hts⟩ (cwV 1 hts gX4_pass_X3_run rfl rfl rfl (by decide +kernel) ⟨Nat.le_of_ble_eq_true rfl, Nat.le_of_ble_eq_true rfl⟩) (va_recv hK hP (ci := 3) (q0 := 1) rfl rfl) rfl rfl hl.1 (Nat.le_of_ble_eq_true rfl) dX4_pass_26) (c_X3_run l D cI g a r u ok k hk (nI k) rfl) hK hN hA hP hD hS (W2 := wX cI o g a b r u1 v) [1, 2, 3, 4, 5, 6, 7, 8, 9, 10, 11, 12, 13, 14, 15, 16, 17, 18, 19, 20] [0, 21, 22, 23, 24, 25, 26, 27, 28, 29, 30, 31, 32, 33, 34, 35, 36, 37] [0, 18, 19, 20, 21, 22, 23, 24, 25, 26, 27, 28, 29, 30, 31, 32, 33, 34, 35, 36, 37, 1, 2, 3, 4, 5, 6, 7, 8, 9, 10, 11, 12, 13, 14, 15, 16, 17] rfl rfl (by subst eu1; rfl) (by decide) ⟨Nat.le_of_ble_eq_true rfl, Nat.le_of_ble_eq_true rfl⟩ (fun H locs hP hD hS => ?_)
  refine lv_aload_n hx hb dX4_pass_29 rfl (lv_at hl 1 rfl) ?_
  refine va_get (D := D) (ci := 4) (v := .ref (a 30)) (C := RX4) (T := TX4) (N := 2) hx hb hts inX4 hown hK hP 0 rfl rfl 0 (by decide) f17 (fun _ h9 => h9) rfl dX4_pass_30 ?_
  refine va_get (D := D) (ci := 3) (v := .ref (a 0)) (C := RX3) (T := TX3) (N := 4) hx hb hts inX3 hown hK hP 1 rfl rfl 1 (by decide) f58 (fun _ h9 => h9) rfl dX4_pass_33 ?_
  refine va_get (D := D) (ci := 2) (v := .ref (a 6)) (C := RX2) (T := TX2) (N := 8) hx hb hts inX2 hown hK hP 2 rfl rfl 6 (by decide) f109 (fun _ h9 => h9) rfl dX4_pass_36 ?_
  refine lv_iconst (v := 4) hx hb dX4_pass_39 (by decide) ?_
  refine xald hx hb hK hP 8 rfl rfl (4) (by decide) (by decide) (by decide) dX4_pass_40 ?_
  refine lv_iload_n hx hb dX4_pass_41 rfl (lv_at hl 0 rfl) ?_
  refine lv_isub hx hb dX4_pass_42 ?_
  have h2 : u1 = runF r k u := (by (try subst eu1); simp only [↓reduceIte, not_false_eq_true, not_true_eq_false, and_true, true_and, and_false, false_and, or_true, true_or, or_false, false_or, and_self, or_self])
  exact fin _ _ _ _ _ _ _ _ (by (try subst eu1); rfl) (congrArg (fun z9 : Rc => wX cI o g a b r z9 v) h2) hP hD hS (Nat.le_of_ble_eq_true rfl) (Nat.le_of_ble_eq_true rfl) dX4_pass_43

set_option maxHeartbeats 4000000 in
set_option maxRecDepth 100000 in
theorem c_X4_pass_x1 (l : Launch) (hlt : l.stackTraces = false) (D : va_G) (cI : ClassId) (o : Nat) (g a b : Nat → Nat) (r u v : Rc) (ok : Ok u) (x : Int32) (h : x < 1 ∨ 300 < x) : CX l yX4_pass wsX4_pass ({ frames := 7, cells := 1, slots := 6, locals := 130 } : Room) D cI [.ref o, .int x] (wX cI o g a b r u v) "java/lang/IllegalArgumentException" := by
  refine CX.mk (cc := cX4_pass) (maxL := 3) (ret := (some .int)) hlt (by decide) rfl rfl (Nat.le_of_ble_eq_true rfl) ?_
  intro p e s m args below meth c A Q ls hx hb hts hown hml hK hN hT hA hP hD hS hl finx fint
  have hown : s.vm.findClass RX4 = some m.cls := hown
  have hl : lv_has ls 3 [(0, .ref o), (1, .int x)] := hl
  refine lv_iload_n hx hb dX4_pass_0 rfl (lv_at hl 1 rfl) ?_
  refine lv_iconst (v := 1) hx hb dX4_pass_1 (by decide) ?_
  refine lv_sipush (v := 300) hx hb dX4_pass_2 (by decide) ?_
  refine ycallx (invXS (As := [.int x, .int 1, .int 300]) (rest := []) (rm := ({ frames := 6, cells := 1, slots := 6, locals := 100 } : Room)) ⟨hx, hb, hml, hown, hts⟩ (va_cwS 3 hts gX4_pass_X4_checkArgument rfl rfl rfl (by decide +kernel) ⟨Nat.le_of_ble_eq_true rfl, Nat.le_of_ble_eq_true rfl⟩) rfl rfl hl.1 (Nat.le_of_ble_eq_true rfl) dX4_pass_5) (c_X4_checkArgument_x l hlt D cI (x) (1) (300) h) hK hN hT hA hP hD hS [] [0, 1, 2, 3, 4, 5, 6, 7, 8, 9, 10, 11, 12, 13, 14, 15, 16, 17, 18, 19, 20, 21, 22, 23, 24, 25, 26, 27, 28, 29, 30, 31, 32, 33, 34, 35, 36, 37] [0, 1, 2, 3, 4, 5, 6, 7, 8, 9, 10, 11, 12, 13, 14, 15, 16, 17, 18, 19, 20, 21, 22, 23, 24, 25, 26, 27, 28, 29, 30, 31, 32, 33, 34, 35, 36, 37] rfl rfl rfl (by decide) ⟨Nat.le_of_ble_eq_true rfl, Nat.le_of_ble_eq_true rfl⟩ (fun q9 ce H locs hP hD hS h1 h2 h3 => ?_)
  exact finx _ _ _ _ _ _ _ _ _ hP hD hS (Nat.le_of_ble_eq_true rfl) (Nat.le_of_ble_eq_true rfl) h1 h2 h3

set_option maxHeartbeats 4000000 in
set_option maxRecDepth 100000 in
theorem c_X4_arrives (l : Launch) (D : va_G) (cI : ClassId) (o : Nat) (g a b : Nat → Nat) (r u v : Rc) (ok : Ok u) (j : Nat) (hj : j < iv (u 0 0)) (x : Int32) (ex : x = nI j) : CIE l yX4_arrives wsX4_arrives ({ frames := 5, cells := 0, slots := 0, locals := 113 } : Room) D cI [.ref o, .int x] (wX cI o g a b r u v) (arrL r j 301 0 u) (fun v9 => wX cI o g a b r u v9) := by
  refine CIE.mk (cc := cX4_arrives) (maxL := 4) (ret := (some .int)) rfl rfl (by decide) rfl (Nat.le_of_ble_eq_true rfl) ?_
  intro p e s m args below meth c A Q ls hx hb hts hown hml hK hN hA hP hD hS hl fin
  have hown : s.vm.findClass RX4 = some m.cls := hown
  subst ex
  have hn60 := ok.n60
  have hl : lv_has ls 4 [(0, .ref o), (1, .int (nI j))] := hl
  have f17 := hts (.fieldLink RX4 17 "NightSorters" "train" "LNightSorters$Train;") (by decide +kernel)
  have f21 := hts (.fieldLink RX4 21 "NightSorters" "trial" "LNightSorters$Train;") (by decide +kernel)
  have f58 := hts (.fieldLink RX4 58 "NightSorters$Train" "mail" "LNightSorters$Mail;") (by decide +kernel)
  have f62 := hts (.fieldLink RX4 62 "NightSorters$Mail" "size" "I") (by decide +kernel)
  have f120 := hts (.fieldLink RX4 120 "NightSorters$Mail" "place" "[I") (by decide +kernel)
  have inX2 : ∀ w ∈ wsX20, w ∈ wsX4_arrives := by decide +kernel
  have inX3 : ∀ w ∈ wsX30, w ∈ wsX4_arrives := by decide +kernel
  have inX4 : ∀ w ∈ wsX40, w ∈ wsX4_arrives := by decide +kernel
  refine lv_iload_n hx hb dX4_arrives_0 rfl (lv_at hl 1 rfl) ?_
  refine lv_aload_n hx hb dX4_arrives_1 rfl (lv_at hl 0 rfl) ?_
  refine va_get (D := D) (ci := 4) (v := .ref (a 30)) (C := RX4) (T := TX4) (N := 2) hx hb hts inX4 hown hK hP 0 rfl rfl 0 (by decide) f17 (fun _ h9 => h9) rfl dX4_arrives_2 ?_
  refine va_get (D := D) (ci := 3) (v := .ref (a 0)) (C := RX3) (T := TX3) (N := 4) hx hb hts inX3 hown hK hP 1 rfl rfl 1 (by decide) f58 (fun _ h9 => h9) rfl dX4_arrives_5 ?_
  refine va_get (D := D) (ci := 2) (v := .int (u 0 0)) (C := RX2) (T := TX2) (N := 8) hx hb hts inX2 hown hK hP 2 rfl rfl 0 (by decide) f62 (fun _ h9 => h9) rfl dX4_arrives_8 ?_
  refine ycallv (invS (As := [.int (nI j), .int (u 0 0)]) (rest := []) (rm := ({ frames := 0, cells := 0, slots := 0, locals := 0 } : Room)) ⟨hx, hb, hml, hown, hts⟩ (va_cwS 2 hts gX4_arrives_X4_checkIndex rfl rfl rfl (by decide +kernel) ⟨Nat.le_of_ble_eq_true rfl, Nat.le_of_ble_eq_true rfl⟩) rfl rfl hl.1 (Nat.le_of_ble_eq_true rfl) dX4_arrives_11) (c_X4_checkIndex l D cI (nI j) (u 0 0) (ci1 (j := j) rfl (by omega)) (ci2 (j := j) (N := iv (u 0 0)) rfl ok.n (by omega) (by omega))) hK hN hA hP hD hS (W2 := wX cI o g a b r u v) [] [0, 1, 2, 3, 4, 5, 6, 7, 8, 9, 10, 11, 12, 13, 14, 15, 16, 17, 18, 19, 20, 21, 22, 23, 24, 25, 26, 27, 28, 29, 30, 31, 32, 33, 34, 35, 36, 37] [0, 1, 2, 3, 4, 5, 6, 7, 8, 9, 10, 11, 12, 13, 14, 15, 16, 17, 18, 19, 20, 21, 22, 23, 24, 25, 26, 27, 28, 29, 30, 31, 32, 33, 34, 35, 36, 37] rfl rfl rfl (by decide) ⟨Nat.le_of_ble_eq_true rfl, Nat.le_of_ble_eq_true rfl⟩ (fun H locs hP hD hS => ?_)
  refine lv_aload_n hx hb dX4_arrives_14 rfl (lv_at hl 0 rfl) ?_
  refine va_get (D := D) (ci := 4) (v := .ref (b 30)) (C := RX4) (T := TX4) (N := 2) hx hb hts inX4 hown hK hP 0 rfl rfl 1 (by decide) f21 (fun _ h9 => h9) rfl dX4_arrives_15 ?_
  refine lv_aload_n hx hb dX4_arrives_18 rfl (lv_at hl 0 rfl) ?_
  refine va_get (D := D) (ci := 4) (v := .ref (a 30)) (C := RX4) (T := TX4) (N := 2) hx hb hts inX4 hown hK hP 0 rfl rfl 0 (by decide) f17 (fun _ h9 => h9) rfl dX4_arrives_19 ?_
  obtain ⟨u1, eu1⟩ : ∃ z0 : Rc, z0 = u := ⟨_, rfl⟩
  refine ycallv (invV (As := [.ref (a 30)]) (rest := []) (rm := ({ frames := 2, cells := 0, slots := 0, locals := 81 } : Room)) ⟨hx, hb, hml, hown, hts⟩ (cwV 1 hts gX4_arrives_X3_copyFrom rfl rfl rfl (by decide +kernel) ⟨Nat.le_of_ble_eq_true rfl, Nat.le_of_ble_eq_true rfl⟩) (va_recv hK hP (ci := 3) (q0 := 21) rfl rfl) rfl rfl hl.1 (Nat.le_of_ble_eq_true rfl) dX4_arrives_22) (c_X3_copyFrom l D cI g b a v u) hK hN hA hP hD hS (W2 := wX cI o g a b r u u1) [21, 22, 23, 24, 25, 26, 27, 28, 29, 30, 31, 32, 33, 34, 35, 36, 37, 1, 2, 3, 4, 5, 6, 7, 8, 9, 10, 11, 12, 13, 14, 15, 16, 17] [0, 18, 19, 20] [0, 21, 22, 23, 24, 25, 26, 27, 28, 29, 30, 31, 32, 33, 34, 35, 36, 37, 1, 2, 3, 4, 5, 6, 7, 8, 9, 10, 11, 12, 13, 14, 15, 16, 17, 18, 19, 20] rfl rfl (by subst eu1; rfl) (by decide) ⟨Nat.le_of_ble_eq_true rfl, Nat.le_of_ble_eq_true rfl⟩ (fun H locs hP hD hS => ?_)
  rw [eu1] at hP hD
  refine lv_iconst (v := 0) hx hb dX4_arrives_25 (by decide) ?_
  refine lv_istore_n (lv' := [(2, .int 0), (0, .ref o), (1, .int (nI j))]) hx hb dX4_arrives_26 rfl hl (by decide) rfl (fun ls hl => ?_)
  have K27 : ∀ (n27 i27 : Nat), 0 ≤ i27 → i27 ≤ 301 → 301 < i27 + n27 → (arrL r j 301 0 u = arrL r j (301 - i27) i27 (runF r i27 u)) → ∀ (H : Heap) (locs : List Loc), va_P D vwCl (wX cI o g a b r u (runF r i27 u)) H → va_D A (wX cI o g a b r u (runF r i27 u)) → va_S A s.heap H locs → ∀ (ls : Array Slot), lv_has ls 4 [(2, .int (nI i27)), (0, .ref o), (1, .int (nI j))] → W p l e ({ frames := 5, cells := 0, slots := 0, locals := 113 } : Room) s m args below meth c H locs (0 + 0 + 0) (0 + 0 + 0) Q (F0 m 27 ls []) := by
    intro n27
    induction n27 with
    | zero => intro i27 hlo27 hi27 hn27; exact absurd hn27 (by omega)
    | succ n27 ih27 =>
      intro i27 hlo27 hi27 hn27 hv H locs hP hD hS ls hl
      obtain ⟨u2, eu2⟩ : ∃ z : Rc, z = runF r i27 u := ⟨_, rfl⟩
      rw [← eu2] at hP hD
      have okv : Ok u2 := by rw [eu2]; exact runF_pr.ok ok
      refine lv_iload_n hx hb dX4_arrives_27 rfl (lv_at hl 0 rfl) ?_
      refine lv_sipush (v := 300) hx hb dX4_arrives_28 (by decide) ?_
      refine lv_icmp_gt (tgt := 74) hx hb dX4_arrives_31 (by decide) (fun c3 => ?_) (fun c3 => ?_)
      · skip
        have hie : i27 = 301 := lp_gt c3 (by omega)
        refine lv_iconst (v := (-1)) hx hb dX4_arrives_74 (by decide) ?_
        exact fin u2 _ _ _ _ _ _ _ _ (by rw [hv, hie]; rfl) rfl hP hD hS (Nat.le_of_ble_eq_true rfl) (Nat.le_of_ble_eq_true rfl) dX4_arrives_75
      · skip
        have hlt27 : i27 < 301 := by have := Int32.not_lt.mp c3; have h9 := lp_ge this (by omega); omega
        refine lv_aload_n hx hb dX4_arrives_34 rfl (lv_at hl 1 rfl) ?_
        refine va_get (D := D) (ci := 4) (v := .ref (b 30)) (C := RX4) (T := TX4) (N := 2) hx hb hts inX4 hown hK hP 0 rfl rfl 1 (by decide) f21 (fun _ h9 => h9) rfl dX4_arrives_35 ?_
        refine va_get (D := D) (ci := 3) (v := .ref (b 0)) (C := RX3) (T := TX3) (N := 4) hx hb hts inX3 hown hK hP 21 rfl rfl 1 (by decide) f58 (fun _ h9 => h9) rfl dX4_arrives_38 ?_
        refine va_get (D := D) (ci := 2) (v := .ref (b 3)) (C := RX2) (T := TX2) (N := 8) hx hb hts inX2 hown hK hP 22 rfl rfl 3 (by decide) f120 (fun _ h9 => h9) rfl dX4_arrives_41 ?_
        refine lv_iload_n hx hb dX4_arrives_44 rfl (lv_at hl 2 rfl) ?_
        refine xald hx hb hK hP 25 rfl rfl (j) (rfl) (by omega) (by decide) dX4_arrives_45 ?_
        refine lv_istore_n (lv' := [(3, .int (u2 3 j)), (2, .int (nI i27)), (0, .ref o), (1, .int (nI j))]) hx hb dX4_arrives_46 rfl hl (by decide) rfl (fun ls hl => ?_)
        refine lv_iload_n hx hb dX4_arrives_47 rfl (lv_at hl 0 rfl) ?_
        refine lv_iconst (v := 4) hx hb dX4_arrives_48 (by decide) ?_
        refine lv_icmp_ne (tgt := 54) hx hb dX4_arrives_49 (by decide) (fun c4 => ?_) (fun c4 => ?_)
        · skip
          refine lv_iload_n hx hb dX4_arrives_54 rfl (lv_at hl 0 rfl) ?_
          refine lv_iconst (v := 5) hx hb dX4_arrives_55 (by decide) ?_
          refine lv_icmp_ne (tgt := 61) hx hb dX4_arrives_56 (by decide) (fun c5 => ?_) (fun c5 => ?_)
          · skip
            refine lv_aload_n hx hb dX4_arrives_61 rfl (lv_at hl 2 rfl) ?_
            refine va_get (D := D) (ci := 4) (v := .ref (b 30)) (C := RX4) (T := TX4) (N := 2) hx hb hts inX4 hown hK hP 0 rfl rfl 1 (by decide) f21 (fun _ h9 => h9) rfl dX4_arrives_62 ?_
            obtain ⟨u6, eu6⟩ : ∃ z0 : Rc, z0 = minF r u2 := ⟨_, rfl⟩
            refine ycallv (invV (As := []) (rest := []) (rm := ({ frames := 4, cells := 0, slots := 0, locals := 91 } : Room)) ⟨hx, hb, hml, hown, hts⟩ (cwV 0 hts gX4_arrives_X3_runMinute rfl rfl rfl (by decide +kernel) ⟨Nat.le_of_ble_eq_true rfl, Nat.le_of_ble_eq_true rfl⟩) (va_recv hK hP (ci := 3) (q0 := 21) rfl rfl) rfl rfl hl.1 (Nat.le_of_ble_eq_true rfl) dX4_arrives_65) (c_X3_runMinute l D cI g b r u2 okv) hK hN hA hP hD hS (W2 := wX cI o g a b r u u6) [21, 22, 23, 24, 25, 26, 27, 28, 29, 30, 31, 32, 33, 34, 35, 36, 37, 18, 19, 20] [0, 1, 2, 3, 4, 5, 6, 7, 8, 9, 10, 11, 12, 13, 14, 15, 16, 17] [0, 1, 2, 3, 4, 5, 6, 7, 8, 9, 10, 11, 12, 13, 14, 15, 16, 17, 35, 36, 37, 18, 19, 20, 21, 22, 23, 24, 25, 26, 27, 28, 29, 30, 31, 32, 33, 34] rfl rfl (by subst eu6; rfl) (by decide) ⟨Nat.le_of_ble_eq_true rfl, Nat.le_of_ble_eq_true rfl⟩ (fun H locs hP hD hS => ?_)
            refine lv_iinc (v := nI (i27 + 1)) (lv' := [(2, .int (nI (i27 + 1))), (3, .int (u2 3 j)), (0, .ref o), (1, .int (nI j))]) hx hb dX4_arrives_68 hl (k := 1) rfl (nI_inc _) (by decide) rfl (fun ls hl => ?_)
            refine lv_goto (tgt := 27) hx hb dX4_arrives_71 (by decide) ?_
            have h7 : u6 = runF r (i27 + 1) u := by rw [run_s, ← eu2]; (try subst eu6); rfl
            rw [h7] at hP hD
            exact ih27 (i27 + 1) (by omega) (by omega) (by omega) (hv.trans (arr_s hlt27 (by rw [← eu2]; exact c4) (by rw [← eu2]; exact c5))) H locs hP hD hS ls (lv_sub hl [0, 2, 3] rfl)
          · skip
            refine lv_iconst (v := (-1)) hx hb dX4_arrives_59 (by decide) ?_
            exact fin u2 _ _ _ _ _ _ _ _ (by rw [hv, ← eu2]; exact (arr_5 hlt27 c4 c5).symm) rfl hP hD hS (Nat.le_of_ble_eq_true rfl) (Nat.le_of_ble_eq_true rfl) dX4_arrives_60
        · skip
          refine lv_iload_n hx hb dX4_arrives_52 rfl (lv_at hl 1 rfl) ?_
          exact fin u2 _ _ _ _ _ _ _ _ (by rw [hv, ← eu2]; exact (arr_4 hlt27 c4).symm) rfl hP hD hS (Nat.le_of_ble_eq_true rfl) (Nat.le_of_ble_eq_true rfl) dX4_arrives_53
  exact K27 (301 + 1) 0 (Nat.le_refl _) (by omega) (by omega) (rfl) _ _ hP hD hS ls (lv_sub hl [0, 1, 2] rfl)

set_option maxHeartbeats 4000000 in
set_option maxRecDepth 100000 in
theorem c_X4_arrives_x1 (l : Launch) (hlt : l.stackTraces = false) (D : va_G) (cI : ClassId) (o : Nat) (g a b : Nat → Nat) (r u v : Rc) (ok : Ok u) (x : Int32) (h : x < 0 ∨ u 0 0 ≤ x) : CX l yX4_arrives wsX4_arrives ({ frames := 7, cells := 1, slots := 6, locals := 130 } : Room) D cI [.ref o, .int x] (wX cI o g a b r u v) "java/lang/IndexOutOfBoundsException" := by
  refine CX.mk (cc := cX4_arrives) (maxL := 4) (ret := (some .int)) hlt (by decide) rfl rfl (Nat.le_of_ble_eq_true rfl) ?_
  intro p e s m args below meth c A Q ls hx hb hts hown hml hK hN hT hA hP hD hS hl finx fint
  have hown : s.vm.findClass RX4 = some m.cls := hown
  have hl : lv_has ls 4 [(0, .ref o), (1, .int x)] := hl
  have f17 := hts (.fieldLink RX4 17 "NightSorters" "train" "LNightSorters$Train;") (by decide +kernel)
  have f58 := hts (.fieldLink RX4 58 "NightSorters$Train" "mail" "LNightSorters$Mail;") (by decide +kernel)
  have f62 := hts (.fieldLink RX4 62 "NightSorters$Mail" "size" "I") (by decide +kernel)
  have inX2 : ∀ w ∈ wsX20, w ∈ wsX4_arrives := by decide +kernel
  have inX3 : ∀ w ∈ wsX30, w ∈ wsX4_arrives := by decide +kernel
  have inX4 : ∀ w ∈ wsX40, w ∈ wsX4_arrives := by decide +kernel
  refine lv_iload_n hx hb dX4_arrives_0 rfl (lv_at hl 1 rfl) ?_
  refine lv_aload_n hx hb dX4_arrives_1 rfl (lv_at hl 0 rfl) ?_
  refine va_get (D := D) (ci := 4) (v := .ref (a 30)) (C := RX4) (T := TX4) (N := 2) hx hb hts inX4 hown hK hP 0 rfl rfl 0 (by decide) f17 (fun _ h9 => h9) rfl dX4_arrives_2 ?_
  refine va_get (D := D) (ci := 3) (v := .ref (a 0)) (C := RX3) (T := TX3) (N := 4) hx hb hts inX3 hown hK hP 1 rfl rfl 1 (by decide) f58 (fun _ h9 => h9) rfl dX4_arrives_5 ?_
  refine va_get (D := D) (ci := 2) (v := .int (u 0 0)) (C := RX2) (T := TX2) (N := 8) hx hb hts inX2 hown hK hP 2 rfl rfl 0 (by decide) f62 (fun _ h9 => h9) rfl dX4_arrives_8 ?_
  refine ycallx (invXS (As := [.int x, .int (u 0 0)]) (rest := []) (rm := ({ frames := 6, cells := 1, slots := 6, locals := 100 } : Room)) ⟨hx, hb, hml, hown, hts⟩ (va_cwS 2 hts gX4_arrives_X4_checkIndex rfl rfl rfl (by decide +kernel) ⟨Nat.le_of_ble_eq_true rfl, Nat.le_of_ble_eq_true rfl⟩) rfl rfl hl.1 (Nat.le_of_ble_eq_true rfl) dX4_arrives_11) (c_X4_checkIndex_x l hlt D cI (x) (u 0 0) h) hK hN hT hA hP hD hS [] [0, 1, 2, 3, 4, 5, 6, 7, 8, 9, 10, 11, 12, 13, 14, 15, 16, 17, 18, 19, 20, 21, 22, 23, 24, 25, 26, 27, 28, 29, 30, 31, 32, 33, 34, 35, 36, 37] [0, 1, 2, 3, 4, 5, 6, 7, 8, 9, 10, 11, 12, 13, 14, 15, 16, 17, 18, 19, 20, 21, 22, 23, 24, 25, 26, 27, 28, 29, 30, 31, 32, 33, 34, 35, 36, 37] rfl rfl rfl (by decide) ⟨Nat.le_of_ble_eq_true rfl, Nat.le_of_ble_eq_true rfl⟩ (fun q9 ce H locs hP hD hS h1 h2 h3 => ?_)
  exact finx _ _ _ _ _ _ _ _ _ hP hD hS (Nat.le_of_ble_eq_true rfl) (Nat.le_of_ble_eq_true rfl) h1 h2 h3

set_option maxHeartbeats 4000000 in
set_option maxRecDepth 100000 in
theorem c_X4_foresee (l : Launch) (D : va_G) (cI : ClassId) (o : Nat) (g a b : Nat → Nat) (r u v : Rc) (ok : Ok u) (k : Nat) (hk1 : 1 ≤ k) (hk : k ≤ 300) (x : Int32) (ex : x = nI k) (w : Nat) (hw3 : 3 ≤ w) (hw : w ≤ 8) (y : Int32) (ey : y = nI w) : CIE l yX4_foresee wsX4_foresee ({ frames := 6, cells := 0, slots := 0, locals := 135 } : Room) D cI [.ref o, .int x, .int y] (wX cI o g a b r u v) (runF r k u 6 (w - 3)) (fun v9 => wX cI o g a b r u v9) := by
  refine CIE.mk (cc := cX4_foresee) (maxL := 3) (ret := (some .int)) rfl rfl (by decide) rfl (Nat.le_of_ble_eq_true rfl) ?_
  intro p e s m args below meth c A Q ls hx hb hts hown hml hK hN hA hP hD hS hl fin
  have hown : s.vm.findClass RX4 = some m.cls := hown
  subst ex
  subst ey
  have hl : lv_has ls 3 [(0, .ref o), (1, .int (nI k)), (2, .int (nI w))] := hl
  have f17 := hts (.fieldLink RX4 17 "NightSorters" "train" "LNightSorters$Train;") (by decide +kernel)
  have f21 := hts (.fieldLink RX4 21 "NightSorters" "trial" "LNightSorters$Train;") (by decide +kernel)
  have f58 := hts (.fieldLink RX4 58 "NightSorters$Train" "mail" "LNightSorters$Mail;") (by decide +kernel)
  have f109 := hts (.fieldLink RX4 109 "NightSorters$Mail" "inPlace" "[I") (by decide +kernel)
  have inX2 : ∀ w ∈ wsX20, w ∈ wsX4_foresee := by decide +kernel
  have inX3 : ∀ w ∈ wsX30, w ∈ wsX4_foresee := by decide +kernel
  have inX4 : ∀ w ∈ wsX40, w ∈ wsX4_foresee := by decide +kernel
  refine lv_iload_n hx hb dX4_foresee_0 rfl (lv_at hl 1 rfl) ?_
  refine lv_iconst (v := 1) hx hb dX4_foresee_1 (by decide) ?_
  refine lv_sipush (v := 300) hx hb dX4_foresee_2 (by decide) ?_
  refine ycallv (invS (As := [.int (nI k), .int 1, .int 300]) (rest := []) (rm := ({ frames := 0, cells := 0, slots := 0, locals := 0 } : Room)) ⟨hx, hb, hml, hown, hts⟩ (va_cwS 3 hts gX4_foresee_X4_checkArgument rfl rfl rfl (by decide +kernel) ⟨Nat.le_of_ble_eq_true rfl, Nat.le_of_ble_eq_true rfl⟩) rfl rfl hl.1 (Nat.le_of_ble_eq_true rfl) dX4_foresee_5) (c_X4_checkArgument l D cI (nI k) (1) (300) (ci3 (j := k) (N := 1) rfl rfl hk1 (by omega)) (ci4 (j := k) (N := 300) rfl (show (300 : Int32) = nI 300 from rfl) hk (by decide))) hK hN hA hP hD hS (W2 := wX cI o g a b r u v) [] [0, 1, 2, 3, 4, 5, 6, 7, 8, 9, 10, 11, 12, 13, 14, 15, 16, 17, 18, 19, 20, 21, 22, 23, 24, 25, 26, 27, 28, 29, 30, 31, 32, 33, 34, 35, 36, 37] [0, 1, 2, 3, 4, 5, 6, 7, 8, 9, 10, 11, 12, 13, 14, 15, 16, 17, 18, 19, 20, 21, 22, 23, 24, 25, 26, 27, 28, 29, 30, 31, 32, 33, 34, 35, 36, 37] rfl rfl rfl (by decide) ⟨Nat.le_of_ble_eq_true rfl, Nat.le_of_ble_eq_true rfl⟩ (fun H locs hP hD hS => ?_)
  refine lv_iload_n hx hb dX4_foresee_8 rfl (lv_at hl 2 rfl) ?_
  refine lv_iconst (v := 3) hx hb dX4_foresee_9 (by decide) ?_
  refine lv_icmp_lt (tgt := 19) hx hb dX4_foresee_10 (by decide) (fun c1 => ?_) (fun c1 => ?_)
  · exact absurd c1 (ci3 (j := w) (N := 3) rfl rfl hw3 (by omega))
  · skip
    refine lv_iload_n hx hb dX4_foresee_13 rfl (lv_at hl 2 rfl) ?_
    refine lv_bipush (v := 8) hx hb dX4_foresee_14 (by decide) ?_
    refine lv_icmp_le (tgt := 29) hx hb dX4_foresee_16 (by decide) (fun c2 => ?_) (fun c2 => ?_)
    · skip
      refine lv_aload_n hx hb dX4_foresee_29 rfl (lv_at hl 0 rfl) ?_
      refine va_get (D := D) (ci := 4) (v := .ref (b 30)) (C := RX4) (T := TX4) (N := 2) hx hb hts inX4 hown hK hP 0 rfl rfl 1 (by decide) f21 (fun _ h9 => h9) rfl dX4_foresee_30 ?_
      refine lv_aload_n hx hb dX4_foresee_33 rfl (lv_at hl 0 rfl) ?_
      refine va_get (D := D) (ci := 4) (v := .ref (a 30)) (C := RX4) (T := TX4) (N := 2) hx hb hts inX4 hown hK hP 0 rfl rfl 0 (by decide) f17 (fun _ h9 => h9) rfl dX4_foresee_34 ?_
      obtain ⟨u3, eu3⟩ : ∃ z0 : Rc, z0 = u := ⟨_, rfl⟩
      refine ycallv (invV (As := [.ref (a 30)]) (rest := []) (rm := ({ frames := 2, cells := 0, slots := 0, locals := 81 } : Room)) ⟨hx, hb, hml, hown, hts⟩ (cwV 1 hts gX4_foresee_X3_copyFrom rfl rfl rfl (by decide +kernel) ⟨Nat.le_of_ble_eq_true rfl, Nat.le_of_ble_eq_true rfl⟩) (va_recv hK hP (ci := 3) (q0 := 21) rfl rfl) rfl rfl hl.1 (Nat.le_of_ble_eq_true rfl) dX4_foresee_37) (c_X3_copyFrom l D cI g b a v u) hK hN hA hP hD hS (W2 := wX cI o g a b r u u3) [21, 22, 23, 24, 25, 26, 27, 28, 29, 30, 31, 32, 33, 34, 35, 36, 37, 1, 2, 3, 4, 5, 6, 7, 8, 9, 10, 11, 12, 13, 14, 15, 16, 17] [0, 18, 19, 20] [0, 21, 22, 23, 24, 25, 26, 27, 28, 29, 30, 31, 32, 33, 34, 35, 36, 37, 1, 2, 3, 4, 5, 6, 7, 8, 9, 10, 11, 12, 13, 14, 15, 16, 17, 18, 19, 20] rfl rfl (by subst eu3; rfl) (by decide) ⟨Nat.le_of_ble_eq_true rfl, Nat.le_of_ble_eq_true rfl⟩ (fun H locs hP hD hS => ?_)
      rw [eu3] at hP hD
      refine lv_aload_n hx hb dX4_foresee_40 rfl (lv_at hl 0 rfl) ?_
      refine va_get (D := D) (ci := 4) (v := .ref (b 30)) (C := RX4) (T := TX4) (N := 2) hx hb hts inX4 hown hK hP 0 rfl rfl 1 (by decide) f21 (fun _ h9 => h9) rfl dX4_foresee_41 ?_
      refine lv_iload_n hx hb dX4_foresee_44 rfl (lv_at hl 1 rfl) ?_
      obtain ⟨u4, eu4⟩ : ∃ z0 : Rc, z0 = runF r k u := ⟨_, rfl⟩
      refine ycallv (invV (As := [.int (nI k)]) (rest := []) (rm := ({ frames := 5, cells := 0, slots := 0, locals := 113 } : Room)) ⟨hx, hb, hml, hown, hts⟩ (cwV 1 hts gX4_foresee_X3_run rfl rfl rfl (by decide +kernel) ⟨Nat.le_of_ble_eq_true rfl, Nat.le_of_ble_eq_true rfl⟩) (va_recv hK hP (ci := 3) (q0 := 21) rfl rfl) rfl rfl hl.1 (Nat.le_of_ble_eq_true rfl) dX4_foresee_45) (c_X3_run l D cI g b r u ok k hk (nI k) rfl) hK hN hA hP hD hS (W2 := wX cI o g a b r u u4) [21, 22, 23, 24, 25, 26, 27, 28, 29, 30, 31, 32, 33, 34, 35, 36, 37, 18, 19, 20] [0, 1, 2, 3, 4, 5, 6, 7, 8, 9, 10, 11, 12, 13, 14, 15, 16, 17] [0, 1, 2, 3, 4, 5, 6, 7, 8, 9, 10, 11, 12, 13, 14, 15, 16, 17, 35, 36, 37, 18, 19, 20, 21, 22, 23, 24, 25, 26, 27, 28, 29, 30, 31, 32, 33, 34] rfl rfl (by subst eu4; rfl) (by decide) ⟨Nat.le_of_ble_eq_true rfl, Nat.le_of_ble_eq_true rfl⟩ (fun H locs hP hD hS => ?_)
      refine lv_aload_n hx hb dX4_foresee_48 rfl (lv_at hl 0 rfl) ?_
      refine va_get (D := D) (ci := 4) (v := .ref (b 30)) (C := RX4) (T := TX4) (N := 2) hx hb hts inX4 hown hK hP 0 rfl rfl 1 (by decide) f21 (fun _ h9 => h9) rfl dX4_foresee_49 ?_
      refine va_get (D := D) (ci := 3) (v := .ref (b 0)) (C := RX3) (T := TX3) (N := 4) hx hb hts inX3 hown hK hP 21 rfl rfl 1 (by decide) f58 (fun _ h9 => h9) rfl dX4_foresee_52 ?_
      refine va_get (D := D) (ci := 2) (v := .ref (b 6)) (C := RX2) (T := TX2) (N := 8) hx hb hts inX2 hown hK hP 22 rfl rfl 6 (by decide) f109 (fun _ h9 => h9) rfl dX4_foresee_55 ?_
      refine lv_iload_n hx hb dX4_foresee_58 rfl (lv_at hl 2 rfl) ?_
      refine lv_iconst (v := 3) hx hb dX4_foresee_59 (by decide) ?_
      refine lv_isub hx hb dX4_foresee_60 ?_
      refine xald hx hb hK hP 28 rfl rfl (w - 3) (pk_sub (a := w) (b := 3) hw3) (by omega) (by decide) dX4_foresee_61 ?_
      exact fin u4 _ _ _ _ _ _ _ _ (by (try subst eu4); rfl) rfl hP hD hS (Nat.le_of_ble_eq_true rfl) (Nat.le_of_ble_eq_true rfl) dX4_foresee_62
    · exact absurd (ci4 (j := w) (N := 8) rfl rfl hw (by decide)) c2

set_option maxHeartbeats 4000000 in
set_option maxRecDepth 100000 in
theorem c_X4_foresee_x1 (l : Launch) (hlt : l.stackTraces = false) (D : va_G) (cI : ClassId) (o : Nat) (g a b : Nat → Nat) (r u v : Rc) (ok : Ok u) (x y : Int32) (h : x < 1 ∨ 300 < x) : CX l yX4_foresee wsX4_foresee ({ frames := 7, cells := 1, slots := 6, locals := 130 } : Room) D cI [.ref o, .int x, .int y] (wX cI o g a b r u v) "java/lang/IllegalArgumentException" := by
  refine CX.mk (cc := cX4_foresee) (maxL := 3) (ret := (some .int)) hlt (by decide) rfl rfl (Nat.le_of_ble_eq_true rfl) ?_
  intro p e s m args below meth c A Q ls hx hb hts hown hml hK hN hT hA hP hD hS hl finx fint
  have hown : s.vm.findClass RX4 = some m.cls := hown
  have hl : lv_has ls 3 [(0, .ref o), (1, .int x), (2, .int y)] := hl
  refine lv_iload_n hx hb dX4_foresee_0 rfl (lv_at hl 1 rfl) ?_
  refine lv_iconst (v := 1) hx hb dX4_foresee_1 (by decide) ?_
  refine lv_sipush (v := 300) hx hb dX4_foresee_2 (by decide) ?_
  refine ycallx (invXS (As := [.int x, .int 1, .int 300]) (rest := []) (rm := ({ frames := 6, cells := 1, slots := 6, locals := 100 } : Room)) ⟨hx, hb, hml, hown, hts⟩ (va_cwS 3 hts gX4_foresee_X4_checkArgument rfl rfl rfl (by decide +kernel) ⟨Nat.le_of_ble_eq_true rfl, Nat.le_of_ble_eq_true rfl⟩) rfl rfl hl.1 (Nat.le_of_ble_eq_true rfl) dX4_foresee_5) (c_X4_checkArgument_x l hlt D cI (x) (1) (300) h) hK hN hT hA hP hD hS [] [0, 1, 2, 3, 4, 5, 6, 7, 8, 9, 10, 11, 12, 13, 14, 15, 16, 17, 18, 19, 20, 21, 22, 23, 24, 25, 26, 27, 28, 29, 30, 31, 32, 33, 34, 35, 36, 37] [0, 1, 2, 3, 4, 5, 6, 7, 8, 9, 10, 11, 12, 13, 14, 15, 16, 17, 18, 19, 20, 21, 22, 23, 24, 25, 26, 27, 28, 29, 30, 31, 32, 33, 34, 35, 36, 37] rfl rfl rfl (by decide) ⟨Nat.le_of_ble_eq_true rfl, Nat.le_of_ble_eq_true rfl⟩ (fun q9 ce H locs hP hD hS h1 h2 h3 => ?_)
  exact finx _ _ _ _ _ _ _ _ _ hP hD hS (Nat.le_of_ble_eq_true rfl) (Nat.le_of_ble_eq_true rfl) h1 h2 h3

set_option maxHeartbeats 4000000 in
set_option maxRecDepth 100000 in
theorem c_X4_foresee_x2 (l : Launch) (hlt : l.stackTraces = false) (D : va_G) (cI : ClassId) (o : Nat) (g a b : Nat → Nat) (r u v : Rc) (ok : Ok u) (k : Nat) (hk1 : 1 ≤ k) (hk : k ≤ 300) (x : Int32) (ex : x = nI k) (y : Int32) (h : y < 3 ∨ 8 < y) : CX l yX4_foresee wsX4_foresee ({ frames := 7, cells := 1, slots := 6, locals := 130 } : Room) D cI [.ref o, .int x, .int y] (wX cI o g a b r u v) "java/lang/IndexOutOfBoundsException" := by
  refine CX.mk (cc := cX4_foresee) (maxL := 3) (ret := (some .int)) hlt (by decide) rfl rfl (Nat.le_of_ble_eq_true rfl) ?_
  intro p e s m args below meth c A Q ls hx hb hts hown hml hK hN hT hA hP hD hS hl finx fint
  have hown : s.vm.findClass RX4 = some m.cls := hown
  subst ex
  have hl : lv_has ls 3 [(0, .ref o), (1, .int (nI k)), (2, .int y)] := hl
  refine lv_iload_n hx hb dX4_foresee_0 rfl (lv_at hl 1 rfl) ?_
  refine lv_iconst (v := 1) hx hb dX4_foresee_1 (by decide) ?_
  refine lv_sipush (v := 300) hx hb dX4_foresee_2 (by decide) ?_
  refine ycallv (invS (As := [.int (nI k), .int 1, .int 300]) (rest := []) (rm := ({ frames := 0, cells := 0, slots := 0, locals := 0 } : Room)) ⟨hx, hb, hml, hown, hts⟩ (va_cwS 3 hts gX4_foresee_X4_checkArgument rfl rfl rfl (by decide +kernel) ⟨Nat.le_of_ble_eq_true rfl, Nat.le_of_ble_eq_true rfl⟩) rfl rfl hl.1 (Nat.le_of_ble_eq_true rfl) dX4_foresee_5) (c_X4_checkArgument l D cI (nI k) (1) (300) (ci3 (j := k) (N := 1) rfl rfl hk1 (by omega)) (ci4 (j := k) (N := 300) rfl (show (300 : Int32) = nI 300 from rfl) hk (by decide))) hK hN hA hP hD hS (W2 := wX cI o g a b r u v) [] [0, 1, 2, 3, 4, 5, 6, 7, 8, 9, 10, 11, 12, 13, 14, 15, 16, 17, 18, 19, 20, 21, 22, 23, 24, 25, 26, 27, 28, 29, 30, 31, 32, 33, 34, 35, 36, 37] [0, 1, 2, 3, 4, 5, 6, 7, 8, 9, 10, 11, 12, 13, 14, 15, 16, 17, 18, 19, 20, 21, 22, 23, 24, 25, 26, 27, 28, 29, 30, 31, 32, 33, 34, 35, 36, 37] rfl rfl rfl (by decide) ⟨Nat.le_of_ble_eq_true rfl, Nat.le_of_ble_eq_true rfl⟩ (fun H locs hP hD hS => ?_)
  refine lv_iload_n hx hb dX4_foresee_8 rfl (lv_at hl 2 rfl) ?_
  refine lv_iconst (v := 3) hx hb dX4_foresee_9 (by decide) ?_
  refine lv_icmp_lt (tgt := 19) hx hb dX4_foresee_10 (by decide) (fun c1 => ?_) (fun c1 => ?_)
  · skip
    have hat : ∀ w ∈ (vx_atS RX4 130 "java/lang/IndexOutOfBoundsException" ["java/lang/RuntimeException", "java/lang/Exception"]).filter goodWord, w.before args s = true := by
      intro w hw
      refine hts w ?_
      unfold wsX4_foresee
      simp only [List.mem_cons, List.mem_append, hw, or_true, true_or]
    exact fint _ _ _ _ _ 126 128 130 "what is not 3 to 8" _ _ hP hD hS hl.1 (by decide +kernel) (by decide +kernel) (by decide +kernel) (hts (.classLink RX4 126 "java/lang/IndexOutOfBoundsException") (by decide +kernel)) (hts (.initialized "java/lang/IndexOutOfBoundsException") (by decide +kernel)) hat (by decide +kernel) (by decide +kernel) dX4_foresee_19 dX4_foresee_22 dX4_foresee_23 dX4_foresee_25 dX4_foresee_28 (Nat.le_of_ble_eq_true rfl) (Nat.le_of_ble_eq_true rfl) (Nat.le_of_ble_eq_true rfl) (Nat.le_of_ble_eq_true rfl)
  · skip
    refine lv_iload_n hx hb dX4_foresee_13 rfl (lv_at hl 2 rfl) ?_
    refine lv_bipush (v := 8) hx hb dX4_foresee_14 (by decide) ?_
    refine lv_icmp_le (tgt := 29) hx hb dX4_foresee_16 (by decide) (fun c2 => ?_) (fun c2 => ?_)
    · exact absurd c2 (Int32.not_le.mpr (h.resolve_left c1))
    · skip
      have hat : ∀ w ∈ (vx_atS RX4 130 "java/lang/IndexOutOfBoundsException" ["java/lang/RuntimeException", "java/lang/Exception"]).filter goodWord, w.before args s = true := by
        intro w hw
        refine hts w ?_
        unfold wsX4_foresee
        simp only [List.mem_cons, List.mem_append, hw, or_true, true_or]
      exact fint _ _ _ _ _ 126 128 130 "what is not 3 to 8" _ _ hP hD hS hl.1 (by decide +kernel) (by decide +kernel) (by decide +kernel) (hts (.classLink RX4 126 "java/lang/IndexOutOfBoundsException") (by decide +kernel)) (hts (.initialized "java/lang/IndexOutOfBoundsException") (by decide +kernel)) hat (by decide +kernel) (by decide +kernel) dX4_foresee_19 dX4_foresee_22 dX4_foresee_23 dX4_foresee_25 dX4_foresee_28 (Nat.le_of_ble_eq_true rfl) (Nat.le_of_ble_eq_true rfl) (Nat.le_of_ble_eq_true rfl) (Nat.le_of_ble_eq_true rfl)

set_option maxHeartbeats 4000000 in
set_option maxRecDepth 100000 in
theorem c_X4_deliveredIfAssigned (l : Launch) (D : va_G) (cI : ClassId) (o : Nat) (g a b : Nat → Nat) (r u v : Rc) (ok : Ok u) (s9 : Nat) (hs : s9 < iv (u 10 0)) (x : Int32) (ex : x = nI s9) (y : Int32) (k : Nat) (hk : k ≤ 300) (z : Int32) (ez : z = nI k) : CIE l yX4_deliveredIfAssigned wsX4_deliveredIfAssigned ({ frames := 6, cells := 0, slots := 0, locals := 135 } : Room) D cI [.ref o, .int x, .int y, .int z] (wX cI o g a b r u v) (dIAF r u s9 y k) (fun v9 => wX cI o g a b r u v9) := by
  refine CIE.mk (cc := cX4_deliveredIfAssigned) (maxL := 4) (ret := (some .int)) rfl rfl (by decide) rfl (Nat.le_of_ble_eq_true rfl) ?_
  intro p e s m args below meth c A Q ls hx hb hts hown hml hK hN hA hP hD hS hl fin
  have hown : s.vm.findClass RX4 = some m.cls := hown
  subst ex
  subst ez
  have hk4 := ok.k4
  have hl : lv_has ls 4 [(0, .ref o), (1, .int (nI s9)), (2, .int y), (3, .int (nI k))] := hl
  have f17 := hts (.fieldLink RX4 17 "NightSorters" "train" "LNightSorters$Train;") (by decide +kernel)
  have f21 := hts (.fieldLink RX4 21 "NightSorters" "trial" "LNightSorters$Train;") (by decide +kernel)
  have f58 := hts (.fieldLink RX4 58 "NightSorters$Train" "mail" "LNightSorters$Mail;") (by decide +kernel)
  have f74 := hts (.fieldLink RX4 74 "NightSorters$Train" "crew" "LNightSorters$Crew;") (by decide +kernel)
  have f86 := hts (.fieldLink RX4 86 "NightSorters$Crew" "towns" "[I") (by decide +kernel)
  have f109 := hts (.fieldLink RX4 109 "NightSorters$Mail" "inPlace" "[I") (by decide +kernel)
  have inX0 : ∀ w ∈ wsX00, w ∈ wsX4_deliveredIfAssigned := by decide +kernel
  have inX2 : ∀ w ∈ wsX20, w ∈ wsX4_deliveredIfAssigned := by decide +kernel
  have inX3 : ∀ w ∈ wsX30, w ∈ wsX4_deliveredIfAssigned := by decide +kernel
  have inX4 : ∀ w ∈ wsX40, w ∈ wsX4_deliveredIfAssigned := by decide +kernel
  refine lv_aload_n hx hb dX4_deliveredIfAssigned_0 rfl (lv_at hl 0 rfl) ?_
  refine va_get (D := D) (ci := 4) (v := .ref (b 30)) (C := RX4) (T := TX4) (N := 2) hx hb hts inX4 hown hK hP 0 rfl rfl 1 (by decide) f21 (fun _ h9 => h9) rfl dX4_deliveredIfAssigned_1 ?_
  refine lv_aload_n hx hb dX4_deliveredIfAssigned_4 rfl (lv_at hl 0 rfl) ?_
  refine va_get (D := D) (ci := 4) (v := .ref (a 30)) (C := RX4) (T := TX4) (N := 2) hx hb hts inX4 hown hK hP 0 rfl rfl 0 (by decide) f17 (fun _ h9 => h9) rfl dX4_deliveredIfAssigned_5 ?_
  obtain ⟨u1, eu1⟩ : ∃ z0 : Rc, z0 = u := ⟨_, rfl⟩
  refine ycallv (invV (As := [.ref (a 30)]) (rest := []) (rm := ({ frames := 2, cells := 0, slots := 0, locals := 81 } : Room)) ⟨hx, hb, hml, hown, hts⟩ (cwV 1 hts gX4_deliveredIfAssigned_X3_copyFrom rfl rfl rfl (by decide +kernel) ⟨Nat.le_of_ble_eq_true rfl, Nat.le_of_ble_eq_true rfl⟩) (va_recv hK hP (ci := 3) (q0 := 21) rfl rfl) rfl rfl hl.1 (Nat.le_of_ble_eq_true rfl) dX4_deliveredIfAssigned_8) (c_X3_copyFrom l D cI g b a v u) hK hN hA hP hD hS (W2 := wX cI o g a b r u u1) [21, 22, 23, 24, 25, 26, 27, 28, 29, 30, 31, 32, 33, 34, 35, 36, 37, 1, 2, 3, 4, 5, 6, 7, 8, 9, 10, 11, 12, 13, 14, 15, 16, 17] [0, 18, 19, 20] [0, 21, 22, 23, 24, 25, 26, 27, 28, 29, 30, 31, 32, 33, 34, 35, 36, 37, 1, 2, 3, 4, 5, 6, 7, 8, 9, 10, 11, 12, 13, 14, 15, 16, 17, 18, 19, 20] rfl rfl (by subst eu1; rfl) (by decide) ⟨Nat.le_of_ble_eq_true rfl, Nat.le_of_ble_eq_true rfl⟩ (fun H locs hP hD hS => ?_)
  rw [eu1] at hP hD
  refine lv_aload_n hx hb dX4_deliveredIfAssigned_11 rfl (lv_at hl 0 rfl) ?_
  refine va_get (D := D) (ci := 4) (v := .ref (b 30)) (C := RX4) (T := TX4) (N := 2) hx hb hts inX4 hown hK hP 0 rfl rfl 1 (by decide) f21 (fun _ h9 => h9) rfl dX4_deliveredIfAssigned_12 ?_
  refine va_get (D := D) (ci := 3) (v := .ref (b 10)) (C := RX3) (T := TX3) (N := 4) hx hb hts inX3 hown hK hP 21 rfl rfl 2 (by decide) f74 (fun _ h9 => h9) rfl dX4_deliveredIfAssigned_15 ?_
  refine va_get (D := D) (ci := 0) (v := .ref (b 12)) (C := RX0) (T := TX0) (N := 8) hx hb hts inX0 hown hK hP 30 rfl rfl 2 (by decide) f86 (fun _ h9 => h9) rfl dX4_deliveredIfAssigned_18 ?_
  refine lv_iload_n hx hb dX4_deliveredIfAssigned_21 rfl (lv_at hl 1 rfl) ?_
  refine lv_iload_n hx hb dX4_deliveredIfAssigned_22 rfl (lv_at hl 2 rfl) ?_
  obtain ⟨u2, eu2⟩ : ∃ z0 : Rc, z0 = put u 12 s9 y := ⟨_, rfl⟩
  refine xast hx hb hK hP hD hS 32 rfl rfl (s9) (rfl) (by omega) (by decide) (wX cI o g a b r u u2) (by subst eu2; rfl) dX4_deliveredIfAssigned_23 (fun H locs hP hD hS => ?_)
  have okv : Ok u2 := (by (try subst eu2); exact Ok.ptt ok trivial)
  refine lv_aload_n hx hb dX4_deliveredIfAssigned_24 rfl (lv_at hl 0 rfl) ?_
  refine va_get (D := D) (ci := 4) (v := .ref (b 30)) (C := RX4) (T := TX4) (N := 2) hx hb hts inX4 hown hK hP 0 rfl rfl 1 (by decide) f21 (fun _ h9 => h9) rfl dX4_deliveredIfAssigned_25 ?_
  refine lv_iload_n hx hb dX4_deliveredIfAssigned_28 rfl (lv_at hl 3 rfl) ?_
  obtain ⟨u3, eu3⟩ : ∃ z0 : Rc, z0 = runF r k u2 := ⟨_, rfl⟩
  refine ycallv (invV (As := [.int (nI k)]) (rest := []) (rm := ({ frames := 5, cells := 0, slots := 0, locals := 113 } : Room)) ⟨hx, hb, hml, hown, hts⟩ (cwV 1 hts gX4_deliveredIfAssigned_X3_run rfl rfl rfl (by decide +kernel) ⟨Nat.le_of_ble_eq_true rfl, Nat.le_of_ble_eq_true rfl⟩) (va_recv hK hP (ci := 3) (q0 := 21) rfl rfl) rfl rfl hl.1 (Nat.le_of_ble_eq_true rfl) dX4_deliveredIfAssigned_29) (c_X3_run l D cI g b r u2 okv k hk (nI k) rfl) hK hN hA hP hD hS (W2 := wX cI o g a b r u u3) [21, 22, 23, 24, 25, 26, 27, 28, 29, 30, 31, 32, 33, 34, 35, 36, 37, 18, 19, 20] [0, 1, 2, 3, 4, 5, 6, 7, 8, 9, 10, 11, 12, 13, 14, 15, 16, 17] [0, 1, 2, 3, 4, 5, 6, 7, 8, 9, 10, 11, 12, 13, 14, 15, 16, 17, 35, 36, 37, 18, 19, 20, 21, 22, 23, 24, 25, 26, 27, 28, 29, 30, 31, 32, 33, 34] rfl rfl (by subst eu3; rfl) (by decide) ⟨Nat.le_of_ble_eq_true rfl, Nat.le_of_ble_eq_true rfl⟩ (fun H locs hP hD hS => ?_)
  refine lv_aload_n hx hb dX4_deliveredIfAssigned_32 rfl (lv_at hl 0 rfl) ?_
  refine va_get (D := D) (ci := 4) (v := .ref (b 30)) (C := RX4) (T := TX4) (N := 2) hx hb hts inX4 hown hK hP 0 rfl rfl 1 (by decide) f21 (fun _ h9 => h9) rfl dX4_deliveredIfAssigned_33 ?_
  refine va_get (D := D) (ci := 3) (v := .ref (b 0)) (C := RX3) (T := TX3) (N := 4) hx hb hts inX3 hown hK hP 21 rfl rfl 1 (by decide) f58 (fun _ h9 => h9) rfl dX4_deliveredIfAssigned_36 ?_
  refine va_get (D := D) (ci := 2) (v := .ref (b 6)) (C := RX2) (T := TX2) (N := 8) hx hb hts inX2 hown hK hP 22 rfl rfl 6 (by decide) f109 (fun _ h9 => h9) rfl dX4_deliveredIfAssigned_39 ?_
  refine lv_iconst (v := 4) hx hb dX4_deliveredIfAssigned_42 (by decide) ?_
  refine xald hx hb hK hP 28 rfl rfl (4) (by decide) (by decide) (by decide) dX4_deliveredIfAssigned_43 ?_
  exact fin u3 _ _ _ _ _ _ _ _ (by (try subst eu3); (try subst eu2); rfl) rfl hP hD hS (Nat.le_of_ble_eq_true rfl) (Nat.le_of_ble_eq_true rfl) dX4_deliveredIfAssigned_44

set_option maxHeartbeats 4000000 in
set_option maxRecDepth 100000 in
theorem c_X4_advise (l : Launch) (D : va_G) (cI : ClassId) (o : Nat) (g a b : Nat → Nat) (r u v : Rc) (ok : Ok u) (s9 : Nat) (hs : s9 < iv (u 10 0)) (x : Int32) (ex : x = nI s9) (k : Nat) (hk1 : 1 ≤ k) (hk : k ≤ 120) (y : Int32) (ey : y = nI k) : CIE l yX4_advise wsX4_advise ({ frames := 7, cells := 0, slots := 0, locals := 158 } : Room) D cI [.ref o, .int x, .int y] (wX cI o g a b r u v) ((advS r u s9 k 16).2) (fun v9 => wX cI o g a b r u v9) := by
  refine CIE.mk (cc := cX4_advise) (maxL := 8) (ret := (some .int)) rfl rfl (by decide) rfl (Nat.le_of_ble_eq_true rfl) ?_
  intro p e s m args below meth c A Q ls hx hb hts hown hml hK hN hA hP hD hS hl fin
  have hown : s.vm.findClass RX4 = some m.cls := hown
  subst ex
  subst ey
  have hk4 := ok.k4
  have hl : lv_has ls 8 [(0, .ref o), (1, .int (nI s9)), (2, .int (nI k))] := hl
  have f17 := hts (.fieldLink RX4 17 "NightSorters" "train" "LNightSorters$Train;") (by decide +kernel)
  have f74 := hts (.fieldLink RX4 74 "NightSorters$Train" "crew" "LNightSorters$Crew;") (by decide +kernel)
  have f78 := hts (.fieldLink RX4 78 "NightSorters$Crew" "size" "I") (by decide +kernel)
  have f86 := hts (.fieldLink RX4 86 "NightSorters$Crew" "towns" "[I") (by decide +kernel)
  have inX0 : ∀ w ∈ wsX00, w ∈ wsX4_advise := by decide +kernel
  have inX3 : ∀ w ∈ wsX30, w ∈ wsX4_advise := by decide +kernel
  have inX4 : ∀ w ∈ wsX40, w ∈ wsX4_advise := by decide +kernel
  refine lv_iload_n hx hb dX4_advise_0 rfl (lv_at hl 1 rfl) ?_
  refine lv_aload_n hx hb dX4_advise_1 rfl (lv_at hl 0 rfl) ?_
  refine va_get (D := D) (ci := 4) (v := .ref (a 30)) (C := RX4) (T := TX4) (N := 2) hx hb hts inX4 hown hK hP 0 rfl rfl 0 (by decide) f17 (fun _ h9 => h9) rfl dX4_advise_2 ?_
  refine va_get (D := D) (ci := 3) (v := .ref (a 10)) (C := RX3) (T := TX3) (N := 4) hx hb hts inX3 hown hK hP 1 rfl rfl 2 (by decide) f74 (fun _ h9 => h9) rfl dX4_advise_5 ?_
  refine va_get (D := D) (ci := 0) (v := .int (u 10 0)) (C := RX0) (T := TX0) (N := 8) hx hb hts inX0 hown hK hP 10 rfl rfl 0 (by decide) f78 (fun _ h9 => h9) rfl dX4_advise_8 ?_
  refine ycallv (invS (As := [.int (nI s9), .int (u 10 0)]) (rest := []) (rm := ({ frames := 0, cells := 0, slots := 0, locals := 0 } : Room)) ⟨hx, hb, hml, hown, hts⟩ (va_cwS 2 hts gX4_advise_X4_checkIndex rfl rfl rfl (by decide +kernel) ⟨Nat.le_of_ble_eq_true rfl, Nat.le_of_ble_eq_true rfl⟩) rfl rfl hl.1 (Nat.le_of_ble_eq_true rfl) dX4_advise_11) (c_X4_checkIndex l D cI (nI s9) (u 10 0) (ci1 (j := s9) rfl (by omega)) (ci2 (j := s9) (N := iv (u 10 0)) rfl ok.k (by omega) (by omega))) hK hN hA hP hD hS (W2 := wX cI o g a b r u v) [] [0, 1, 2, 3, 4, 5, 6, 7, 8, 9, 10, 11, 12, 13, 14, 15, 16, 17, 18, 19, 20, 21, 22, 23, 24, 25, 26, 27, 28, 29, 30, 31, 32, 33, 34, 35, 36, 37] [0, 1, 2, 3, 4, 5, 6, 7, 8, 9, 10, 11, 12, 13, 14, 15, 16, 17, 18, 19, 20, 21, 22, 23, 24, 25, 26, 27, 28, 29, 30, 31, 32, 33, 34, 35, 36, 37] rfl rfl rfl (by decide) ⟨Nat.le_of_ble_eq_true rfl, Nat.le_of_ble_eq_true rfl⟩ (fun H locs hP hD hS => ?_)
  refine lv_iload_n hx hb dX4_advise_14 rfl (lv_at hl 2 rfl) ?_
  refine lv_iconst (v := 1) hx hb dX4_advise_15 (by decide) ?_
  refine lv_bipush (v := 120) hx hb dX4_advise_16 (by decide) ?_
  refine ycallv (invS (As := [.int (nI k), .int 1, .int 120]) (rest := []) (rm := ({ frames := 0, cells := 0, slots := 0, locals := 0 } : Room)) ⟨hx, hb, hml, hown, hts⟩ (va_cwS 3 hts gX4_advise_X4_checkArgument rfl rfl rfl (by decide +kernel) ⟨Nat.le_of_ble_eq_true rfl, Nat.le_of_ble_eq_true rfl⟩) rfl rfl hl.1 (Nat.le_of_ble_eq_true rfl) dX4_advise_18) (c_X4_checkArgument l D cI (nI k) (1) (120) (ci3 (j := k) (N := 1) rfl rfl hk1 (by omega)) (ci4 (j := k) (N := 120) rfl (show (120 : Int32) = nI 120 from rfl) hk (by decide))) hK hN hA hP hD hS (W2 := wX cI o g a b r u v) [] [0, 1, 2, 3, 4, 5, 6, 7, 8, 9, 10, 11, 12, 13, 14, 15, 16, 17, 18, 19, 20, 21, 22, 23, 24, 25, 26, 27, 28, 29, 30, 31, 32, 33, 34, 35, 36, 37] [0, 1, 2, 3, 4, 5, 6, 7, 8, 9, 10, 11, 12, 13, 14, 15, 16, 17, 18, 19, 20, 21, 22, 23, 24, 25, 26, 27, 28, 29, 30, 31, 32, 33, 34, 35, 36, 37] rfl rfl rfl (by decide) ⟨Nat.le_of_ble_eq_true rfl, Nat.le_of_ble_eq_true rfl⟩ (fun H locs hP hD hS => ?_)
  refine lv_aload_n hx hb dX4_advise_21 rfl (lv_at hl 0 rfl) ?_
  refine va_get (D := D) (ci := 4) (v := .ref (a 30)) (C := RX4) (T := TX4) (N := 2) hx hb hts inX4 hown hK hP 0 rfl rfl 0 (by decide) f17 (fun _ h9 => h9) rfl dX4_advise_22 ?_
  refine va_get (D := D) (ci := 3) (v := .ref (a 10)) (C := RX3) (T := TX3) (N := 4) hx hb hts inX3 hown hK hP 1 rfl rfl 2 (by decide) f74 (fun _ h9 => h9) rfl dX4_advise_25 ?_
  refine va_get (D := D) (ci := 0) (v := .ref (a 12)) (C := RX0) (T := TX0) (N := 8) hx hb hts inX0 hown hK hP 10 rfl rfl 2 (by decide) f86 (fun _ h9 => h9) rfl dX4_advise_28 ?_
  refine lv_iload_n hx hb dX4_advise_31 rfl (lv_at hl 1 rfl) ?_
  refine xald hx hb hK hP 12 rfl rfl (s9) (rfl) (by omega) (by decide) dX4_advise_32 ?_
  refine lv_istore_n (lv' := [(3, .int (u 12 s9)), (0, .ref o), (1, .int (nI s9)), (2, .int (nI k))]) hx hb dX4_advise_33 rfl hl (by decide) rfl (fun ls hl => ?_)
  refine lv_aload_n hx hb dX4_advise_34 rfl (lv_at hl 1 rfl) ?_
  refine lv_iload_n hx hb dX4_advise_35 rfl (lv_at hl 2 rfl) ?_
  refine lv_iload_n hx hb dX4_advise_36 rfl (lv_at hl 0 rfl) ?_
  refine lv_iload_n hx hb dX4_advise_37 rfl (lv_at hl 3 rfl) ?_
  refine ycalle (invV (As := [.int (nI s9), .int (u 12 s9), .int (nI k)]) (rest := []) (rm := ({ frames := 6, cells := 0, slots := 0, locals := 135 } : Room)) ⟨hx, hb, hml, hown, hts⟩ (cwV 3 hts gX4_advise_X4_deliveredIfAssigned rfl rfl rfl (by decide +kernel) ⟨Nat.le_of_ble_eq_true rfl, Nat.le_of_ble_eq_true rfl⟩) (va_recv hK hP (ci := 4) (q0 := 0) rfl rfl) rfl rfl hl.1 (Nat.le_of_ble_eq_true rfl) dX4_advise_38) (c_X4_deliveredIfAssigned l D cI o g a b r u v ok s9 hs (nI s9) rfl (u 12 s9) k (by omega) (nI k) rfl) hK hN hA hP hD hS (W2 := fun z9 => wX cI o g a b r u z9) [0, 1, 2, 3, 4, 5, 6, 7, 8, 9, 10, 11, 12, 13, 14, 15, 16, 17, 18, 19, 20, 21, 22, 23, 24, 25, 26, 27, 28, 29, 30, 31, 32, 33, 34, 35, 36, 37] [] [0, 1, 2, 3, 4, 5, 6, 7, 8, 9, 10, 11, 12, 13, 14, 15, 16, 17, 18, 19, 20, 21, 22, 23, 24, 25, 26, 27, 28, 29, 30, 31, 32, 33, 34, 35, 36, 37] rfl rfl (fun _ => rfl) (by decide) ⟨Nat.le_of_ble_eq_true rfl, Nat.le_of_ble_eq_true rfl⟩ (fun v1 H locs hP hD hS => ?_)
  refine lv_istore (lv' := [(4, .int (dIAF r u s9 (u 12 s9) k)), (3, .int (u 12 s9)), (0, .ref o), (1, .int (nI s9)), (2, .int (nI k))]) hx hb dX4_advise_41 hl (by decide) rfl (fun ls hl => ?_)
  refine lv_iconst (v := (-1)) hx hb dX4_advise_43 (by decide) ?_
  refine lv_istore (lv' := [(5, .int (-1)), (4, .int (dIAF r u s9 (u 12 s9) k)), (3, .int (u 12 s9)), (0, .ref o), (1, .int (nI s9)), (2, .int (nI k))]) hx hb dX4_advise_44 hl (by decide) rfl (fun ls hl => ?_)
  refine lv_iconst (v := 0) hx hb dX4_advise_46 (by decide) ?_
  refine lv_istore (lv' := [(6, .int 0), (5, .int (-1)), (4, .int (dIAF r u s9 (u 12 s9) k)), (3, .int (u 12 s9)), (0, .ref o), (1, .int (nI s9)), (2, .int (nI k))]) hx hb dX4_advise_47 hl (by decide) rfl (fun ls hl => ?_)
  have K49 : ∀ (n49 i49 : Nat), 0 ≤ i49 → i49 ≤ 16 → 16 < i49 + n49 → ∀ (v2 : Rc), ∀ (H : Heap) (locs : List Loc), va_P D vwCl (wX cI o g a b r u v2) H → va_D A (wX cI o g a b r u v2) → va_S A s.heap H locs → ∀ (ls : Array Slot), lv_has ls 8 [(6, .int (nI i49)), (5, .int ((advS r u s9 k i49).2)), (4, .int ((advS r u s9 k i49).1)), (3, .int (u 12 s9)), (0, .ref o), (1, .int (nI s9)), (2, .int (nI k))] → W p l e ({ frames := 7, cells := 0, slots := 0, locals := 158 } : Room) s m args below meth c H locs (0 + 0 + 0 + 0) (0 + 0 + 0 + 0) Q (F0 m 49 ls []) := by
    intro n49
    induction n49 with
    | zero => intro i49 hlo49 hi49 hn49; exact absurd hn49 (by omega)
    | succ n49 ih49 =>
      intro i49 hlo49 hi49 hn49 v2 H locs hP hD hS ls hl
      refine lv_iload hx hb dX4_advise_49 (lv_at hl 0 rfl) ?_
      refine lv_bipush (v := 16) hx hb dX4_advise_51 (by decide) ?_
      refine lv_icmp_ge (tgt := 100) hx hb dX4_advise_53 (by decide) (fun c3 => ?_) (fun c3 => ?_)
      · skip
        have hie : 16 = i49 := (show i49 = 16 from lp_out (show (16 : Int32) = nI 16 from rfl) (by decide) hi49 c3).symm
        subst hie
        refine lv_iload hx hb dX4_advise_100 (lv_at hl 1 rfl) ?_
        exact fin v2 _ _ _ _ _ _ _ _ rfl rfl hP hD hS (Nat.le_of_ble_eq_true rfl) (Nat.le_of_ble_eq_true rfl) dX4_advise_102
      · skip
        have hlt := lp_in (show (16 : Int32) = nI 16 from rfl) (by decide) hi49 c3
        refine lv_iload_n hx hb dX4_advise_56 rfl (lv_at hl 3 rfl) ?_
        refine lv_iload hx hb dX4_advise_57 (lv_at hl 0 rfl) ?_
        refine ycalli (invS (As := [.int (u 12 s9), .int (nI i49)]) (rest := []) (rm := ({ frames := 0, cells := 0, slots := 0, locals := 0 } : Room)) ⟨hx, hb, hml, hown, hts⟩ (va_cwS 2 hts gX4_advise_X4_hasTown rfl rfl rfl (by decide +kernel) ⟨Nat.le_of_ble_eq_true rfl, Nat.le_of_ble_eq_true rfl⟩) rfl rfl hl.1 (Nat.le_of_ble_eq_true rfl) dX4_advise_59) (c_X4_hasTown l D cI (u 12 s9) (nI i49)) hK hN hA hP hD hS (W2 := wX cI o g a b r u v2) [] [0, 1, 2, 3, 4, 5, 6, 7, 8, 9, 10, 11, 12, 13, 14, 15, 16, 17, 18, 19, 20, 21, 22, 23, 24, 25, 26, 27, 28, 29, 30, 31, 32, 33, 34, 35, 36, 37] [0, 1, 2, 3, 4, 5, 6, 7, 8, 9, 10, 11, 12, 13, 14, 15, 16, 17, 18, 19, 20, 21, 22, 23, 24, 25, 26, 27, 28, 29, 30, 31, 32, 33, 34, 35, 36, 37] rfl rfl rfl (by decide) ⟨Nat.le_of_ble_eq_true rfl, Nat.le_of_ble_eq_true rfl⟩ (fun H locs hP hD hS => ?_)
        refine lv_if_ne (tgt := 94) hx hb dX4_advise_62 (by decide) (fun c4 => ?_) (fun c4 => ?_)
        · skip
          have c4 := b01f c4
          refine lv_iinc (v := nI (i49 + 1)) (lv' := [(6, .int (nI (i49 + 1))), (5, .int ((advS r u s9 k i49).2)), (4, .int ((advS r u s9 k i49).1)), (3, .int (u 12 s9)), (0, .ref o), (1, .int (nI s9)), (2, .int (nI k))]) hx hb dX4_advise_94 hl (k := 0) rfl (nI_inc _) (by decide) rfl (fun ls hl => ?_)
          refine lv_goto (tgt := 49) hx hb dX4_advise_97 (by decide) ?_
          exact ih49 (i49 + 1) (by omega) (by omega) (by omega) v2 H locs hP hD hS ls (lv_sub hl [0, 1, 2, 3, 4, 5, 6] (by first | (rw [adv_h c4]; rfl) | (rw [adv_n c3 c4]; rfl) | (rw [adv_y c3 c4]; rfl)))
        · skip
          have c4 := b01t c4
          refine lv_aload_n hx hb dX4_advise_65 rfl (lv_at hl 4 rfl) ?_
          refine lv_iload_n hx hb dX4_advise_66 rfl (lv_at hl 5 rfl) ?_
          refine lv_iload_n hx hb dX4_advise_67 rfl (lv_at hl 3 rfl) ?_
          refine lv_iconst (v := 1) hx hb dX4_advise_68 (by decide) ?_
          refine lv_iload hx hb dX4_advise_69 (lv_at hl 0 rfl) ?_
          refine lv_ishl hx hb dX4_advise_71 ?_
          refine lv_ior hx hb dX4_advise_72 ?_
          refine lv_iload_n hx hb dX4_advise_73 rfl (lv_at hl 6 rfl) ?_
          refine ycalle (invV (As := [.int (nI s9), .int ((u 12 s9) ||| (1 <<< ((nI i49) &&& 31))), .int (nI k)]) (rest := []) (rm := ({ frames := 6, cells := 0, slots := 0, locals := 135 } : Room)) ⟨hx, hb, hml, hown, hts⟩ (cwV 3 hts gX4_advise_X4_deliveredIfAssigned rfl rfl rfl (by decide +kernel) ⟨Nat.le_of_ble_eq_true rfl, Nat.le_of_ble_eq_true rfl⟩) (va_recv hK hP (ci := 4) (q0 := 0) rfl rfl) rfl rfl hl.1 (Nat.le_of_ble_eq_true rfl) dX4_advise_74) (c_X4_deliveredIfAssigned l D cI o g a b r u v2 ok s9 hs (nI s9) rfl (u 12 s9 ||| ((1 : Int32) <<< (nI i49 &&& 31))) k (by omega) (nI k) rfl) hK hN hA hP hD hS (W2 := fun z9 => wX cI o g a b r u z9) [0, 1, 2, 3, 4, 5, 6, 7, 8, 9, 10, 11, 12, 13, 14, 15, 16, 17, 18, 19, 20, 21, 22, 23, 24, 25, 26, 27, 28, 29, 30, 31, 32, 33, 34, 35, 36, 37] [] [0, 1, 2, 3, 4, 5, 6, 7, 8, 9, 10, 11, 12, 13, 14, 15, 16, 17, 18, 19, 20, 21, 22, 23, 24, 25, 26, 27, 28, 29, 30, 31, 32, 33, 34, 35, 36, 37] rfl rfl (fun _ => rfl) (by decide) ⟨Nat.le_of_ble_eq_true rfl, Nat.le_of_ble_eq_true rfl⟩ (fun v5 H locs hP hD hS => ?_)
          refine lv_istore (lv' := [(7, .int (dIAF r u s9 (u 12 s9 ||| ((1 : Int32) <<< (nI i49 &&& 31))) k)), (6, .int (nI i49)), (5, .int ((advS r u s9 k i49).2)), (4, .int ((advS r u s9 k i49).1)), (3, .int (u 12 s9)), (0, .ref o), (1, .int (nI s9)), (2, .int (nI k))]) hx hb dX4_advise_77 hl (by decide) rfl (fun ls hl => ?_)
          refine lv_iload hx hb dX4_advise_79 (lv_at hl 0 rfl) ?_
          refine lv_iload hx hb dX4_advise_81 (lv_at hl 3 rfl) ?_
          refine lv_icmp_le (tgt := 94) hx hb dX4_advise_83 (by decide) (fun c6 => ?_) (fun c6 => ?_)
          · skip
            refine lv_iinc (v := nI (i49 + 1)) (lv' := [(6, .int (nI (i49 + 1))), (7, .int (dIAF r u s9 (u 12 s9 ||| ((1 : Int32) <<< (nI i49 &&& 31))) k)), (5, .int ((advS r u s9 k i49).2)), (4, .int ((advS r u s9 k i49).1)), (3, .int (u 12 s9)), (0, .ref o), (1, .int (nI s9)), (2, .int (nI k))]) hx hb dX4_advise_94 hl (k := 1) rfl (nI_inc _) (by decide) rfl (fun ls hl => ?_)
            refine lv_goto (tgt := 49) hx hb dX4_advise_97 (by decide) ?_
            exact ih49 (i49 + 1) (by omega) (by omega) (by omega) v5 H locs hP hD hS ls (lv_sub hl [0, 2, 3, 4, 5, 6, 7] (by first | (rw [adv_h c6]; rfl) | (rw [adv_n c4 c6]; rfl) | (rw [adv_y c4 c6]; rfl)))
          · skip
            refine lv_iload hx hb dX4_advise_86 (lv_at hl 0 rfl) ?_
            refine lv_istore (lv' := [(4, .int (dIAF r u s9 (u 12 s9 ||| ((1 : Int32) <<< (nI i49 &&& 31))) k)), (7, .int (dIAF r u s9 (u 12 s9 ||| ((1 : Int32) <<< (nI i49 &&& 31))) k)), (6, .int (nI i49)), (5, .int ((advS r u s9 k i49).2)), (3, .int (u 12 s9)), (0, .ref o), (1, .int (nI s9)), (2, .int (nI k))]) hx hb dX4_advise_88 hl (by decide) rfl (fun ls hl => ?_)
            refine lv_iload hx hb dX4_advise_90 (lv_at hl 2 rfl) ?_
            refine lv_istore (lv' := [(5, .int (nI i49)), (4, .int (dIAF r u s9 (u 12 s9 ||| ((1 : Int32) <<< (nI i49 &&& 31))) k)), (7, .int (dIAF r u s9 (u 12 s9 ||| ((1 : Int32) <<< (nI i49 &&& 31))) k)), (6, .int (nI i49)), (3, .int (u 12 s9)), (0, .ref o), (1, .int (nI s9)), (2, .int (nI k))]) hx hb dX4_advise_92 hl (by decide) rfl (fun ls hl => ?_)
            refine lv_iinc (v := nI (i49 + 1)) (lv' := [(6, .int (nI (i49 + 1))), (5, .int (nI i49)), (4, .int (dIAF r u s9 (u 12 s9 ||| ((1 : Int32) <<< (nI i49 &&& 31))) k)), (7, .int (dIAF r u s9 (u 12 s9 ||| ((1 : Int32) <<< (nI i49 &&& 31))) k)), (3, .int (u 12 s9)), (0, .ref o), (1, .int (nI s9)), (2, .int (nI k))]) hx hb dX4_advise_94 hl (k := 3) rfl (nI_inc _) (by decide) rfl (fun ls hl => ?_)
            refine lv_goto (tgt := 49) hx hb dX4_advise_97 (by decide) ?_
            exact ih49 (i49 + 1) (by omega) (by omega) (by omega) v5 H locs hP hD hS ls (lv_sub hl [0, 1, 2, 4, 5, 6, 7] (by first | (rw [adv_h c6]; rfl) | (rw [adv_n c4 c6]; rfl) | (rw [adv_y c4 c6]; rfl)))
  exact K49 (16 + 1) 0 (Nat.le_refl _) (by omega) (by omega) v1 _ _ hP hD hS ls (lv_sub hl [0, 1, 2, 3, 4, 5, 6] rfl)

set_option maxHeartbeats 4000000 in
set_option maxRecDepth 100000 in
theorem c_X4_advise_x1 (l : Launch) (hlt : l.stackTraces = false) (D : va_G) (cI : ClassId) (o : Nat) (g a b : Nat → Nat) (r u v : Rc) (ok : Ok u) (x y : Int32) (h : x < 0 ∨ u 10 0 ≤ x) : CX l yX4_advise wsX4_advise ({ frames := 7, cells := 1, slots := 6, locals := 130 } : Room) D cI [.ref o, .int x, .int y] (wX cI o g a b r u v) "java/lang/IndexOutOfBoundsException" := by
  refine CX.mk (cc := cX4_advise) (maxL := 8) (ret := (some .int)) hlt (by decide) rfl rfl (Nat.le_of_ble_eq_true rfl) ?_
  intro p e s m args below meth c A Q ls hx hb hts hown hml hK hN hT hA hP hD hS hl finx fint
  have hown : s.vm.findClass RX4 = some m.cls := hown
  have hl : lv_has ls 8 [(0, .ref o), (1, .int x), (2, .int y)] := hl
  have f17 := hts (.fieldLink RX4 17 "NightSorters" "train" "LNightSorters$Train;") (by decide +kernel)
  have f74 := hts (.fieldLink RX4 74 "NightSorters$Train" "crew" "LNightSorters$Crew;") (by decide +kernel)
  have f78 := hts (.fieldLink RX4 78 "NightSorters$Crew" "size" "I") (by decide +kernel)
  have inX0 : ∀ w ∈ wsX00, w ∈ wsX4_advise := by decide +kernel
  have inX3 : ∀ w ∈ wsX30, w ∈ wsX4_advise := by decide +kernel
  have inX4 : ∀ w ∈ wsX40, w ∈ wsX4_advise := by decide +kernel
  refine lv_iload_n hx hb dX4_advise_0 rfl (lv_at hl 1 rfl) ?_
  refine lv_aload_n hx hb dX4_advise_1 rfl (lv_at hl 0 rfl) ?_
  refine va_get (D := D) (ci := 4) (v := .ref (a 30)) (C := RX4) (T := TX4) (N := 2) hx hb hts inX4 hown hK hP 0 rfl rfl 0 (by decide) f17 (fun _ h9 => h9) rfl dX4_advise_2 ?_
  refine va_get (D := D) (ci := 3) (v := .ref (a 10)) (C := RX3) (T := TX3) (N := 4) hx hb hts inX3 hown hK hP 1 rfl rfl 2 (by decide) f74 (fun _ h9 => h9) rfl dX4_advise_5 ?_
  refine va_get (D := D) (ci := 0) (v := .int (u 10 0)) (C := RX0) (T := TX0) (N := 8) hx hb hts inX0 hown hK hP 10 rfl rfl 0 (by decide) f78 (fun _ h9 => h9) rfl dX4_advise_8 ?_
  refine ycallx (invXS (As := [.int x, .int (u 10 0)]) (rest := []) (rm := ({ frames := 6, cells := 1, slots := 6, locals := 100 } : Room)) ⟨hx, hb, hml, hown, hts⟩ (va_cwS 2 hts gX4_advise_X4_checkIndex rfl rfl rfl (by decide +kernel) ⟨Nat.le_of_ble_eq_true rfl, Nat.le_of_ble_eq_true rfl⟩) rfl rfl hl.1 (Nat.le_of_ble_eq_true rfl) dX4_advise_11) (c_X4_checkIndex_x l hlt D cI (x) (u 10 0) h) hK hN hT hA hP hD hS [] [0, 1, 2, 3, 4, 5, 6, 7, 8, 9, 10, 11, 12, 13, 14, 15, 16, 17, 18, 19, 20, 21, 22, 23, 24, 25, 26, 27, 28, 29, 30, 31, 32, 33, 34, 35, 36, 37] [0, 1, 2, 3, 4, 5, 6, 7, 8, 9, 10, 11, 12, 13, 14, 15, 16, 17, 18, 19, 20, 21, 22, 23, 24, 25, 26, 27, 28, 29, 30, 31, 32, 33, 34, 35, 36, 37] rfl rfl rfl (by decide) ⟨Nat.le_of_ble_eq_true rfl, Nat.le_of_ble_eq_true rfl⟩ (fun q9 ce H locs hP hD hS h1 h2 h3 => ?_)
  exact finx _ _ _ _ _ _ _ _ _ hP hD hS (Nat.le_of_ble_eq_true rfl) (Nat.le_of_ble_eq_true rfl) h1 h2 h3

set_option maxHeartbeats 4000000 in
set_option maxRecDepth 100000 in
theorem c_X4_advise_x2 (l : Launch) (hlt : l.stackTraces = false) (D : va_G) (cI : ClassId) (o : Nat) (g a b : Nat → Nat) (r u v : Rc) (ok : Ok u) (s9 : Nat) (hs : s9 < iv (u 10 0)) (x : Int32) (ex : x = nI s9) (y : Int32) (h : y < 1 ∨ 120 < y) : CX l yX4_advise wsX4_advise ({ frames := 7, cells := 1, slots := 6, locals := 130 } : Room) D cI [.ref o, .int x, .int y] (wX cI o g a b r u v) "java/lang/IllegalArgumentException" := by
  refine CX.mk (cc := cX4_advise) (maxL := 8) (ret := (some .int)) hlt (by decide) rfl rfl (Nat.le_of_ble_eq_true rfl) ?_
  intro p e s m args below meth c A Q ls hx hb hts hown hml hK hN hT hA hP hD hS hl finx fint
  have hown : s.vm.findClass RX4 = some m.cls := hown
  subst ex
  have hk4 := ok.k4
  have hl : lv_has ls 8 [(0, .ref o), (1, .int (nI s9)), (2, .int y)] := hl
  have f17 := hts (.fieldLink RX4 17 "NightSorters" "train" "LNightSorters$Train;") (by decide +kernel)
  have f74 := hts (.fieldLink RX4 74 "NightSorters$Train" "crew" "LNightSorters$Crew;") (by decide +kernel)
  have f78 := hts (.fieldLink RX4 78 "NightSorters$Crew" "size" "I") (by decide +kernel)
  have inX0 : ∀ w ∈ wsX00, w ∈ wsX4_advise := by decide +kernel
  have inX3 : ∀ w ∈ wsX30, w ∈ wsX4_advise := by decide +kernel
  have inX4 : ∀ w ∈ wsX40, w ∈ wsX4_advise := by decide +kernel
  refine lv_iload_n hx hb dX4_advise_0 rfl (lv_at hl 1 rfl) ?_
  refine lv_aload_n hx hb dX4_advise_1 rfl (lv_at hl 0 rfl) ?_
  refine va_get (D := D) (ci := 4) (v := .ref (a 30)) (C := RX4) (T := TX4) (N := 2) hx hb hts inX4 hown hK hP 0 rfl rfl 0 (by decide) f17 (fun _ h9 => h9) rfl dX4_advise_2 ?_
  refine va_get (D := D) (ci := 3) (v := .ref (a 10)) (C := RX3) (T := TX3) (N := 4) hx hb hts inX3 hown hK hP 1 rfl rfl 2 (by decide) f74 (fun _ h9 => h9) rfl dX4_advise_5 ?_
  refine va_get (D := D) (ci := 0) (v := .int (u 10 0)) (C := RX0) (T := TX0) (N := 8) hx hb hts inX0 hown hK hP 10 rfl rfl 0 (by decide) f78 (fun _ h9 => h9) rfl dX4_advise_8 ?_
  refine ycallv (invS (As := [.int (nI s9), .int (u 10 0)]) (rest := []) (rm := ({ frames := 0, cells := 0, slots := 0, locals := 0 } : Room)) ⟨hx, hb, hml, hown, hts⟩ (va_cwS 2 hts gX4_advise_X4_checkIndex rfl rfl rfl (by decide +kernel) ⟨Nat.le_of_ble_eq_true rfl, Nat.le_of_ble_eq_true rfl⟩) rfl rfl hl.1 (Nat.le_of_ble_eq_true rfl) dX4_advise_11) (c_X4_checkIndex l D cI (nI s9) (u 10 0) (ci1 (j := s9) rfl (by omega)) (ci2 (j := s9) (N := iv (u 10 0)) rfl ok.k (by omega) (by omega))) hK hN hA hP hD hS (W2 := wX cI o g a b r u v) [] [0, 1, 2, 3, 4, 5, 6, 7, 8, 9, 10, 11, 12, 13, 14, 15, 16, 17, 18, 19, 20, 21, 22, 23, 24, 25, 26, 27, 28, 29, 30, 31, 32, 33, 34, 35, 36, 37] [0, 1, 2, 3, 4, 5, 6, 7, 8, 9, 10, 11, 12, 13, 14, 15, 16, 17, 18, 19, 20, 21, 22, 23, 24, 25, 26, 27, 28, 29, 30, 31, 32, 33, 34, 35, 36, 37] rfl rfl rfl (by decide) ⟨Nat.le_of_ble_eq_true rfl, Nat.le_of_ble_eq_true rfl⟩ (fun H locs hP hD hS => ?_)
  refine lv_iload_n hx hb dX4_advise_14 rfl (lv_at hl 2 rfl) ?_
  refine lv_iconst (v := 1) hx hb dX4_advise_15 (by decide) ?_
  refine lv_bipush (v := 120) hx hb dX4_advise_16 (by decide) ?_
  refine ycallx (invXS (As := [.int y, .int 1, .int 120]) (rest := []) (rm := ({ frames := 6, cells := 1, slots := 6, locals := 100 } : Room)) ⟨hx, hb, hml, hown, hts⟩ (va_cwS 3 hts gX4_advise_X4_checkArgument rfl rfl rfl (by decide +kernel) ⟨Nat.le_of_ble_eq_true rfl, Nat.le_of_ble_eq_true rfl⟩) rfl rfl hl.1 (Nat.le_of_ble_eq_true rfl) dX4_advise_18) (c_X4_checkArgument_x l hlt D cI (y) (1) (120) h) hK hN hT hA hP hD hS [] [0, 1, 2, 3, 4, 5, 6, 7, 8, 9, 10, 11, 12, 13, 14, 15, 16, 17, 18, 19, 20, 21, 22, 23, 24, 25, 26, 27, 28, 29, 30, 31, 32, 33, 34, 35, 36, 37] [0, 1, 2, 3, 4, 5, 6, 7, 8, 9, 10, 11, 12, 13, 14, 15, 16, 17, 18, 19, 20, 21, 22, 23, 24, 25, 26, 27, 28, 29, 30, 31, 32, 33, 34, 35, 36, 37] rfl rfl rfl (by decide) ⟨Nat.le_of_ble_eq_true rfl, Nat.le_of_ble_eq_true rfl⟩ (fun q9 ce H locs hP hD hS h1 h2 h3 => ?_)
  exact finx _ _ _ _ _ _ _ _ _ hP hD hS (Nat.le_of_ble_eq_true rfl) (Nat.le_of_ble_eq_true rfl) h1 h2 h3
