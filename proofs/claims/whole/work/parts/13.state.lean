set_option maxHeartbeats 4000000 in
set_option maxRecDepth 100000 in
theorem c_X5_copy (l : Launch) (D : va_G) (cI : ClassId) (t x y z : Nat) (f g : Nat → Int32) (hz : z ≤ 2147483647) : CV l yX5_copy wsX5_copy ({ frames := 1, cells := 0, slots := 0, locals := 60 } : Room) D cI [.ref t, .ref x, .ref y] [(x, .inl (cI, z, .inl f)), (y, .inl (cI, z, .inl g))] [(x, .inl (cI, z, .inl f)), (y, .inl (cI, z, .inl f))] := by
  refine CV.mk (cc := cX5_copy) (maxL := 3) (by decide) rfl (Nat.le_of_ble_eq_true rfl) ?_
  intro p e s m args below meth c A Q ls hx hb hts hown hml hK hN hA hP hD hS hl fin
  have hown : s.vm.findClass RX5 = some m.cls := hown
  have hl : lv_has ls 3 [(0, .ref t), (1, .ref x), (2, .ref y)] := hl
  refine lv_aload_n hx hb dX5_copy_0 rfl (lv_at hl 1 rfl) ?_
  refine lv_iconst (v := 0) hx hb dX5_copy_1 (by decide) ?_
  refine lv_aload_n hx hb dX5_copy_2 rfl (lv_at hl 2 rfl) ?_
  refine lv_iconst (v := 0) hx hb dX5_copy_3 (by decide) ?_
  refine lv_aload_n hx hb dX5_copy_4 rfl (lv_at hl 1 rfl) ?_
  refine va_alen hx hb hK hP 0 0 rfl rfl (v := nI z) rfl dX5_copy_5 ?_
  refine xcopy hx hb (hml.trans hl.1.symm) hown (hts (.methodLink RX5 43 arraycopyName) (by decide +kernel)) (hts (.native arraycopyName) (by decide +kernel)) (hts (.static arraycopyName) (by decide +kernel)) (hts (.initialized "java/lang/System") (by decide +kernel)) hK hP hD hS 0 1 rfl rfl rfl [(x, .inl (cI, z, .inl f)), (y, .inl (cI, z, .inl f))] rfl rfl hz (Nat.le_of_ble_eq_true rfl) (Nat.le_of_ble_eq_true rfl) dX5_copy_6 (fun H locs hP hD hS => ?_)
  exact fin _ _ _ _ _ _ _ rfl hP hD hS (Nat.le_of_ble_eq_true rfl) (Nat.le_of_ble_eq_true rfl) dX5_copy_9
set_option maxHeartbeats 4000000 in
set_option maxRecDepth 100000 in
theorem c_X5_become (l : Launch) (D : va_G) (cI : ClassId) (h b d : Nat → Nat) (q w : Rc) : CV l yX5_become wsX5_become ({ frames := 2, cells := 0, slots := 0, locals := 82 } : Room) D cI [.ref (b 30), .ref (d 30)] (wSt2 cI h b d q w) (wSt2 cI h b d w w) := by
  refine CV.mk (cc := cX5_become) (maxL := 2) (by decide) rfl (Nat.le_of_ble_eq_true rfl) ?_
  intro p e s m args below meth c A Q ls hx hb hts hown hml hK hN hA hP hD hS hl fin
  have hown : s.vm.findClass RX5 = some m.cls := hown
  have hl : lv_has ls 2 [(0, .ref (b 30)), (1, .ref (d 30))] := hl
  have f15 := hts (.fieldLink RX5 15 "NightSortersModel$State" "where" "[I") (by decide +kernel)
  have f19 := hts (.fieldLink RX5 19 "NightSortersModel$State" "who" "[I") (by decide +kernel)
  have f22 := hts (.fieldLink RX5 22 "NightSortersModel$State" "when" "[I") (by decide +kernel)
  have f25 := hts (.fieldLink RX5 25 "NightSortersModel$State" "towns" "[I") (by decide +kernel)
  have f28 := hts (.fieldLink RX5 28 "NightSortersModel$State" "tired" "[I") (by decide +kernel)
  have f31 := hts (.fieldLink RX5 31 "NightSortersModel$State" "tea" "[I") (by decide +kernel)
  have f34 := hts (.fieldLink RX5 34 "NightSortersModel$State" "holds" "[I") (by decide +kernel)
  have f37 := hts (.fieldLink RX5 37 "NightSortersModel$State" "left" "[I") (by decide +kernel)
  have f40 := hts (.fieldLink RX5 40 "NightSortersModel$State" "sorted" "[I") (by decide +kernel)
  have f49 := hts (.fieldLink RX5 49 "NightSortersModel$State" "minute" "I") (by decide +kernel)
  have inX5 : ∀ w ∈ wsX50, w ∈ wsX5_become := by decide +kernel
  refine lv_aload_n hx hb dX5_become_0 rfl (lv_at hl 0 rfl) ?_
  refine lv_aload_n hx hb dX5_become_1 rfl (lv_at hl 1 rfl) ?_
  refine va_get (D := D) (ci := 5) (v := .int (w 30 0)) (C := RX5) (T := TX5) (N := 11) hx hb hts inX5 hown hK hP 10 rfl rfl 0 (by decide) f49 (fun _ h9 => h9) rfl dX5_become_2 ?_
  obtain ⟨u1, eu1⟩ : ∃ z0 : Rc, z0 = put q 30 0 (w 30 0) := ⟨_, rfl⟩
  refine va_put (D := D) (ci := 5) (v := .int (w 30 0)) (ty := .int) (C := RX5) (T := TX5) (N := 11) hx hb hts inX5 tyX5 tyX5_ok nmX5 hown hK hP hD hS 0 rfl rfl 0 (by decide) f49 (fun _ h9 => h9) rfl (by decide +kernel) rfl rfl (Nat.le_of_ble_eq_true rfl) dX5_become_5 (fun H locs hP hD hS => ?_)
  have hP : va_P D vwCl (wSt2 cI h b d u1 w) H := by subst eu1; exact hP
  have hD : va_D A (wSt2 cI h b d u1 w) := by subst eu1; exact hD
  refine lv_aload_n hx hb dX5_become_8 rfl (lv_at hl 0 rfl) ?_
  refine lv_aload_n hx hb dX5_become_9 rfl (lv_at hl 1 rfl) ?_
  refine va_get (D := D) (ci := 5) (v := .ref (d 3)) (C := RX5) (T := TX5) (N := 11) hx hb hts inX5 hown hK hP 10 rfl rfl 1 (by decide) f15 (fun _ h9 => h9) rfl dX5_become_10 ?_
  refine lv_aload_n hx hb dX5_become_13 rfl (lv_at hl 0 rfl) ?_
  refine va_get (D := D) (ci := 5) (v := .ref (b 3)) (C := RX5) (T := TX5) (N := 11) hx hb hts inX5 hown hK hP 0 rfl rfl 1 (by decide) f15 (fun _ h9 => h9) rfl dX5_become_14 ?_
  obtain ⟨u2, eu2⟩ : ∃ z0 : Rc, z0 = setR u1 3 (w 3) := ⟨_, rfl⟩
  refine ycallv (invV (As := [.ref (d 3), .ref (b 3)]) (rest := []) (rm := ({ frames := 1, cells := 0, slots := 0, locals := 60 } : Room)) ⟨hx, hb, hml, hown, hts⟩ (cwV 2 hts gX5_become_X5_copy rfl rfl rfl (by decide +kernel) ⟨Nat.le_of_ble_eq_true rfl, Nat.le_of_ble_eq_true rfl⟩) (va_recv hK hP (ci := 5) (q0 := 0) rfl rfl) rfl rfl hl.1 (Nat.le_of_ble_eq_true rfl) dX5_become_17) (c_X5_copy l D cI (b 30) (d 3) (b 3) 60 (w 3) (u1 3) (by decide)) hK hN hA hP hD hS (W2 := wSt2 cI h b d u2 w) [11, 1] [0, 2, 3, 4, 5, 6, 7, 8, 9, 10, 12, 13, 14, 15, 16, 17, 18, 19] [0, 19, 1, 2, 3, 4, 5, 6, 7, 8, 9, 18, 10, 11, 12, 13, 14, 15, 16, 17] rfl rfl (by subst eu2; rfl) (by decide) ⟨Nat.le_of_ble_eq_true rfl, Nat.le_of_ble_eq_true rfl⟩ (fun H locs hP hD hS => ?_)
  refine lv_aload_n hx hb dX5_become_20 rfl (lv_at hl 0 rfl) ?_
  refine lv_aload_n hx hb dX5_become_21 rfl (lv_at hl 1 rfl) ?_
  refine va_get (D := D) (ci := 5) (v := .ref (d 4)) (C := RX5) (T := TX5) (N := 11) hx hb hts inX5 hown hK hP 10 rfl rfl 2 (by decide) f19 (fun _ h9 => h9) rfl dX5_become_22 ?_
  refine lv_aload_n hx hb dX5_become_25 rfl (lv_at hl 0 rfl) ?_
  refine va_get (D := D) (ci := 5) (v := .ref (b 4)) (C := RX5) (T := TX5) (N := 11) hx hb hts inX5 hown hK hP 0 rfl rfl 2 (by decide) f19 (fun _ h9 => h9) rfl dX5_become_26 ?_
  obtain ⟨u3, eu3⟩ : ∃ z0 : Rc, z0 = setR u2 4 (w 4) := ⟨_, rfl⟩
  refine ycallv (invV (As := [.ref (d 4), .ref (b 4)]) (rest := []) (rm := ({ frames := 1, cells := 0, slots := 0, locals := 60 } : Room)) ⟨hx, hb, hml, hown, hts⟩ (cwV 2 hts gX5_become_X5_copy rfl rfl rfl (by decide +kernel) ⟨Nat.le_of_ble_eq_true rfl, Nat.le_of_ble_eq_true rfl⟩) (va_recv hK hP (ci := 5) (q0 := 0) rfl rfl) rfl rfl hl.1 (Nat.le_of_ble_eq_true rfl) dX5_become_29) (c_X5_copy l D cI (b 30) (d 4) (b 4) 60 (w 4) (u2 4) (by decide)) hK hN hA hP hD hS (W2 := wSt2 cI h b d u3 w) [12, 2] [0, 1, 3, 4, 5, 6, 7, 8, 9, 10, 11, 13, 14, 15, 16, 17, 18, 19] [0, 1, 19, 2, 3, 4, 5, 6, 7, 8, 9, 10, 18, 11, 12, 13, 14, 15, 16, 17] rfl rfl (by subst eu3; rfl) (by decide) ⟨Nat.le_of_ble_eq_true rfl, Nat.le_of_ble_eq_true rfl⟩ (fun H locs hP hD hS => ?_)
  refine lv_aload_n hx hb dX5_become_32 rfl (lv_at hl 0 rfl) ?_
  refine lv_aload_n hx hb dX5_become_33 rfl (lv_at hl 1 rfl) ?_
  refine va_get (D := D) (ci := 5) (v := .ref (d 5)) (C := RX5) (T := TX5) (N := 11) hx hb hts inX5 hown hK hP 10 rfl rfl 3 (by decide) f22 (fun _ h9 => h9) rfl dX5_become_34 ?_
  refine lv_aload_n hx hb dX5_become_37 rfl (lv_at hl 0 rfl) ?_
  refine va_get (D := D) (ci := 5) (v := .ref (b 5)) (C := RX5) (T := TX5) (N := 11) hx hb hts inX5 hown hK hP 0 rfl rfl 3 (by decide) f22 (fun _ h9 => h9) rfl dX5_become_38 ?_
  obtain ⟨u4, eu4⟩ : ∃ z0 : Rc, z0 = setR u3 5 (w 5) := ⟨_, rfl⟩
  refine ycallv (invV (As := [.ref (d 5), .ref (b 5)]) (rest := []) (rm := ({ frames := 1, cells := 0, slots := 0, locals := 60 } : Room)) ⟨hx, hb, hml, hown, hts⟩ (cwV 2 hts gX5_become_X5_copy rfl rfl rfl (by decide +kernel) ⟨Nat.le_of_ble_eq_true rfl, Nat.le_of_ble_eq_true rfl⟩) (va_recv hK hP (ci := 5) (q0 := 0) rfl rfl) rfl rfl hl.1 (Nat.le_of_ble_eq_true rfl) dX5_become_41) (c_X5_copy l D cI (b 30) (d 5) (b 5) 60 (w 5) (u3 5) (by decide)) hK hN hA hP hD hS (W2 := wSt2 cI h b d u4 w) [13, 3] [0, 1, 2, 4, 5, 6, 7, 8, 9, 10, 11, 12, 14, 15, 16, 17, 18, 19] [0, 1, 2, 19, 3, 4, 5, 6, 7, 8, 9, 10, 11, 18, 12, 13, 14, 15, 16, 17] rfl rfl (by subst eu4; rfl) (by decide) ⟨Nat.le_of_ble_eq_true rfl, Nat.le_of_ble_eq_true rfl⟩ (fun H locs hP hD hS => ?_)
  refine lv_aload_n hx hb dX5_become_44 rfl (lv_at hl 0 rfl) ?_
  refine lv_aload_n hx hb dX5_become_45 rfl (lv_at hl 1 rfl) ?_
  refine va_get (D := D) (ci := 5) (v := .ref (d 12)) (C := RX5) (T := TX5) (N := 11) hx hb hts inX5 hown hK hP 10 rfl rfl 4 (by decide) f25 (fun _ h9 => h9) rfl dX5_become_46 ?_
  refine lv_aload_n hx hb dX5_become_49 rfl (lv_at hl 0 rfl) ?_
  refine va_get (D := D) (ci := 5) (v := .ref (b 12)) (C := RX5) (T := TX5) (N := 11) hx hb hts inX5 hown hK hP 0 rfl rfl 4 (by decide) f25 (fun _ h9 => h9) rfl dX5_become_50 ?_
  obtain ⟨u5, eu5⟩ : ∃ z0 : Rc, z0 = setR u4 12 (w 12) := ⟨_, rfl⟩
  refine ycallv (invV (As := [.ref (d 12), .ref (b 12)]) (rest := []) (rm := ({ frames := 1, cells := 0, slots := 0, locals := 60 } : Room)) ⟨hx, hb, hml, hown, hts⟩ (cwV 2 hts gX5_become_X5_copy rfl rfl rfl (by decide +kernel) ⟨Nat.le_of_ble_eq_true rfl, Nat.le_of_ble_eq_true rfl⟩) (va_recv hK hP (ci := 5) (q0 := 0) rfl rfl) rfl rfl hl.1 (Nat.le_of_ble_eq_true rfl) dX5_become_53) (c_X5_copy l D cI (b 30) (d 12) (b 12) 4 (w 12) (u4 12) (by decide)) hK hN hA hP hD hS (W2 := wSt2 cI h b d u5 w) [14, 4] [0, 1, 2, 3, 5, 6, 7, 8, 9, 10, 11, 12, 13, 15, 16, 17, 18, 19] [0, 1, 2, 3, 19, 4, 5, 6, 7, 8, 9, 10, 11, 12, 18, 13, 14, 15, 16, 17] rfl rfl (by subst eu5; rfl) (by decide) ⟨Nat.le_of_ble_eq_true rfl, Nat.le_of_ble_eq_true rfl⟩ (fun H locs hP hD hS => ?_)
  refine lv_aload_n hx hb dX5_become_56 rfl (lv_at hl 0 rfl) ?_
  refine lv_aload_n hx hb dX5_become_57 rfl (lv_at hl 1 rfl) ?_
  refine va_get (D := D) (ci := 5) (v := .ref (d 13)) (C := RX5) (T := TX5) (N := 11) hx hb hts inX5 hown hK hP 10 rfl rfl 5 (by decide) f28 (fun _ h9 => h9) rfl dX5_become_58 ?_
  refine lv_aload_n hx hb dX5_become_61 rfl (lv_at hl 0 rfl) ?_
  refine va_get (D := D) (ci := 5) (v := .ref (b 13)) (C := RX5) (T := TX5) (N := 11) hx hb hts inX5 hown hK hP 0 rfl rfl 5 (by decide) f28 (fun _ h9 => h9) rfl dX5_become_62 ?_
  obtain ⟨u6, eu6⟩ : ∃ z0 : Rc, z0 = setR u5 13 (w 13) := ⟨_, rfl⟩
  refine ycallv (invV (As := [.ref (d 13), .ref (b 13)]) (rest := []) (rm := ({ frames := 1, cells := 0, slots := 0, locals := 60 } : Room)) ⟨hx, hb, hml, hown, hts⟩ (cwV 2 hts gX5_become_X5_copy rfl rfl rfl (by decide +kernel) ⟨Nat.le_of_ble_eq_true rfl, Nat.le_of_ble_eq_true rfl⟩) (va_recv hK hP (ci := 5) (q0 := 0) rfl rfl) rfl rfl hl.1 (Nat.le_of_ble_eq_true rfl) dX5_become_65) (c_X5_copy l D cI (b 30) (d 13) (b 13) 4 (w 13) (u5 13) (by decide)) hK hN hA hP hD hS (W2 := wSt2 cI h b d u6 w) [15, 5] [0, 1, 2, 3, 4, 6, 7, 8, 9, 10, 11, 12, 13, 14, 16, 17, 18, 19] [0, 1, 2, 3, 4, 19, 5, 6, 7, 8, 9, 10, 11, 12, 13, 18, 14, 15, 16, 17] rfl rfl (by subst eu6; rfl) (by decide) ⟨Nat.le_of_ble_eq_true rfl, Nat.le_of_ble_eq_true rfl⟩ (fun H locs hP hD hS => ?_)
  refine lv_aload_n hx hb dX5_become_68 rfl (lv_at hl 0 rfl) ?_
  refine lv_aload_n hx hb dX5_become_69 rfl (lv_at hl 1 rfl) ?_
  refine va_get (D := D) (ci := 5) (v := .ref (d 14)) (C := RX5) (T := TX5) (N := 11) hx hb hts inX5 hown hK hP 10 rfl rfl 6 (by decide) f31 (fun _ h9 => h9) rfl dX5_become_70 ?_
  refine lv_aload_n hx hb dX5_become_73 rfl (lv_at hl 0 rfl) ?_
  refine va_get (D := D) (ci := 5) (v := .ref (b 14)) (C := RX5) (T := TX5) (N := 11) hx hb hts inX5 hown hK hP 0 rfl rfl 6 (by decide) f31 (fun _ h9 => h9) rfl dX5_become_74 ?_
  obtain ⟨u7, eu7⟩ : ∃ z0 : Rc, z0 = setR u6 14 (w 14) := ⟨_, rfl⟩
  refine ycallv (invV (As := [.ref (d 14), .ref (b 14)]) (rest := []) (rm := ({ frames := 1, cells := 0, slots := 0, locals := 60 } : Room)) ⟨hx, hb, hml, hown, hts⟩ (cwV 2 hts gX5_become_X5_copy rfl rfl rfl (by decide +kernel) ⟨Nat.le_of_ble_eq_true rfl, Nat.le_of_ble_eq_true rfl⟩) (va_recv hK hP (ci := 5) (q0 := 0) rfl rfl) rfl rfl hl.1 (Nat.le_of_ble_eq_true rfl) dX5_become_77) (c_X5_copy l D cI (b 30) (d 14) (b 14) 4 (w 14) (u6 14) (by decide)) hK hN hA hP hD hS (W2 := wSt2 cI h b d u7 w) [16, 6] [0, 1, 2, 3, 4, 5, 7, 8, 9, 10, 11, 12, 13, 14, 15, 17, 18, 19] [0, 1, 2, 3, 4, 5, 19, 6, 7, 8, 9, 10, 11, 12, 13, 14, 18, 15, 16, 17] rfl rfl (by subst eu7; rfl) (by decide) ⟨Nat.le_of_ble_eq_true rfl, Nat.le_of_ble_eq_true rfl⟩ (fun H locs hP hD hS => ?_)
  refine lv_aload_n hx hb dX5_become_80 rfl (lv_at hl 0 rfl) ?_
  refine lv_aload_n hx hb dX5_become_81 rfl (lv_at hl 1 rfl) ?_
  refine va_get (D := D) (ci := 5) (v := .ref (d 15)) (C := RX5) (T := TX5) (N := 11) hx hb hts inX5 hown hK hP 10 rfl rfl 7 (by decide) f34 (fun _ h9 => h9) rfl dX5_become_82 ?_
  refine lv_aload_n hx hb dX5_become_85 rfl (lv_at hl 0 rfl) ?_
  refine va_get (D := D) (ci := 5) (v := .ref (b 15)) (C := RX5) (T := TX5) (N := 11) hx hb hts inX5 hown hK hP 0 rfl rfl 7 (by decide) f34 (fun _ h9 => h9) rfl dX5_become_86 ?_
  obtain ⟨u8, eu8⟩ : ∃ z0 : Rc, z0 = setR u7 15 (w 15) := ⟨_, rfl⟩
  refine ycallv (invV (As := [.ref (d 15), .ref (b 15)]) (rest := []) (rm := ({ frames := 1, cells := 0, slots := 0, locals := 60 } : Room)) ⟨hx, hb, hml, hown, hts⟩ (cwV 2 hts gX5_become_X5_copy rfl rfl rfl (by decide +kernel) ⟨Nat.le_of_ble_eq_true rfl, Nat.le_of_ble_eq_true rfl⟩) (va_recv hK hP (ci := 5) (q0 := 0) rfl rfl) rfl rfl hl.1 (Nat.le_of_ble_eq_true rfl) dX5_become_89) (c_X5_copy l D cI (b 30) (d 15) (b 15) 4 (w 15) (u7 15) (by decide)) hK hN hA hP hD hS (W2 := wSt2 cI h b d u8 w) [17, 7] [0, 1, 2, 3, 4, 5, 6, 8, 9, 10, 11, 12, 13, 14, 15, 16, 18, 19] [0, 1, 2, 3, 4, 5, 6, 19, 7, 8, 9, 10, 11, 12, 13, 14, 15, 18, 16, 17] rfl rfl (by subst eu8; rfl) (by decide) ⟨Nat.le_of_ble_eq_true rfl, Nat.le_of_ble_eq_true rfl⟩ (fun H locs hP hD hS => ?_)
  refine lv_aload_n hx hb dX5_become_92 rfl (lv_at hl 0 rfl) ?_
  refine lv_aload_n hx hb dX5_become_93 rfl (lv_at hl 1 rfl) ?_
  refine va_get (D := D) (ci := 5) (v := .ref (d 16)) (C := RX5) (T := TX5) (N := 11) hx hb hts inX5 hown hK hP 10 rfl rfl 8 (by decide) f37 (fun _ h9 => h9) rfl dX5_become_94 ?_
  refine lv_aload_n hx hb dX5_become_97 rfl (lv_at hl 0 rfl) ?_
  refine va_get (D := D) (ci := 5) (v := .ref (b 16)) (C := RX5) (T := TX5) (N := 11) hx hb hts inX5 hown hK hP 0 rfl rfl 8 (by decide) f37 (fun _ h9 => h9) rfl dX5_become_98 ?_
  obtain ⟨u9, eu9⟩ : ∃ z0 : Rc, z0 = setR u8 16 (w 16) := ⟨_, rfl⟩
  refine ycallv (invV (As := [.ref (d 16), .ref (b 16)]) (rest := []) (rm := ({ frames := 1, cells := 0, slots := 0, locals := 60 } : Room)) ⟨hx, hb, hml, hown, hts⟩ (cwV 2 hts gX5_become_X5_copy rfl rfl rfl (by decide +kernel) ⟨Nat.le_of_ble_eq_true rfl, Nat.le_of_ble_eq_true rfl⟩) (va_recv hK hP (ci := 5) (q0 := 0) rfl rfl) rfl rfl hl.1 (Nat.le_of_ble_eq_true rfl) dX5_become_101) (c_X5_copy l D cI (b 30) (d 16) (b 16) 4 (w 16) (u8 16) (by decide)) hK hN hA hP hD hS (W2 := wSt2 cI h b d u9 w) [18, 8] [0, 1, 2, 3, 4, 5, 6, 7, 9, 10, 11, 12, 13, 14, 15, 16, 17, 19] [0, 1, 2, 3, 4, 5, 6, 7, 19, 8, 9, 10, 11, 12, 13, 14, 15, 16, 18, 17] rfl rfl (by subst eu9; rfl) (by decide) ⟨Nat.le_of_ble_eq_true rfl, Nat.le_of_ble_eq_true rfl⟩ (fun H locs hP hD hS => ?_)
  refine lv_aload_n hx hb dX5_become_104 rfl (lv_at hl 0 rfl) ?_
  refine lv_aload_n hx hb dX5_become_105 rfl (lv_at hl 1 rfl) ?_
  refine va_get (D := D) (ci := 5) (v := .ref (d 17)) (C := RX5) (T := TX5) (N := 11) hx hb hts inX5 hown hK hP 10 rfl rfl 9 (by decide) f40 (fun _ h9 => h9) rfl dX5_become_106 ?_
  refine lv_aload_n hx hb dX5_become_109 rfl (lv_at hl 0 rfl) ?_
  refine va_get (D := D) (ci := 5) (v := .ref (b 17)) (C := RX5) (T := TX5) (N := 11) hx hb hts inX5 hown hK hP 0 rfl rfl 9 (by decide) f40 (fun _ h9 => h9) rfl dX5_become_110 ?_
  obtain ⟨u10, eu10⟩ : ∃ z0 : Rc, z0 = setR u9 17 (w 17) := ⟨_, rfl⟩
  refine ycallv (invV (As := [.ref (d 17), .ref (b 17)]) (rest := []) (rm := ({ frames := 1, cells := 0, slots := 0, locals := 60 } : Room)) ⟨hx, hb, hml, hown, hts⟩ (cwV 2 hts gX5_become_X5_copy rfl rfl rfl (by decide +kernel) ⟨Nat.le_of_ble_eq_true rfl, Nat.le_of_ble_eq_true rfl⟩) (va_recv hK hP (ci := 5) (q0 := 0) rfl rfl) rfl rfl hl.1 (Nat.le_of_ble_eq_true rfl) dX5_become_113) (c_X5_copy l D cI (b 30) (d 17) (b 17) 4 (w 17) (u9 17) (by decide)) hK hN hA hP hD hS (W2 := wSt2 cI h b d u10 w) [19, 9] [0, 1, 2, 3, 4, 5, 6, 7, 8, 10, 11, 12, 13, 14, 15, 16, 17, 18] [0, 1, 2, 3, 4, 5, 6, 7, 8, 19, 9, 10, 11, 12, 13, 14, 15, 16, 17, 18] rfl rfl (by subst eu10; rfl) (by decide) ⟨Nat.le_of_ble_eq_true rfl, Nat.le_of_ble_eq_true rfl⟩ (fun H locs hP hD hS => ?_)
  exact fin _ _ _ _ _ _ _ (by (try subst eu10); (try subst eu9); (try subst eu8); (try subst eu7); (try subst eu6); (try subst eu5); (try subst eu4); (try subst eu3); (try subst eu2); (try subst eu1); rfl) hP hD hS (Nat.le_of_ble_eq_true rfl) (Nat.le_of_ble_eq_true rfl) dX5_become_116
set_option maxHeartbeats 4000000 in
set_option maxRecDepth 100000 in
theorem c_X5_are (l : Launch) (D : va_G) (cI : ClassId) (h b : Nat → Nat) (k k1 : Nat) (n q : Rc) (okn : Ok n) (x : Int32) : CI l yX5_are wsX5_are ({ frames := 0, cells := 0, slots := 0, locals := 0 } : Room) D cI [.ref (b 30), .int x] (wSt cI h k k1 b n q) (areR n q x) (wSt cI h k k1 b n q) := by
  refine CI.mk (cc := cX5_are) (maxL := 4) (ret := (some .int)) rfl rfl (by decide) rfl (Nat.le_of_ble_eq_true rfl) ?_
  intro p e s m args below meth c A Q ls hx hb hts hown hml hK hN hA hP hD hS hl fin
  have hown : s.vm.findClass RX5 = some m.cls := hown
  have hn60 := okn.n60
  have hl : lv_has ls 4 [(0, .ref (b 30)), (1, .int x)] := hl
  have f3 := hts (.fieldLink RX5 3 "NightSortersModel$State" "this$0" "LNightSortersModel;") (by decide +kernel)
  have f15 := hts (.fieldLink RX5 15 "NightSortersModel$State" "where" "[I") (by decide +kernel)
  have inX5 : ∀ w ∈ wsX50, w ∈ wsX5_are := by decide +kernel
  have inX6 : ∀ w ∈ wsX60, w ∈ wsX5_are := by decide +kernel
  refine lv_iconst (v := 0) hx hb dX5_are_0 (by decide) ?_
  refine lv_istore_n (lv' := [(2, .int 0), (0, .ref (b 30)), (1, .int x)]) hx hb dX5_are_1 rfl hl (by decide) rfl (fun ls hl => ?_)
  refine lv_iconst (v := 0) hx hb dX5_are_2 (by decide) ?_
  refine lv_istore_n (lv' := [(3, .int 0), (2, .int 0), (0, .ref (b 30)), (1, .int x)]) hx hb dX5_are_3 rfl hl (by decide) rfl (fun ls hl => ?_)
  have K4 : ∀ (n4 i4 : Nat), 0 ≤ i4 → i4 ≤ iv (n 0 0) → iv (n 0 0) < i4 + n4 → ∀ (H : Heap) (locs : List Loc), va_P D vwCl (wSt cI h k k1 b n q) H → va_D A (wSt cI h k k1 b n q) → va_S A s.heap H locs → ∀ (ls : Array Slot), lv_has ls 4 [(3, .int (nI i4)), (2, .int (cntN (fun k => decide (q 3 k = x)) i4)), (0, .ref (b 30)), (1, .int x)] → W p l e ({ frames := 0, cells := 0, slots := 0, locals := 0 } : Room) s m args below meth c H locs (0) (0) Q (F0 m 4 ls []) := by
    intro n4
    induction n4 with
    | zero => intro i4 hlo4 hi4 hn4; exact absurd hn4 (by omega)
    | succ n4 ih4 =>
      intro i4 hlo4 hi4 hn4 H locs hP hD hS ls hl
      refine lv_iload_n hx hb dX5_are_4 rfl (lv_at hl 0 rfl) ?_
      refine lv_aload_n hx hb dX5_are_5 rfl (lv_at hl 2 rfl) ?_
      refine va_get (D := D) (ci := 5) (v := .ref (h 0)) (C := RX5) (T := TX5) (N := 11) hx hb hts inX5 hown hK hP 0 rfl rfl 10 (by decide) f3 (fun _ h9 => h9) rfl dX5_are_6 ?_
      refine va_getN (D := D) (ci := 6) (v := .int (n 0 0)) (C := RX6) (T := TX6) (N := 10) hx hb hts inX6 hown hK hP 10 rfl rfl 3 (by decide) (NW.F hN (a := RX5) (i := 57) (b := "NightSortersModel") (n := "letters") (d := "I") (h9 := "NightSortersModel") (by decide +kernel)) (fun _ h9 => h9) rfl dX5_are_9 ?_
      refine lv_icmp_ge (tgt := 39) hx hb dX5_are_12 (by decide) (fun c1 => ?_) (fun c1 => ?_)
      · skip
        have hie := lp_out okn.n (by omega) hi4 c1
        refine lv_iload_n hx hb dX5_are_39 rfl (lv_at hl 1 rfl) ?_
        exact fin _ _ _ _ _ _ _ _ (by rw [hie]; rfl) rfl hP hD hS (Nat.le_of_ble_eq_true rfl) (Nat.le_of_ble_eq_true rfl) dX5_are_40
      · skip
        have hlt := lp_in okn.n (by omega) hi4 c1
        refine lv_iload_n hx hb dX5_are_15 rfl (lv_at hl 1 rfl) ?_
        refine lv_aload_n hx hb dX5_are_16 rfl (lv_at hl 2 rfl) ?_
        refine va_get (D := D) (ci := 5) (v := .ref (b 3)) (C := RX5) (T := TX5) (N := 11) hx hb hts inX5 hown hK hP 0 rfl rfl 1 (by decide) f15 (fun _ h9 => h9) rfl dX5_are_17 ?_
        refine lv_iload_n hx hb dX5_are_20 rfl (lv_at hl 0 rfl) ?_
        refine xald hx hb hK hP 1 rfl rfl (i4) (rfl) (by omega) (by decide) dX5_are_21 ?_
        refine lv_iload_n hx hb dX5_are_22 rfl (lv_at hl 3 rfl) ?_
        refine lv_icmp_ne (tgt := 30) hx hb dX5_are_23 (by decide) (fun c2 => ?_) (fun c2 => ?_)
        · skip
          refine lv_iconst (v := 0) hx hb dX5_are_30 (by decide) ?_
          refine lv_iadd hx hb dX5_are_31 ?_
          refine lv_istore_n (lv' := [(2, .int ((cntN (fun k => decide (q 3 k = x)) i4) + 0)), (3, .int (nI i4)), (0, .ref (b 30)), (1, .int x)]) hx hb dX5_are_32 rfl hl (by decide) rfl (fun ls hl => ?_)
          refine lv_iinc (v := nI (i4 + 1)) (lv' := [(3, .int (nI (i4 + 1))), (2, .int ((cntN (fun k => decide (q 3 k = x)) i4) + 0)), (0, .ref (b 30)), (1, .int x)]) hx hb dX5_are_33 hl (k := 1) rfl (nI_inc _) (by decide) rfl (fun ls hl => ?_)
          refine lv_goto (tgt := 4) hx hb dX5_are_36 (by decide) ?_
          exact ih4 (i4 + 1) (by omega) (by omega) (by omega) H locs hP hD hS ls (lv_sub hl [0, 1, 2, 3] (by first | (rw [cnt_t (decide_eq_true c2)]; rfl) | (rw [cnt_z (decide_eq_false c2)]; rfl)))
        · skip
          refine lv_iconst (v := 1) hx hb dX5_are_26 (by decide) ?_
          refine lv_goto (tgt := 31) hx hb dX5_are_27 (by decide) ?_
          refine lv_iadd hx hb dX5_are_31 ?_
          refine lv_istore_n (lv' := [(2, .int ((cntN (fun k => decide (q 3 k = x)) i4) + 1)), (3, .int (nI i4)), (0, .ref (b 30)), (1, .int x)]) hx hb dX5_are_32 rfl hl (by decide) rfl (fun ls hl => ?_)
          refine lv_iinc (v := nI (i4 + 1)) (lv' := [(3, .int (nI (i4 + 1))), (2, .int ((cntN (fun k => decide (q 3 k = x)) i4) + 1)), (0, .ref (b 30)), (1, .int x)]) hx hb dX5_are_33 hl (k := 1) rfl (nI_inc _) (by decide) rfl (fun ls hl => ?_)
          refine lv_goto (tgt := 4) hx hb dX5_are_36 (by decide) ?_
          exact ih4 (i4 + 1) (by omega) (by omega) (by omega) H locs hP hD hS ls (lv_sub hl [0, 1, 2, 3] (by first | (rw [cnt_t (decide_eq_true c2)]; rfl) | (rw [cnt_z (decide_eq_false c2)]; rfl)))
  exact K4 (iv (n 0 0) + 1) 0 (Nat.le_refl _) (by omega) (by omega) _ _ hP hD hS ls (lv_sub hl [0, 1, 2, 3] rfl)
set_option maxHeartbeats 4000000 in
set_option maxRecDepth 100000 in
theorem c_X5_inHole (l : Launch) (D : va_G) (cI : ClassId) (h b : Nat → Nat) (k k1 : Nat) (n q : Rc) (okn : Ok n) (x : Int32) : CI l yX5_inHole wsX5_inHole ({ frames := 0, cells := 0, slots := 0, locals := 0 } : Room) D cI [.ref (b 30), .int x] (wSt cI h k k1 b n q) (holeR n q x) (wSt cI h k k1 b n q) := by
  refine CI.mk (cc := cX5_inHole) (maxL := 4) (ret := (some .int)) rfl rfl (by decide) rfl (Nat.le_of_ble_eq_true rfl) ?_
  intro p e s m args below meth c A Q ls hx hb hts hown hml hK hN hA hP hD hS hl fin
  have hown : s.vm.findClass RX5 = some m.cls := hown
  have hn60 := okn.n60
  have hl : lv_has ls 4 [(0, .ref (b 30)), (1, .int x)] := hl
  have f3 := hts (.fieldLink RX5 3 "NightSortersModel$State" "this$0" "LNightSortersModel;") (by decide +kernel)
  have f15 := hts (.fieldLink RX5 15 "NightSortersModel$State" "where" "[I") (by decide +kernel)
  have inX5 : ∀ w ∈ wsX50, w ∈ wsX5_inHole := by decide +kernel
  have inX6 : ∀ w ∈ wsX60, w ∈ wsX5_inHole := by decide +kernel
  refine lv_iconst (v := 0) hx hb dX5_inHole_0 (by decide) ?_
  refine lv_istore_n (lv' := [(2, .int 0), (0, .ref (b 30)), (1, .int x)]) hx hb dX5_inHole_1 rfl hl (by decide) rfl (fun ls hl => ?_)
  refine lv_iconst (v := 0) hx hb dX5_inHole_2 (by decide) ?_
  refine lv_istore_n (lv' := [(3, .int 0), (2, .int 0), (0, .ref (b 30)), (1, .int x)]) hx hb dX5_inHole_3 rfl hl (by decide) rfl (fun ls hl => ?_)
  have K4 : ∀ (n4 i4 : Nat), 0 ≤ i4 → i4 ≤ iv (n 0 0) → iv (n 0 0) < i4 + n4 → ∀ (H : Heap) (locs : List Loc), va_P D vwCl (wSt cI h k k1 b n q) H → va_D A (wSt cI h k k1 b n q) → va_S A s.heap H locs → ∀ (ls : Array Slot), lv_has ls 4 [(3, .int (nI i4)), (2, .int (cntN (fun k => decide (q 3 k = 3 ∧ n 1 k = x)) i4)), (0, .ref (b 30)), (1, .int x)] → W p l e ({ frames := 0, cells := 0, slots := 0, locals := 0 } : Room) s m args below meth c H locs (0) (0) Q (F0 m 4 ls []) := by
    intro n4
    induction n4 with
    | zero => intro i4 hlo4 hi4 hn4; exact absurd hn4 (by omega)
    | succ n4 ih4 =>
      intro i4 hlo4 hi4 hn4 H locs hP hD hS ls hl
      refine lv_iload_n hx hb dX5_inHole_4 rfl (lv_at hl 0 rfl) ?_
      refine lv_aload_n hx hb dX5_inHole_5 rfl (lv_at hl 2 rfl) ?_
      refine va_get (D := D) (ci := 5) (v := .ref (h 0)) (C := RX5) (T := TX5) (N := 11) hx hb hts inX5 hown hK hP 0 rfl rfl 10 (by decide) f3 (fun _ h9 => h9) rfl dX5_inHole_6 ?_
      refine va_getN (D := D) (ci := 6) (v := .int (n 0 0)) (C := RX6) (T := TX6) (N := 10) hx hb hts inX6 hown hK hP 10 rfl rfl 3 (by decide) (NW.F hN (a := RX5) (i := 57) (b := "NightSortersModel") (n := "letters") (d := "I") (h9 := "NightSortersModel") (by decide +kernel)) (fun _ h9 => h9) rfl dX5_inHole_9 ?_
      refine lv_icmp_ge (tgt := 52) hx hb dX5_inHole_12 (by decide) (fun c1 => ?_) (fun c1 => ?_)
      · skip
        have hie := lp_out okn.n (by omega) hi4 c1
        refine lv_iload_n hx hb dX5_inHole_52 rfl (lv_at hl 1 rfl) ?_
        exact fin _ _ _ _ _ _ _ _ (by rw [hie]; rfl) rfl hP hD hS (Nat.le_of_ble_eq_true rfl) (Nat.le_of_ble_eq_true rfl) dX5_inHole_53
      · skip
        have hlt := lp_in okn.n (by omega) hi4 c1
        refine lv_iload_n hx hb dX5_inHole_15 rfl (lv_at hl 1 rfl) ?_
        refine lv_aload_n hx hb dX5_inHole_16 rfl (lv_at hl 2 rfl) ?_
        refine va_get (D := D) (ci := 5) (v := .ref (b 3)) (C := RX5) (T := TX5) (N := 11) hx hb hts inX5 hown hK hP 0 rfl rfl 1 (by decide) f15 (fun _ h9 => h9) rfl dX5_inHole_17 ?_
        refine lv_iload_n hx hb dX5_inHole_20 rfl (lv_at hl 0 rfl) ?_
        refine xald hx hb hK hP 1 rfl rfl (i4) (rfl) (by omega) (by decide) dX5_inHole_21 ?_
        refine lv_iconst (v := 3) hx hb dX5_inHole_22 (by decide) ?_
        refine lv_icmp_ne (tgt := 43) hx hb dX5_inHole_23 (by decide) (fun c2 => ?_) (fun c2 => ?_)
        · skip
          refine lv_iconst (v := 0) hx hb dX5_inHole_43 (by decide) ?_
          refine lv_iadd hx hb dX5_inHole_44 ?_
          refine lv_istore_n (lv' := [(2, .int ((cntN (fun k => decide (q 3 k = 3 ∧ n 1 k = x)) i4) + 0)), (3, .int (nI i4)), (0, .ref (b 30)), (1, .int x)]) hx hb dX5_inHole_45 rfl hl (by decide) rfl (fun ls hl => ?_)
          refine lv_iinc (v := nI (i4 + 1)) (lv' := [(3, .int (nI (i4 + 1))), (2, .int ((cntN (fun k => decide (q 3 k = 3 ∧ n 1 k = x)) i4) + 0)), (0, .ref (b 30)), (1, .int x)]) hx hb dX5_inHole_46 hl (k := 1) rfl (nI_inc _) (by decide) rfl (fun ls hl => ?_)
          refine lv_goto (tgt := 4) hx hb dX5_inHole_49 (by decide) ?_
          exact ih4 (i4 + 1) (by omega) (by omega) (by omega) H locs hP hD hS ls (lv_sub hl [0, 1, 2, 3] (by first | (rw [cnt_t (decide_eq_true (And.intro c1 c2))]; rfl) | (rw [cnt_z (decide_eq_false (fun h => by first | exact c2 h.1 | exact c2 h.2))]; rfl)))
        · skip
          refine lv_aload_n hx hb dX5_inHole_26 rfl (lv_at hl 2 rfl) ?_
          refine va_get (D := D) (ci := 5) (v := .ref (h 0)) (C := RX5) (T := TX5) (N := 11) hx hb hts inX5 hown hK hP 0 rfl rfl 10 (by decide) f3 (fun _ h9 => h9) rfl dX5_inHole_27 ?_
          refine va_getN (D := D) (ci := 6) (v := .ref (h 1)) (C := RX6) (T := TX6) (N := 10) hx hb hts inX6 hown hK hP 10 rfl rfl 4 (by decide) (NW.F hN (a := RX5) (i := 60) (b := "NightSortersModel") (n := "town") (d := "[I") (h9 := "NightSortersModel") (by decide +kernel)) (fun _ h9 => h9) rfl dX5_inHole_30 ?_
          refine lv_iload_n hx hb dX5_inHole_33 rfl (lv_at hl 0 rfl) ?_
          refine xald hx hb hK hP 13 rfl rfl (i4) (rfl) (by omega) (by decide) dX5_inHole_34 ?_
          refine lv_iload_n hx hb dX5_inHole_35 rfl (lv_at hl 3 rfl) ?_
          refine lv_icmp_ne (tgt := 43) hx hb dX5_inHole_36 (by decide) (fun c3 => ?_) (fun c3 => ?_)
          · skip
            refine lv_iconst (v := 0) hx hb dX5_inHole_43 (by decide) ?_
            refine lv_iadd hx hb dX5_inHole_44 ?_
            refine lv_istore_n (lv' := [(2, .int ((cntN (fun k => decide (q 3 k = 3 ∧ n 1 k = x)) i4) + 0)), (3, .int (nI i4)), (0, .ref (b 30)), (1, .int x)]) hx hb dX5_inHole_45 rfl hl (by decide) rfl (fun ls hl => ?_)
            refine lv_iinc (v := nI (i4 + 1)) (lv' := [(3, .int (nI (i4 + 1))), (2, .int ((cntN (fun k => decide (q 3 k = 3 ∧ n 1 k = x)) i4) + 0)), (0, .ref (b 30)), (1, .int x)]) hx hb dX5_inHole_46 hl (k := 1) rfl (nI_inc _) (by decide) rfl (fun ls hl => ?_)
            refine lv_goto (tgt := 4) hx hb dX5_inHole_49 (by decide) ?_
            exact ih4 (i4 + 1) (by omega) (by omega) (by omega) H locs hP hD hS ls (lv_sub hl [0, 1, 2, 3] (by first | (rw [cnt_t (decide_eq_true (And.intro c2 c3))]; rfl) | (rw [cnt_z (decide_eq_false (fun h => by first | exact c3 h.1 | exact c3 h.2))]; rfl)))
          · skip
            refine lv_iconst (v := 1) hx hb dX5_inHole_39 (by decide) ?_
            refine lv_goto (tgt := 44) hx hb dX5_inHole_40 (by decide) ?_
            refine lv_iadd hx hb dX5_inHole_44 ?_
            refine lv_istore_n (lv' := [(2, .int ((cntN (fun k => decide (q 3 k = 3 ∧ n 1 k = x)) i4) + 1)), (3, .int (nI i4)), (0, .ref (b 30)), (1, .int x)]) hx hb dX5_inHole_45 rfl hl (by decide) rfl (fun ls hl => ?_)
            refine lv_iinc (v := nI (i4 + 1)) (lv' := [(3, .int (nI (i4 + 1))), (2, .int ((cntN (fun k => decide (q 3 k = 3 ∧ n 1 k = x)) i4) + 1)), (0, .ref (b 30)), (1, .int x)]) hx hb dX5_inHole_46 hl (k := 1) rfl (nI_inc _) (by decide) rfl (fun ls hl => ?_)
            refine lv_goto (tgt := 4) hx hb dX5_inHole_49 (by decide) ?_
            exact ih4 (i4 + 1) (by omega) (by omega) (by omega) H locs hP hD hS ls (lv_sub hl [0, 1, 2, 3] (by first | (rw [cnt_t (decide_eq_true (And.intro c2 c3))]; rfl) | (rw [cnt_z (decide_eq_false (fun h => by first | exact c3 h.1 | exact c3 h.2))]; rfl)))
  exact K4 (iv (n 0 0) + 1) 0 (Nat.le_refl _) (by omega) (by omega) _ _ hP hD hS ls (lv_sub hl [0, 1, 2, 3] rfl)
set_option maxHeartbeats 4000000 in
set_option maxRecDepth 100000 in
theorem c_X5_firstFor (l : Launch) (D : va_G) (cI : ClassId) (h b : Nat → Nat) (k k1 : Nat) (n q : Rc) (okn : Ok n) (s9 : Nat) (hs : s9 < 4) (x : Int32) (ex : x = nI s9) : CI l yX5_firstFor wsX5_firstFor ({ frames := 0, cells := 0, slots := 0, locals := 0 } : Room) D cI [.ref (b 30), .int x] (wSt cI h k k1 b n q) (fforR n q s9) (wSt cI h k k1 b n q) := by
  refine CI.mk (cc := cX5_firstFor) (maxL := 3) (ret := (some .int)) rfl rfl (by decide) rfl (Nat.le_of_ble_eq_true rfl) ?_
  intro p e s m args below meth c A Q ls hx hb hts hown hml hK hN hA hP hD hS hl fin
  have hown : s.vm.findClass RX5 = some m.cls := hown
  subst ex
  have hn60 := okn.n60
  have hl : lv_has ls 3 [(0, .ref (b 30)), (1, .int (nI s9))] := hl
  have f3 := hts (.fieldLink RX5 3 "NightSortersModel$State" "this$0" "LNightSortersModel;") (by decide +kernel)
  have f15 := hts (.fieldLink RX5 15 "NightSortersModel$State" "where" "[I") (by decide +kernel)
  have f25 := hts (.fieldLink RX5 25 "NightSortersModel$State" "towns" "[I") (by decide +kernel)
  have inX5 : ∀ w ∈ wsX50, w ∈ wsX5_firstFor := by decide +kernel
  have inX6 : ∀ w ∈ wsX60, w ∈ wsX5_firstFor := by decide +kernel
  refine lv_iconst (v := 0) hx hb dX5_firstFor_0 (by decide) ?_
  refine lv_istore_n (lv' := [(2, .int 0), (0, .ref (b 30)), (1, .int (nI s9))]) hx hb dX5_firstFor_1 rfl hl (by decide) rfl (fun ls hl => ?_)
  have K2 : ∀ (n2 i2 : Nat), 0 ≤ i2 → i2 ≤ iv (n 0 0) → iv (n 0 0) < i2 + n2 → (∀ k, k < i2 → decide (q 3 k = 1 ∧ hasT (q 12 s9) (n 1 k)) = false) → ∀ (H : Heap) (locs : List Loc), va_P D vwCl (wSt cI h k k1 b n q) H → va_D A (wSt cI h k k1 b n q) → va_S A s.heap H locs → ∀ (ls : Array Slot), lv_has ls 3 [(2, .int (nI i2)), (0, .ref (b 30)), (1, .int (nI s9))] → W p l e ({ frames := 0, cells := 0, slots := 0, locals := 0 } : Room) s m args below meth c H locs (0) (0) Q (F0 m 2 ls []) := by
    intro n2
    induction n2 with
    | zero => intro i2 hlo2 hi2 hn2; exact absurd hn2 (by omega)
    | succ n2 ih2 =>
      intro i2 hlo2 hi2 hn2 hno H locs hP hD hS ls hl
      refine lv_iload_n hx hb dX5_firstFor_2 rfl (lv_at hl 0 rfl) ?_
      refine lv_aload_n hx hb dX5_firstFor_3 rfl (lv_at hl 1 rfl) ?_
      refine va_get (D := D) (ci := 5) (v := .ref (h 0)) (C := RX5) (T := TX5) (N := 11) hx hb hts inX5 hown hK hP 0 rfl rfl 10 (by decide) f3 (fun _ h9 => h9) rfl dX5_firstFor_4 ?_
      refine va_getN (D := D) (ci := 6) (v := .int (n 0 0)) (C := RX6) (T := TX6) (N := 10) hx hb hts inX6 hown hK hP 10 rfl rfl 3 (by decide) (NW.F hN (a := RX5) (i := 57) (b := "NightSortersModel") (n := "letters") (d := "I") (h9 := "NightSortersModel") (by decide +kernel)) (fun _ h9 => h9) rfl dX5_firstFor_7 ?_
      refine lv_icmp_ge (tgt := 53) hx hb dX5_firstFor_10 (by decide) (fun c1 => ?_) (fun c1 => ?_)
      · skip
        have hie := lp_out okn.n (by omega) hi2 c1
        refine lv_iconst (v := (-1)) hx hb dX5_firstFor_53 (by decide) ?_
        exact fin _ _ _ _ _ _ _ _ (by exact (fnd_no (by rw [← hie]; exact hno)).symm) rfl hP hD hS (Nat.le_of_ble_eq_true rfl) (Nat.le_of_ble_eq_true rfl) dX5_firstFor_54
      · skip
        have hlt := lp_in okn.n (by omega) hi2 c1
        refine lv_aload_n hx hb dX5_firstFor_13 rfl (lv_at hl 1 rfl) ?_
        refine va_get (D := D) (ci := 5) (v := .ref (b 3)) (C := RX5) (T := TX5) (N := 11) hx hb hts inX5 hown hK hP 0 rfl rfl 1 (by decide) f15 (fun _ h9 => h9) rfl dX5_firstFor_14 ?_
        refine lv_iload_n hx hb dX5_firstFor_17 rfl (lv_at hl 0 rfl) ?_
        refine xald hx hb hK hP 1 rfl rfl (i2) (rfl) (by omega) (by decide) dX5_firstFor_18 ?_
        refine lv_iconst (v := 1) hx hb dX5_firstFor_19 (by decide) ?_
        refine lv_icmp_ne (tgt := 47) hx hb dX5_firstFor_20 (by decide) (fun c2 => ?_) (fun c2 => ?_)
        · skip
          refine lv_iinc (v := nI (i2 + 1)) (lv' := [(2, .int (nI (i2 + 1))), (0, .ref (b 30)), (1, .int (nI s9))]) hx hb dX5_firstFor_47 hl (k := 0) rfl (nI_inc _) (by decide) rfl (fun ls hl => ?_)
          refine lv_goto (tgt := 2) hx hb dX5_firstFor_50 (by decide) ?_
          exact ih2 (i2 + 1) (by omega) (by omega) (by omega) (lt_s hno (decide_eq_false (fun h => by first | exact c2 h.1 | exact c2 h.2))) H locs hP hD hS ls (lv_sub hl [0, 1, 2] rfl)
        · skip
          refine lv_aload_n hx hb dX5_firstFor_23 rfl (lv_at hl 1 rfl) ?_
          refine va_get (D := D) (ci := 5) (v := .ref (b 12)) (C := RX5) (T := TX5) (N := 11) hx hb hts inX5 hown hK hP 0 rfl rfl 4 (by decide) f25 (fun _ h9 => h9) rfl dX5_firstFor_24 ?_
          refine lv_iload_n hx hb dX5_firstFor_27 rfl (lv_at hl 2 rfl) ?_
          refine xald hx hb hK hP 4 rfl rfl (s9) (rfl) (by omega) (by decide) dX5_firstFor_28 ?_
          refine lv_aload_n hx hb dX5_firstFor_29 rfl (lv_at hl 1 rfl) ?_
          refine va_get (D := D) (ci := 5) (v := .ref (h 0)) (C := RX5) (T := TX5) (N := 11) hx hb hts inX5 hown hK hP 0 rfl rfl 10 (by decide) f3 (fun _ h9 => h9) rfl dX5_firstFor_30 ?_
          refine va_getN (D := D) (ci := 6) (v := .ref (h 1)) (C := RX6) (T := TX6) (N := 10) hx hb hts inX6 hown hK hP 10 rfl rfl 4 (by decide) (NW.F hN (a := RX5) (i := 60) (b := "NightSortersModel") (n := "town") (d := "[I") (h9 := "NightSortersModel") (by decide +kernel)) (fun _ h9 => h9) rfl dX5_firstFor_33 ?_
          refine lv_iload_n hx hb dX5_firstFor_36 rfl (lv_at hl 0 rfl) ?_
          refine xald hx hb hK hP 13 rfl rfl (i2) (rfl) (by omega) (by decide) dX5_firstFor_37 ?_
          refine lv_ishr hx hb dX5_firstFor_38 ?_
          refine lv_iconst (v := 1) hx hb dX5_firstFor_39 (by decide) ?_
          refine lv_iand hx hb dX5_firstFor_40 ?_
          refine lv_iconst (v := 1) hx hb dX5_firstFor_41 (by decide) ?_
          refine lv_icmp_ne (tgt := 47) hx hb dX5_firstFor_42 (by decide) (fun c3 => ?_) (fun c3 => ?_)
          · skip
            refine lv_iinc (v := nI (i2 + 1)) (lv' := [(2, .int (nI (i2 + 1))), (0, .ref (b 30)), (1, .int (nI s9))]) hx hb dX5_firstFor_47 hl (k := 0) rfl (nI_inc _) (by decide) rfl (fun ls hl => ?_)
            refine lv_goto (tgt := 2) hx hb dX5_firstFor_50 (by decide) ?_
            exact ih2 (i2 + 1) (by omega) (by omega) (by omega) (lt_s hno (decide_eq_false (fun h => by first | exact c3 h.1 | exact c3 h.2))) H locs hP hD hS ls (lv_sub hl [0, 1, 2] rfl)
          · skip
            refine lv_iload_n hx hb dX5_firstFor_45 rfl (lv_at hl 0 rfl) ?_
            exact fin _ _ _ _ _ _ _ _ (by exact (fnd_at (decide_eq_true ⟨c2, c3⟩) hno (by omega) (by omega)).symm) rfl hP hD hS (Nat.le_of_ble_eq_true rfl) (Nat.le_of_ble_eq_true rfl) dX5_firstFor_46
  exact K2 (iv (n 0 0) + 1) 0 (Nat.le_refl _) (by omega) (by omega) (fun k hk => absurd hk (by omega)) _ _ hP hD hS ls (lv_sub hl [0, 1, 2] rfl)
set_option maxHeartbeats 4000000 in
set_option maxRecDepth 100000 in
theorem c_X5_take (l : Launch) (D : va_G) (cI : ClassId) (h b : Nat → Nat) (k k1 : Nat) (n q : Rc) (okn : Ok n) (s9 : Nat) (hs : s9 < 4) (x : Int32) (ex : x = nI s9) : CV l yX5_take wsX5_take ({ frames := 1, cells := 0, slots := 0, locals := 60 } : Room) D cI [.ref (b 30), .int x] (wSt cI h k k1 b n q) (wSt cI h k k1 b n (takR n s9 q)) := by
  refine CV.mk (cc := cX5_take) (maxL := 3) (by decide) rfl (Nat.le_of_ble_eq_true rfl) ?_
  intro p e s m args below meth c A Q ls hx hb hts hown hml hK hN hA hP hD hS hl fin
  have hown : s.vm.findClass RX5 = some m.cls := hown
  subst ex
  have hl : lv_has ls 3 [(0, .ref (b 30)), (1, .int (nI s9))] := hl
  have f3 := hts (.fieldLink RX5 3 "NightSortersModel$State" "this$0" "LNightSortersModel;") (by decide +kernel)
  have f15 := hts (.fieldLink RX5 15 "NightSortersModel$State" "where" "[I") (by decide +kernel)
  have f19 := hts (.fieldLink RX5 19 "NightSortersModel$State" "who" "[I") (by decide +kernel)
  have f28 := hts (.fieldLink RX5 28 "NightSortersModel$State" "tired" "[I") (by decide +kernel)
  have f31 := hts (.fieldLink RX5 31 "NightSortersModel$State" "tea" "[I") (by decide +kernel)
  have f34 := hts (.fieldLink RX5 34 "NightSortersModel$State" "holds" "[I") (by decide +kernel)
  have f37 := hts (.fieldLink RX5 37 "NightSortersModel$State" "left" "[I") (by decide +kernel)
  have inX5 : ∀ w ∈ wsX50, w ∈ wsX5_take := by decide +kernel
  have inX6 : ∀ w ∈ wsX60, w ∈ wsX5_take := by decide +kernel
  refine lv_aload_n hx hb dX5_take_0 rfl (lv_at hl 0 rfl) ?_
  refine lv_iload_n hx hb dX5_take_1 rfl (lv_at hl 1 rfl) ?_
  refine ycalli (invV (As := [.int (nI s9)]) (rest := []) (rm := ({ frames := 0, cells := 0, slots := 0, locals := 0 } : Room)) ⟨hx, hb, hml, hown, hts⟩ (cwV 1 hts gX5_take_X5_firstFor rfl rfl rfl (by decide +kernel) ⟨Nat.le_of_ble_eq_true rfl, Nat.le_of_ble_eq_true rfl⟩) (va_recv hK hP (ci := 5) (q0 := 0) rfl rfl) rfl rfl hl.1 (Nat.le_of_ble_eq_true rfl) dX5_take_2) (c_X5_firstFor l D cI h b k k1 n q okn s9 hs (nI s9) rfl) hK hN hA hP hD hS (W2 := wSt cI h k k1 b n q) [0, 1, 2, 3, 4, 5, 6, 7, 8, 9, 10, 11, 12, 13, 14, 15] [] [0, 1, 2, 3, 4, 5, 6, 7, 8, 9, 10, 11, 12, 13, 14, 15] rfl rfl rfl (by decide) ⟨Nat.le_of_ble_eq_true rfl, Nat.le_of_ble_eq_true rfl⟩ (fun H locs hP hD hS => ?_)
  refine lv_istore_n (lv' := [(2, .int (fforR n q s9)), (0, .ref (b 30)), (1, .int (nI s9))]) hx hb dX5_take_5 rfl hl (by decide) rfl (fun ls hl => ?_)
  refine lv_iload_n hx hb dX5_take_6 rfl (lv_at hl 0 rfl) ?_
  refine lv_iconst (v := (-1)) hx hb dX5_take_7 (by decide) ?_
  refine lv_icmp_ne (tgt := 12) hx hb dX5_take_8 (by decide) (fun c1 => ?_) (fun c1 => ?_)
  · skip
    refine lv_aload_n hx hb dX5_take_12 rfl (lv_at hl 1 rfl) ?_
    refine va_get (D := D) (ci := 5) (v := .ref (b 15)) (C := RX5) (T := TX5) (N := 11) hx hb hts inX5 hown hK hP 0 rfl rfl 7 (by decide) f34 (fun _ h9 => h9) rfl dX5_take_13 ?_
    refine lv_iload_n hx hb dX5_take_16 rfl (lv_at hl 2 rfl) ?_
    refine lv_iload_n hx hb dX5_take_17 rfl (lv_at hl 0 rfl) ?_
    obtain ⟨u2, eu2⟩ : ∃ z0 : Rc, z0 = put q 15 s9 (fforR n q s9) := ⟨_, rfl⟩
    refine xast hx hb hK hP hD hS 7 rfl rfl (s9) (rfl) (by omega) (by decide) (wSt cI h k k1 b n u2) (by subst eu2; rfl) dX5_take_18 (fun H locs hP hD hS => ?_)
    refine lv_aload_n hx hb dX5_take_19 rfl (lv_at hl 1 rfl) ?_
    refine va_get (D := D) (ci := 5) (v := .ref (b 16)) (C := RX5) (T := TX5) (N := 11) hx hb hts inX5 hown hK hP 0 rfl rfl 8 (by decide) f37 (fun _ h9 => h9) rfl dX5_take_20 ?_
    refine lv_iload_n hx hb dX5_take_23 rfl (lv_at hl 2 rfl) ?_
    refine lv_iconst (v := 1) hx hb dX5_take_24 (by decide) ?_
    refine lv_aload_n hx hb dX5_take_25 rfl (lv_at hl 1 rfl) ?_
    refine va_get (D := D) (ci := 5) (v := .ref (h 0)) (C := RX5) (T := TX5) (N := 11) hx hb hts inX5 hown hK hP 0 rfl rfl 10 (by decide) f3 (fun _ h9 => h9) rfl dX5_take_26 ?_
    refine va_getN (D := D) (ci := 6) (v := .ref (h 11)) (C := RX6) (T := TX6) (N := 10) hx hb hts inX6 hown hK hP 10 rfl rfl 7 (by decide) (NW.F hN (a := RX5) (i := 67) (b := "NightSortersModel") (n := "pace") (d := "[I") (h9 := "NightSortersModel") (by decide +kernel)) (fun _ h9 => h9) rfl dX5_take_29 ?_
    refine lv_iload_n hx hb dX5_take_32 rfl (lv_at hl 2 rfl) ?_
    refine xald hx hb hK hP 15 rfl rfl (s9) (rfl) (by omega) (by decide) dX5_take_33 ?_
    refine lv_aload_n hx hb dX5_take_34 rfl (lv_at hl 1 rfl) ?_
    refine va_get (D := D) (ci := 5) (v := .ref (b 13)) (C := RX5) (T := TX5) (N := 11) hx hb hts inX5 hown hK hP 0 rfl rfl 5 (by decide) f28 (fun _ h9 => h9) rfl dX5_take_35 ?_
    refine lv_iload_n hx hb dX5_take_38 rfl (lv_at hl 2 rfl) ?_
    refine xald hx hb hK hP 5 rfl rfl (s9) (rfl) (by omega) (by decide) dX5_take_39 ?_
    refine lv_iconst (v := 5) hx hb dX5_take_40 (by decide) ?_
    refine lv_idiv hx hb dX5_take_41 (by decide) ?_
    refine lv_iadd hx hb dX5_take_42 ?_
    refine lv_iconst (v := 2) hx hb dX5_take_43 (by decide) ?_
    refine lv_aload_n hx hb dX5_take_44 rfl (lv_at hl 1 rfl) ?_
    refine va_get (D := D) (ci := 5) (v := .ref (b 14)) (C := RX5) (T := TX5) (N := 11) hx hb hts inX5 hown hK hP 0 rfl rfl 6 (by decide) f31 (fun _ h9 => h9) rfl dX5_take_45 ?_
    refine lv_iload_n hx hb dX5_take_48 rfl (lv_at hl 2 rfl) ?_
    refine xald hx hb hK hP 6 rfl rfl (s9) (rfl) (by omega) (by decide) dX5_take_49 ?_
    refine lv_imul hx hb dX5_take_50 ?_
    refine lv_isub hx hb dX5_take_51 ?_
    refine va_mmax hx hb (hml.trans hl.1.symm) hown (hts (.methodLink RX5 70 Lib.Math.max.name) (by decide +kernel)) (hts (.static Lib.Math.max.name) (by decide +kernel)) (hts (.initialized "java/lang/Math") (by decide +kernel)) (hts (.code Lib.Math.max.name Lib.Math.max.code 2 (some .int)) (by decide +kernel)) (Nat.le_of_ble_eq_true rfl) (Nat.le_of_ble_eq_true rfl) (Nat.zero_le _) (Nat.zero_le _) dX5_take_52 ?_
    obtain ⟨u3, eu3⟩ : ∃ z0 : Rc, z0 = put u2 16 s9 (if 1 < ((n 11 s9) + ((u2 13 s9) / 5)) - (2 * (u2 14 s9)) then ((n 11 s9) + ((u2 13 s9) / 5)) - (2 * (u2 14 s9)) else 1) := ⟨_, rfl⟩
    refine xast hx hb hK hP hD hS 8 rfl rfl (s9) (rfl) (by omega) (by decide) (wSt cI h k k1 b n u3) (by subst eu3; rfl) dX5_take_55 (fun H locs hP hD hS => ?_)
    refine lv_aload_n hx hb dX5_take_56 rfl (lv_at hl 1 rfl) ?_
    refine va_get (D := D) (ci := 5) (v := .ref (b 3)) (C := RX5) (T := TX5) (N := 11) hx hb hts inX5 hown hK hP 0 rfl rfl 1 (by decide) f15 (fun _ h9 => h9) rfl dX5_take_57 ?_
    refine lv_iload_n hx hb dX5_take_60 rfl (lv_at hl 0 rfl) ?_
    refine lv_iconst (v := 2) hx hb dX5_take_61 (by decide) ?_
    obtain ⟨u4, eu4⟩ : ∃ z0 : Rc, z0 = put u3 3 (iv (fforR n q s9)) 2 := ⟨_, rfl⟩
    refine xast hx hb hK hP hD hS 1 rfl rfl (iv (fforR n q s9)) (vi_eq (ffor_in okn c1) (by decide)) (vi_lt (ffor_in okn c1)) (by decide) (wSt cI h k k1 b n u4) (by subst eu4; rfl) dX5_take_62 (fun H locs hP hD hS => ?_)
    refine lv_aload_n hx hb dX5_take_63 rfl (lv_at hl 1 rfl) ?_
    refine va_get (D := D) (ci := 5) (v := .ref (b 4)) (C := RX5) (T := TX5) (N := 11) hx hb hts inX5 hown hK hP 0 rfl rfl 2 (by decide) f19 (fun _ h9 => h9) rfl dX5_take_64 ?_
    refine lv_iload_n hx hb dX5_take_67 rfl (lv_at hl 0 rfl) ?_
    refine lv_iload_n hx hb dX5_take_68 rfl (lv_at hl 2 rfl) ?_
    obtain ⟨u5, eu5⟩ : ∃ z0 : Rc, z0 = put u4 4 (iv (fforR n q s9)) (nI s9) := ⟨_, rfl⟩
    refine xast hx hb hK hP hD hS 2 rfl rfl (iv (fforR n q s9)) (vi_eq (ffor_in okn c1) (by decide)) (vi_lt (ffor_in okn c1)) (by decide) (wSt cI h k k1 b n u5) (by subst eu5; rfl) dX5_take_69 (fun H locs hP hD hS => ?_)
    have h6 : u5 = takR n s9 q := (by (try subst eu5); (try subst eu4); (try subst eu3); (try subst eu2); simp only [takR, tkX, ndR, c1, ↓reduceIte, not_false_eq_true, not_true_eq_false, and_true, true_and, and_false, false_and, or_true, true_or, or_false, false_or, and_self, or_self])
    exact fin _ _ _ _ _ _ _ (congrArg (fun z9 : Rc => wSt cI h k k1 b n z9) h6) hP hD hS (Nat.le_of_ble_eq_true rfl) (Nat.le_of_ble_eq_true rfl) dX5_take_70
  · skip
    have h7 : q = takR n s9 q := (by  simp only [takR, tkX, ndR, c1, ↓reduceIte, not_false_eq_true, not_true_eq_false, and_true, true_and, and_false, false_and, or_true, true_or, or_false, false_or, and_self, or_self])
    exact fin _ _ _ _ _ _ _ (congrArg (fun z9 : Rc => wSt cI h k k1 b n z9) h7) hP hD hS (Nat.le_of_ble_eq_true rfl) (Nat.le_of_ble_eq_true rfl) dX5_take_11
set_option maxHeartbeats 4000000 in
set_option maxRecDepth 100000 in
theorem c_X5_let (l : Launch) (D : va_G) (cI : ClassId) (h b : Nat → Nat) (k k1 : Nat) (n q : Rc) (ok : Ok q) (s9 : Nat) (hs : s9 < 4) (x : Int32) (ex : x = nI s9) (hh : ¬ q 15 s9 = -1) (t : Int32) : CV l yX5_let wsX5_let ({ frames := 0, cells := 0, slots := 0, locals := 0 } : Room) D cI [.ref (b 30), .int x, .int t] (wSt cI h k k1 b n q) (wSt cI h k k1 b n (letR s9 t q)) := by
  refine CV.mk (cc := cX5_let) (maxL := 4) (by decide) rfl (Nat.le_of_ble_eq_true rfl) ?_
  intro p e s m args below meth c A Q ls hx hb hts hown hml hK hN hA hP hD hS hl fin
  have hown : s.vm.findClass RX5 = some m.cls := hown
  subst ex
  have hl : lv_has ls 4 [(0, .ref (b 30)), (1, .int (nI s9)), (2, .int t)] := hl
  have f15 := hts (.fieldLink RX5 15 "NightSortersModel$State" "where" "[I") (by decide +kernel)
  have f19 := hts (.fieldLink RX5 19 "NightSortersModel$State" "who" "[I") (by decide +kernel)
  have f34 := hts (.fieldLink RX5 34 "NightSortersModel$State" "holds" "[I") (by decide +kernel)
  have f37 := hts (.fieldLink RX5 37 "NightSortersModel$State" "left" "[I") (by decide +kernel)
  have inX5 : ∀ w ∈ wsX50, w ∈ wsX5_let := by decide +kernel
  refine lv_aload_n hx hb dX5_let_0 rfl (lv_at hl 0 rfl) ?_
  refine va_get (D := D) (ci := 5) (v := .ref (b 15)) (C := RX5) (T := TX5) (N := 11) hx hb hts inX5 hown hK hP 0 rfl rfl 7 (by decide) f34 (fun _ h9 => h9) rfl dX5_let_1 ?_
  refine lv_iload_n hx hb dX5_let_4 rfl (lv_at hl 1 rfl) ?_
  refine xald hx hb hK hP 7 rfl rfl (s9) (rfl) (by omega) (by decide) dX5_let_5 ?_
  refine lv_istore_n (lv' := [(3, .int (q 15 s9)), (0, .ref (b 30)), (1, .int (nI s9)), (2, .int t)]) hx hb dX5_let_6 rfl hl (by decide) rfl (fun ls hl => ?_)
  refine lv_aload_n hx hb dX5_let_7 rfl (lv_at hl 1 rfl) ?_
  refine va_get (D := D) (ci := 5) (v := .ref (b 3)) (C := RX5) (T := TX5) (N := 11) hx hb hts inX5 hown hK hP 0 rfl rfl 1 (by decide) f15 (fun _ h9 => h9) rfl dX5_let_8 ?_
  refine lv_iload_n hx hb dX5_let_11 rfl (lv_at hl 0 rfl) ?_
  refine lv_iload_n hx hb dX5_let_12 rfl (lv_at hl 3 rfl) ?_
  obtain ⟨u1, eu1⟩ : ∃ z0 : Rc, z0 = put q 3 (iv (q 15 s9)) t := ⟨_, rfl⟩
  refine xast hx hb hK hP hD hS 1 rfl rfl (iv (q 15 s9)) (vi_eq (ok.held hh) (by decide)) (vi_lt (ok.held hh)) (by decide) (wSt cI h k k1 b n u1) (by subst eu1; rfl) dX5_let_13 (fun H locs hP hD hS => ?_)
  refine lv_aload_n hx hb dX5_let_14 rfl (lv_at hl 1 rfl) ?_
  refine va_get (D := D) (ci := 5) (v := .ref (b 4)) (C := RX5) (T := TX5) (N := 11) hx hb hts inX5 hown hK hP 0 rfl rfl 2 (by decide) f19 (fun _ h9 => h9) rfl dX5_let_15 ?_
  refine lv_iload_n hx hb dX5_let_18 rfl (lv_at hl 0 rfl) ?_
  refine lv_iconst (v := (-1)) hx hb dX5_let_19 (by decide) ?_
  obtain ⟨u2, eu2⟩ : ∃ z0 : Rc, z0 = put u1 4 (iv (q 15 s9)) (-1) := ⟨_, rfl⟩
  refine xast hx hb hK hP hD hS 2 rfl rfl (iv (q 15 s9)) (vi_eq (ok.held hh) (by decide)) (vi_lt (ok.held hh)) (by decide) (wSt cI h k k1 b n u2) (by subst eu2; rfl) dX5_let_20 (fun H locs hP hD hS => ?_)
  refine lv_aload_n hx hb dX5_let_21 rfl (lv_at hl 1 rfl) ?_
  refine va_get (D := D) (ci := 5) (v := .ref (b 15)) (C := RX5) (T := TX5) (N := 11) hx hb hts inX5 hown hK hP 0 rfl rfl 7 (by decide) f34 (fun _ h9 => h9) rfl dX5_let_22 ?_
  refine lv_iload_n hx hb dX5_let_25 rfl (lv_at hl 2 rfl) ?_
  refine lv_iconst (v := (-1)) hx hb dX5_let_26 (by decide) ?_
  obtain ⟨u3, eu3⟩ : ∃ z0 : Rc, z0 = put u2 15 s9 (-1) := ⟨_, rfl⟩
  refine xast hx hb hK hP hD hS 7 rfl rfl (s9) (rfl) (by omega) (by decide) (wSt cI h k k1 b n u3) (by subst eu3; rfl) dX5_let_27 (fun H locs hP hD hS => ?_)
  refine lv_aload_n hx hb dX5_let_28 rfl (lv_at hl 1 rfl) ?_
  refine va_get (D := D) (ci := 5) (v := .ref (b 16)) (C := RX5) (T := TX5) (N := 11) hx hb hts inX5 hown hK hP 0 rfl rfl 8 (by decide) f37 (fun _ h9 => h9) rfl dX5_let_29 ?_
  refine lv_iload_n hx hb dX5_let_32 rfl (lv_at hl 2 rfl) ?_
  refine lv_iconst (v := 0) hx hb dX5_let_33 (by decide) ?_
  obtain ⟨u4, eu4⟩ : ∃ z0 : Rc, z0 = put u3 16 s9 0 := ⟨_, rfl⟩
  refine xast hx hb hK hP hD hS 8 rfl rfl (s9) (rfl) (by omega) (by decide) (wSt cI h k k1 b n u4) (by subst eu4; rfl) dX5_let_34 (fun H locs hP hD hS => ?_)
  have h5 : u4 = letR s9 t q := (by (try subst eu4); (try subst eu3); (try subst eu2); (try subst eu1); simp only [letR, ↓reduceIte, not_false_eq_true, not_true_eq_false, and_true, true_and, and_false, false_and, or_true, true_or, or_false, false_or, and_self, or_self])
  exact fin _ _ _ _ _ _ _ (congrArg (fun z9 : Rc => wSt cI h k k1 b n z9) h5) hP hD hS (Nat.le_of_ble_eq_true rfl) (Nat.le_of_ble_eq_true rfl) dX5_let_35
set_option maxHeartbeats 4000000 in
set_option maxRecDepth 100000 in
theorem c_X5_work (l : Launch) (D : va_G) (cI : ClassId) (h b : Nat → Nat) (k k1 : Nat) (n q : Rc) (okn : Ok n) (ok : Ok q) (s9 : Nat) (hs : s9 < 4) (x : Int32) (ex : x = nI s9) : CV l yX5_work wsX5_work ({ frames := 2, cells := 0, slots := 0, locals := 82 } : Room) D cI [.ref (b 30), .int x] (wSt cI h k k1 b n q) (wSt cI h k k1 b n (wrkR n s9 q)) := by
  refine CV.mk (cc := cX5_work) (maxL := 3) (by decide) rfl (Nat.le_of_ble_eq_true rfl) ?_
  intro p e s m args below meth c A Q ls hx hb hts hown hml hK hN hA hP hD hS hl fin
  have hown : s.vm.findClass RX5 = some m.cls := hown
  subst ex
  have hl : lv_has ls 3 [(0, .ref (b 30)), (1, .int (nI s9))] := hl
  have f3 := hts (.fieldLink RX5 3 "NightSortersModel$State" "this$0" "LNightSortersModel;") (by decide +kernel)
  have f28 := hts (.fieldLink RX5 28 "NightSortersModel$State" "tired" "[I") (by decide +kernel)
  have f34 := hts (.fieldLink RX5 34 "NightSortersModel$State" "holds" "[I") (by decide +kernel)
  have f37 := hts (.fieldLink RX5 37 "NightSortersModel$State" "left" "[I") (by decide +kernel)
  have f40 := hts (.fieldLink RX5 40 "NightSortersModel$State" "sorted" "[I") (by decide +kernel)
  have inX5 : ∀ w ∈ wsX50, w ∈ wsX5_work := by decide +kernel
  have inX6 : ∀ w ∈ wsX60, w ∈ wsX5_work := by decide +kernel
  refine lv_aload_n hx hb dX5_work_0 rfl (lv_at hl 0 rfl) ?_
  refine va_get (D := D) (ci := 5) (v := .ref (b 15)) (C := RX5) (T := TX5) (N := 11) hx hb hts inX5 hown hK hP 0 rfl rfl 7 (by decide) f34 (fun _ h9 => h9) rfl dX5_work_1 ?_
  refine lv_iload_n hx hb dX5_work_4 rfl (lv_at hl 1 rfl) ?_
  refine xald hx hb hK hP 7 rfl rfl (s9) (rfl) (by omega) (by decide) dX5_work_5 ?_
  refine lv_iconst (v := (-1)) hx hb dX5_work_6 (by decide) ?_
  refine lv_icmp_ne (tgt := 15) hx hb dX5_work_7 (by decide) (fun c1 => ?_) (fun c1 => ?_)
  · skip
    refine lv_aload_n hx hb dX5_work_15 rfl (lv_at hl 0 rfl) ?_
    refine va_get (D := D) (ci := 5) (v := .ref (b 15)) (C := RX5) (T := TX5) (N := 11) hx hb hts inX5 hown hK hP 0 rfl rfl 7 (by decide) f34 (fun _ h9 => h9) rfl dX5_work_16 ?_
    refine lv_iload_n hx hb dX5_work_19 rfl (lv_at hl 1 rfl) ?_
    refine xald hx hb hK hP 7 rfl rfl (s9) (rfl) (by omega) (by decide) dX5_work_20 ?_
    refine lv_iconst (v := (-1)) hx hb dX5_work_21 (by decide) ?_
    refine lv_icmp_ne (tgt := 26) hx hb dX5_work_22 (by decide) (fun c2 => ?_) (fun c2 => ?_)
    · skip
      have h15a : ¬ q 15 s9 = -1 := c2
      refine lv_aload_n hx hb dX5_work_26 rfl (lv_at hl 0 rfl) ?_
      refine va_get (D := D) (ci := 5) (v := .ref (b 16)) (C := RX5) (T := TX5) (N := 11) hx hb hts inX5 hown hK hP 0 rfl rfl 8 (by decide) f37 (fun _ h9 => h9) rfl dX5_work_27 ?_
      refine lv_iload_n hx hb dX5_work_30 rfl (lv_at hl 1 rfl) ?_
      refine lv_dup2_11 hx hb dX5_work_31 rfl rfl ?_
      refine xald hx hb hK hP 8 rfl rfl (s9) (rfl) (by omega) (by decide) dX5_work_32 ?_
      refine lv_iconst (v := 1) hx hb dX5_work_33 (by decide) ?_
      refine lv_isub hx hb dX5_work_34 ?_
      obtain ⟨u3, eu3⟩ : ∃ z0 : Rc, z0 = put q 16 s9 ((q 16 s9) - 1) := ⟨_, rfl⟩
      refine xast hx hb hK hP hD hS 8 rfl rfl (s9) (rfl) (by omega) (by decide) (wSt cI h k k1 b n u3) (by subst eu3; rfl) dX5_work_35 (fun H locs hP hD hS => ?_)
      refine lv_aload_n hx hb dX5_work_36 rfl (lv_at hl 0 rfl) ?_
      refine va_get (D := D) (ci := 5) (v := .ref (b 16)) (C := RX5) (T := TX5) (N := 11) hx hb hts inX5 hown hK hP 0 rfl rfl 8 (by decide) f37 (fun _ h9 => h9) rfl dX5_work_37 ?_
      refine lv_iload_n hx hb dX5_work_40 rfl (lv_at hl 1 rfl) ?_
      refine xald hx hb hK hP 8 rfl rfl (s9) (rfl) (by omega) (by decide) dX5_work_41 ?_
      refine lv_if_le (tgt := 46) hx hb dX5_work_42 (by decide) (fun c4 => ?_) (fun c4 => ?_)
      · skip
        have h15 : ¬ u3 15 s9 = -1 := (by (try subst eu3); exact h15a)
        have okd : Ok u3 := (by (try subst eu3); exact (decB_pr (s := s9)).ok ok)
        refine lv_aload_n hx hb dX5_work_46 rfl (lv_at hl 0 rfl) ?_
        refine lv_aload_n hx hb dX5_work_47 rfl (lv_at hl 0 rfl) ?_
        refine va_get (D := D) (ci := 5) (v := .ref (h 0)) (C := RX5) (T := TX5) (N := 11) hx hb hts inX5 hown hK hP 0 rfl rfl 10 (by decide) f3 (fun _ h9 => h9) rfl dX5_work_48 ?_
        refine va_getN (D := D) (ci := 6) (v := .ref (h 1)) (C := RX6) (T := TX6) (N := 10) hx hb hts inX6 hown hK hP 10 rfl rfl 4 (by decide) (NW.F hN (a := RX5) (i := 60) (b := "NightSortersModel") (n := "town") (d := "[I") (h9 := "NightSortersModel") (by decide +kernel)) (fun _ h9 => h9) rfl dX5_work_51 ?_
        refine lv_aload_n hx hb dX5_work_54 rfl (lv_at hl 0 rfl) ?_
        refine va_get (D := D) (ci := 5) (v := .ref (b 15)) (C := RX5) (T := TX5) (N := 11) hx hb hts inX5 hown hK hP 0 rfl rfl 7 (by decide) f34 (fun _ h9 => h9) rfl dX5_work_55 ?_
        refine lv_iload_n hx hb dX5_work_58 rfl (lv_at hl 1 rfl) ?_
        refine xald hx hb hK hP 7 rfl rfl (s9) (rfl) (by omega) (by decide) dX5_work_59 ?_
        refine xald hx hb hK hP 13 rfl rfl (iv (u3 15 s9)) (vi_eq (okd.held h15) (by decide)) (vi_lt (okd.held h15)) (by decide) dX5_work_60 ?_
        refine ycalli (invV (As := [.int (n 1 (iv (u3 15 s9)))]) (rest := []) (rm := ({ frames := 0, cells := 0, slots := 0, locals := 0 } : Room)) ⟨hx, hb, hml, hown, hts⟩ (cwV 1 hts gX5_work_X5_inHole rfl rfl rfl (by decide +kernel) ⟨Nat.le_of_ble_eq_true rfl, Nat.le_of_ble_eq_true rfl⟩) (va_recv hK hP (ci := 5) (q0 := 0) rfl rfl) rfl rfl hl.1 (Nat.le_of_ble_eq_true rfl) dX5_work_61) (c_X5_inHole l D cI h b k k1 n u3 okn (n 1 (iv (u3 15 s9)))) hK hN hA hP hD hS (W2 := wSt cI h k k1 b n u3) [0, 1, 2, 3, 4, 5, 6, 7, 8, 9, 10, 11, 12, 13, 14, 15] [] [0, 1, 2, 3, 4, 5, 6, 7, 8, 9, 10, 11, 12, 13, 14, 15] rfl rfl rfl (by decide) ⟨Nat.le_of_ble_eq_true rfl, Nat.le_of_ble_eq_true rfl⟩ (fun H locs hP hD hS => ?_)
        refine lv_bipush (v := 8) hx hb dX5_work_64 (by decide) ?_
        refine lv_icmp_ge (tgt := 73) hx hb dX5_work_66 (by decide) (fun c5 => ?_) (fun c5 => ?_)
        · skip
          refine lv_iconst (v := 0) hx hb dX5_work_73 (by decide) ?_
          refine lv_istore_n (lv' := [(2, .int 0), (0, .ref (b 30)), (1, .int (nI s9))]) hx hb dX5_work_74 rfl hl (by decide) rfl (fun ls hl => ?_)
          refine lv_aload_n hx hb dX5_work_75 rfl (lv_at hl 1 rfl) ?_
          refine lv_iload_n hx hb dX5_work_76 rfl (lv_at hl 2 rfl) ?_
          refine lv_iload_n hx hb dX5_work_77 rfl (lv_at hl 0 rfl) ?_
          refine lv_if_eq (tgt := 85) hx hb dX5_work_78 (by decide) (fun c6 => ?_) (fun c6 => ?_)
          · skip
            refine lv_iconst (v := 1) hx hb dX5_work_85 (by decide) ?_
            obtain ⟨u7, eu7⟩ : ∃ z0 : Rc, z0 = letR s9 1 u3 := ⟨_, rfl⟩
            refine ycallv (invV (As := [.int (nI s9), .int 1]) (rest := []) (rm := ({ frames := 0, cells := 0, slots := 0, locals := 0 } : Room)) ⟨hx, hb, hml, hown, hts⟩ (cwV 2 hts gX5_work_X5_let rfl rfl rfl (by decide +kernel) ⟨Nat.le_of_ble_eq_true rfl, Nat.le_of_ble_eq_true rfl⟩) (va_recv hK hP (ci := 5) (q0 := 0) rfl rfl) rfl rfl hl.1 (Nat.le_of_ble_eq_true rfl) dX5_work_86) (c_X5_let l D cI h b k k1 n u3 okd s9 hs (nI s9) rfl h15 1) hK hN hA hP hD hS (W2 := wSt cI h k k1 b n u7) [0, 1, 2, 3, 4, 5, 6, 7, 8, 9, 10, 11, 12, 13, 14, 15] [] [0, 1, 2, 3, 4, 5, 6, 7, 8, 9, 10, 11, 12, 13, 14, 15] rfl rfl (by subst eu7; rfl) (by decide) ⟨Nat.le_of_ble_eq_true rfl, Nat.le_of_ble_eq_true rfl⟩ (fun H locs hP hD hS => ?_)
            refine lv_aload_n hx hb dX5_work_89 rfl (lv_at hl 1 rfl) ?_
            refine va_get (D := D) (ci := 5) (v := .ref (b 17)) (C := RX5) (T := TX5) (N := 11) hx hb hts inX5 hown hK hP 0 rfl rfl 9 (by decide) f40 (fun _ h9 => h9) rfl dX5_work_90 ?_
            refine lv_iload_n hx hb dX5_work_93 rfl (lv_at hl 2 rfl) ?_
            refine lv_dup2_11 hx hb dX5_work_94 rfl rfl ?_
            refine xald hx hb hK hP 9 rfl rfl (s9) (rfl) (by omega) (by decide) dX5_work_95 ?_
            refine lv_iload_n hx hb dX5_work_96 rfl (lv_at hl 0 rfl) ?_
            refine lv_if_eq (tgt := 104) hx hb dX5_work_97 (by decide) (fun c8 => ?_) (fun c8 => ?_)
            · skip
              refine lv_iconst (v := 0) hx hb dX5_work_104 (by decide) ?_
              refine lv_iadd hx hb dX5_work_105 ?_
              obtain ⟨u9, eu9⟩ : ∃ z0 : Rc, z0 = put u7 17 s9 ((u7 17 s9) + 0) := ⟨_, rfl⟩
              refine xast hx hb hK hP hD hS 9 rfl rfl (s9) (rfl) (by omega) (by decide) (wSt cI h k k1 b n u9) (by subst eu9; rfl) dX5_work_106 (fun H locs hP hD hS => ?_)
              refine lv_aload_n hx hb dX5_work_107 rfl (lv_at hl 1 rfl) ?_
              refine va_get (D := D) (ci := 5) (v := .ref (b 13)) (C := RX5) (T := TX5) (N := 11) hx hb hts inX5 hown hK hP 0 rfl rfl 5 (by decide) f28 (fun _ h9 => h9) rfl dX5_work_108 ?_
              refine lv_iload_n hx hb dX5_work_111 rfl (lv_at hl 2 rfl) ?_
              refine lv_dup2_11 hx hb dX5_work_112 rfl rfl ?_
              refine xald hx hb hK hP 5 rfl rfl (s9) (rfl) (by omega) (by decide) dX5_work_113 ?_
              refine lv_iconst (v := 1) hx hb dX5_work_114 (by decide) ?_
              refine lv_iadd hx hb dX5_work_115 ?_
              obtain ⟨u10, eu10⟩ : ∃ z0 : Rc, z0 = put u9 13 s9 ((u9 13 s9) + 1) := ⟨_, rfl⟩
              refine xast hx hb hK hP hD hS 5 rfl rfl (s9) (rfl) (by omega) (by decide) (wSt cI h k k1 b n u10) (by subst eu10; rfl) dX5_work_116 (fun H locs hP hD hS => ?_)
              have h11 : u10 = wrkR n s9 q := (by (try subst eu10); (try subst eu9); (try subst eu7); (try subst eu3); unfold wrkR; first | exact absurd c2 c1 | ((first | rw [opt_f (p := fun w => w 15 s9 = -1) c1] | rw [opt_t (p := fun w => w 15 s9 = -1) c1]) <;> (first | rw [opt_f (p := fun w => ¬ w 15 s9 = -1) (fun h => h c2)] | (rw [opt_t (p := fun w => ¬ w 15 s9 = -1) c2]; unfold wk2R decB; (first | rw [opt_f (p := fun w => w 16 s9 ≤ 0) c4] | (rw [opt_t (p := fun w => w 16 s9 ≤ 0) c4]; unfold donR; (first | (rw [if_pos c5] <;> rfl) | (rw [if_neg c5] <;> rfl))))))))
              exact fin _ _ _ _ _ _ _ (congrArg (fun z9 : Rc => wSt cI h k k1 b n z9) h11) hP hD hS (Nat.le_of_ble_eq_true rfl) (Nat.le_of_ble_eq_true rfl) dX5_work_117
            · exact absurd (by decide) c8
          · exact absurd (by decide) c6
        · skip
          refine lv_iconst (v := 1) hx hb dX5_work_69 (by decide) ?_
          refine lv_goto (tgt := 74) hx hb dX5_work_70 (by decide) ?_
          refine lv_istore_n (lv' := [(2, .int 1), (0, .ref (b 30)), (1, .int (nI s9))]) hx hb dX5_work_74 rfl hl (by decide) rfl (fun ls hl => ?_)
          refine lv_aload_n hx hb dX5_work_75 rfl (lv_at hl 1 rfl) ?_
          refine lv_iload_n hx hb dX5_work_76 rfl (lv_at hl 2 rfl) ?_
          refine lv_iload_n hx hb dX5_work_77 rfl (lv_at hl 0 rfl) ?_
          refine lv_if_eq (tgt := 85) hx hb dX5_work_78 (by decide) (fun c12 => ?_) (fun c12 => ?_)
          · exact absurd c12 (by decide)
          · skip
            refine lv_iconst (v := 3) hx hb dX5_work_81 (by decide) ?_
            refine lv_goto (tgt := 86) hx hb dX5_work_82 (by decide) ?_
            obtain ⟨u13, eu13⟩ : ∃ z0 : Rc, z0 = letR s9 3 u3 := ⟨_, rfl⟩
            refine ycallv (invV (As := [.int (nI s9), .int 3]) (rest := []) (rm := ({ frames := 0, cells := 0, slots := 0, locals := 0 } : Room)) ⟨hx, hb, hml, hown, hts⟩ (cwV 2 hts gX5_work_X5_let rfl rfl rfl (by decide +kernel) ⟨Nat.le_of_ble_eq_true rfl, Nat.le_of_ble_eq_true rfl⟩) (va_recv hK hP (ci := 5) (q0 := 0) rfl rfl) rfl rfl hl.1 (Nat.le_of_ble_eq_true rfl) dX5_work_86) (c_X5_let l D cI h b k k1 n u3 okd s9 hs (nI s9) rfl h15 3) hK hN hA hP hD hS (W2 := wSt cI h k k1 b n u13) [0, 1, 2, 3, 4, 5, 6, 7, 8, 9, 10, 11, 12, 13, 14, 15] [] [0, 1, 2, 3, 4, 5, 6, 7, 8, 9, 10, 11, 12, 13, 14, 15] rfl rfl (by subst eu13; rfl) (by decide) ⟨Nat.le_of_ble_eq_true rfl, Nat.le_of_ble_eq_true rfl⟩ (fun H locs hP hD hS => ?_)
            refine lv_aload_n hx hb dX5_work_89 rfl (lv_at hl 1 rfl) ?_
            refine va_get (D := D) (ci := 5) (v := .ref (b 17)) (C := RX5) (T := TX5) (N := 11) hx hb hts inX5 hown hK hP 0 rfl rfl 9 (by decide) f40 (fun _ h9 => h9) rfl dX5_work_90 ?_
            refine lv_iload_n hx hb dX5_work_93 rfl (lv_at hl 2 rfl) ?_
            refine lv_dup2_11 hx hb dX5_work_94 rfl rfl ?_
            refine xald hx hb hK hP 9 rfl rfl (s9) (rfl) (by omega) (by decide) dX5_work_95 ?_
            refine lv_iload_n hx hb dX5_work_96 rfl (lv_at hl 0 rfl) ?_
            refine lv_if_eq (tgt := 104) hx hb dX5_work_97 (by decide) (fun c14 => ?_) (fun c14 => ?_)
            · exact absurd c14 (by decide)
            · skip
              refine lv_iconst (v := 1) hx hb dX5_work_100 (by decide) ?_
              refine lv_goto (tgt := 105) hx hb dX5_work_101 (by decide) ?_
              refine lv_iadd hx hb dX5_work_105 ?_
              obtain ⟨u15, eu15⟩ : ∃ z0 : Rc, z0 = put u13 17 s9 ((u13 17 s9) + 1) := ⟨_, rfl⟩
              refine xast hx hb hK hP hD hS 9 rfl rfl (s9) (rfl) (by omega) (by decide) (wSt cI h k k1 b n u15) (by subst eu15; rfl) dX5_work_106 (fun H locs hP hD hS => ?_)
              refine lv_aload_n hx hb dX5_work_107 rfl (lv_at hl 1 rfl) ?_
              refine va_get (D := D) (ci := 5) (v := .ref (b 13)) (C := RX5) (T := TX5) (N := 11) hx hb hts inX5 hown hK hP 0 rfl rfl 5 (by decide) f28 (fun _ h9 => h9) rfl dX5_work_108 ?_
              refine lv_iload_n hx hb dX5_work_111 rfl (lv_at hl 2 rfl) ?_
              refine lv_dup2_11 hx hb dX5_work_112 rfl rfl ?_
              refine xald hx hb hK hP 5 rfl rfl (s9) (rfl) (by omega) (by decide) dX5_work_113 ?_
              refine lv_iconst (v := 1) hx hb dX5_work_114 (by decide) ?_
              refine lv_iadd hx hb dX5_work_115 ?_
              obtain ⟨u16, eu16⟩ : ∃ z0 : Rc, z0 = put u15 13 s9 ((u15 13 s9) + 1) := ⟨_, rfl⟩
              refine xast hx hb hK hP hD hS 5 rfl rfl (s9) (rfl) (by omega) (by decide) (wSt cI h k k1 b n u16) (by subst eu16; rfl) dX5_work_116 (fun H locs hP hD hS => ?_)
              have h17 : u16 = wrkR n s9 q := (by (try subst eu16); (try subst eu15); (try subst eu13); (try subst eu3); unfold wrkR; first | exact absurd c2 c1 | ((first | rw [opt_f (p := fun w => w 15 s9 = -1) c1] | rw [opt_t (p := fun w => w 15 s9 = -1) c1]) <;> (first | rw [opt_f (p := fun w => ¬ w 15 s9 = -1) (fun h => h c2)] | (rw [opt_t (p := fun w => ¬ w 15 s9 = -1) c2]; unfold wk2R decB; (first | rw [opt_f (p := fun w => w 16 s9 ≤ 0) c4] | (rw [opt_t (p := fun w => w 16 s9 ≤ 0) c4]; unfold donR; (first | (rw [if_pos c5] <;> rfl) | (rw [if_neg c5] <;> rfl))))))))
              exact fin _ _ _ _ _ _ _ (congrArg (fun z9 : Rc => wSt cI h k k1 b n z9) h17) hP hD hS (Nat.le_of_ble_eq_true rfl) (Nat.le_of_ble_eq_true rfl) dX5_work_117
      · skip
        have h18 : u3 = wrkR n s9 q := (by (try subst eu3); unfold wrkR; first | exact absurd c2 c1 | ((first | rw [opt_f (p := fun w => w 15 s9 = -1) c1] | rw [opt_t (p := fun w => w 15 s9 = -1) c1]) <;> (first | rw [opt_f (p := fun w => ¬ w 15 s9 = -1) (fun h => h c2)] | (rw [opt_t (p := fun w => ¬ w 15 s9 = -1) c2]; unfold wk2R decB; (first | rw [opt_f (p := fun w => w 16 s9 ≤ 0) c4] | (rw [opt_t (p := fun w => w 16 s9 ≤ 0) c4]; unfold donR; (first | (rw [if_pos hnone] <;> rfl) | (rw [if_neg hnone] <;> rfl))))))))
        exact fin _ _ _ _ _ _ _ (congrArg (fun z9 : Rc => wSt cI h k k1 b n z9) h18) hP hD hS (Nat.le_of_ble_eq_true rfl) (Nat.le_of_ble_eq_true rfl) dX5_work_45
    · skip
      have h19 : q = wrkR n s9 q := (by  unfold wrkR; first | exact absurd c2 c1 | ((first | rw [opt_f (p := fun w => w 15 s9 = -1) c1] | rw [opt_t (p := fun w => w 15 s9 = -1) c1]) <;> (first | rw [opt_f (p := fun w => ¬ w 15 s9 = -1) (fun h => h c2)] | (rw [opt_t (p := fun w => ¬ w 15 s9 = -1) c2]; unfold wk2R decB; (first | rw [opt_f (p := fun w => w 16 s9 ≤ 0) hnone] | (rw [opt_t (p := fun w => w 16 s9 ≤ 0) hnone]; unfold donR; (first | (rw [if_pos hnone] <;> rfl) | (rw [if_neg hnone] <;> rfl))))))))
      exact fin _ _ _ _ _ _ _ (congrArg (fun z9 : Rc => wSt cI h k k1 b n z9) h19) hP hD hS (Nat.le_of_ble_eq_true rfl) (Nat.le_of_ble_eq_true rfl) dX5_work_25
  · skip
    refine lv_aload_n hx hb dX5_work_10 rfl (lv_at hl 0 rfl) ?_
    refine lv_iload_n hx hb dX5_work_11 rfl (lv_at hl 1 rfl) ?_
    obtain ⟨u20, eu20⟩ : ∃ z0 : Rc, z0 = takR n s9 q := ⟨_, rfl⟩
    refine ycallv (invV (As := [.int (nI s9)]) (rest := []) (rm := ({ frames := 1, cells := 0, slots := 0, locals := 60 } : Room)) ⟨hx, hb, hml, hown, hts⟩ (cwV 1 hts gX5_work_X5_take rfl rfl rfl (by decide +kernel) ⟨Nat.le_of_ble_eq_true rfl, Nat.le_of_ble_eq_true rfl⟩) (va_recv hK hP (ci := 5) (q0 := 0) rfl rfl) rfl rfl hl.1 (Nat.le_of_ble_eq_true rfl) dX5_work_12) (c_X5_take l D cI h b k k1 n q okn s9 hs (nI s9) rfl) hK hN hA hP hD hS (W2 := wSt cI h k k1 b n u20) [0, 1, 2, 3, 4, 5, 6, 7, 8, 9, 10, 11, 12, 13, 14, 15] [] [0, 1, 2, 3, 4, 5, 6, 7, 8, 9, 10, 11, 12, 13, 14, 15] rfl rfl (by subst eu20; rfl) (by decide) ⟨Nat.le_of_ble_eq_true rfl, Nat.le_of_ble_eq_true rfl⟩ (fun H locs hP hD hS => ?_)
    have okt : Ok u20 := (by (try subst eu20); exact (takR_pr okn hs).ok ok)
    refine lv_aload_n hx hb dX5_work_15 rfl (lv_at hl 0 rfl) ?_
    refine va_get (D := D) (ci := 5) (v := .ref (b 15)) (C := RX5) (T := TX5) (N := 11) hx hb hts inX5 hown hK hP 0 rfl rfl 7 (by decide) f34 (fun _ h9 => h9) rfl dX5_work_16 ?_
    refine lv_iload_n hx hb dX5_work_19 rfl (lv_at hl 1 rfl) ?_
    refine xald hx hb hK hP 7 rfl rfl (s9) (rfl) (by omega) (by decide) dX5_work_20 ?_
    refine lv_iconst (v := (-1)) hx hb dX5_work_21 (by decide) ?_
    refine lv_icmp_ne (tgt := 26) hx hb dX5_work_22 (by decide) (fun c21 => ?_) (fun c21 => ?_)
    · skip
      have h15a : ¬ u20 15 s9 = -1 := c21
      refine lv_aload_n hx hb dX5_work_26 rfl (lv_at hl 0 rfl) ?_
      refine va_get (D := D) (ci := 5) (v := .ref (b 16)) (C := RX5) (T := TX5) (N := 11) hx hb hts inX5 hown hK hP 0 rfl rfl 8 (by decide) f37 (fun _ h9 => h9) rfl dX5_work_27 ?_
      refine lv_iload_n hx hb dX5_work_30 rfl (lv_at hl 1 rfl) ?_
      refine lv_dup2_11 hx hb dX5_work_31 rfl rfl ?_
      refine xald hx hb hK hP 8 rfl rfl (s9) (rfl) (by omega) (by decide) dX5_work_32 ?_
      refine lv_iconst (v := 1) hx hb dX5_work_33 (by decide) ?_
      refine lv_isub hx hb dX5_work_34 ?_
      obtain ⟨u22, eu22⟩ : ∃ z0 : Rc, z0 = put u20 16 s9 ((u20 16 s9) - 1) := ⟨_, rfl⟩
      refine xast hx hb hK hP hD hS 8 rfl rfl (s9) (rfl) (by omega) (by decide) (wSt cI h k k1 b n u22) (by subst eu22; rfl) dX5_work_35 (fun H locs hP hD hS => ?_)
      refine lv_aload_n hx hb dX5_work_36 rfl (lv_at hl 0 rfl) ?_
      refine va_get (D := D) (ci := 5) (v := .ref (b 16)) (C := RX5) (T := TX5) (N := 11) hx hb hts inX5 hown hK hP 0 rfl rfl 8 (by decide) f37 (fun _ h9 => h9) rfl dX5_work_37 ?_
      refine lv_iload_n hx hb dX5_work_40 rfl (lv_at hl 1 rfl) ?_
      refine xald hx hb hK hP 8 rfl rfl (s9) (rfl) (by omega) (by decide) dX5_work_41 ?_
      refine lv_if_le (tgt := 46) hx hb dX5_work_42 (by decide) (fun c23 => ?_) (fun c23 => ?_)
      · skip
        have h15 : ¬ u22 15 s9 = -1 := (by (try subst eu22); exact h15a)
        have okd : Ok u22 := (by (try subst eu22); exact (decB_pr (s := s9)).ok okt)
        refine lv_aload_n hx hb dX5_work_46 rfl (lv_at hl 0 rfl) ?_
        refine lv_aload_n hx hb dX5_work_47 rfl (lv_at hl 0 rfl) ?_
        refine va_get (D := D) (ci := 5) (v := .ref (h 0)) (C := RX5) (T := TX5) (N := 11) hx hb hts inX5 hown hK hP 0 rfl rfl 10 (by decide) f3 (fun _ h9 => h9) rfl dX5_work_48 ?_
        refine va_getN (D := D) (ci := 6) (v := .ref (h 1)) (C := RX6) (T := TX6) (N := 10) hx hb hts inX6 hown hK hP 10 rfl rfl 4 (by decide) (NW.F hN (a := RX5) (i := 60) (b := "NightSortersModel") (n := "town") (d := "[I") (h9 := "NightSortersModel") (by decide +kernel)) (fun _ h9 => h9) rfl dX5_work_51 ?_
        refine lv_aload_n hx hb dX5_work_54 rfl (lv_at hl 0 rfl) ?_
        refine va_get (D := D) (ci := 5) (v := .ref (b 15)) (C := RX5) (T := TX5) (N := 11) hx hb hts inX5 hown hK hP 0 rfl rfl 7 (by decide) f34 (fun _ h9 => h9) rfl dX5_work_55 ?_
        refine lv_iload_n hx hb dX5_work_58 rfl (lv_at hl 1 rfl) ?_
        refine xald hx hb hK hP 7 rfl rfl (s9) (rfl) (by omega) (by decide) dX5_work_59 ?_
        refine xald hx hb hK hP 13 rfl rfl (iv (u22 15 s9)) (vi_eq (okd.held h15) (by decide)) (vi_lt (okd.held h15)) (by decide) dX5_work_60 ?_
        refine ycalli (invV (As := [.int (n 1 (iv (u22 15 s9)))]) (rest := []) (rm := ({ frames := 0, cells := 0, slots := 0, locals := 0 } : Room)) ⟨hx, hb, hml, hown, hts⟩ (cwV 1 hts gX5_work_X5_inHole rfl rfl rfl (by decide +kernel) ⟨Nat.le_of_ble_eq_true rfl, Nat.le_of_ble_eq_true rfl⟩) (va_recv hK hP (ci := 5) (q0 := 0) rfl rfl) rfl rfl hl.1 (Nat.le_of_ble_eq_true rfl) dX5_work_61) (c_X5_inHole l D cI h b k k1 n u22 okn (n 1 (iv (u22 15 s9)))) hK hN hA hP hD hS (W2 := wSt cI h k k1 b n u22) [0, 1, 2, 3, 4, 5, 6, 7, 8, 9, 10, 11, 12, 13, 14, 15] [] [0, 1, 2, 3, 4, 5, 6, 7, 8, 9, 10, 11, 12, 13, 14, 15] rfl rfl rfl (by decide) ⟨Nat.le_of_ble_eq_true rfl, Nat.le_of_ble_eq_true rfl⟩ (fun H locs hP hD hS => ?_)
        refine lv_bipush (v := 8) hx hb dX5_work_64 (by decide) ?_
        refine lv_icmp_ge (tgt := 73) hx hb dX5_work_66 (by decide) (fun c24 => ?_) (fun c24 => ?_)
        · skip
          refine lv_iconst (v := 0) hx hb dX5_work_73 (by decide) ?_
          refine lv_istore_n (lv' := [(2, .int 0), (0, .ref (b 30)), (1, .int (nI s9))]) hx hb dX5_work_74 rfl hl (by decide) rfl (fun ls hl => ?_)
          refine lv_aload_n hx hb dX5_work_75 rfl (lv_at hl 1 rfl) ?_
          refine lv_iload_n hx hb dX5_work_76 rfl (lv_at hl 2 rfl) ?_
          refine lv_iload_n hx hb dX5_work_77 rfl (lv_at hl 0 rfl) ?_
          refine lv_if_eq (tgt := 85) hx hb dX5_work_78 (by decide) (fun c25 => ?_) (fun c25 => ?_)
          · skip
            refine lv_iconst (v := 1) hx hb dX5_work_85 (by decide) ?_
            obtain ⟨u26, eu26⟩ : ∃ z0 : Rc, z0 = letR s9 1 u22 := ⟨_, rfl⟩
            refine ycallv (invV (As := [.int (nI s9), .int 1]) (rest := []) (rm := ({ frames := 0, cells := 0, slots := 0, locals := 0 } : Room)) ⟨hx, hb, hml, hown, hts⟩ (cwV 2 hts gX5_work_X5_let rfl rfl rfl (by decide +kernel) ⟨Nat.le_of_ble_eq_true rfl, Nat.le_of_ble_eq_true rfl⟩) (va_recv hK hP (ci := 5) (q0 := 0) rfl rfl) rfl rfl hl.1 (Nat.le_of_ble_eq_true rfl) dX5_work_86) (c_X5_let l D cI h b k k1 n u22 okd s9 hs (nI s9) rfl h15 1) hK hN hA hP hD hS (W2 := wSt cI h k k1 b n u26) [0, 1, 2, 3, 4, 5, 6, 7, 8, 9, 10, 11, 12, 13, 14, 15] [] [0, 1, 2, 3, 4, 5, 6, 7, 8, 9, 10, 11, 12, 13, 14, 15] rfl rfl (by subst eu26; rfl) (by decide) ⟨Nat.le_of_ble_eq_true rfl, Nat.le_of_ble_eq_true rfl⟩ (fun H locs hP hD hS => ?_)
            refine lv_aload_n hx hb dX5_work_89 rfl (lv_at hl 1 rfl) ?_
            refine va_get (D := D) (ci := 5) (v := .ref (b 17)) (C := RX5) (T := TX5) (N := 11) hx hb hts inX5 hown hK hP 0 rfl rfl 9 (by decide) f40 (fun _ h9 => h9) rfl dX5_work_90 ?_
            refine lv_iload_n hx hb dX5_work_93 rfl (lv_at hl 2 rfl) ?_
            refine lv_dup2_11 hx hb dX5_work_94 rfl rfl ?_
            refine xald hx hb hK hP 9 rfl rfl (s9) (rfl) (by omega) (by decide) dX5_work_95 ?_
            refine lv_iload_n hx hb dX5_work_96 rfl (lv_at hl 0 rfl) ?_
            refine lv_if_eq (tgt := 104) hx hb dX5_work_97 (by decide) (fun c27 => ?_) (fun c27 => ?_)
            · skip
              refine lv_iconst (v := 0) hx hb dX5_work_104 (by decide) ?_
              refine lv_iadd hx hb dX5_work_105 ?_
              obtain ⟨u28, eu28⟩ : ∃ z0 : Rc, z0 = put u26 17 s9 ((u26 17 s9) + 0) := ⟨_, rfl⟩
              refine xast hx hb hK hP hD hS 9 rfl rfl (s9) (rfl) (by omega) (by decide) (wSt cI h k k1 b n u28) (by subst eu28; rfl) dX5_work_106 (fun H locs hP hD hS => ?_)
              refine lv_aload_n hx hb dX5_work_107 rfl (lv_at hl 1 rfl) ?_
              refine va_get (D := D) (ci := 5) (v := .ref (b 13)) (C := RX5) (T := TX5) (N := 11) hx hb hts inX5 hown hK hP 0 rfl rfl 5 (by decide) f28 (fun _ h9 => h9) rfl dX5_work_108 ?_
              refine lv_iload_n hx hb dX5_work_111 rfl (lv_at hl 2 rfl) ?_
              refine lv_dup2_11 hx hb dX5_work_112 rfl rfl ?_
              refine xald hx hb hK hP 5 rfl rfl (s9) (rfl) (by omega) (by decide) dX5_work_113 ?_
              refine lv_iconst (v := 1) hx hb dX5_work_114 (by decide) ?_
              refine lv_iadd hx hb dX5_work_115 ?_
              obtain ⟨u29, eu29⟩ : ∃ z0 : Rc, z0 = put u28 13 s9 ((u28 13 s9) + 1) := ⟨_, rfl⟩
              refine xast hx hb hK hP hD hS 5 rfl rfl (s9) (rfl) (by omega) (by decide) (wSt cI h k k1 b n u29) (by subst eu29; rfl) dX5_work_116 (fun H locs hP hD hS => ?_)
              have h30 : u29 = wrkR n s9 q := (by (try subst eu29); (try subst eu28); (try subst eu26); (try subst eu22); (try subst eu20); unfold wrkR; first | exact absurd c21 c1 | ((first | rw [opt_f (p := fun w => w 15 s9 = -1) c1] | rw [opt_t (p := fun w => w 15 s9 = -1) c1]) <;> (first | rw [opt_f (p := fun w => ¬ w 15 s9 = -1) (fun h => h c21)] | (rw [opt_t (p := fun w => ¬ w 15 s9 = -1) c21]; unfold wk2R decB; (first | rw [opt_f (p := fun w => w 16 s9 ≤ 0) c23] | (rw [opt_t (p := fun w => w 16 s9 ≤ 0) c23]; unfold donR; (first | (rw [if_pos c24] <;> rfl) | (rw [if_neg c24] <;> rfl))))))))
              exact fin _ _ _ _ _ _ _ (congrArg (fun z9 : Rc => wSt cI h k k1 b n z9) h30) hP hD hS (Nat.le_of_ble_eq_true rfl) (Nat.le_of_ble_eq_true rfl) dX5_work_117
            · exact absurd (by decide) c27
          · exact absurd (by decide) c25
        · skip
          refine lv_iconst (v := 1) hx hb dX5_work_69 (by decide) ?_
          refine lv_goto (tgt := 74) hx hb dX5_work_70 (by decide) ?_
          refine lv_istore_n (lv' := [(2, .int 1), (0, .ref (b 30)), (1, .int (nI s9))]) hx hb dX5_work_74 rfl hl (by decide) rfl (fun ls hl => ?_)
          refine lv_aload_n hx hb dX5_work_75 rfl (lv_at hl 1 rfl) ?_
          refine lv_iload_n hx hb dX5_work_76 rfl (lv_at hl 2 rfl) ?_
          refine lv_iload_n hx hb dX5_work_77 rfl (lv_at hl 0 rfl) ?_
          refine lv_if_eq (tgt := 85) hx hb dX5_work_78 (by decide) (fun c31 => ?_) (fun c31 => ?_)
          · exact absurd c31 (by decide)
          · skip
            refine lv_iconst (v := 3) hx hb dX5_work_81 (by decide) ?_
            refine lv_goto (tgt := 86) hx hb dX5_work_82 (by decide) ?_
            obtain ⟨u32, eu32⟩ : ∃ z0 : Rc, z0 = letR s9 3 u22 := ⟨_, rfl⟩
            refine ycallv (invV (As := [.int (nI s9), .int 3]) (rest := []) (rm := ({ frames := 0, cells := 0, slots := 0, locals := 0 } : Room)) ⟨hx, hb, hml, hown, hts⟩ (cwV 2 hts gX5_work_X5_let rfl rfl rfl (by decide +kernel) ⟨Nat.le_of_ble_eq_true rfl, Nat.le_of_ble_eq_true rfl⟩) (va_recv hK hP (ci := 5) (q0 := 0) rfl rfl) rfl rfl hl.1 (Nat.le_of_ble_eq_true rfl) dX5_work_86) (c_X5_let l D cI h b k k1 n u22 okd s9 hs (nI s9) rfl h15 3) hK hN hA hP hD hS (W2 := wSt cI h k k1 b n u32) [0, 1, 2, 3, 4, 5, 6, 7, 8, 9, 10, 11, 12, 13, 14, 15] [] [0, 1, 2, 3, 4, 5, 6, 7, 8, 9, 10, 11, 12, 13, 14, 15] rfl rfl (by subst eu32; rfl) (by decide) ⟨Nat.le_of_ble_eq_true rfl, Nat.le_of_ble_eq_true rfl⟩ (fun H locs hP hD hS => ?_)
            refine lv_aload_n hx hb dX5_work_89 rfl (lv_at hl 1 rfl) ?_
            refine va_get (D := D) (ci := 5) (v := .ref (b 17)) (C := RX5) (T := TX5) (N := 11) hx hb hts inX5 hown hK hP 0 rfl rfl 9 (by decide) f40 (fun _ h9 => h9) rfl dX5_work_90 ?_
            refine lv_iload_n hx hb dX5_work_93 rfl (lv_at hl 2 rfl) ?_
            refine lv_dup2_11 hx hb dX5_work_94 rfl rfl ?_
            refine xald hx hb hK hP 9 rfl rfl (s9) (rfl) (by omega) (by decide) dX5_work_95 ?_
            refine lv_iload_n hx hb dX5_work_96 rfl (lv_at hl 0 rfl) ?_
            refine lv_if_eq (tgt := 104) hx hb dX5_work_97 (by decide) (fun c33 => ?_) (fun c33 => ?_)
            · exact absurd c33 (by decide)
            · skip
              refine lv_iconst (v := 1) hx hb dX5_work_100 (by decide) ?_
              refine lv_goto (tgt := 105) hx hb dX5_work_101 (by decide) ?_
              refine lv_iadd hx hb dX5_work_105 ?_
              obtain ⟨u34, eu34⟩ : ∃ z0 : Rc, z0 = put u32 17 s9 ((u32 17 s9) + 1) := ⟨_, rfl⟩
              refine xast hx hb hK hP hD hS 9 rfl rfl (s9) (rfl) (by omega) (by decide) (wSt cI h k k1 b n u34) (by subst eu34; rfl) dX5_work_106 (fun H locs hP hD hS => ?_)
              refine lv_aload_n hx hb dX5_work_107 rfl (lv_at hl 1 rfl) ?_
              refine va_get (D := D) (ci := 5) (v := .ref (b 13)) (C := RX5) (T := TX5) (N := 11) hx hb hts inX5 hown hK hP 0 rfl rfl 5 (by decide) f28 (fun _ h9 => h9) rfl dX5_work_108 ?_
              refine lv_iload_n hx hb dX5_work_111 rfl (lv_at hl 2 rfl) ?_
              refine lv_dup2_11 hx hb dX5_work_112 rfl rfl ?_
              refine xald hx hb hK hP 5 rfl rfl (s9) (rfl) (by omega) (by decide) dX5_work_113 ?_
              refine lv_iconst (v := 1) hx hb dX5_work_114 (by decide) ?_
              refine lv_iadd hx hb dX5_work_115 ?_
              obtain ⟨u35, eu35⟩ : ∃ z0 : Rc, z0 = put u34 13 s9 ((u34 13 s9) + 1) := ⟨_, rfl⟩
              refine xast hx hb hK hP hD hS 5 rfl rfl (s9) (rfl) (by omega) (by decide) (wSt cI h k k1 b n u35) (by subst eu35; rfl) dX5_work_116 (fun H locs hP hD hS => ?_)
              have h36 : u35 = wrkR n s9 q := (by (try subst eu35); (try subst eu34); (try subst eu32); (try subst eu22); (try subst eu20); unfold wrkR; first | exact absurd c21 c1 | ((first | rw [opt_f (p := fun w => w 15 s9 = -1) c1] | rw [opt_t (p := fun w => w 15 s9 = -1) c1]) <;> (first | rw [opt_f (p := fun w => ¬ w 15 s9 = -1) (fun h => h c21)] | (rw [opt_t (p := fun w => ¬ w 15 s9 = -1) c21]; unfold wk2R decB; (first | rw [opt_f (p := fun w => w 16 s9 ≤ 0) c23] | (rw [opt_t (p := fun w => w 16 s9 ≤ 0) c23]; unfold donR; (first | (rw [if_pos c24] <;> rfl) | (rw [if_neg c24] <;> rfl))))))))
              exact fin _ _ _ _ _ _ _ (congrArg (fun z9 : Rc => wSt cI h k k1 b n z9) h36) hP hD hS (Nat.le_of_ble_eq_true rfl) (Nat.le_of_ble_eq_true rfl) dX5_work_117
      · skip
        have h37 : u22 = wrkR n s9 q := (by (try subst eu22); (try subst eu20); unfold wrkR; first | exact absurd c21 c1 | ((first | rw [opt_f (p := fun w => w 15 s9 = -1) c1] | rw [opt_t (p := fun w => w 15 s9 = -1) c1]) <;> (first | rw [opt_f (p := fun w => ¬ w 15 s9 = -1) (fun h => h c21)] | (rw [opt_t (p := fun w => ¬ w 15 s9 = -1) c21]; unfold wk2R decB; (first | rw [opt_f (p := fun w => w 16 s9 ≤ 0) c23] | (rw [opt_t (p := fun w => w 16 s9 ≤ 0) c23]; unfold donR; (first | (rw [if_pos hnone] <;> rfl) | (rw [if_neg hnone] <;> rfl))))))))
        exact fin _ _ _ _ _ _ _ (congrArg (fun z9 : Rc => wSt cI h k k1 b n z9) h37) hP hD hS (Nat.le_of_ble_eq_true rfl) (Nat.le_of_ble_eq_true rfl) dX5_work_45
    · skip
      have h38 : u20 = wrkR n s9 q := (by (try subst eu20); unfold wrkR; first | exact absurd c21 c1 | ((first | rw [opt_f (p := fun w => w 15 s9 = -1) c1] | rw [opt_t (p := fun w => w 15 s9 = -1) c1]) <;> (first | rw [opt_f (p := fun w => ¬ w 15 s9 = -1) (fun h => h c21)] | (rw [opt_t (p := fun w => ¬ w 15 s9 = -1) c21]; unfold wk2R decB; (first | rw [opt_f (p := fun w => w 16 s9 ≤ 0) hnone] | (rw [opt_t (p := fun w => w 16 s9 ≤ 0) hnone]; unfold donR; (first | (rw [if_pos hnone] <;> rfl) | (rw [if_neg hnone] <;> rfl))))))))
      exact fin _ _ _ _ _ _ _ (congrArg (fun z9 : Rc => wSt cI h k k1 b n z9) h38) hP hD hS (Nat.le_of_ble_eq_true rfl) (Nat.le_of_ble_eq_true rfl) dX5_work_25
set_option maxHeartbeats 4000000 in
set_option maxRecDepth 100000 in
theorem c_X5_end (l : Launch) (D : va_G) (cI : ClassId) (h b : Nat → Nat) (k k1 : Nat) (n q : Rc) (ok : Ok q) (j : Nat) (hj : j < 60) (x : Int32) (ex : x = nI j) (t : Int32) (h2 : q 3 j = 2 → ¬ q 4 j = -1 ∧ ¬ q 15 (iv (q 4 j)) = -1) : CV l yX5_end wsX5_end ({ frames := 1, cells := 0, slots := 0, locals := 23 } : Room) D cI [.ref (b 30), .int x, .int t] (wSt cI h k k1 b n q) (wSt cI h k k1 b n (endR j t q)) := by
  refine CV.mk (cc := cX5_end) (maxL := 3) (by decide) rfl (Nat.le_of_ble_eq_true rfl) ?_
  intro p e s m args below meth c A Q ls hx hb hts hown hml hK hN hA hP hD hS hl fin
  have hown : s.vm.findClass RX5 = some m.cls := hown
  subst ex
  have hl : lv_has ls 3 [(0, .ref (b 30)), (1, .int (nI j)), (2, .int t)] := hl
  have f15 := hts (.fieldLink RX5 15 "NightSortersModel$State" "where" "[I") (by decide +kernel)
  have f19 := hts (.fieldLink RX5 19 "NightSortersModel$State" "who" "[I") (by decide +kernel)
  have f22 := hts (.fieldLink RX5 22 "NightSortersModel$State" "when" "[I") (by decide +kernel)
  have f49 := hts (.fieldLink RX5 49 "NightSortersModel$State" "minute" "I") (by decide +kernel)
  have inX5 : ∀ w ∈ wsX50, w ∈ wsX5_end := by decide +kernel
  refine lv_aload_n hx hb dX5_end_0 rfl (lv_at hl 0 rfl) ?_
  refine va_get (D := D) (ci := 5) (v := .ref (b 3)) (C := RX5) (T := TX5) (N := 11) hx hb hts inX5 hown hK hP 0 rfl rfl 1 (by decide) f15 (fun _ h9 => h9) rfl dX5_end_1 ?_
  refine lv_iload_n hx hb dX5_end_4 rfl (lv_at hl 1 rfl) ?_
  refine xald hx hb hK hP 1 rfl rfl (j) (rfl) (by omega) (by decide) dX5_end_5 ?_
  refine lv_iconst (v := 2) hx hb dX5_end_6 (by decide) ?_
  refine lv_icmp_ne (tgt := 21) hx hb dX5_end_7 (by decide) (fun c1 => ?_) (fun c1 => ?_)
  · skip
    refine lv_aload_n hx hb dX5_end_21 rfl (lv_at hl 0 rfl) ?_
    refine va_get (D := D) (ci := 5) (v := .ref (b 3)) (C := RX5) (T := TX5) (N := 11) hx hb hts inX5 hown hK hP 0 rfl rfl 1 (by decide) f15 (fun _ h9 => h9) rfl dX5_end_22 ?_
    refine lv_iload_n hx hb dX5_end_25 rfl (lv_at hl 1 rfl) ?_
    refine lv_iload_n hx hb dX5_end_26 rfl (lv_at hl 2 rfl) ?_
    obtain ⟨u2, eu2⟩ : ∃ z0 : Rc, z0 = put q 3 j t := ⟨_, rfl⟩
    refine xast hx hb hK hP hD hS 1 rfl rfl (j) (rfl) (by omega) (by decide) (wSt cI h k k1 b n u2) (by subst eu2; rfl) dX5_end_27 (fun H locs hP hD hS => ?_)
    refine lv_aload_n hx hb dX5_end_28 rfl (lv_at hl 0 rfl) ?_
    refine va_get (D := D) (ci := 5) (v := .ref (b 5)) (C := RX5) (T := TX5) (N := 11) hx hb hts inX5 hown hK hP 0 rfl rfl 3 (by decide) f22 (fun _ h9 => h9) rfl dX5_end_29 ?_
    refine lv_iload_n hx hb dX5_end_32 rfl (lv_at hl 1 rfl) ?_
    refine lv_aload_n hx hb dX5_end_33 rfl (lv_at hl 0 rfl) ?_
    refine va_get (D := D) (ci := 5) (v := .int (u2 30 0)) (C := RX5) (T := TX5) (N := 11) hx hb hts inX5 hown hK hP 0 rfl rfl 0 (by decide) f49 (fun _ h9 => h9) rfl dX5_end_34 ?_
    obtain ⟨u3, eu3⟩ : ∃ z0 : Rc, z0 = put u2 5 j (u2 30 0) := ⟨_, rfl⟩
    refine xast hx hb hK hP hD hS 3 rfl rfl (j) (rfl) (by omega) (by decide) (wSt cI h k k1 b n u3) (by subst eu3; rfl) dX5_end_37 (fun H locs hP hD hS => ?_)
    have h4 : u3 = endR j t q := (by (try subst eu3); (try subst eu2); unfold endR stampB; first | rw [opt_t (p := fun w => w 3 j = 2) c1] | rw [opt_f (p := fun w => w 3 j = 2) c1])
    exact fin _ _ _ _ _ _ _ (congrArg (fun z9 : Rc => wSt cI h k k1 b n z9) h4) hP hD hS (Nat.le_of_ble_eq_true rfl) (Nat.le_of_ble_eq_true rfl) dX5_end_38
  · skip
    refine lv_aload_n hx hb dX5_end_10 rfl (lv_at hl 0 rfl) ?_
    refine lv_aload_n hx hb dX5_end_11 rfl (lv_at hl 0 rfl) ?_
    refine va_get (D := D) (ci := 5) (v := .ref (b 4)) (C := RX5) (T := TX5) (N := 11) hx hb hts inX5 hown hK hP 0 rfl rfl 2 (by decide) f19 (fun _ h9 => h9) rfl dX5_end_12 ?_
    refine lv_iload_n hx hb dX5_end_15 rfl (lv_at hl 1 rfl) ?_
    refine xald hx hb hK hP 2 rfl rfl (j) (rfl) (by omega) (by decide) dX5_end_16 ?_
    refine lv_iload_n hx hb dX5_end_17 rfl (lv_at hl 2 rfl) ?_
    obtain ⟨u5, eu5⟩ : ∃ z0 : Rc, z0 = letR (iv (q 4 j)) t q := ⟨_, rfl⟩
    refine ycallv (invV (As := [.int (q 4 j), .int t]) (rest := []) (rm := ({ frames := 0, cells := 0, slots := 0, locals := 0 } : Room)) ⟨hx, hb, hml, hown, hts⟩ (cwV 2 hts gX5_end_X5_let rfl rfl rfl (by decide +kernel) ⟨Nat.le_of_ble_eq_true rfl, Nat.le_of_ble_eq_true rfl⟩) (va_recv hK hP (ci := 5) (q0 := 0) rfl rfl) rfl rfl hl.1 (Nat.le_of_ble_eq_true rfl) dX5_end_18) (c_X5_let l D cI h b k k1 n q ok (iv (q 4 j)) (vi_lt (ok.hold (h2 c1).1)) (q 4 j) (vi_eq (ok.hold (h2 c1).1) (by decide)) (h2 c1).2 t) hK hN hA hP hD hS (W2 := wSt cI h k k1 b n u5) [0, 1, 2, 3, 4, 5, 6, 7, 8, 9, 10, 11, 12, 13, 14, 15] [] [0, 1, 2, 3, 4, 5, 6, 7, 8, 9, 10, 11, 12, 13, 14, 15] rfl rfl (by subst eu5; rfl) (by decide) ⟨Nat.le_of_ble_eq_true rfl, Nat.le_of_ble_eq_true rfl⟩ (fun H locs hP hD hS => ?_)
    refine lv_aload_n hx hb dX5_end_21 rfl (lv_at hl 0 rfl) ?_
    refine va_get (D := D) (ci := 5) (v := .ref (b 3)) (C := RX5) (T := TX5) (N := 11) hx hb hts inX5 hown hK hP 0 rfl rfl 1 (by decide) f15 (fun _ h9 => h9) rfl dX5_end_22 ?_
    refine lv_iload_n hx hb dX5_end_25 rfl (lv_at hl 1 rfl) ?_
    refine lv_iload_n hx hb dX5_end_26 rfl (lv_at hl 2 rfl) ?_
    obtain ⟨u6, eu6⟩ : ∃ z0 : Rc, z0 = put u5 3 j t := ⟨_, rfl⟩
    refine xast hx hb hK hP hD hS 1 rfl rfl (j) (rfl) (by omega) (by decide) (wSt cI h k k1 b n u6) (by subst eu6; rfl) dX5_end_27 (fun H locs hP hD hS => ?_)
    refine lv_aload_n hx hb dX5_end_28 rfl (lv_at hl 0 rfl) ?_
    refine va_get (D := D) (ci := 5) (v := .ref (b 5)) (C := RX5) (T := TX5) (N := 11) hx hb hts inX5 hown hK hP 0 rfl rfl 3 (by decide) f22 (fun _ h9 => h9) rfl dX5_end_29 ?_
    refine lv_iload_n hx hb dX5_end_32 rfl (lv_at hl 1 rfl) ?_
    refine lv_aload_n hx hb dX5_end_33 rfl (lv_at hl 0 rfl) ?_
    refine va_get (D := D) (ci := 5) (v := .int (u6 30 0)) (C := RX5) (T := TX5) (N := 11) hx hb hts inX5 hown hK hP 0 rfl rfl 0 (by decide) f49 (fun _ h9 => h9) rfl dX5_end_34 ?_
    obtain ⟨u7, eu7⟩ : ∃ z0 : Rc, z0 = put u6 5 j (u6 30 0) := ⟨_, rfl⟩
    refine xast hx hb hK hP hD hS 3 rfl rfl (j) (rfl) (by omega) (by decide) (wSt cI h k k1 b n u7) (by subst eu7; rfl) dX5_end_37 (fun H locs hP hD hS => ?_)
    have h8 : u7 = endR j t q := (by (try subst eu7); (try subst eu6); (try subst eu5); unfold endR stampB; first | rw [opt_t (p := fun w => w 3 j = 2) c1] | rw [opt_f (p := fun w => w 3 j = 2) c1])
    exact fin _ _ _ _ _ _ _ (congrArg (fun z9 : Rc => wSt cI h k k1 b n z9) h8) hP hD hS (Nat.le_of_ble_eq_true rfl) (Nat.le_of_ble_eq_true rfl) dX5_end_38
set_option maxHeartbeats 4000000 in
set_option maxRecDepth 100000 in
theorem c_X5_passStation (l : Launch) (D : va_G) (cI : ClassId) (h b : Nat → Nat) (k k1 : Nat) (n q : Rc) (okn : Ok n) (ok : Ok q) (hJ : JR (iv (n 0 0)) (iv (n 10 0)) q) (x : Int32) : CV l yX5_passStation wsX5_passStation ({ frames := 2, cells := 0, slots := 0, locals := 45 } : Room) D cI [.ref (b 30), .int x] (wSt cI h k k1 b n q) (wSt cI h k k1 b n (pstR n x q)) := by
  refine CV.mk (cc := cX5_passStation) (maxL := 4) (by decide) rfl (Nat.le_of_ble_eq_true rfl) ?_
  intro p e s m args below meth c A Q ls hx hb hts hown hml hK hN hA hP hD hS hl fin
  have hown : s.vm.findClass RX5 = some m.cls := hown
  have hn60 := okn.n60
  have hl : lv_has ls 4 [(0, .ref (b 30)), (1, .int x)] := hl
  have f3 := hts (.fieldLink RX5 3 "NightSortersModel$State" "this$0" "LNightSortersModel;") (by decide +kernel)
  have f15 := hts (.fieldLink RX5 15 "NightSortersModel$State" "where" "[I") (by decide +kernel)
  have inX5 : ∀ w ∈ wsX50, w ∈ wsX5_passStation := by decide +kernel
  have inX6 : ∀ w ∈ wsX60, w ∈ wsX5_passStation := by decide +kernel
  refine lv_iconst (v := 0) hx hb dX5_passStation_0 (by decide) ?_
  refine lv_istore_n (lv' := [(2, .int 0), (0, .ref (b 30)), (1, .int x)]) hx hb dX5_passStation_1 rfl hl (by decide) rfl (fun ls hl => ?_)
  have K2 : ∀ (n2 i2 : Nat), 0 ≤ i2 → i2 ≤ iv (n 0 0) → iv (n 0 0) < i2 + n2 → ∀ (H : Heap) (locs : List Loc), va_P D vwCl (wSt cI h k k1 b n (itN (ps1R n x) i2 q)) H → va_D A (wSt cI h k k1 b n (itN (ps1R n x) i2 q)) → va_S A s.heap H locs → ∀ (ls : Array Slot), lv_has ls 4 [(2, .int (nI i2)), (0, .ref (b 30)), (1, .int x)] → W p l e ({ frames := 2, cells := 0, slots := 0, locals := 45 } : Room) s m args below meth c H locs (0) (0) Q (F0 m 2 ls []) := by
    intro n2
    induction n2 with
    | zero => intro i2 hlo2 hi2 hn2; exact absurd hn2 (by omega)
    | succ n2 ih2 =>
      intro i2 hlo2 hi2 hn2 H locs hP hD hS ls hl
      obtain ⟨u1, eu1⟩ : ∃ z : Rc, z = itN (ps1R n x) i2 q := ⟨_, rfl⟩
      rw [← eu1] at hP hD
      have hj : Ok u1 ∧ JR (iv (n 0 0)) (iv (n 10 0)) u1 := by rw [eu1]; exact ps1s_j okn ⟨ok, hJ⟩ hi2
      have ok2 : Ok u1 := hj.1
      refine lv_iload_n hx hb dX5_passStation_2 rfl (lv_at hl 0 rfl) ?_
      refine lv_aload_n hx hb dX5_passStation_3 rfl (lv_at hl 1 rfl) ?_
      refine va_get (D := D) (ci := 5) (v := .ref (h 0)) (C := RX5) (T := TX5) (N := 11) hx hb hts inX5 hown hK hP 0 rfl rfl 10 (by decide) f3 (fun _ h9 => h9) rfl dX5_passStation_4 ?_
      refine va_getN (D := D) (ci := 6) (v := .int (n 0 0)) (C := RX6) (T := TX6) (N := 10) hx hb hts inX6 hown hK hP 10 rfl rfl 3 (by decide) (NW.F hN (a := RX5) (i := 57) (b := "NightSortersModel") (n := "letters") (d := "I") (h9 := "NightSortersModel") (by decide +kernel)) (fun _ h9 => h9) rfl dX5_passStation_7 ?_
      refine lv_icmp_ge (tgt := 93) hx hb dX5_passStation_10 (by decide) (fun c2 => ?_) (fun c2 => ?_)
      · skip
        have hie : iv (n 0 0) = i2 := (show i2 = iv (n 0 0) from lp_out okn.n (by omega) hi2 c2).symm
        subst hie
        refine lv_iconst (v := 0) hx hb dX5_passStation_93 (by decide) ?_
        refine lv_istore_n (lv' := [(2, .int 0), (0, .ref (b 30)), (1, .int x)]) hx hb dX5_passStation_94 rfl hl (by decide) rfl (fun ls hl => ?_)
        have K95 : ∀ (n95 i95 : Nat), 0 ≤ i95 → i95 ≤ iv (n 0 0) → iv (n 0 0) < i95 + n95 → ∀ (H : Heap) (locs : List Loc), va_P D vwCl (wSt cI h k k1 b n (itN (ps2R n x) i95 u1)) H → va_D A (wSt cI h k k1 b n (itN (ps2R n x) i95 u1)) → va_S A s.heap H locs → ∀ (ls : Array Slot), lv_has ls 4 [(2, .int (nI i95)), (0, .ref (b 30)), (1, .int x)] → W p l e ({ frames := 2, cells := 0, slots := 0, locals := 45 } : Room) s m args below meth c H locs (0) (0) Q (F0 m 95 ls []) := by
          intro n95
          induction n95 with
          | zero => intro i95 hlo95 hi95 hn95; exact absurd hn95 (by omega)
          | succ n95 ih95 =>
            intro i95 hlo95 hi95 hn95 H locs hP hD hS ls hl
            obtain ⟨u3, eu3⟩ : ∃ z : Rc, z = itN (ps2R n x) i95 u1 := ⟨_, rfl⟩
            rw [← eu3] at hP hD
            have hj : Ok u3 ∧ JR (iv (n 0 0)) (iv (n 10 0)) u3 := by rw [eu3]; exact ps2s_j okn hj hi95
            have ok95 : Ok u3 := hj.1
            refine lv_iload_n hx hb dX5_passStation_95 rfl (lv_at hl 0 rfl) ?_
            refine lv_aload_n hx hb dX5_passStation_96 rfl (lv_at hl 1 rfl) ?_
            refine va_get (D := D) (ci := 5) (v := .ref (h 0)) (C := RX5) (T := TX5) (N := 11) hx hb hts inX5 hown hK hP 0 rfl rfl 10 (by decide) f3 (fun _ h9 => h9) rfl dX5_passStation_97 ?_
            refine va_getN (D := D) (ci := 6) (v := .int (n 0 0)) (C := RX6) (T := TX6) (N := 10) hx hb hts inX6 hown hK hP 10 rfl rfl 3 (by decide) (NW.F hN (a := RX5) (i := 57) (b := "NightSortersModel") (n := "letters") (d := "I") (h9 := "NightSortersModel") (by decide +kernel)) (fun _ h9 => h9) rfl dX5_passStation_100 ?_
            refine lv_icmp_ge (tgt := 168) hx hb dX5_passStation_103 (by decide) (fun c4 => ?_) (fun c4 => ?_)
            · skip
              have hie : iv (n 0 0) = i95 := (show i95 = iv (n 0 0) from lp_out okn.n (by omega) hi95 c4).symm
              subst hie
              have h5 : u3 = pstR n x q := (by (try subst eu3); (try subst eu1); rfl)
              exact fin _ _ _ _ _ _ _ (congrArg (fun z9 : Rc => wSt cI h k k1 b n z9) h5) hP hD hS (Nat.le_of_ble_eq_true rfl) (Nat.le_of_ble_eq_true rfl) dX5_passStation_168
            · skip
              have hlt := lp_in okn.n (by omega) hi95 c4
              refine lv_aload_n hx hb dX5_passStation_106 rfl (lv_at hl 1 rfl) ?_
              refine va_get (D := D) (ci := 5) (v := .ref (b 3)) (C := RX5) (T := TX5) (N := 11) hx hb hts inX5 hown hK hP 0 rfl rfl 1 (by decide) f15 (fun _ h9 => h9) rfl dX5_passStation_107 ?_
              refine lv_iload_n hx hb dX5_passStation_110 rfl (lv_at hl 0 rfl) ?_
              refine xald hx hb hK hP 1 rfl rfl (i95) (rfl) (by omega) (by decide) dX5_passStation_111 ?_
              refine lv_if_ne (tgt := 162) hx hb dX5_passStation_112 (by decide) (fun c6 => ?_) (fun c6 => ?_)
              · skip
                refine lv_iinc (v := nI (i95 + 1)) (lv' := [(2, .int (nI (i95 + 1))), (0, .ref (b 30)), (1, .int x)]) hx hb dX5_passStation_162 hl (k := 0) rfl (nI_inc _) (by decide) rfl (fun ls hl => ?_)
                refine lv_goto (tgt := 95) hx hb dX5_passStation_165 (by decide) ?_
                have h7 : u3 = itN (ps2R n x) (i95 + 1) u1 := by rw [itN_s, ← eu3];  unfold ps2R; first | rw [if_neg (fun h => c6 h.1)] | rw [if_neg (fun h => hnone h.2)] | rw [if_pos (And.intro c6 hnone), if_neg (Int32.not_le.mpr hnone)] | rw [if_pos (And.intro c6 hnone), if_pos (Int32.not_lt.mp hnone)]
                rw [h7] at hP hD
                exact ih95 (i95 + 1) (by omega) (by omega) (by omega) H locs hP hD hS ls (lv_sub hl [0, 1, 2] rfl)
              · skip
                refine lv_aload_n hx hb dX5_passStation_115 rfl (lv_at hl 1 rfl) ?_
                refine va_get (D := D) (ci := 5) (v := .ref (h 0)) (C := RX5) (T := TX5) (N := 11) hx hb hts inX5 hown hK hP 0 rfl rfl 10 (by decide) f3 (fun _ h9 => h9) rfl dX5_passStation_116 ?_
                refine va_getN (D := D) (ci := 6) (v := .ref (h 2)) (C := RX6) (T := TX6) (N := 10) hx hb hts inX6 hown hK hP 10 rfl rfl 5 (by decide) (NW.F hN (a := RX5) (i := 90) (b := "NightSortersModel") (n := "station") (d := "[I") (h9 := "NightSortersModel") (by decide +kernel)) (fun _ h9 => h9) rfl dX5_passStation_119 ?_
                refine lv_iload_n hx hb dX5_passStation_122 rfl (lv_at hl 0 rfl) ?_
                refine xald hx hb hK hP 14 rfl rfl (i95) (rfl) (by omega) (by decide) dX5_passStation_123 ?_
                refine lv_iload_n hx hb dX5_passStation_124 rfl (lv_at hl 2 rfl) ?_
                refine lv_icmp_eq (tgt := 131) hx hb dX5_passStation_125 (by decide) (fun c8 => ?_) (fun c8 => ?_)
                · skip
                  refine lv_aload_n hx hb dX5_passStation_131 rfl (lv_at hl 1 rfl) ?_
                  refine va_get (D := D) (ci := 5) (v := .ref (h 0)) (C := RX5) (T := TX5) (N := 11) hx hb hts inX5 hown hK hP 0 rfl rfl 10 (by decide) f3 (fun _ h9 => h9) rfl dX5_passStation_132 ?_
                  refine va_getN (D := D) (ci := 6) (v := .ref (h 1)) (C := RX6) (T := TX6) (N := 10) hx hb hts inX6 hown hK hP 10 rfl rfl 4 (by decide) (NW.F hN (a := RX5) (i := 60) (b := "NightSortersModel") (n := "town") (d := "[I") (h9 := "NightSortersModel") (by decide +kernel)) (fun _ h9 => h9) rfl dX5_passStation_135 ?_
                  refine lv_iload_n hx hb dX5_passStation_138 rfl (lv_at hl 0 rfl) ?_
                  refine xald hx hb hK hP 13 rfl rfl (i95) (rfl) (by omega) (by decide) dX5_passStation_139 ?_
                  refine lv_iconst (v := 2) hx hb dX5_passStation_140 (by decide) ?_
                  refine lv_idiv hx hb dX5_passStation_141 (by decide) ?_
                  refine lv_iload_n hx hb dX5_passStation_142 rfl (lv_at hl 2 rfl) ?_
                  refine lv_icmp_gt (tgt := 155) hx hb dX5_passStation_143 (by decide) (fun c9 => ?_) (fun c9 => ?_)
                  · skip
                    refine lv_aload_n hx hb dX5_passStation_155 rfl (lv_at hl 1 rfl) ?_
                    refine va_get (D := D) (ci := 5) (v := .ref (b 3)) (C := RX5) (T := TX5) (N := 11) hx hb hts inX5 hown hK hP 0 rfl rfl 1 (by decide) f15 (fun _ h9 => h9) rfl dX5_passStation_156 ?_
                    refine lv_iload_n hx hb dX5_passStation_159 rfl (lv_at hl 0 rfl) ?_
                    refine lv_iconst (v := 1) hx hb dX5_passStation_160 (by decide) ?_
                    obtain ⟨u10, eu10⟩ : ∃ z0 : Rc, z0 = put u3 3 i95 1 := ⟨_, rfl⟩
                    refine xast hx hb hK hP hD hS 1 rfl rfl (i95) (rfl) (by omega) (by decide) (wSt cI h k k1 b n u10) (by subst eu10; rfl) dX5_passStation_161 (fun H locs hP hD hS => ?_)
                    refine lv_iinc (v := nI (i95 + 1)) (lv' := [(2, .int (nI (i95 + 1))), (0, .ref (b 30)), (1, .int x)]) hx hb dX5_passStation_162 hl (k := 0) rfl (nI_inc _) (by decide) rfl (fun ls hl => ?_)
                    refine lv_goto (tgt := 95) hx hb dX5_passStation_165 (by decide) ?_
                    have h11 : u10 = itN (ps2R n x) (i95 + 1) u1 := by rw [itN_s, ← eu3]; (try subst eu10); unfold ps2R; first | rw [if_neg (fun h => c6 h.1)] | rw [if_neg (fun h => c8 h.2)] | rw [if_pos (And.intro c6 c8), if_neg (Int32.not_le.mpr c9)] | rw [if_pos (And.intro c6 c8), if_pos (Int32.not_lt.mp c9)]
                    rw [h11] at hP hD
                    exact ih95 (i95 + 1) (by omega) (by omega) (by omega) H locs hP hD hS ls (lv_sub hl [0, 1, 2] rfl)
                  · skip
                    refine lv_aload_n hx hb dX5_passStation_146 rfl (lv_at hl 1 rfl) ?_
                    refine lv_iload_n hx hb dX5_passStation_147 rfl (lv_at hl 0 rfl) ?_
                    refine lv_iconst (v := 5) hx hb dX5_passStation_148 (by decide) ?_
                    obtain ⟨u12, eu12⟩ : ∃ z0 : Rc, z0 = endR i95 5 u3 := ⟨_, rfl⟩
                    refine ycallv (invV (As := [.int (nI i95), .int 5]) (rest := []) (rm := ({ frames := 1, cells := 0, slots := 0, locals := 23 } : Room)) ⟨hx, hb, hml, hown, hts⟩ (cwV 2 hts gX5_passStation_X5_end rfl rfl rfl (by decide +kernel) ⟨Nat.le_of_ble_eq_true rfl, Nat.le_of_ble_eq_true rfl⟩) (va_recv hK hP (ci := 5) (q0 := 0) rfl rfl) rfl rfl hl.1 (Nat.le_of_ble_eq_true rfl) dX5_passStation_149) (c_X5_end l D cI h b k k1 n u3 ok95 i95 (by omega) (nI i95) rfl 5 (fun hz => by obtain ⟨z1, -, z2⟩ := let_eq hj.2 (by omega) hz; exact ⟨z1, z2⟩)) hK hN hA hP hD hS (W2 := wSt cI h k k1 b n u12) [0, 1, 2, 3, 4, 5, 6, 7, 8, 9, 10, 11, 12, 13, 14, 15] [] [0, 1, 2, 3, 4, 5, 6, 7, 8, 9, 10, 11, 12, 13, 14, 15] rfl rfl (by subst eu12; rfl) (by decide) ⟨Nat.le_of_ble_eq_true rfl, Nat.le_of_ble_eq_true rfl⟩ (fun H locs hP hD hS => ?_)
                    refine lv_goto (tgt := 162) hx hb dX5_passStation_152 (by decide) ?_
                    refine lv_iinc (v := nI (i95 + 1)) (lv' := [(2, .int (nI (i95 + 1))), (0, .ref (b 30)), (1, .int x)]) hx hb dX5_passStation_162 hl (k := 0) rfl (nI_inc _) (by decide) rfl (fun ls hl => ?_)
                    refine lv_goto (tgt := 95) hx hb dX5_passStation_165 (by decide) ?_
                    have h13 : u12 = itN (ps2R n x) (i95 + 1) u1 := by rw [itN_s, ← eu3]; (try subst eu12); unfold ps2R; first | rw [if_neg (fun h => c6 h.1)] | rw [if_neg (fun h => c8 h.2)] | rw [if_pos (And.intro c6 c8), if_neg (Int32.not_le.mpr c9)] | rw [if_pos (And.intro c6 c8), if_pos (Int32.not_lt.mp c9)]
                    rw [h13] at hP hD
                    exact ih95 (i95 + 1) (by omega) (by omega) (by omega) H locs hP hD hS ls (lv_sub hl [0, 1, 2] rfl)
                · skip
                  refine lv_goto (tgt := 162) hx hb dX5_passStation_128 (by decide) ?_
                  refine lv_iinc (v := nI (i95 + 1)) (lv' := [(2, .int (nI (i95 + 1))), (0, .ref (b 30)), (1, .int x)]) hx hb dX5_passStation_162 hl (k := 0) rfl (nI_inc _) (by decide) rfl (fun ls hl => ?_)
                  refine lv_goto (tgt := 95) hx hb dX5_passStation_165 (by decide) ?_
                  have h14 : u3 = itN (ps2R n x) (i95 + 1) u1 := by rw [itN_s, ← eu3];  unfold ps2R; first | rw [if_neg (fun h => c6 h.1)] | rw [if_neg (fun h => c8 h.2)] | rw [if_pos (And.intro c6 c8), if_neg (Int32.not_le.mpr hnone)] | rw [if_pos (And.intro c6 c8), if_pos (Int32.not_lt.mp hnone)]
                  rw [h14] at hP hD
                  exact ih95 (i95 + 1) (by omega) (by omega) (by omega) H locs hP hD hS ls (lv_sub hl [0, 1, 2] rfl)
        exact K95 (iv (n 0 0) + 1) 0 (Nat.le_refl _) (by omega) (by omega) _ _ hP hD hS ls (lv_sub hl [0, 1, 2] rfl)
      · skip
        have hlt := lp_in okn.n (by omega) hi2 c2
        refine lv_aload_n hx hb dX5_passStation_13 rfl (lv_at hl 1 rfl) ?_
        refine va_get (D := D) (ci := 5) (v := .ref (h 0)) (C := RX5) (T := TX5) (N := 11) hx hb hts inX5 hown hK hP 0 rfl rfl 10 (by decide) f3 (fun _ h9 => h9) rfl dX5_passStation_14 ?_
        refine va_getN (D := D) (ci := 6) (v := .ref (h 1)) (C := RX6) (T := TX6) (N := 10) hx hb hts inX6 hown hK hP 10 rfl rfl 4 (by decide) (NW.F hN (a := RX5) (i := 60) (b := "NightSortersModel") (n := "town") (d := "[I") (h9 := "NightSortersModel") (by decide +kernel)) (fun _ h9 => h9) rfl dX5_passStation_17 ?_
        refine lv_iload_n hx hb dX5_passStation_20 rfl (lv_at hl 0 rfl) ?_
        refine xald hx hb hK hP 13 rfl rfl (i2) (rfl) (by omega) (by decide) dX5_passStation_21 ?_
        refine lv_iconst (v := 2) hx hb dX5_passStation_22 (by decide) ?_
        refine lv_idiv hx hb dX5_passStation_23 (by decide) ?_
        refine lv_iload_n hx hb dX5_passStation_24 rfl (lv_at hl 2 rfl) ?_
        refine lv_icmp_ne (tgt := 32) hx hb dX5_passStation_25 (by decide) (fun c15 => ?_) (fun c15 => ?_)
        · skip
          refine lv_iconst (v := 0) hx hb dX5_passStation_32 (by decide) ?_
          refine lv_istore_n (lv' := [(3, .int 0), (2, .int (nI i2)), (0, .ref (b 30)), (1, .int x)]) hx hb dX5_passStation_33 rfl hl (by decide) rfl (fun ls hl => ?_)
          refine lv_iload_n hx hb dX5_passStation_34 rfl (lv_at hl 0 rfl) ?_
          refine lv_if_eq (tgt := 57) hx hb dX5_passStation_35 (by decide) (fun c16 => ?_) (fun c16 => ?_)
          · skip
            refine lv_iload_n hx hb dX5_passStation_57 rfl (lv_at hl 0 rfl) ?_
            refine lv_if_eq (tgt := 87) hx hb dX5_passStation_58 (by decide) (fun c17 => ?_) (fun c17 => ?_)
            · skip
              refine lv_iinc (v := nI (i2 + 1)) (lv' := [(2, .int (nI (i2 + 1))), (3, .int 0), (0, .ref (b 30)), (1, .int x)]) hx hb dX5_passStation_87 hl (k := 1) rfl (nI_inc _) (by decide) rfl (fun ls hl => ?_)
              refine lv_goto (tgt := 2) hx hb dX5_passStation_90 (by decide) ?_
              have h18 : u1 = itN (ps1R n x) (i2 + 1) q := by rw [itN_s, ← eu1];  unfold ps1R; first | rw [if_neg (fun h => c15 h.1), if_neg (fun h => c15 h.1)] | rw [if_pos (And.intro c15 hnone)] | rw [if_neg (fun h => hnone h.2), if_pos (And.intro c15 (Or.inl hnone))] | rw [if_neg (fun h => hnone h.2), if_pos (And.intro c15 (Or.inr hnone))] | rw [if_neg (fun h => hnone h.2), if_neg (fun h => h.2.elim hnone hnone)]
              rw [h18] at hP hD
              exact ih2 (i2 + 1) (by omega) (by omega) (by omega) H locs hP hD hS ls (lv_sub hl [0, 2, 3] rfl)
            · exact absurd (by decide) c17
          · exact absurd (by decide) c16
        · skip
          refine lv_iconst (v := 1) hx hb dX5_passStation_28 (by decide) ?_
          refine lv_goto (tgt := 33) hx hb dX5_passStation_29 (by decide) ?_
          refine lv_istore_n (lv' := [(3, .int 1), (2, .int (nI i2)), (0, .ref (b 30)), (1, .int x)]) hx hb dX5_passStation_33 rfl hl (by decide) rfl (fun ls hl => ?_)
          refine lv_iload_n hx hb dX5_passStation_34 rfl (lv_at hl 0 rfl) ?_
          refine lv_if_eq (tgt := 57) hx hb dX5_passStation_35 (by decide) (fun c19 => ?_) (fun c19 => ?_)
          · exact absurd c19 (by decide)
          · skip
            refine lv_aload_n hx hb dX5_passStation_38 rfl (lv_at hl 2 rfl) ?_
            refine va_get (D := D) (ci := 5) (v := .ref (b 3)) (C := RX5) (T := TX5) (N := 11) hx hb hts inX5 hown hK hP 0 rfl rfl 1 (by decide) f15 (fun _ h9 => h9) rfl dX5_passStation_39 ?_
            refine lv_iload_n hx hb dX5_passStation_42 rfl (lv_at hl 1 rfl) ?_
            refine xald hx hb hK hP 1 rfl rfl (i2) (rfl) (by omega) (by decide) dX5_passStation_43 ?_
            refine lv_iconst (v := 3) hx hb dX5_passStation_44 (by decide) ?_
            refine lv_icmp_ne (tgt := 57) hx hb dX5_passStation_45 (by decide) (fun c20 => ?_) (fun c20 => ?_)
            · skip
              refine lv_iload_n hx hb dX5_passStation_57 rfl (lv_at hl 0 rfl) ?_
              refine lv_if_eq (tgt := 87) hx hb dX5_passStation_58 (by decide) (fun c21 => ?_) (fun c21 => ?_)
              · exact absurd c21 (by decide)
              · skip
                refine lv_aload_n hx hb dX5_passStation_61 rfl (lv_at hl 2 rfl) ?_
                refine va_get (D := D) (ci := 5) (v := .ref (b 3)) (C := RX5) (T := TX5) (N := 11) hx hb hts inX5 hown hK hP 0 rfl rfl 1 (by decide) f15 (fun _ h9 => h9) rfl dX5_passStation_62 ?_
                refine lv_iload_n hx hb dX5_passStation_65 rfl (lv_at hl 1 rfl) ?_
                refine xald hx hb hK hP 1 rfl rfl (i2) (rfl) (by omega) (by decide) dX5_passStation_66 ?_
                refine lv_iconst (v := 1) hx hb dX5_passStation_67 (by decide) ?_
                refine lv_icmp_eq (tgt := 81) hx hb dX5_passStation_68 (by decide) (fun c22 => ?_) (fun c22 => ?_)
                · skip
                  refine lv_aload_n hx hb dX5_passStation_81 rfl (lv_at hl 2 rfl) ?_
                  refine lv_iload_n hx hb dX5_passStation_82 rfl (lv_at hl 1 rfl) ?_
                  refine lv_iconst (v := 5) hx hb dX5_passStation_83 (by decide) ?_
                  obtain ⟨u23, eu23⟩ : ∃ z0 : Rc, z0 = endR i2 5 u1 := ⟨_, rfl⟩
                  refine ycallv (invV (As := [.int (nI i2), .int 5]) (rest := []) (rm := ({ frames := 1, cells := 0, slots := 0, locals := 23 } : Room)) ⟨hx, hb, hml, hown, hts⟩ (cwV 2 hts gX5_passStation_X5_end rfl rfl rfl (by decide +kernel) ⟨Nat.le_of_ble_eq_true rfl, Nat.le_of_ble_eq_true rfl⟩) (va_recv hK hP (ci := 5) (q0 := 0) rfl rfl) rfl rfl hl.1 (Nat.le_of_ble_eq_true rfl) dX5_passStation_84) (c_X5_end l D cI h b k k1 n u1 ok2 i2 (by omega) (nI i2) rfl 5 (fun hz => by obtain ⟨z1, -, z2⟩ := let_eq hj.2 (by omega) hz; exact ⟨z1, z2⟩)) hK hN hA hP hD hS (W2 := wSt cI h k k1 b n u23) [0, 1, 2, 3, 4, 5, 6, 7, 8, 9, 10, 11, 12, 13, 14, 15] [] [0, 1, 2, 3, 4, 5, 6, 7, 8, 9, 10, 11, 12, 13, 14, 15] rfl rfl (by subst eu23; rfl) (by decide) ⟨Nat.le_of_ble_eq_true rfl, Nat.le_of_ble_eq_true rfl⟩ (fun H locs hP hD hS => ?_)
                  refine lv_iinc (v := nI (i2 + 1)) (lv' := [(2, .int (nI (i2 + 1))), (3, .int 1), (0, .ref (b 30)), (1, .int x)]) hx hb dX5_passStation_87 hl (k := 1) rfl (nI_inc _) (by decide) rfl (fun ls hl => ?_)
                  refine lv_goto (tgt := 2) hx hb dX5_passStation_90 (by decide) ?_
                  have h24 : u23 = itN (ps1R n x) (i2 + 1) q := by rw [itN_s, ← eu1]; (try subst eu23); unfold ps1R; first | rw [if_neg (fun h => c15 h.1), if_neg (fun h => c15 h.1)] | rw [if_pos (And.intro c15 c20)] | rw [if_neg (fun h => c20 h.2), if_pos (And.intro c15 (Or.inl c22))] | rw [if_neg (fun h => c20 h.2), if_pos (And.intro c15 (Or.inr hnone))] | rw [if_neg (fun h => c20 h.2), if_neg (fun h => h.2.elim c22 hnone)]
                  rw [h24] at hP hD
                  exact ih2 (i2 + 1) (by omega) (by omega) (by omega) H locs hP hD hS ls (lv_sub hl [0, 2, 3] rfl)
                · skip
                  refine lv_aload_n hx hb dX5_passStation_71 rfl (lv_at hl 2 rfl) ?_
                  refine va_get (D := D) (ci := 5) (v := .ref (b 3)) (C := RX5) (T := TX5) (N := 11) hx hb hts inX5 hown hK hP 0 rfl rfl 1 (by decide) f15 (fun _ h9 => h9) rfl dX5_passStation_72 ?_
                  refine lv_iload_n hx hb dX5_passStation_75 rfl (lv_at hl 1 rfl) ?_
                  refine xald hx hb hK hP 1 rfl rfl (i2) (rfl) (by omega) (by decide) dX5_passStation_76 ?_
                  refine lv_iconst (v := 2) hx hb dX5_passStation_77 (by decide) ?_
                  refine lv_icmp_ne (tgt := 87) hx hb dX5_passStation_78 (by decide) (fun c25 => ?_) (fun c25 => ?_)
                  · skip
                    refine lv_iinc (v := nI (i2 + 1)) (lv' := [(2, .int (nI (i2 + 1))), (3, .int 1), (0, .ref (b 30)), (1, .int x)]) hx hb dX5_passStation_87 hl (k := 1) rfl (nI_inc _) (by decide) rfl (fun ls hl => ?_)
                    refine lv_goto (tgt := 2) hx hb dX5_passStation_90 (by decide) ?_
                    have h26 : u1 = itN (ps1R n x) (i2 + 1) q := by rw [itN_s, ← eu1];  unfold ps1R; first | rw [if_neg (fun h => c15 h.1), if_neg (fun h => c15 h.1)] | rw [if_pos (And.intro c15 c20)] | rw [if_neg (fun h => c20 h.2), if_pos (And.intro c15 (Or.inl c22))] | rw [if_neg (fun h => c20 h.2), if_pos (And.intro c15 (Or.inr c25))] | rw [if_neg (fun h => c20 h.2), if_neg (fun h => h.2.elim c22 c25)]
                    rw [h26] at hP hD
                    exact ih2 (i2 + 1) (by omega) (by omega) (by omega) H locs hP hD hS ls (lv_sub hl [0, 2, 3] rfl)
                  · skip
                    refine lv_aload_n hx hb dX5_passStation_81 rfl (lv_at hl 2 rfl) ?_
                    refine lv_iload_n hx hb dX5_passStation_82 rfl (lv_at hl 1 rfl) ?_
                    refine lv_iconst (v := 5) hx hb dX5_passStation_83 (by decide) ?_
                    obtain ⟨u27, eu27⟩ : ∃ z0 : Rc, z0 = endR i2 5 u1 := ⟨_, rfl⟩
                    refine ycallv (invV (As := [.int (nI i2), .int 5]) (rest := []) (rm := ({ frames := 1, cells := 0, slots := 0, locals := 23 } : Room)) ⟨hx, hb, hml, hown, hts⟩ (cwV 2 hts gX5_passStation_X5_end rfl rfl rfl (by decide +kernel) ⟨Nat.le_of_ble_eq_true rfl, Nat.le_of_ble_eq_true rfl⟩) (va_recv hK hP (ci := 5) (q0 := 0) rfl rfl) rfl rfl hl.1 (Nat.le_of_ble_eq_true rfl) dX5_passStation_84) (c_X5_end l D cI h b k k1 n u1 ok2 i2 (by omega) (nI i2) rfl 5 (fun hz => by obtain ⟨z1, -, z2⟩ := let_eq hj.2 (by omega) hz; exact ⟨z1, z2⟩)) hK hN hA hP hD hS (W2 := wSt cI h k k1 b n u27) [0, 1, 2, 3, 4, 5, 6, 7, 8, 9, 10, 11, 12, 13, 14, 15] [] [0, 1, 2, 3, 4, 5, 6, 7, 8, 9, 10, 11, 12, 13, 14, 15] rfl rfl (by subst eu27; rfl) (by decide) ⟨Nat.le_of_ble_eq_true rfl, Nat.le_of_ble_eq_true rfl⟩ (fun H locs hP hD hS => ?_)
                    refine lv_iinc (v := nI (i2 + 1)) (lv' := [(2, .int (nI (i2 + 1))), (3, .int 1), (0, .ref (b 30)), (1, .int x)]) hx hb dX5_passStation_87 hl (k := 1) rfl (nI_inc _) (by decide) rfl (fun ls hl => ?_)
                    refine lv_goto (tgt := 2) hx hb dX5_passStation_90 (by decide) ?_
                    have h28 : u27 = itN (ps1R n x) (i2 + 1) q := by rw [itN_s, ← eu1]; (try subst eu27); unfold ps1R; first | rw [if_neg (fun h => c15 h.1), if_neg (fun h => c15 h.1)] | rw [if_pos (And.intro c15 c20)] | rw [if_neg (fun h => c20 h.2), if_pos (And.intro c15 (Or.inl c22))] | rw [if_neg (fun h => c20 h.2), if_pos (And.intro c15 (Or.inr c25))] | rw [if_neg (fun h => c20 h.2), if_neg (fun h => h.2.elim c22 c25)]
                    rw [h28] at hP hD
                    exact ih2 (i2 + 1) (by omega) (by omega) (by omega) H locs hP hD hS ls (lv_sub hl [0, 2, 3] rfl)
            · skip
              refine lv_aload_n hx hb dX5_passStation_48 rfl (lv_at hl 2 rfl) ?_
              refine lv_iload_n hx hb dX5_passStation_49 rfl (lv_at hl 1 rfl) ?_
              refine lv_iconst (v := 4) hx hb dX5_passStation_50 (by decide) ?_
              obtain ⟨u29, eu29⟩ : ∃ z0 : Rc, z0 = endR i2 4 u1 := ⟨_, rfl⟩
              refine ycallv (invV (As := [.int (nI i2), .int 4]) (rest := []) (rm := ({ frames := 1, cells := 0, slots := 0, locals := 23 } : Room)) ⟨hx, hb, hml, hown, hts⟩ (cwV 2 hts gX5_passStation_X5_end rfl rfl rfl (by decide +kernel) ⟨Nat.le_of_ble_eq_true rfl, Nat.le_of_ble_eq_true rfl⟩) (va_recv hK hP (ci := 5) (q0 := 0) rfl rfl) rfl rfl hl.1 (Nat.le_of_ble_eq_true rfl) dX5_passStation_51) (c_X5_end l D cI h b k k1 n u1 ok2 i2 (by omega) (nI i2) rfl 4 (fun hz => by obtain ⟨z1, -, z2⟩ := let_eq hj.2 (by omega) hz; exact ⟨z1, z2⟩)) hK hN hA hP hD hS (W2 := wSt cI h k k1 b n u29) [0, 1, 2, 3, 4, 5, 6, 7, 8, 9, 10, 11, 12, 13, 14, 15] [] [0, 1, 2, 3, 4, 5, 6, 7, 8, 9, 10, 11, 12, 13, 14, 15] rfl rfl (by subst eu29; rfl) (by decide) ⟨Nat.le_of_ble_eq_true rfl, Nat.le_of_ble_eq_true rfl⟩ (fun H locs hP hD hS => ?_)
              refine lv_goto (tgt := 87) hx hb dX5_passStation_54 (by decide) ?_
              refine lv_iinc (v := nI (i2 + 1)) (lv' := [(2, .int (nI (i2 + 1))), (3, .int 1), (0, .ref (b 30)), (1, .int x)]) hx hb dX5_passStation_87 hl (k := 1) rfl (nI_inc _) (by decide) rfl (fun ls hl => ?_)
              refine lv_goto (tgt := 2) hx hb dX5_passStation_90 (by decide) ?_
              have h30 : u29 = itN (ps1R n x) (i2 + 1) q := by rw [itN_s, ← eu1]; (try subst eu29); unfold ps1R; first | rw [if_neg (fun h => c15 h.1), if_neg (fun h => c15 h.1)] | rw [if_pos (And.intro c15 c20)] | rw [if_neg (fun h => c20 h.2), if_pos (And.intro c15 (Or.inl hnone))] | rw [if_neg (fun h => c20 h.2), if_pos (And.intro c15 (Or.inr hnone))] | rw [if_neg (fun h => c20 h.2), if_neg (fun h => h.2.elim hnone hnone)]
              rw [h30] at hP hD
              exact ih2 (i2 + 1) (by omega) (by omega) (by omega) H locs hP hD hS ls (lv_sub hl [0, 2, 3] rfl)
  exact K2 (iv (n 0 0) + 1) 0 (Nat.le_refl _) (by omega) (by omega) _ _ hP hD hS ls (lv_sub hl [0, 1, 2] rfl)
set_option maxHeartbeats 4000000 in
set_option maxRecDepth 100000 in
theorem c_X5_shake (l : Launch) (D : va_G) (cI : ClassId) (h b : Nat → Nat) (k k1 : Nat) (n q : Rc) (okn : Ok n) (x : Int32) : CV l yX5_shake wsX5_shake ({ frames := 1, cells := 0, slots := 0, locals := 23 } : Room) D cI [.ref (b 30), .int x] (wSt cI h k k1 b n q) (wSt cI h k k1 b n (shkR n x q)) := by
  refine CV.mk (cc := cX5_shake) (maxL := 4) (by decide) rfl (Nat.le_of_ble_eq_true rfl) ?_
  intro p e s m args below meth c A Q ls hx hb hts hown hml hK hN hA hP hD hS hl fin
  have hown : s.vm.findClass RX5 = some m.cls := hown
  have hn60 := okn.n60
  have hk4 := okn.k4
  have hl : lv_has ls 4 [(0, .ref (b 30)), (1, .int x)] := hl
  have f3 := hts (.fieldLink RX5 3 "NightSortersModel$State" "this$0" "LNightSortersModel;") (by decide +kernel)
  have f15 := hts (.fieldLink RX5 15 "NightSortersModel$State" "where" "[I") (by decide +kernel)
  have f28 := hts (.fieldLink RX5 28 "NightSortersModel$State" "tired" "[I") (by decide +kernel)
  have f31 := hts (.fieldLink RX5 31 "NightSortersModel$State" "tea" "[I") (by decide +kernel)
  have inX5 : ∀ w ∈ wsX50, w ∈ wsX5_shake := by decide +kernel
  have inX6 : ∀ w ∈ wsX60, w ∈ wsX5_shake := by decide +kernel
  refine lv_iconst (v := 0) hx hb dX5_shake_0 (by decide) ?_
  refine lv_istore_n (lv' := [(2, .int 0), (0, .ref (b 30)), (1, .int x)]) hx hb dX5_shake_1 rfl hl (by decide) rfl (fun ls hl => ?_)
  have K2 : ∀ (n2 i2 : Nat), 0 ≤ i2 → i2 ≤ iv (n 10 0) → iv (n 10 0) < i2 + n2 → ∀ (H : Heap) (locs : List Loc), va_P D vwCl (wSt cI h k k1 b n (itN (shB x) i2 q)) H → va_D A (wSt cI h k k1 b n (itN (shB x) i2 q)) → va_S A s.heap H locs → ∀ (ls : Array Slot), lv_has ls 4 [(2, .int (nI i2)), (0, .ref (b 30)), (1, .int x)] → W p l e ({ frames := 1, cells := 0, slots := 0, locals := 23 } : Room) s m args below meth c H locs (0) (0) Q (F0 m 2 ls []) := by
    intro n2
    induction n2 with
    | zero => intro i2 hlo2 hi2 hn2; exact absurd hn2 (by omega)
    | succ n2 ih2 =>
      intro i2 hlo2 hi2 hn2 H locs hP hD hS ls hl
      obtain ⟨u1, eu1⟩ : ∃ z : Rc, z = itN (shB x) i2 q := ⟨_, rfl⟩
      rw [← eu1] at hP hD
      refine lv_iload_n hx hb dX5_shake_2 rfl (lv_at hl 0 rfl) ?_
      refine lv_aload_n hx hb dX5_shake_3 rfl (lv_at hl 1 rfl) ?_
      refine va_get (D := D) (ci := 5) (v := .ref (h 0)) (C := RX5) (T := TX5) (N := 11) hx hb hts inX5 hown hK hP 0 rfl rfl 10 (by decide) f3 (fun _ h9 => h9) rfl dX5_shake_4 ?_
      refine va_getN (D := D) (ci := 6) (v := .int (n 10 0)) (C := RX6) (T := TX6) (N := 10) hx hb hts inX6 hown hK hP 10 rfl rfl 6 (by decide) (NW.F hN (a := RX5) (i := 93) (b := "NightSortersModel") (n := "sorters") (d := "I") (h9 := "NightSortersModel") (by decide +kernel)) (fun _ h9 => h9) rfl dX5_shake_7 ?_
      refine lv_icmp_ge (tgt := 45) hx hb dX5_shake_10 (by decide) (fun c2 => ?_) (fun c2 => ?_)
      · skip
        have hie : iv (n 10 0) = i2 := (show i2 = iv (n 10 0) from lp_out okn.k (by omega) hi2 c2).symm
        subst hie
        refine lv_iload_n hx hb dX5_shake_45 rfl (lv_at hl 2 rfl) ?_
        refine lv_iconst (v := 2) hx hb dX5_shake_46 (by decide) ?_
        refine lv_icmp_ge (tgt := 51) hx hb dX5_shake_47 (by decide) (fun c3 => ?_) (fun c3 => ?_)
        · skip
          refine lv_iconst (v := 0) hx hb dX5_shake_51 (by decide) ?_
          refine lv_istore_n (lv' := [(2, .int 0), (0, .ref (b 30)), (1, .int x)]) hx hb dX5_shake_52 rfl hl (by decide) rfl (fun ls hl => ?_)
          refine lv_iconst (v := nI (0 + 1)) hx hb dX5_shake_53 (by decide) ?_
          refine lv_istore_n (lv' := [(3, .int (nI (0 + 1))), (2, .int 0), (0, .ref (b 30)), (1, .int x)]) hx hb dX5_shake_54 rfl hl (by decide) rfl (fun ls hl => ?_)
          have K55 : ∀ (n55 i55 : Nat), 0 ≤ i55 → i55 ≤ 15 → 15 < i55 + n55 → ∀ (H : Heap) (locs : List Loc), va_P D vwCl (wSt cI h k k1 b n u1) H → va_D A (wSt cI h k k1 b n u1) → va_S A s.heap H locs → ∀ (ls : Array Slot), lv_has ls 4 [(3, .int (nI (i55 + 1))), (2, .int (nI (fullN (fun t => holeR n u1 (nI t)) i55))), (0, .ref (b 30)), (1, .int x)] → W p l e ({ frames := 1, cells := 0, slots := 0, locals := 23 } : Room) s m args below meth c H locs (0) (0) Q (F0 m 55 ls []) := by
            intro n55
            induction n55 with
            | zero => intro i55 hlo55 hi55 hn55; exact absurd hn55 (by omega)
            | succ n55 ih55 =>
              intro i55 hlo55 hi55 hn55 H locs hP hD hS ls hl
              refine lv_iload_n hx hb dX5_shake_55 rfl (lv_at hl 0 rfl) ?_
              refine lv_bipush (v := 16) hx hb dX5_shake_56 (by decide) ?_
              refine lv_icmp_ge (tgt := 82) hx hb dX5_shake_58 (by decide) (fun c4 => ?_) (fun c4 => ?_)
              · skip
                have hie := lp_out (show (16 : Int32) = nI 16 from rfl) (by decide) (by omega) c4
                have hie : 15 = i55 := (show i55 = 15 from (by omega)).symm
                subst hie
                refine lv_iconst (v := 0) hx hb dX5_shake_82 (by decide) ?_
                refine lv_istore_n (lv' := [(3, .int 0), (2, .int (nI (fullN (fun t => holeR n u1 (nI t)) 15))), (0, .ref (b 30)), (1, .int x)]) hx hb dX5_shake_83 rfl hl (by decide) rfl (fun ls hl => ?_)
                have K84 : ∀ (n84 i84 : Nat), 0 ≤ i84 → i84 ≤ iv (n 0 0) → iv (n 0 0) < i84 + n84 → ∀ (H : Heap) (locs : List Loc), va_P D vwCl (wSt cI h k k1 b n (itN (spB n (nI (fullN (fun t => holeR n u1 (nI t)) 15))) i84 u1)) H → va_D A (wSt cI h k k1 b n (itN (spB n (nI (fullN (fun t => holeR n u1 (nI t)) 15))) i84 u1)) → va_S A s.heap H locs → ∀ (ls : Array Slot), lv_has ls 4 [(3, .int (nI i84)), (2, .int (nI (fullN (fun t => holeR n u1 (nI t)) 15))), (0, .ref (b 30)), (1, .int x)] → W p l e ({ frames := 1, cells := 0, slots := 0, locals := 23 } : Room) s m args below meth c H locs (0) (0) Q (F0 m 84 ls []) := by
                  intro n84
                  induction n84 with
                  | zero => intro i84 hlo84 hi84 hn84; exact absurd hn84 (by omega)
                  | succ n84 ih84 =>
                    intro i84 hlo84 hi84 hn84 H locs hP hD hS ls hl
                    obtain ⟨u5, eu5⟩ : ∃ z : Rc, z = itN (spB n (nI (fullN (fun t => holeR n u1 (nI t)) 15))) i84 u1 := ⟨_, rfl⟩
                    rw [← eu5] at hP hD
                    refine lv_iload_n hx hb dX5_shake_84 rfl (lv_at hl 0 rfl) ?_
                    refine lv_aload_n hx hb dX5_shake_85 rfl (lv_at hl 2 rfl) ?_
                    refine va_get (D := D) (ci := 5) (v := .ref (h 0)) (C := RX5) (T := TX5) (N := 11) hx hb hts inX5 hown hK hP 0 rfl rfl 10 (by decide) f3 (fun _ h9 => h9) rfl dX5_shake_86 ?_
                    refine va_getN (D := D) (ci := 6) (v := .int (n 0 0)) (C := RX6) (T := TX6) (N := 10) hx hb hts inX6 hown hK hP 10 rfl rfl 3 (by decide) (NW.F hN (a := RX5) (i := 57) (b := "NightSortersModel") (n := "letters") (d := "I") (h9 := "NightSortersModel") (by decide +kernel)) (fun _ h9 => h9) rfl dX5_shake_89 ?_
                    refine lv_icmp_ge (tgt := 131) hx hb dX5_shake_92 (by decide) (fun c6 => ?_) (fun c6 => ?_)
                    · skip
                      have hie : iv (n 0 0) = i84 := (show i84 = iv (n 0 0) from lp_out okn.n (by omega) hi84 c6).symm
                      subst hie
                      have h7 : u5 = shkR n x q := (by (try subst eu5); (try subst eu1); unfold shkR; rw [opt_t (p := fun _ => ¬ x < 2) (Int32.not_lt.mpr c3)])
                      exact fin _ _ _ _ _ _ _ (congrArg (fun z9 : Rc => wSt cI h k k1 b n z9) h7) hP hD hS (Nat.le_of_ble_eq_true rfl) (Nat.le_of_ble_eq_true rfl) dX5_shake_131
                    · skip
                      have hlt := lp_in okn.n (by omega) hi84 c6
                      refine lv_aload_n hx hb dX5_shake_95 rfl (lv_at hl 2 rfl) ?_
                      refine va_get (D := D) (ci := 5) (v := .ref (b 3)) (C := RX5) (T := TX5) (N := 11) hx hb hts inX5 hown hK hP 0 rfl rfl 1 (by decide) f15 (fun _ h9 => h9) rfl dX5_shake_96 ?_
                      refine lv_iload_n hx hb dX5_shake_99 rfl (lv_at hl 0 rfl) ?_
                      refine xald hx hb hK hP 1 rfl rfl (i84) (rfl) (by omega) (by decide) dX5_shake_100 ?_
                      refine lv_iconst (v := 3) hx hb dX5_shake_101 (by decide) ?_
                      refine lv_icmp_ne (tgt := 125) hx hb dX5_shake_102 (by decide) (fun c8 => ?_) (fun c8 => ?_)
                      · skip
                        refine lv_iinc (v := nI (i84 + 1)) (lv' := [(3, .int (nI (i84 + 1))), (2, .int (nI (fullN (fun t => holeR n u1 (nI t)) 15))), (0, .ref (b 30)), (1, .int x)]) hx hb dX5_shake_125 hl (k := 0) rfl (nI_inc _) (by decide) rfl (fun ls hl => ?_)
                        refine lv_goto (tgt := 84) hx hb dX5_shake_128 (by decide) ?_
                        have h9 : u5 = itN (spB n (nI (fullN (fun t => holeR n u1 (nI t)) 15))) (i84 + 1) u1 := by rw [itN_s, ← eu5];  unfold spB; first | rw [opt_f (p := fun w => w 3 i84 = 3 ∧ n 1 i84 = _) (fun h => c8 h.1)] | rw [opt_f (p := fun w => w 3 i84 = 3 ∧ n 1 i84 = _) (fun h => hnone h.2)] | rw [opt_t (p := fun w => w 3 i84 = 3 ∧ n 1 i84 = _) (And.intro c8 hnone)]
                        rw [h9] at hP hD
                        exact ih84 (i84 + 1) (by omega) (by omega) (by omega) H locs hP hD hS ls (lv_sub hl [0, 1, 2, 3] rfl)
                      · skip
                        refine lv_aload_n hx hb dX5_shake_105 rfl (lv_at hl 2 rfl) ?_
                        refine va_get (D := D) (ci := 5) (v := .ref (h 0)) (C := RX5) (T := TX5) (N := 11) hx hb hts inX5 hown hK hP 0 rfl rfl 10 (by decide) f3 (fun _ h9 => h9) rfl dX5_shake_106 ?_
                        refine va_getN (D := D) (ci := 6) (v := .ref (h 1)) (C := RX6) (T := TX6) (N := 10) hx hb hts inX6 hown hK hP 10 rfl rfl 4 (by decide) (NW.F hN (a := RX5) (i := 60) (b := "NightSortersModel") (n := "town") (d := "[I") (h9 := "NightSortersModel") (by decide +kernel)) (fun _ h9 => h9) rfl dX5_shake_109 ?_
                        refine lv_iload_n hx hb dX5_shake_112 rfl (lv_at hl 0 rfl) ?_
                        refine xald hx hb hK hP 13 rfl rfl (i84) (rfl) (by omega) (by decide) dX5_shake_113 ?_
                        refine lv_iload_n hx hb dX5_shake_114 rfl (lv_at hl 1 rfl) ?_
                        refine lv_icmp_ne (tgt := 125) hx hb dX5_shake_115 (by decide) (fun c10 => ?_) (fun c10 => ?_)
                        · skip
                          refine lv_iinc (v := nI (i84 + 1)) (lv' := [(3, .int (nI (i84 + 1))), (2, .int (nI (fullN (fun t => holeR n u1 (nI t)) 15))), (0, .ref (b 30)), (1, .int x)]) hx hb dX5_shake_125 hl (k := 0) rfl (nI_inc _) (by decide) rfl (fun ls hl => ?_)
                          refine lv_goto (tgt := 84) hx hb dX5_shake_128 (by decide) ?_
                          have h11 : u5 = itN (spB n (nI (fullN (fun t => holeR n u1 (nI t)) 15))) (i84 + 1) u1 := by rw [itN_s, ← eu5];  unfold spB; first | rw [opt_f (p := fun w => w 3 i84 = 3 ∧ n 1 i84 = _) (fun h => c8 h.1)] | rw [opt_f (p := fun w => w 3 i84 = 3 ∧ n 1 i84 = _) (fun h => c10 h.2)] | rw [opt_t (p := fun w => w 3 i84 = 3 ∧ n 1 i84 = _) (And.intro c8 c10)]
                          rw [h11] at hP hD
                          exact ih84 (i84 + 1) (by omega) (by omega) (by omega) H locs hP hD hS ls (lv_sub hl [0, 1, 2, 3] rfl)
                        · skip
                          refine lv_aload_n hx hb dX5_shake_118 rfl (lv_at hl 2 rfl) ?_
                          refine va_get (D := D) (ci := 5) (v := .ref (b 3)) (C := RX5) (T := TX5) (N := 11) hx hb hts inX5 hown hK hP 0 rfl rfl 1 (by decide) f15 (fun _ h9 => h9) rfl dX5_shake_119 ?_
                          refine lv_iload_n hx hb dX5_shake_122 rfl (lv_at hl 0 rfl) ?_
                          refine lv_iconst (v := 1) hx hb dX5_shake_123 (by decide) ?_
                          obtain ⟨u12, eu12⟩ : ∃ z0 : Rc, z0 = put u5 3 i84 1 := ⟨_, rfl⟩
                          refine xast hx hb hK hP hD hS 1 rfl rfl (i84) (rfl) (by omega) (by decide) (wSt cI h k k1 b n u12) (by subst eu12; rfl) dX5_shake_124 (fun H locs hP hD hS => ?_)
                          refine lv_iinc (v := nI (i84 + 1)) (lv' := [(3, .int (nI (i84 + 1))), (2, .int (nI (fullN (fun t => holeR n u1 (nI t)) 15))), (0, .ref (b 30)), (1, .int x)]) hx hb dX5_shake_125 hl (k := 0) rfl (nI_inc _) (by decide) rfl (fun ls hl => ?_)
                          refine lv_goto (tgt := 84) hx hb dX5_shake_128 (by decide) ?_
                          have h13 : u12 = itN (spB n (nI (fullN (fun t => holeR n u1 (nI t)) 15))) (i84 + 1) u1 := by rw [itN_s, ← eu5]; (try subst eu12); unfold spB; first | rw [opt_f (p := fun w => w 3 i84 = 3 ∧ n 1 i84 = _) (fun h => c8 h.1)] | rw [opt_f (p := fun w => w 3 i84 = 3 ∧ n 1 i84 = _) (fun h => c10 h.2)] | rw [opt_t (p := fun w => w 3 i84 = 3 ∧ n 1 i84 = _) (And.intro c8 c10)]
                          rw [h13] at hP hD
                          exact ih84 (i84 + 1) (by omega) (by omega) (by omega) H locs hP hD hS ls (lv_sub hl [0, 1, 2, 3] rfl)
                exact K84 (iv (n 0 0) + 1) 0 (Nat.le_refl _) (by omega) (by omega) _ _ hP hD hS ls (lv_sub hl [0, 1, 2, 3] rfl)
              · skip
                have hlt := lp_in (show (16 : Int32) = nI 16 from rfl) (by decide) (by omega) c4
                have hfl := fullN_le (fun t => holeR n u1 (nI t)) i55
                refine lv_aload_n hx hb dX5_shake_61 rfl (lv_at hl 2 rfl) ?_
                refine lv_iload_n hx hb dX5_shake_62 rfl (lv_at hl 0 rfl) ?_
                refine ycalli (invV (As := [.int (nI (i55 + 1))]) (rest := []) (rm := ({ frames := 0, cells := 0, slots := 0, locals := 0 } : Room)) ⟨hx, hb, hml, hown, hts⟩ (cwV 1 hts gX5_shake_X5_inHole rfl rfl rfl (by decide +kernel) ⟨Nat.le_of_ble_eq_true rfl, Nat.le_of_ble_eq_true rfl⟩) (va_recv hK hP (ci := 5) (q0 := 0) rfl rfl) rfl rfl hl.1 (Nat.le_of_ble_eq_true rfl) dX5_shake_63) (c_X5_inHole l D cI h b k k1 n u1 okn (nI (i55 + 1))) hK hN hA hP hD hS (W2 := wSt cI h k k1 b n u1) [0, 1, 2, 3, 4, 5, 6, 7, 8, 9, 10, 11, 12, 13, 14, 15] [] [0, 1, 2, 3, 4, 5, 6, 7, 8, 9, 10, 11, 12, 13, 14, 15] rfl rfl rfl (by decide) ⟨Nat.le_of_ble_eq_true rfl, Nat.le_of_ble_eq_true rfl⟩ (fun H locs hP hD hS => ?_)
                refine lv_aload_n hx hb dX5_shake_66 rfl (lv_at hl 2 rfl) ?_
                refine lv_iload_n hx hb dX5_shake_67 rfl (lv_at hl 1 rfl) ?_
                refine ycalli (invV (As := [.int (nI (fullN (fun t => holeR n u1 (nI t)) i55))]) (rest := [.int (holeR n u1 (nI (i55 + 1)))]) (rm := ({ frames := 0, cells := 0, slots := 0, locals := 0 } : Room)) ⟨hx, hb, hml, hown, hts⟩ (cwV 1 hts gX5_shake_X5_inHole rfl rfl rfl (by decide +kernel) ⟨Nat.le_of_ble_eq_true rfl, Nat.le_of_ble_eq_true rfl⟩) (va_recv hK hP (ci := 5) (q0 := 0) rfl rfl) rfl rfl hl.1 (Nat.le_of_ble_eq_true rfl) dX5_shake_68) (c_X5_inHole l D cI h b k k1 n u1 okn (nI (fullN (fun t => holeR n u1 (nI t)) i55))) hK hN hA hP hD hS (W2 := wSt cI h k k1 b n u1) [0, 1, 2, 3, 4, 5, 6, 7, 8, 9, 10, 11, 12, 13, 14, 15] [] [0, 1, 2, 3, 4, 5, 6, 7, 8, 9, 10, 11, 12, 13, 14, 15] rfl rfl rfl (by decide) ⟨Nat.le_of_ble_eq_true rfl, Nat.le_of_ble_eq_true rfl⟩ (fun H locs hP hD hS => ?_)
                refine lv_icmp_le (tgt := 76) hx hb dX5_shake_71 (by decide) (fun c14 => ?_) (fun c14 => ?_)
                · skip
                  refine lv_iinc (v := nI ((i55 + 1) + 1)) (lv' := [(3, .int (nI ((i55 + 1) + 1))), (2, .int (nI (fullN (fun t => holeR n u1 (nI t)) i55))), (0, .ref (b 30)), (1, .int x)]) hx hb dX5_shake_76 hl (k := 0) rfl (nI_inc _) (by decide) rfl (fun ls hl => ?_)
                  refine lv_goto (tgt := 55) hx hb dX5_shake_79 (by decide) ?_
                  exact ih55 (i55 + 1) (by omega) (by omega) (by omega) H locs hP hD hS ls (lv_sub hl [0, 1, 2, 3] (by first | (rw [full_t (h := fun t => holeR n u1 (nI t)) c14]; rfl) | (rw [full_f (h := fun t => holeR n u1 (nI t)) c14]; rfl)))
                · skip
                  refine lv_iload_n hx hb dX5_shake_74 rfl (lv_at hl 0 rfl) ?_
                  refine lv_istore_n (lv' := [(2, .int (nI (i55 + 1))), (3, .int (nI (i55 + 1))), (0, .ref (b 30)), (1, .int x)]) hx hb dX5_shake_75 rfl hl (by decide) rfl (fun ls hl => ?_)
                  refine lv_iinc (v := nI ((i55 + 1) + 1)) (lv' := [(3, .int (nI ((i55 + 1) + 1))), (2, .int (nI (i55 + 1))), (0, .ref (b 30)), (1, .int x)]) hx hb dX5_shake_76 hl (k := 1) rfl (nI_inc _) (by decide) rfl (fun ls hl => ?_)
                  refine lv_goto (tgt := 55) hx hb dX5_shake_79 (by decide) ?_
                  exact ih55 (i55 + 1) (by omega) (by omega) (by omega) H locs hP hD hS ls (lv_sub hl [0, 1, 2, 3] (by first | (rw [full_t (h := fun t => holeR n u1 (nI t)) c14]; rfl) | (rw [full_f (h := fun t => holeR n u1 (nI t)) c14]; rfl)))
          exact K55 (15 + 1) 0 (Nat.le_refl _) (by omega) (by omega) _ _ hP hD hS ls (lv_sub hl [0, 1, 2, 3] rfl)
        · skip
          have h15 : u1 = shkR n x q := (by (try subst eu1); unfold shkR; rw [opt_f (p := fun _ => ¬ x < 2) (fun h => h (Int32.not_le.mp c3))])
          exact fin _ _ _ _ _ _ _ (congrArg (fun z9 : Rc => wSt cI h k k1 b n z9) h15) hP hD hS (Nat.le_of_ble_eq_true rfl) (Nat.le_of_ble_eq_true rfl) dX5_shake_50
      · skip
        have hlt := lp_in okn.k (by omega) hi2 c2
        refine lv_iload_n hx hb dX5_shake_13 rfl (lv_at hl 2 rfl) ?_
        refine lv_if_le (tgt := 24) hx hb dX5_shake_14 (by decide) (fun c16 => ?_) (fun c16 => ?_)
        · skip
          refine lv_iload_n hx hb dX5_shake_24 rfl (lv_at hl 2 rfl) ?_
          refine lv_iconst (v := 3) hx hb dX5_shake_25 (by decide) ?_
          refine lv_icmp_ne (tgt := 39) hx hb dX5_shake_26 (by decide) (fun c17 => ?_) (fun c17 => ?_)
          · skip
            refine lv_iinc (v := nI (i2 + 1)) (lv' := [(2, .int (nI (i2 + 1))), (0, .ref (b 30)), (1, .int x)]) hx hb dX5_shake_39 hl (k := 0) rfl (nI_inc _) (by decide) rfl (fun ls hl => ?_)
            refine lv_goto (tgt := 2) hx hb dX5_shake_42 (by decide) ?_
            have h18 : u1 = itN (shB x) (i2 + 1) q := by rw [itN_s, ← eu1];  unfold shB; (first | rw [opt_f (p := fun _ => ¬ x ≤ 0) (fun h => h c16)] | rw [opt_t (p := fun _ => ¬ x ≤ 0) c16]) <;> (first | rw [opt_f (p := fun _ => x = 3) c17] | rw [opt_t (p := fun _ => x = 3) c17])
            rw [h18] at hP hD
            exact ih2 (i2 + 1) (by omega) (by omega) (by omega) H locs hP hD hS ls (lv_sub hl [0, 1, 2] rfl)
          · skip
            refine lv_aload_n hx hb dX5_shake_29 rfl (lv_at hl 1 rfl) ?_
            refine va_get (D := D) (ci := 5) (v := .ref (b 13)) (C := RX5) (T := TX5) (N := 11) hx hb hts inX5 hown hK hP 0 rfl rfl 5 (by decide) f28 (fun _ h9 => h9) rfl dX5_shake_30 ?_
            refine lv_iload_n hx hb dX5_shake_33 rfl (lv_at hl 0 rfl) ?_
            refine lv_dup2_11 hx hb dX5_shake_34 rfl rfl ?_
            refine xald hx hb hK hP 5 rfl rfl (i2) (rfl) (by omega) (by decide) dX5_shake_35 ?_
            refine lv_iconst (v := 3) hx hb dX5_shake_36 (by decide) ?_
            refine lv_iadd hx hb dX5_shake_37 ?_
            obtain ⟨u19, eu19⟩ : ∃ z0 : Rc, z0 = put u1 13 i2 ((u1 13 i2) + 3) := ⟨_, rfl⟩
            refine xast hx hb hK hP hD hS 5 rfl rfl (i2) (rfl) (by omega) (by decide) (wSt cI h k k1 b n u19) (by subst eu19; rfl) dX5_shake_38 (fun H locs hP hD hS => ?_)
            refine lv_iinc (v := nI (i2 + 1)) (lv' := [(2, .int (nI (i2 + 1))), (0, .ref (b 30)), (1, .int x)]) hx hb dX5_shake_39 hl (k := 0) rfl (nI_inc _) (by decide) rfl (fun ls hl => ?_)
            refine lv_goto (tgt := 2) hx hb dX5_shake_42 (by decide) ?_
            have h20 : u19 = itN (shB x) (i2 + 1) q := by rw [itN_s, ← eu1]; (try subst eu19); unfold shB; (first | rw [opt_f (p := fun _ => ¬ x ≤ 0) (fun h => h c16)] | rw [opt_t (p := fun _ => ¬ x ≤ 0) c16]) <;> (first | rw [opt_f (p := fun _ => x = 3) c17] | rw [opt_t (p := fun _ => x = 3) c17])
            rw [h20] at hP hD
            exact ih2 (i2 + 1) (by omega) (by omega) (by omega) H locs hP hD hS ls (lv_sub hl [0, 1, 2] rfl)
        · skip
          refine lv_aload_n hx hb dX5_shake_17 rfl (lv_at hl 1 rfl) ?_
          refine va_get (D := D) (ci := 5) (v := .ref (b 14)) (C := RX5) (T := TX5) (N := 11) hx hb hts inX5 hown hK hP 0 rfl rfl 6 (by decide) f31 (fun _ h9 => h9) rfl dX5_shake_18 ?_
          refine lv_iload_n hx hb dX5_shake_21 rfl (lv_at hl 0 rfl) ?_
          refine lv_iconst (v := 0) hx hb dX5_shake_22 (by decide) ?_
          obtain ⟨u21, eu21⟩ : ∃ z0 : Rc, z0 = put u1 14 i2 0 := ⟨_, rfl⟩
          refine xast hx hb hK hP hD hS 6 rfl rfl (i2) (rfl) (by omega) (by decide) (wSt cI h k k1 b n u21) (by subst eu21; rfl) dX5_shake_23 (fun H locs hP hD hS => ?_)
          refine lv_iload_n hx hb dX5_shake_24 rfl (lv_at hl 2 rfl) ?_
          refine lv_iconst (v := 3) hx hb dX5_shake_25 (by decide) ?_
          refine lv_icmp_ne (tgt := 39) hx hb dX5_shake_26 (by decide) (fun c22 => ?_) (fun c22 => ?_)
          · skip
            refine lv_iinc (v := nI (i2 + 1)) (lv' := [(2, .int (nI (i2 + 1))), (0, .ref (b 30)), (1, .int x)]) hx hb dX5_shake_39 hl (k := 0) rfl (nI_inc _) (by decide) rfl (fun ls hl => ?_)
            refine lv_goto (tgt := 2) hx hb dX5_shake_42 (by decide) ?_
            have h23 : u21 = itN (shB x) (i2 + 1) q := by rw [itN_s, ← eu1]; (try subst eu21); unfold shB; (first | rw [opt_f (p := fun _ => ¬ x ≤ 0) (fun h => h c16)] | rw [opt_t (p := fun _ => ¬ x ≤ 0) c16]) <;> (first | rw [opt_f (p := fun _ => x = 3) c22] | rw [opt_t (p := fun _ => x = 3) c22])
            rw [h23] at hP hD
            exact ih2 (i2 + 1) (by omega) (by omega) (by omega) H locs hP hD hS ls (lv_sub hl [0, 1, 2] rfl)
          · skip
            refine lv_aload_n hx hb dX5_shake_29 rfl (lv_at hl 1 rfl) ?_
            refine va_get (D := D) (ci := 5) (v := .ref (b 13)) (C := RX5) (T := TX5) (N := 11) hx hb hts inX5 hown hK hP 0 rfl rfl 5 (by decide) f28 (fun _ h9 => h9) rfl dX5_shake_30 ?_
            refine lv_iload_n hx hb dX5_shake_33 rfl (lv_at hl 0 rfl) ?_
            refine lv_dup2_11 hx hb dX5_shake_34 rfl rfl ?_
            refine xald hx hb hK hP 5 rfl rfl (i2) (rfl) (by omega) (by decide) dX5_shake_35 ?_
            refine lv_iconst (v := 3) hx hb dX5_shake_36 (by decide) ?_
            refine lv_iadd hx hb dX5_shake_37 ?_
            obtain ⟨u24, eu24⟩ : ∃ z0 : Rc, z0 = put u21 13 i2 ((u21 13 i2) + 3) := ⟨_, rfl⟩
            refine xast hx hb hK hP hD hS 5 rfl rfl (i2) (rfl) (by omega) (by decide) (wSt cI h k k1 b n u24) (by subst eu24; rfl) dX5_shake_38 (fun H locs hP hD hS => ?_)
            refine lv_iinc (v := nI (i2 + 1)) (lv' := [(2, .int (nI (i2 + 1))), (0, .ref (b 30)), (1, .int x)]) hx hb dX5_shake_39 hl (k := 0) rfl (nI_inc _) (by decide) rfl (fun ls hl => ?_)
            refine lv_goto (tgt := 2) hx hb dX5_shake_42 (by decide) ?_
            have h25 : u24 = itN (shB x) (i2 + 1) q := by rw [itN_s, ← eu1]; (try subst eu24); (try subst eu21); unfold shB; (first | rw [opt_f (p := fun _ => ¬ x ≤ 0) (fun h => h c16)] | rw [opt_t (p := fun _ => ¬ x ≤ 0) c16]) <;> (first | rw [opt_f (p := fun _ => x = 3) c22] | rw [opt_t (p := fun _ => x = 3) c22])
            rw [h25] at hP hD
            exact ih2 (i2 + 1) (by omega) (by omega) (by omega) H locs hP hD hS ls (lv_sub hl [0, 1, 2] rfl)
  exact K2 (iv (n 10 0) + 1) 0 (Nat.le_refl _) (by omega) (by omega) _ _ hP hD hS ls (lv_sub hl [0, 1, 2] rfl)
set_option maxHeartbeats 4000000 in
set_option maxRecDepth 100000 in
theorem c_X5_pass (l : Launch) (D : va_G) (cI : ClassId) (h b : Nat → Nat) (k k1 : Nat) (n q : Rc) (okn : Ok n) (ok : Ok q) (hJ : JR (iv (n 0 0)) (iv (n 10 0)) q) : CI l yX5_pass wsX5_pass ({ frames := 3, cells := 0, slots := 0, locals := 104 } : Room) D cI [.ref (b 30)] (wSt cI h k k1 b n q) (psA n q) (wSt cI h k k1 b n (psR n q)) := by
  refine CI.mk (cc := cX5_pass) (maxL := 3) (ret := (some .int)) rfl rfl (by decide) rfl (Nat.le_of_ble_eq_true rfl) ?_
  intro p e s m args below meth c A Q ls hx hb hts hown hml hK hN hA hP hD hS hl fin
  have hown : s.vm.findClass RX5 = some m.cls := hown
  have hn60 := okn.n60
  have hk4 := okn.k4
  have hl : lv_has ls 3 [(0, .ref (b 30))] := hl
  have f3 := hts (.fieldLink RX5 3 "NightSortersModel$State" "this$0" "LNightSortersModel;") (by decide +kernel)
  have f49 := hts (.fieldLink RX5 49 "NightSortersModel$State" "minute" "I") (by decide +kernel)
  have inX5 : ∀ w ∈ wsX50, w ∈ wsX5_pass := by decide +kernel
  have inX6 : ∀ w ∈ wsX60, w ∈ wsX5_pass := by decide +kernel
  refine lv_iconst (v := 0) hx hb dX5_pass_0 (by decide) ?_
  refine lv_istore_n (lv' := [(1, .int 0), (0, .ref (b 30))]) hx hb dX5_pass_1 rfl hl (by decide) rfl (fun ls hl => ?_)
  have K2 : ∀ (n2 i2 : Nat), 0 ≤ i2 → i2 ≤ iv (n 10 0) → iv (n 10 0) < i2 + n2 → ∀ (H : Heap) (locs : List Loc), va_P D vwCl (wSt cI h k k1 b n (itN (wrkR n) i2 q)) H → va_D A (wSt cI h k k1 b n (itN (wrkR n) i2 q)) → va_S A s.heap H locs → ∀ (ls : Array Slot), lv_has ls 3 [(1, .int (nI i2)), (0, .ref (b 30))] → W p l e ({ frames := 3, cells := 0, slots := 0, locals := 104 } : Room) s m args below meth c H locs (0) (0) Q (F0 m 2 ls []) := by
    intro n2
    induction n2 with
    | zero => intro i2 hlo2 hi2 hn2; exact absurd hn2 (by omega)
    | succ n2 ih2 =>
      intro i2 hlo2 hi2 hn2 H locs hP hD hS ls hl
      obtain ⟨u1, eu1⟩ : ∃ z : Rc, z = itN (wrkR n) i2 q := ⟨_, rfl⟩
      rw [← eu1] at hP hD
      have hj : Ok u1 ∧ JR (iv (n 0 0)) (iv (n 10 0)) u1 := by rw [eu1]; exact md_j okn ⟨ok, hJ⟩ hi2
      have ok2 : Ok u1 := hj.1
      refine lv_iload_n hx hb dX5_pass_2 rfl (lv_at hl 0 rfl) ?_
      refine lv_aload_n hx hb dX5_pass_3 rfl (lv_at hl 1 rfl) ?_
      refine va_get (D := D) (ci := 5) (v := .ref (h 0)) (C := RX5) (T := TX5) (N := 11) hx hb hts inX5 hown hK hP 0 rfl rfl 10 (by decide) f3 (fun _ h9 => h9) rfl dX5_pass_4 ?_
      refine va_getN (D := D) (ci := 6) (v := .int (n 10 0)) (C := RX6) (T := TX6) (N := 10) hx hb hts inX6 hown hK hP 10 rfl rfl 6 (by decide) (NW.F hN (a := RX5) (i := 93) (b := "NightSortersModel") (n := "sorters") (d := "I") (h9 := "NightSortersModel") (by decide +kernel)) (fun _ h9 => h9) rfl dX5_pass_7 ?_
      refine lv_icmp_ge (tgt := 24) hx hb dX5_pass_10 (by decide) (fun c2 => ?_) (fun c2 => ?_)
      · skip
        have hie : iv (n 10 0) = i2 := (show i2 = iv (n 10 0) from lp_out okn.k (by omega) hi2 c2).symm
        subst hie
        refine lv_aload_n hx hb dX5_pass_24 rfl (lv_at hl 1 rfl) ?_
        refine lv_iconst (v := 4) hx hb dX5_pass_25 (by decide) ?_
        refine ycalli (invV (As := [.int 4]) (rest := []) (rm := ({ frames := 0, cells := 0, slots := 0, locals := 0 } : Room)) ⟨hx, hb, hml, hown, hts⟩ (cwV 1 hts gX5_pass_X5_are rfl rfl rfl (by decide +kernel) ⟨Nat.le_of_ble_eq_true rfl, Nat.le_of_ble_eq_true rfl⟩) (va_recv hK hP (ci := 5) (q0 := 0) rfl rfl) rfl rfl hl.1 (Nat.le_of_ble_eq_true rfl) dX5_pass_26) (c_X5_are l D cI h b k k1 n u1 okn 4) hK hN hA hP hD hS (W2 := wSt cI h k k1 b n u1) [0, 1, 2, 3, 4, 5, 6, 7, 8, 9, 10, 11, 12, 13, 14, 15] [] [0, 1, 2, 3, 4, 5, 6, 7, 8, 9, 10, 11, 12, 13, 14, 15] rfl rfl rfl (by decide) ⟨Nat.le_of_ble_eq_true rfl, Nat.le_of_ble_eq_true rfl⟩ (fun H locs hP hD hS => ?_)
        refine lv_istore_n (lv' := [(1, .int (areR n u1 4)), (0, .ref (b 30))]) hx hb dX5_pass_29 rfl hl (by decide) rfl (fun ls hl => ?_)
        refine lv_iconst (v := 0) hx hb dX5_pass_30 (by decide) ?_
        refine lv_istore_n (lv' := [(2, .int 0), (1, .int (areR n u1 4)), (0, .ref (b 30))]) hx hb dX5_pass_31 rfl hl (by decide) rfl (fun ls hl => ?_)
        have K32 : ∀ (n32 i32 : Nat), 0 ≤ i32 → i32 ≤ 8 → 8 < i32 + n32 → ∀ (H : Heap) (locs : List Loc), va_P D vwCl (wSt cI h k k1 b n (itN (fun st => opt (fun w => n 20 st = w 30 0) (pstR n (nI st))) i32 u1)) H → va_D A (wSt cI h k k1 b n (itN (fun st => opt (fun w => n 20 st = w 30 0) (pstR n (nI st))) i32 u1)) → va_S A s.heap H locs → ∀ (ls : Array Slot), lv_has ls 3 [(2, .int (nI i32)), (1, .int (areR n u1 4)), (0, .ref (b 30))] → W p l e ({ frames := 3, cells := 0, slots := 0, locals := 104 } : Room) s m args below meth c H locs (0 + 0) (0 + 0) Q (F0 m 32 ls []) := by
          intro n32
          induction n32 with
          | zero => intro i32 hlo32 hi32 hn32; exact absurd hn32 (by omega)
          | succ n32 ih32 =>
            intro i32 hlo32 hi32 hn32 H locs hP hD hS ls hl
            obtain ⟨u3, eu3⟩ : ∃ z : Rc, z = itN (fun st => opt (fun w => n 20 st = w 30 0) (pstR n (nI st))) i32 u1 := ⟨_, rfl⟩
            rw [← eu3] at hP hD
            have hj : Ok u3 ∧ JR (iv (n 0 0)) (iv (n 10 0)) u3 := by rw [eu3]; exact ps_st_j okn hj _
            have ok32 : Ok u3 := hj.1
            refine lv_iload_n hx hb dX5_pass_32 rfl (lv_at hl 0 rfl) ?_
            refine lv_bipush (v := 8) hx hb dX5_pass_33 (by decide) ?_
            refine lv_icmp_ge (tgt := 65) hx hb dX5_pass_35 (by decide) (fun c4 => ?_) (fun c4 => ?_)
            · skip
              have hie : 8 = i32 := (show i32 = 8 from lp_out (show (8 : Int32) = nI 8 from rfl) (by decide) hi32 c4).symm
              subst hie
              refine lv_iconst (v := 0) hx hb dX5_pass_65 (by decide) ?_
              refine lv_istore_n (lv' := [(2, .int 0), (1, .int (areR n u1 4)), (0, .ref (b 30))]) hx hb dX5_pass_66 rfl hl (by decide) rfl (fun ls hl => ?_)
              have K67 : ∀ (n67 i67 : Nat), 0 ≤ i67 → i67 ≤ 8 → 8 < i67 + n67 → ∀ (H : Heap) (locs : List Loc), va_P D vwCl (wSt cI h k k1 b n (itN (fun st => opt (fun w => n 20 st + 5 = w 30 0) (shkR n (n 21 st))) i67 u3)) H → va_D A (wSt cI h k k1 b n (itN (fun st => opt (fun w => n 20 st + 5 = w 30 0) (shkR n (n 21 st))) i67 u3)) → va_S A s.heap H locs → ∀ (ls : Array Slot), lv_has ls 3 [(2, .int (nI i67)), (1, .int (areR n u1 4)), (0, .ref (b 30))] → W p l e ({ frames := 3, cells := 0, slots := 0, locals := 104 } : Room) s m args below meth c H locs (0 + 0) (0 + 0) Q (F0 m 67 ls []) := by
                intro n67
                induction n67 with
                | zero => intro i67 hlo67 hi67 hn67; exact absurd hn67 (by omega)
                | succ n67 ih67 =>
                  intro i67 hlo67 hi67 hn67 H locs hP hD hS ls hl
                  obtain ⟨u5, eu5⟩ : ∃ z : Rc, z = itN (fun st => opt (fun w => n 20 st + 5 = w 30 0) (shkR n (n 21 st))) i67 u3 := ⟨_, rfl⟩
                  rw [← eu5] at hP hD
                  refine lv_iload_n hx hb dX5_pass_67 rfl (lv_at hl 0 rfl) ?_
                  refine lv_bipush (v := 8) hx hb dX5_pass_68 (by decide) ?_
                  refine lv_icmp_ge (tgt := 110) hx hb dX5_pass_70 (by decide) (fun c6 => ?_) (fun c6 => ?_)
                  · skip
                    have hie : 8 = i67 := (show i67 = 8 from lp_out (show (8 : Int32) = nI 8 from rfl) (by decide) hi67 c6).symm
                    subst hie
                    refine lv_aload_n hx hb dX5_pass_110 rfl (lv_at hl 2 rfl) ?_
                    refine lv_dup hx hb dX5_pass_111 rfl ?_
                    refine va_get (D := D) (ci := 5) (v := .int (u5 30 0)) (C := RX5) (T := TX5) (N := 11) hx hb hts inX5 hown hK hP 0 rfl rfl 0 (by decide) f49 (fun _ h9 => h9) rfl dX5_pass_112 ?_
                    refine lv_iconst (v := 1) hx hb dX5_pass_115 (by decide) ?_
                    refine lv_iadd hx hb dX5_pass_116 ?_
                    obtain ⟨u7, eu7⟩ : ∃ z0 : Rc, z0 = put u5 30 0 ((u5 30 0) + 1) := ⟨_, rfl⟩
                    refine va_put (D := D) (ci := 5) (v := .int ((u5 30 0) + 1)) (ty := .int) (C := RX5) (T := TX5) (N := 11) hx hb hts inX5 tyX5 tyX5_ok nmX5 hown hK hP hD hS 0 rfl rfl 0 (by decide) f49 (fun _ h9 => h9) rfl (by decide +kernel) rfl rfl (Nat.le_of_ble_eq_true rfl) dX5_pass_117 (fun H locs hP hD hS => ?_)
                    have hP : va_P D vwCl (wSt cI h k k1 b n u7) H := by subst eu7; exact hP
                    have hD : va_D A (wSt cI h k k1 b n u7) := by subst eu7; exact hD
                    refine lv_aload_n hx hb dX5_pass_120 rfl (lv_at hl 2 rfl) ?_
                    refine lv_iconst (v := 4) hx hb dX5_pass_121 (by decide) ?_
                    refine ycalli (invV (As := [.int 4]) (rest := []) (rm := ({ frames := 0, cells := 0, slots := 0, locals := 0 } : Room)) ⟨hx, hb, hml, hown, hts⟩ (cwV 1 hts gX5_pass_X5_are rfl rfl rfl (by decide +kernel) ⟨Nat.le_of_ble_eq_true rfl, Nat.le_of_ble_eq_true rfl⟩) (va_recv hK hP (ci := 5) (q0 := 0) rfl rfl) rfl rfl hl.1 (Nat.le_of_ble_eq_true rfl) dX5_pass_122) (c_X5_are l D cI h b k k1 n u7 okn 4) hK hN hA hP hD hS (W2 := wSt cI h k k1 b n u7) [0, 1, 2, 3, 4, 5, 6, 7, 8, 9, 10, 11, 12, 13, 14, 15] [] [0, 1, 2, 3, 4, 5, 6, 7, 8, 9, 10, 11, 12, 13, 14, 15] rfl rfl rfl (by decide) ⟨Nat.le_of_ble_eq_true rfl, Nat.le_of_ble_eq_true rfl⟩ (fun H locs hP hD hS => ?_)
                    refine lv_iload_n hx hb dX5_pass_125 rfl (lv_at hl 1 rfl) ?_
                    refine lv_isub hx hb dX5_pass_126 ?_
                    have h8 : u7 = psR n q := (by (try subst eu7); (try subst eu5); (try subst eu3); (try subst eu1); rfl)
                    exact fin _ _ _ _ _ _ _ _ (by (try subst eu7); (try subst eu5); (try subst eu3); (try subst eu1); rfl) (congrArg (fun z9 : Rc => wSt cI h k k1 b n z9) h8) hP hD hS (Nat.le_of_ble_eq_true rfl) (Nat.le_of_ble_eq_true rfl) dX5_pass_127
                  · skip
                    have hlt := lp_in (show (8 : Int32) = nI 8 from rfl) (by decide) hi67 c6
                    refine lv_aload_n hx hb dX5_pass_73 rfl (lv_at hl 2 rfl) ?_
                    refine va_get (D := D) (ci := 5) (v := .ref (h 0)) (C := RX5) (T := TX5) (N := 11) hx hb hts inX5 hown hK hP 0 rfl rfl 10 (by decide) f3 (fun _ h9 => h9) rfl dX5_pass_74 ?_
                    refine va_getN (D := D) (ci := 6) (v := .ref (h 20)) (C := RX6) (T := TX6) (N := 10) hx hb hts inX6 hown hK hP 10 rfl rfl 1 (by decide) (NW.F hN (a := RX5) (i := 102) (b := "NightSortersModel") (n := "passes") (d := "[I") (h9 := "NightSortersModel") (by decide +kernel)) (fun _ h9 => h9) rfl dX5_pass_77 ?_
                    refine lv_iload_n hx hb dX5_pass_80 rfl (lv_at hl 0 rfl) ?_
                    refine xald hx hb hK hP 11 rfl rfl (i67) (rfl) (by omega) (by decide) dX5_pass_81 ?_
                    refine lv_iconst (v := 5) hx hb dX5_pass_82 (by decide) ?_
                    refine lv_iadd hx hb dX5_pass_83 ?_
                    refine lv_aload_n hx hb dX5_pass_84 rfl (lv_at hl 2 rfl) ?_
                    refine va_get (D := D) (ci := 5) (v := .int (u5 30 0)) (C := RX5) (T := TX5) (N := 11) hx hb hts inX5 hown hK hP 0 rfl rfl 0 (by decide) f49 (fun _ h9 => h9) rfl dX5_pass_85 ?_
                    refine lv_icmp_ne (tgt := 104) hx hb dX5_pass_88 (by decide) (fun c9 => ?_) (fun c9 => ?_)
                    · skip
                      refine lv_iinc (v := nI (i67 + 1)) (lv' := [(2, .int (nI (i67 + 1))), (1, .int (areR n u1 4)), (0, .ref (b 30))]) hx hb dX5_pass_104 hl (k := 0) rfl (nI_inc _) (by decide) rfl (fun ls hl => ?_)
                      refine lv_goto (tgt := 67) hx hb dX5_pass_107 (by decide) ?_
                      have h10 : u5 = itN (fun st => opt (fun w => n 20 st + 5 = w 30 0) (shkR n (n 21 st))) (i67 + 1) u3 := by rw [itN_s, ← eu5];  show _ = opt (fun w => n 20 i67 + 5 = w 30 0) (shkR n (n 21 i67)) _; first | rw [opt_f (p := fun w => n 20 i67 + 5 = w 30 0) c9] | rw [opt_t (p := fun w => n 20 i67 + 5 = w 30 0) c9]
                      rw [h10] at hP hD
                      exact ih67 (i67 + 1) (by omega) (by omega) (by omega) H locs hP hD hS ls (lv_sub hl [0, 1, 2] rfl)
                    · skip
                      refine lv_aload_n hx hb dX5_pass_91 rfl (lv_at hl 2 rfl) ?_
                      refine lv_aload_n hx hb dX5_pass_92 rfl (lv_at hl 2 rfl) ?_
                      refine va_get (D := D) (ci := 5) (v := .ref (h 0)) (C := RX5) (T := TX5) (N := 11) hx hb hts inX5 hown hK hP 0 rfl rfl 10 (by decide) f3 (fun _ h9 => h9) rfl dX5_pass_93 ?_
                      refine va_getN (D := D) (ci := 6) (v := .ref (h 21)) (C := RX6) (T := TX6) (N := 10) hx hb hts inX6 hown hK hP 10 rfl rfl 2 (by decide) (NW.F hN (a := RX5) (i := 108) (b := "NightSortersModel") (n := "jolt") (d := "[I") (h9 := "NightSortersModel") (by decide +kernel)) (fun _ h9 => h9) rfl dX5_pass_96 ?_
                      refine lv_iload_n hx hb dX5_pass_99 rfl (lv_at hl 0 rfl) ?_
                      refine xald hx hb hK hP 12 rfl rfl (i67) (rfl) (by omega) (by decide) dX5_pass_100 ?_
                      obtain ⟨u11, eu11⟩ : ∃ z0 : Rc, z0 = shkR n (n 21 i67) u5 := ⟨_, rfl⟩
                      refine ycallv (invV (As := [.int (n 21 i67)]) (rest := []) (rm := ({ frames := 1, cells := 0, slots := 0, locals := 23 } : Room)) ⟨hx, hb, hml, hown, hts⟩ (cwV 1 hts gX5_pass_X5_shake rfl rfl rfl (by decide +kernel) ⟨Nat.le_of_ble_eq_true rfl, Nat.le_of_ble_eq_true rfl⟩) (va_recv hK hP (ci := 5) (q0 := 0) rfl rfl) rfl rfl hl.1 (Nat.le_of_ble_eq_true rfl) dX5_pass_101) (c_X5_shake l D cI h b k k1 n u5 okn (n 21 i67)) hK hN hA hP hD hS (W2 := wSt cI h k k1 b n u11) [0, 1, 2, 3, 4, 5, 6, 7, 8, 9, 10, 11, 12, 13, 14, 15] [] [0, 1, 2, 3, 4, 5, 6, 7, 8, 9, 10, 11, 12, 13, 14, 15] rfl rfl (by subst eu11; rfl) (by decide) ⟨Nat.le_of_ble_eq_true rfl, Nat.le_of_ble_eq_true rfl⟩ (fun H locs hP hD hS => ?_)
                      refine lv_iinc (v := nI (i67 + 1)) (lv' := [(2, .int (nI (i67 + 1))), (1, .int (areR n u1 4)), (0, .ref (b 30))]) hx hb dX5_pass_104 hl (k := 0) rfl (nI_inc _) (by decide) rfl (fun ls hl => ?_)
                      refine lv_goto (tgt := 67) hx hb dX5_pass_107 (by decide) ?_
                      have h12 : u11 = itN (fun st => opt (fun w => n 20 st + 5 = w 30 0) (shkR n (n 21 st))) (i67 + 1) u3 := by rw [itN_s, ← eu5]; (try subst eu11); show _ = opt (fun w => n 20 i67 + 5 = w 30 0) (shkR n (n 21 i67)) _; first | rw [opt_f (p := fun w => n 20 i67 + 5 = w 30 0) c9] | rw [opt_t (p := fun w => n 20 i67 + 5 = w 30 0) c9]
                      rw [h12] at hP hD
                      exact ih67 (i67 + 1) (by omega) (by omega) (by omega) H locs hP hD hS ls (lv_sub hl [0, 1, 2] rfl)
              exact K67 (8 + 1) 0 (Nat.le_refl _) (by omega) (by omega) _ _ hP hD hS ls (lv_sub hl [0, 1, 2] rfl)
            · skip
              have hlt := lp_in (show (8 : Int32) = nI 8 from rfl) (by decide) hi32 c4
              refine lv_aload_n hx hb dX5_pass_38 rfl (lv_at hl 2 rfl) ?_
              refine va_get (D := D) (ci := 5) (v := .ref (h 0)) (C := RX5) (T := TX5) (N := 11) hx hb hts inX5 hown hK hP 0 rfl rfl 10 (by decide) f3 (fun _ h9 => h9) rfl dX5_pass_39 ?_
              refine va_getN (D := D) (ci := 6) (v := .ref (h 20)) (C := RX6) (T := TX6) (N := 10) hx hb hts inX6 hown hK hP 10 rfl rfl 1 (by decide) (NW.F hN (a := RX5) (i := 102) (b := "NightSortersModel") (n := "passes") (d := "[I") (h9 := "NightSortersModel") (by decide +kernel)) (fun _ h9 => h9) rfl dX5_pass_42 ?_
              refine lv_iload_n hx hb dX5_pass_45 rfl (lv_at hl 0 rfl) ?_
              refine xald hx hb hK hP 11 rfl rfl (i32) (rfl) (by omega) (by decide) dX5_pass_46 ?_
              refine lv_aload_n hx hb dX5_pass_47 rfl (lv_at hl 2 rfl) ?_
              refine va_get (D := D) (ci := 5) (v := .int (u3 30 0)) (C := RX5) (T := TX5) (N := 11) hx hb hts inX5 hown hK hP 0 rfl rfl 0 (by decide) f49 (fun _ h9 => h9) rfl dX5_pass_48 ?_
              refine lv_icmp_ne (tgt := 59) hx hb dX5_pass_51 (by decide) (fun c13 => ?_) (fun c13 => ?_)
              · skip
                refine lv_iinc (v := nI (i32 + 1)) (lv' := [(2, .int (nI (i32 + 1))), (1, .int (areR n u1 4)), (0, .ref (b 30))]) hx hb dX5_pass_59 hl (k := 0) rfl (nI_inc _) (by decide) rfl (fun ls hl => ?_)
                refine lv_goto (tgt := 32) hx hb dX5_pass_62 (by decide) ?_
                have h14 : u3 = itN (fun st => opt (fun w => n 20 st = w 30 0) (pstR n (nI st))) (i32 + 1) u1 := by rw [itN_s, ← eu3];  show _ = opt (fun w => n 20 i32 = w 30 0) (pstR n (nI i32)) _; first | rw [opt_f (p := fun w => n 20 i32 = w 30 0) c13] | rw [opt_t (p := fun w => n 20 i32 = w 30 0) c13]
                rw [h14] at hP hD
                exact ih32 (i32 + 1) (by omega) (by omega) (by omega) H locs hP hD hS ls (lv_sub hl [0, 1, 2] rfl)
              · skip
                refine lv_aload_n hx hb dX5_pass_54 rfl (lv_at hl 2 rfl) ?_
                refine lv_iload_n hx hb dX5_pass_55 rfl (lv_at hl 0 rfl) ?_
                obtain ⟨u15, eu15⟩ : ∃ z0 : Rc, z0 = pstR n (nI i32) u3 := ⟨_, rfl⟩
                refine ycallv (invV (As := [.int (nI i32)]) (rest := []) (rm := ({ frames := 2, cells := 0, slots := 0, locals := 45 } : Room)) ⟨hx, hb, hml, hown, hts⟩ (cwV 1 hts gX5_pass_X5_passStation rfl rfl rfl (by decide +kernel) ⟨Nat.le_of_ble_eq_true rfl, Nat.le_of_ble_eq_true rfl⟩) (va_recv hK hP (ci := 5) (q0 := 0) rfl rfl) rfl rfl hl.1 (Nat.le_of_ble_eq_true rfl) dX5_pass_56) (c_X5_passStation l D cI h b k k1 n u3 okn ok32 hj.2 (nI i32)) hK hN hA hP hD hS (W2 := wSt cI h k k1 b n u15) [0, 1, 2, 3, 4, 5, 6, 7, 8, 9, 10, 11, 12, 13, 14, 15] [] [0, 1, 2, 3, 4, 5, 6, 7, 8, 9, 10, 11, 12, 13, 14, 15] rfl rfl (by subst eu15; rfl) (by decide) ⟨Nat.le_of_ble_eq_true rfl, Nat.le_of_ble_eq_true rfl⟩ (fun H locs hP hD hS => ?_)
                refine lv_iinc (v := nI (i32 + 1)) (lv' := [(2, .int (nI (i32 + 1))), (1, .int (areR n u1 4)), (0, .ref (b 30))]) hx hb dX5_pass_59 hl (k := 0) rfl (nI_inc _) (by decide) rfl (fun ls hl => ?_)
                refine lv_goto (tgt := 32) hx hb dX5_pass_62 (by decide) ?_
                have h16 : u15 = itN (fun st => opt (fun w => n 20 st = w 30 0) (pstR n (nI st))) (i32 + 1) u1 := by rw [itN_s, ← eu3]; (try subst eu15); show _ = opt (fun w => n 20 i32 = w 30 0) (pstR n (nI i32)) _; first | rw [opt_f (p := fun w => n 20 i32 = w 30 0) c13] | rw [opt_t (p := fun w => n 20 i32 = w 30 0) c13]
                rw [h16] at hP hD
                exact ih32 (i32 + 1) (by omega) (by omega) (by omega) H locs hP hD hS ls (lv_sub hl [0, 1, 2] rfl)
        exact K32 (8 + 1) 0 (Nat.le_refl _) (by omega) (by omega) _ _ hP hD hS ls (lv_sub hl [0, 1, 2] rfl)
      · skip
        have hlt := lp_in okn.k (by omega) hi2 c2
        refine lv_aload_n hx hb dX5_pass_13 rfl (lv_at hl 1 rfl) ?_
        refine lv_iload_n hx hb dX5_pass_14 rfl (lv_at hl 0 rfl) ?_
        obtain ⟨u17, eu17⟩ : ∃ z0 : Rc, z0 = wrkR n i2 u1 := ⟨_, rfl⟩
        refine ycallv (invV (As := [.int (nI i2)]) (rest := []) (rm := ({ frames := 2, cells := 0, slots := 0, locals := 82 } : Room)) ⟨hx, hb, hml, hown, hts⟩ (cwV 1 hts gX5_pass_X5_work rfl rfl rfl (by decide +kernel) ⟨Nat.le_of_ble_eq_true rfl, Nat.le_of_ble_eq_true rfl⟩) (va_recv hK hP (ci := 5) (q0 := 0) rfl rfl) rfl rfl hl.1 (Nat.le_of_ble_eq_true rfl) dX5_pass_15) (c_X5_work l D cI h b k k1 n u1 okn ok2 i2 (by omega) (nI i2) rfl) hK hN hA hP hD hS (W2 := wSt cI h k k1 b n u17) [0, 1, 2, 3, 4, 5, 6, 7, 8, 9, 10, 11, 12, 13, 14, 15] [] [0, 1, 2, 3, 4, 5, 6, 7, 8, 9, 10, 11, 12, 13, 14, 15] rfl rfl (by subst eu17; rfl) (by decide) ⟨Nat.le_of_ble_eq_true rfl, Nat.le_of_ble_eq_true rfl⟩ (fun H locs hP hD hS => ?_)
        refine lv_iinc (v := nI (i2 + 1)) (lv' := [(1, .int (nI (i2 + 1))), (0, .ref (b 30))]) hx hb dX5_pass_18 hl (k := 0) rfl (nI_inc _) (by decide) rfl (fun ls hl => ?_)
        refine lv_goto (tgt := 2) hx hb dX5_pass_21 (by decide) ?_
        have h18 : u17 = itN (wrkR n) (i2 + 1) q := by rw [itN_s, ← eu1]; (try subst eu17); simp only [c2, ↓reduceIte, not_false_eq_true, not_true_eq_false, and_true, true_and, and_false, false_and, or_true, true_or, or_false, false_or, and_self, or_self]
        rw [h18] at hP hD
        exact ih2 (i2 + 1) (by omega) (by omega) (by omega) H locs hP hD hS ls (lv_sub hl [0, 1] rfl)
  exact K2 (iv (n 10 0) + 1) 0 (Nat.le_refl _) (by omega) (by omega) _ _ hP hD hS ls (lv_sub hl [0, 1] rfl)
set_option maxHeartbeats 4000000 in
set_option maxRecDepth 100000 in
theorem c_X5_pass_ (l : Launch) (D : va_G) (cI : ClassId) (h b : Nat → Nat) (k k1 : Nat) (n q : Rc) (okn : Ok n) (ok : Ok q) (hJ : JR (iv (n 0 0)) (iv (n 10 0)) q) (k9 : Nat) (hk9 : k9 ≤ 300) (x : Int32) (ex : x = nI k9) : CI l yX5_pass_ wsX5_pass_ ({ frames := 4, cells := 0, slots := 0, locals := 126 } : Room) D cI [.ref (b 30), .int x] (wSt cI h k k1 b n q) (sumR n q k9) (wSt cI h k k1 b n (psN n k9 q)) := by
  refine CI.mk (cc := cX5_pass_) (maxL := 4) (ret := (some .int)) rfl rfl (by decide) rfl (Nat.le_of_ble_eq_true rfl) ?_
  intro p e s m args below meth c A Q ls hx hb hts hown hml hK hN hA hP hD hS hl fin
  have hown : s.vm.findClass RX5 = some m.cls := hown
  subst ex
  have hl : lv_has ls 4 [(0, .ref (b 30)), (1, .int (nI k9))] := hl
  refine lv_iconst (v := 0) hx hb dX5_pass__0 (by decide) ?_
  refine lv_istore_n (lv' := [(2, .int 0), (0, .ref (b 30)), (1, .int (nI k9))]) hx hb dX5_pass__1 rfl hl (by decide) rfl (fun ls hl => ?_)
  refine lv_iconst (v := 0) hx hb dX5_pass__2 (by decide) ?_
  refine lv_istore_n (lv' := [(3, .int 0), (2, .int 0), (0, .ref (b 30)), (1, .int (nI k9))]) hx hb dX5_pass__3 rfl hl (by decide) rfl (fun ls hl => ?_)
  have K4 : ∀ (n4 i4 : Nat), 0 ≤ i4 → i4 ≤ k9 → k9 < i4 + n4 → ∀ (H : Heap) (locs : List Loc), va_P D vwCl (wSt cI h k k1 b n (itN (fun _ w => psR n w) i4 q)) H → va_D A (wSt cI h k k1 b n (itN (fun _ w => psR n w) i4 q)) → va_S A s.heap H locs → ∀ (ls : Array Slot), lv_has ls 4 [(3, .int (nI i4)), (2, .int (sumR n q i4)), (0, .ref (b 30)), (1, .int (nI k9))] → W p l e ({ frames := 4, cells := 0, slots := 0, locals := 126 } : Room) s m args below meth c H locs (0) (0) Q (F0 m 4 ls []) := by
    intro n4
    induction n4 with
    | zero => intro i4 hlo4 hi4 hn4; exact absurd hn4 (by omega)
    | succ n4 ih4 =>
      intro i4 hlo4 hi4 hn4 H locs hP hD hS ls hl
      obtain ⟨u1, eu1⟩ : ∃ z : Rc, z = itN (fun _ w => psR n w) i4 q := ⟨_, rfl⟩
      rw [← eu1] at hP hD
      have hj : Ok u1 ∧ JR (iv (n 0 0)) (iv (n 10 0)) u1 := by rw [eu1]; exact psN_j okn ⟨ok, hJ⟩ _
      have ok4 : Ok u1 := hj.1
      refine lv_iload_n hx hb dX5_pass__4 rfl (lv_at hl 0 rfl) ?_
      refine lv_iload_n hx hb dX5_pass__5 rfl (lv_at hl 3 rfl) ?_
      refine lv_icmp_ge (tgt := 22) hx hb dX5_pass__6 (by decide) (fun c2 => ?_) (fun c2 => ?_)
      · skip
        have hie : k9 = i4 := (show i4 = k9 from lp_out (show nI k9 = nI k9 from rfl) (by omega) hi4 c2).symm
        subst hie
        refine lv_iload_n hx hb dX5_pass__22 rfl (lv_at hl 1 rfl) ?_
        have h3 : u1 = psN n k9 q := (by (try subst eu1); rfl)
        exact fin _ _ _ _ _ _ _ _ rfl (congrArg (fun z9 : Rc => wSt cI h k k1 b n z9) h3) hP hD hS (Nat.le_of_ble_eq_true rfl) (Nat.le_of_ble_eq_true rfl) dX5_pass__23
      · skip
        have hlt := lp_in (show nI k9 = nI k9 from rfl) (by omega) hi4 c2
        refine lv_iload_n hx hb dX5_pass__9 rfl (lv_at hl 1 rfl) ?_
        refine lv_aload_n hx hb dX5_pass__10 rfl (lv_at hl 2 rfl) ?_
        obtain ⟨u4, eu4⟩ : ∃ z0 : Rc, z0 = psR n u1 := ⟨_, rfl⟩
        refine ycalli (invV (As := []) (rest := [.int (sumR n q i4)]) (rm := ({ frames := 3, cells := 0, slots := 0, locals := 104 } : Room)) ⟨hx, hb, hml, hown, hts⟩ (cwV 0 hts gX5_pass__X5_pass rfl rfl rfl (by decide +kernel) ⟨Nat.le_of_ble_eq_true rfl, Nat.le_of_ble_eq_true rfl⟩) (va_recv hK hP (ci := 5) (q0 := 0) rfl rfl) rfl rfl hl.1 (Nat.le_of_ble_eq_true rfl) dX5_pass__11) (c_X5_pass l D cI h b k k1 n u1 okn ok4 hj.2) hK hN hA hP hD hS (W2 := wSt cI h k k1 b n u4) [0, 1, 2, 3, 4, 5, 6, 7, 8, 9, 10, 11, 12, 13, 14, 15] [] [0, 1, 2, 3, 4, 5, 6, 7, 8, 9, 10, 11, 12, 13, 14, 15] rfl rfl (by subst eu4; rfl) (by decide) ⟨Nat.le_of_ble_eq_true rfl, Nat.le_of_ble_eq_true rfl⟩ (fun H locs hP hD hS => ?_)
        refine lv_iadd hx hb dX5_pass__14 ?_
        refine lv_istore_n (lv' := [(2, .int ((sumR n q i4) + (psA n u1))), (3, .int (nI i4)), (0, .ref (b 30)), (1, .int (nI k9))]) hx hb dX5_pass__15 rfl hl (by decide) rfl (fun ls hl => ?_)
        refine lv_iinc (v := nI (i4 + 1)) (lv' := [(3, .int (nI (i4 + 1))), (2, .int ((sumR n q i4) + (psA n u1))), (0, .ref (b 30)), (1, .int (nI k9))]) hx hb dX5_pass__16 hl (k := 1) rfl (nI_inc _) (by decide) rfl (fun ls hl => ?_)
        refine lv_goto (tgt := 4) hx hb dX5_pass__19 (by decide) ?_
        have h5 : u4 = itN (fun _ w => psR n w) (i4 + 1) q := by rw [itN_s, ← eu1]; (try subst eu4); simp only [c2, ↓reduceIte, not_false_eq_true, not_true_eq_false, and_true, true_and, and_false, false_and, or_true, true_or, or_false, false_or, and_self, or_self]
        rw [h5] at hP hD
        exact ih4 (i4 + 1) (by omega) (by omega) (by omega) H locs hP hD hS ls (lv_sub hl [0, 1, 2, 3] (by (try subst eu4); (try subst eu1); rw [sumR_s]; rfl))
  exact K4 (k9 + 1) 0 (Nat.le_refl _) (by omega) (by omega) _ _ hP hD hS ls (lv_sub hl [0, 1, 2, 3] rfl)
