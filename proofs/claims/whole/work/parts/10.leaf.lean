set_option maxHeartbeats 4000000 in
set_option maxRecDepth 100000 in
theorem c_X4_hasTown (l : Launch) (D : va_G) (cI : ClassId) (x y : Int32) : CI l yX4_hasTown wsX4_hasTown ({ frames := 0, cells := 0, slots := 0, locals := 0 } : Room) D cI [.int x, .int y] (w0 cI) (if hasT x y then 1 else 0) (w0 cI) := by
  refine CI.mk (cc := cX4_hasTown) (maxL := 2) (ret := (some .boolean)) rfl (by split <;> rfl) (by decide) rfl (Nat.le_of_ble_eq_true rfl) ?_
  intro p e s m args below meth c A Q ls hx hb hts hown hml hK hN hA hP hD hS hl fin
  have hown : s.vm.findClass RX4 = some m.cls := hown
  have hl : lv_has ls 2 [(0, .int x), (1, .int y)] := hl
  refine lv_iload_n hx hb dX4_hasTown_0 rfl (lv_at hl 0 rfl) ?_
  refine lv_iload_n hx hb dX4_hasTown_1 rfl (lv_at hl 1 rfl) ?_
  refine lv_ishr hx hb dX4_hasTown_2 ?_
  refine lv_iconst (v := 1) hx hb dX4_hasTown_3 (by decide) ?_
  refine lv_iand hx hb dX4_hasTown_4 ?_
  refine lv_iconst (v := 1) hx hb dX4_hasTown_5 (by decide) ?_
  refine lv_icmp_ne (tgt := 13) hx hb dX4_hasTown_6 (by decide) (fun c1 => ?_) (fun c1 => ?_)
  · skip
    refine lv_iconst (v := 0) hx hb dX4_hasTown_13 (by decide) ?_
    exact fin _ _ _ _ _ _ _ _ (by  simp only [hasT, c1, ↓reduceIte, not_false_eq_true, not_true_eq_false, and_true, true_and, and_false, false_and, or_true, true_or, or_false, false_or, and_self, or_self]) rfl hP hD hS (Nat.le_of_ble_eq_true rfl) (Nat.le_of_ble_eq_true rfl) dX4_hasTown_14
  · skip
    refine lv_iconst (v := 1) hx hb dX4_hasTown_9 (by decide) ?_
    refine lv_goto (tgt := 14) hx hb dX4_hasTown_10 (by decide) ?_
    exact fin _ _ _ _ _ _ _ _ (by  simp only [hasT, c1, ↓reduceIte, not_false_eq_true, not_true_eq_false, and_true, true_and, and_false, false_and, or_true, true_or, or_false, false_or, and_self, or_self]) rfl hP hD hS (Nat.le_of_ble_eq_true rfl) (Nat.le_of_ble_eq_true rfl) dX4_hasTown_14
set_option maxHeartbeats 4000000 in
set_option maxRecDepth 100000 in
theorem c_X4_stationOf (l : Launch) (D : va_G) (cI : ClassId) (x : Int32) : CI l yX4_stationOf wsX4_stationOf ({ frames := 0, cells := 0, slots := 0, locals := 0 } : Room) D cI [.int x] (w0 cI) (x / 2) (w0 cI) := by
  refine CI.mk (cc := cX4_stationOf) (maxL := 1) (ret := (some .int)) rfl rfl (by decide) rfl (Nat.le_of_ble_eq_true rfl) ?_
  intro p e s m args below meth c A Q ls hx hb hts hown hml hK hN hA hP hD hS hl fin
  have hown : s.vm.findClass RX4 = some m.cls := hown
  have hl : lv_has ls 1 [(0, .int x)] := hl
  refine lv_iload_n hx hb dX4_stationOf_0 rfl (lv_at hl 0 rfl) ?_
  refine lv_iconst (v := 2) hx hb dX4_stationOf_1 (by decide) ?_
  refine lv_idiv hx hb dX4_stationOf_2 (by decide) ?_
  exact fin _ _ _ _ _ _ _ _ rfl rfl hP hD hS (Nat.le_of_ble_eq_true rfl) (Nat.le_of_ble_eq_true rfl) dX4_stationOf_3
set_option maxHeartbeats 4000000 in
set_option maxRecDepth 100000 in
theorem c_X4_checkIndex (l : Launch) (D : va_G) (cI : ClassId) (x y : Int32) (h : ¬ x < 0) (h2 : x < y) : CV l yX4_checkIndex wsX4_checkIndex ({ frames := 0, cells := 0, slots := 0, locals := 0 } : Room) D cI [.int x, .int y] (w0 cI) (w0 cI) := by
  refine CV.mk (cc := cX4_checkIndex) (maxL := 2) (by decide) rfl (Nat.le_of_ble_eq_true rfl) ?_
  intro p e s m args below meth c A Q ls hx hb hts hown hml hK hN hA hP hD hS hl fin
  have hown : s.vm.findClass RX4 = some m.cls := hown
  have hl : lv_has ls 2 [(0, .int x), (1, .int y)] := hl
  refine lv_iload_n hx hb dX4_checkIndex_0 rfl (lv_at hl 0 rfl) ?_
  refine lv_if_lt (tgt := 9) hx hb dX4_checkIndex_1 (by decide) (fun c1 => ?_) (fun c1 => ?_)
  · exact absurd c1 h
  · skip
    refine lv_iload_n hx hb dX4_checkIndex_4 rfl (lv_at hl 0 rfl) ?_
    refine lv_iload_n hx hb dX4_checkIndex_5 rfl (lv_at hl 1 rfl) ?_
    refine lv_icmp_lt (tgt := 19) hx hb dX4_checkIndex_6 (by decide) (fun c2 => ?_) (fun c2 => ?_)
    · skip
      exact fin _ _ _ _ _ _ _ rfl hP hD hS (Nat.le_of_ble_eq_true rfl) (Nat.le_of_ble_eq_true rfl) dX4_checkIndex_19
    · exact absurd h2 c2
set_option maxHeartbeats 4000000 in
set_option maxRecDepth 100000 in
theorem c_X4_checkArgument (l : Launch) (D : va_G) (cI : ClassId) (x y z : Int32) (h : ¬ x < y) (h2 : x ≤ z) : CV l yX4_checkArgument wsX4_checkArgument ({ frames := 0, cells := 0, slots := 0, locals := 0 } : Room) D cI [.int x, .int y, .int z] (w0 cI) (w0 cI) := by
  refine CV.mk (cc := cX4_checkArgument) (maxL := 3) (by decide) rfl (Nat.le_of_ble_eq_true rfl) ?_
  intro p e s m args below meth c A Q ls hx hb hts hown hml hK hN hA hP hD hS hl fin
  have hown : s.vm.findClass RX4 = some m.cls := hown
  have hl : lv_has ls 3 [(0, .int x), (1, .int y), (2, .int z)] := hl
  refine lv_iload_n hx hb dX4_checkArgument_0 rfl (lv_at hl 0 rfl) ?_
  refine lv_iload_n hx hb dX4_checkArgument_1 rfl (lv_at hl 1 rfl) ?_
  refine lv_icmp_lt (tgt := 10) hx hb dX4_checkArgument_2 (by decide) (fun c1 => ?_) (fun c1 => ?_)
  · exact absurd c1 h
  · skip
    refine lv_iload_n hx hb dX4_checkArgument_5 rfl (lv_at hl 0 rfl) ?_
    refine lv_iload_n hx hb dX4_checkArgument_6 rfl (lv_at hl 2 rfl) ?_
    refine lv_icmp_le (tgt := 20) hx hb dX4_checkArgument_7 (by decide) (fun c2 => ?_) (fun c2 => ?_)
    · skip
      exact fin _ _ _ _ _ _ _ rfl hP hD hS (Nat.le_of_ble_eq_true rfl) (Nat.le_of_ble_eq_true rfl) dX4_checkArgument_20
    · exact absurd h2 c2
set_option maxHeartbeats 4000000 in
set_option maxRecDepth 100000 in
theorem c_X0_add (l : Launch) (D : va_G) (cI : ClassId) (a : Nat → Nat) (u : Rc) (ok : Ok u) (hk : iv (u 10 0) < 4) (x y : Int32) : CI l yX0_add wsX0_add ({ frames := 0, cells := 0, slots := 0, locals := 0 } : Room) D cI [.ref (a 10), .int x, .int y] (wCrew cI a u) (u 10 0) (wCrew cI a (crAddF u x y)) := by
  refine CI.mk (cc := cX0_add) (maxL := 4) (ret := (some .int)) rfl rfl (by decide) rfl (Nat.le_of_ble_eq_true rfl) ?_
  intro p e s m args below meth c A Q ls hx hb hts hown hml hK hN hA hP hD hS hl fin
  have hown : s.vm.findClass RX0 = some m.cls := hown
  have hl : lv_has ls 4 [(0, .ref (a 10)), (1, .int x), (2, .int y)] := hl
  have f9 := hts (.fieldLink RX0 9 "NightSorters$Crew" "size" "I") (by decide +kernel)
  have f15 := hts (.fieldLink RX0 15 "NightSorters$Crew" "pace" "[I") (by decide +kernel)
  have f19 := hts (.fieldLink RX0 19 "NightSorters$Crew" "towns" "[I") (by decide +kernel)
  have f28 := hts (.fieldLink RX0 28 "NightSorters$Crew" "held" "[I") (by decide +kernel)
  have inX0 : ∀ w ∈ wsX00, w ∈ wsX0_add := by decide +kernel
  refine lv_aload_n hx hb dX0_add_0 rfl (lv_at hl 0 rfl) ?_
  refine va_get (D := D) (ci := 0) (v := .int (u 10 0)) (C := RX0) (T := TX0) (N := 8) hx hb hts inX0 hown hK hP 0 rfl rfl 0 (by decide) f9 (fun _ h9 => h9) rfl dX0_add_1 ?_
  refine lv_istore_n (lv' := [(3, .int (u 10 0)), (0, .ref (a 10)), (1, .int x), (2, .int y)]) hx hb dX0_add_4 rfl hl (by decide) rfl (fun ls hl => ?_)
  refine lv_aload_n hx hb dX0_add_5 rfl (lv_at hl 1 rfl) ?_
  refine va_get (D := D) (ci := 0) (v := .ref (a 11)) (C := RX0) (T := TX0) (N := 8) hx hb hts inX0 hown hK hP 0 rfl rfl 1 (by decide) f15 (fun _ h9 => h9) rfl dX0_add_6 ?_
  refine lv_iload_n hx hb dX0_add_9 rfl (lv_at hl 0 rfl) ?_
  refine lv_iload_n hx hb dX0_add_10 rfl (lv_at hl 2 rfl) ?_
  obtain ⟨u1, eu1⟩ : ∃ z0 : Rc, z0 = put u 11 (iv (u 10 0)) x := ⟨_, rfl⟩
  refine xast hx hb hK hP hD hS 1 rfl rfl (iv (u 10 0)) (ok.k) (hk) (by decide) (wCrew cI a u1) (by subst eu1; rfl) dX0_add_11 (fun H locs hP hD hS => ?_)
  refine lv_aload_n hx hb dX0_add_12 rfl (lv_at hl 1 rfl) ?_
  refine va_get (D := D) (ci := 0) (v := .ref (a 12)) (C := RX0) (T := TX0) (N := 8) hx hb hts inX0 hown hK hP 0 rfl rfl 2 (by decide) f19 (fun _ h9 => h9) rfl dX0_add_13 ?_
  refine lv_iload_n hx hb dX0_add_16 rfl (lv_at hl 0 rfl) ?_
  refine lv_iload_n hx hb dX0_add_17 rfl (lv_at hl 3 rfl) ?_
  obtain ⟨u2, eu2⟩ : ∃ z0 : Rc, z0 = put u1 12 (iv (u 10 0)) y := ⟨_, rfl⟩
  refine xast hx hb hK hP hD hS 2 rfl rfl (iv (u 10 0)) (ok.k) (hk) (by decide) (wCrew cI a u2) (by subst eu2; rfl) dX0_add_18 (fun H locs hP hD hS => ?_)
  refine lv_aload_n hx hb dX0_add_19 rfl (lv_at hl 1 rfl) ?_
  refine va_get (D := D) (ci := 0) (v := .ref (a 15)) (C := RX0) (T := TX0) (N := 8) hx hb hts inX0 hown hK hP 0 rfl rfl 5 (by decide) f28 (fun _ h9 => h9) rfl dX0_add_20 ?_
  refine lv_iload_n hx hb dX0_add_23 rfl (lv_at hl 0 rfl) ?_
  refine lv_iconst (v := (-1)) hx hb dX0_add_24 (by decide) ?_
  obtain ⟨u3, eu3⟩ : ∃ z0 : Rc, z0 = put u2 15 (iv (u 10 0)) (-1) := ⟨_, rfl⟩
  refine xast hx hb hK hP hD hS 5 rfl rfl (iv (u 10 0)) (ok.k) (hk) (by decide) (wCrew cI a u3) (by subst eu3; rfl) dX0_add_25 (fun H locs hP hD hS => ?_)
  refine lv_aload_n hx hb dX0_add_26 rfl (lv_at hl 1 rfl) ?_
  refine lv_dup hx hb dX0_add_27 rfl ?_
  refine va_get (D := D) (ci := 0) (v := .int (u3 10 0)) (C := RX0) (T := TX0) (N := 8) hx hb hts inX0 hown hK hP 0 rfl rfl 0 (by decide) f9 (fun _ h9 => h9) rfl dX0_add_28 ?_
  refine lv_iconst (v := 1) hx hb dX0_add_31 (by decide) ?_
  refine lv_iadd hx hb dX0_add_32 ?_
  obtain ⟨u4, eu4⟩ : ∃ z0 : Rc, z0 = put u3 10 0 ((u3 10 0) + 1) := ⟨_, rfl⟩
  refine va_put (D := D) (ci := 0) (v := .int ((u3 10 0) + 1)) (ty := .int) (C := RX0) (T := TX0) (N := 8) hx hb hts inX0 tyX0 tyX0_ok nmX0 hown hK hP hD hS 0 rfl rfl 0 (by decide) f9 (fun _ h9 => h9) rfl (by decide +kernel) rfl rfl (Nat.le_of_ble_eq_true rfl) dX0_add_33 (fun H locs hP hD hS => ?_)
  have hP : va_P D vwCl (wCrew cI a u4) H := by subst eu4; exact hP
  have hD : va_D A (wCrew cI a u4) := by subst eu4; exact hD
  refine lv_iload_n hx hb dX0_add_36 rfl (lv_at hl 0 rfl) ?_
  have h5 : u4 = crAddF u x y := (by (try subst eu4); (try subst eu3); (try subst eu2); (try subst eu1); simp only [crAddF, incS, ↓reduceIte, not_false_eq_true, not_true_eq_false, and_true, true_and, and_false, false_and, or_true, true_or, or_false, false_or, and_self, or_self])
  exact fin _ _ _ _ _ _ _ _ rfl (congrArg (fun z9 : Rc => wCrew cI a z9) h5) hP hD hS (Nat.le_of_ble_eq_true rfl) (Nat.le_of_ble_eq_true rfl) dX0_add_37
set_option maxHeartbeats 4000000 in
set_option maxRecDepth 100000 in
theorem c_X0_fact (l : Launch) (D : va_G) (cI : ClassId) (a : Nat → Nat) (u : Rc) (s9 : Nat) (hs : s9 < 4) (x : Int32) (ex : x = nI s9) (w : Nat) (hw : w < 7) (y : Int32) (ey : y = nI w) : CI l yX0_fact wsX0_fact ({ frames := 0, cells := 0, slots := 0, locals := 0 } : Room) D cI [.ref (a 10), .int x, .int y] (wCrew cI a u) (cfact u s9 w) (wCrew cI a u) := by
  refine CI.mk (cc := cX0_fact) (maxL := 3) (ret := (some .int)) rfl rfl (by decide) rfl (Nat.le_of_ble_eq_true rfl) ?_
  intro p e s m args below meth c A Q ls hx hb hts hown hml hK hN hA hP hD hS hl fin
  have hown : s.vm.findClass RX0 = some m.cls := hown
  subst ex
  subst ey
  have hl : lv_has ls 3 [(0, .ref (a 10)), (1, .int (nI s9)), (2, .int (nI w))] := hl
  have f15 := hts (.fieldLink RX0 15 "NightSorters$Crew" "pace" "[I") (by decide +kernel)
  have f19 := hts (.fieldLink RX0 19 "NightSorters$Crew" "towns" "[I") (by decide +kernel)
  have f22 := hts (.fieldLink RX0 22 "NightSorters$Crew" "tired" "[I") (by decide +kernel)
  have f25 := hts (.fieldLink RX0 25 "NightSorters$Crew" "withTea" "[I") (by decide +kernel)
  have f28 := hts (.fieldLink RX0 28 "NightSorters$Crew" "held" "[I") (by decide +kernel)
  have f31 := hts (.fieldLink RX0 31 "NightSorters$Crew" "minutesLeft" "[I") (by decide +kernel)
  have f34 := hts (.fieldLink RX0 34 "NightSorters$Crew" "sorted" "[I") (by decide +kernel)
  have inX0 : ∀ w ∈ wsX00, w ∈ wsX0_fact := by decide +kernel
  refine lv_iload_n hx hb dX0_fact_0 rfl (lv_at hl 2 rfl) ?_
  have ht1 : w = 0 ∨ w = 1 ∨ w = 2 ∨ w = 3 ∨ w = 4 ∨ w = 5 ∨ w = 6 := by omega
  rcases ht1 with rfl | rfl | rfl | rfl | rfl | rfl | rfl
  · skip
    refine lv_tableIn (off := 39) (tgt := 40) hx hb dX0_fact_1 (by decide) (by decide) (by decide) (by decide) ?_
    refine lv_aload_n hx hb dX0_fact_40 rfl (lv_at hl 0 rfl) ?_
    refine va_get (D := D) (ci := 0) (v := .ref (a 11)) (C := RX0) (T := TX0) (N := 8) hx hb hts inX0 hown hK hP 0 rfl rfl 1 (by decide) f15 (fun _ h9 => h9) rfl dX0_fact_41 ?_
    refine lv_iload_n hx hb dX0_fact_44 rfl (lv_at hl 1 rfl) ?_
    refine xald hx hb hK hP 1 rfl rfl (s9) (rfl) (by omega) (by decide) dX0_fact_45 ?_
    exact fin _ _ _ _ _ _ _ _ (by rfl) rfl hP hD hS (Nat.le_of_ble_eq_true rfl) (Nat.le_of_ble_eq_true rfl) dX0_fact_46
  · skip
    refine lv_tableIn (off := 46) (tgt := 47) hx hb dX0_fact_1 (by decide) (by decide) (by decide) (by decide) ?_
    refine lv_aload_n hx hb dX0_fact_47 rfl (lv_at hl 0 rfl) ?_
    refine va_get (D := D) (ci := 0) (v := .ref (a 12)) (C := RX0) (T := TX0) (N := 8) hx hb hts inX0 hown hK hP 0 rfl rfl 2 (by decide) f19 (fun _ h9 => h9) rfl dX0_fact_48 ?_
    refine lv_iload_n hx hb dX0_fact_51 rfl (lv_at hl 1 rfl) ?_
    refine xald hx hb hK hP 2 rfl rfl (s9) (rfl) (by omega) (by decide) dX0_fact_52 ?_
    exact fin _ _ _ _ _ _ _ _ (by rfl) rfl hP hD hS (Nat.le_of_ble_eq_true rfl) (Nat.le_of_ble_eq_true rfl) dX0_fact_53
  · skip
    refine lv_tableIn (off := 53) (tgt := 54) hx hb dX0_fact_1 (by decide) (by decide) (by decide) (by decide) ?_
    refine lv_aload_n hx hb dX0_fact_54 rfl (lv_at hl 0 rfl) ?_
    refine va_get (D := D) (ci := 0) (v := .ref (a 13)) (C := RX0) (T := TX0) (N := 8) hx hb hts inX0 hown hK hP 0 rfl rfl 3 (by decide) f22 (fun _ h9 => h9) rfl dX0_fact_55 ?_
    refine lv_iload_n hx hb dX0_fact_58 rfl (lv_at hl 1 rfl) ?_
    refine xald hx hb hK hP 3 rfl rfl (s9) (rfl) (by omega) (by decide) dX0_fact_59 ?_
    exact fin _ _ _ _ _ _ _ _ (by rfl) rfl hP hD hS (Nat.le_of_ble_eq_true rfl) (Nat.le_of_ble_eq_true rfl) dX0_fact_60
  · skip
    refine lv_tableIn (off := 60) (tgt := 61) hx hb dX0_fact_1 (by decide) (by decide) (by decide) (by decide) ?_
    refine lv_aload_n hx hb dX0_fact_61 rfl (lv_at hl 0 rfl) ?_
    refine va_get (D := D) (ci := 0) (v := .ref (a 14)) (C := RX0) (T := TX0) (N := 8) hx hb hts inX0 hown hK hP 0 rfl rfl 4 (by decide) f25 (fun _ h9 => h9) rfl dX0_fact_62 ?_
    refine lv_iload_n hx hb dX0_fact_65 rfl (lv_at hl 1 rfl) ?_
    refine xald hx hb hK hP 4 rfl rfl (s9) (rfl) (by omega) (by decide) dX0_fact_66 ?_
    exact fin _ _ _ _ _ _ _ _ (by rfl) rfl hP hD hS (Nat.le_of_ble_eq_true rfl) (Nat.le_of_ble_eq_true rfl) dX0_fact_67
  · skip
    refine lv_tableIn (off := 67) (tgt := 68) hx hb dX0_fact_1 (by decide) (by decide) (by decide) (by decide) ?_
    refine lv_aload_n hx hb dX0_fact_68 rfl (lv_at hl 0 rfl) ?_
    refine va_get (D := D) (ci := 0) (v := .ref (a 15)) (C := RX0) (T := TX0) (N := 8) hx hb hts inX0 hown hK hP 0 rfl rfl 5 (by decide) f28 (fun _ h9 => h9) rfl dX0_fact_69 ?_
    refine lv_iload_n hx hb dX0_fact_72 rfl (lv_at hl 1 rfl) ?_
    refine xald hx hb hK hP 5 rfl rfl (s9) (rfl) (by omega) (by decide) dX0_fact_73 ?_
    exact fin _ _ _ _ _ _ _ _ (by rfl) rfl hP hD hS (Nat.le_of_ble_eq_true rfl) (Nat.le_of_ble_eq_true rfl) dX0_fact_74
  · skip
    refine lv_tableIn (off := 74) (tgt := 75) hx hb dX0_fact_1 (by decide) (by decide) (by decide) (by decide) ?_
    refine lv_aload_n hx hb dX0_fact_75 rfl (lv_at hl 0 rfl) ?_
    refine va_get (D := D) (ci := 0) (v := .ref (a 16)) (C := RX0) (T := TX0) (N := 8) hx hb hts inX0 hown hK hP 0 rfl rfl 6 (by decide) f31 (fun _ h9 => h9) rfl dX0_fact_76 ?_
    refine lv_iload_n hx hb dX0_fact_79 rfl (lv_at hl 1 rfl) ?_
    refine xald hx hb hK hP 6 rfl rfl (s9) (rfl) (by omega) (by decide) dX0_fact_80 ?_
    exact fin _ _ _ _ _ _ _ _ (by rfl) rfl hP hD hS (Nat.le_of_ble_eq_true rfl) (Nat.le_of_ble_eq_true rfl) dX0_fact_81
  · skip
    refine lv_tableOut (tgt := 82) hx hb dX0_fact_1 (by decide) (by decide) ?_
    refine lv_aload_n hx hb dX0_fact_82 rfl (lv_at hl 0 rfl) ?_
    refine va_get (D := D) (ci := 0) (v := .ref (a 17)) (C := RX0) (T := TX0) (N := 8) hx hb hts inX0 hown hK hP 0 rfl rfl 7 (by decide) f34 (fun _ h9 => h9) rfl dX0_fact_83 ?_
    refine lv_iload_n hx hb dX0_fact_86 rfl (lv_at hl 1 rfl) ?_
    refine xald hx hb hK hP 7 rfl rfl (s9) (rfl) (by omega) (by decide) dX0_fact_87 ?_
    exact fin _ _ _ _ _ _ _ _ (by rfl) rfl hP hD hS (Nat.le_of_ble_eq_true rfl) (Nat.le_of_ble_eq_true rfl) dX0_fact_88
set_option maxHeartbeats 4000000 in
set_option maxRecDepth 100000 in
theorem c_X0_minutesNeeded (l : Launch) (D : va_G) (cI : ClassId) (a : Nat → Nat) (u : Rc) (s9 : Nat) (hs : s9 < 4) (x : Int32) (ex : x = nI s9) : CI l yX0_minutesNeeded wsX0_minutesNeeded ({ frames := 0, cells := 0, slots := 0, locals := 0 } : Room) D cI [.ref (a 10), .int x] (wCrew cI a u) (needF u s9) (wCrew cI a u) := by
  refine CI.mk (cc := cX0_minutesNeeded) (maxL := 3) (ret := (some .int)) rfl rfl (by decide) rfl (Nat.le_of_ble_eq_true rfl) ?_
  intro p e s m args below meth c A Q ls hx hb hts hown hml hK hN hA hP hD hS hl fin
  have hown : s.vm.findClass RX0 = some m.cls := hown
  subst ex
  have hl : lv_has ls 3 [(0, .ref (a 10)), (1, .int (nI s9))] := hl
  have f15 := hts (.fieldLink RX0 15 "NightSorters$Crew" "pace" "[I") (by decide +kernel)
  have f22 := hts (.fieldLink RX0 22 "NightSorters$Crew" "tired" "[I") (by decide +kernel)
  have f25 := hts (.fieldLink RX0 25 "NightSorters$Crew" "withTea" "[I") (by decide +kernel)
  have inX0 : ∀ w ∈ wsX00, w ∈ wsX0_minutesNeeded := by decide +kernel
  refine lv_aload_n hx hb dX0_minutesNeeded_0 rfl (lv_at hl 0 rfl) ?_
  refine va_get (D := D) (ci := 0) (v := .ref (a 11)) (C := RX0) (T := TX0) (N := 8) hx hb hts inX0 hown hK hP 0 rfl rfl 1 (by decide) f15 (fun _ h9 => h9) rfl dX0_minutesNeeded_1 ?_
  refine lv_iload_n hx hb dX0_minutesNeeded_4 rfl (lv_at hl 1 rfl) ?_
  refine xald hx hb hK hP 1 rfl rfl (s9) (rfl) (by omega) (by decide) dX0_minutesNeeded_5 ?_
  refine lv_aload_n hx hb dX0_minutesNeeded_6 rfl (lv_at hl 0 rfl) ?_
  refine va_get (D := D) (ci := 0) (v := .ref (a 13)) (C := RX0) (T := TX0) (N := 8) hx hb hts inX0 hown hK hP 0 rfl rfl 3 (by decide) f22 (fun _ h9 => h9) rfl dX0_minutesNeeded_7 ?_
  refine lv_iload_n hx hb dX0_minutesNeeded_10 rfl (lv_at hl 1 rfl) ?_
  refine xald hx hb hK hP 3 rfl rfl (s9) (rfl) (by omega) (by decide) dX0_minutesNeeded_11 ?_
  refine lv_iconst (v := 5) hx hb dX0_minutesNeeded_12 (by decide) ?_
  refine lv_idiv hx hb dX0_minutesNeeded_13 (by decide) ?_
  refine lv_iadd hx hb dX0_minutesNeeded_14 ?_
  refine lv_iconst (v := 2) hx hb dX0_minutesNeeded_15 (by decide) ?_
  refine lv_aload_n hx hb dX0_minutesNeeded_16 rfl (lv_at hl 0 rfl) ?_
  refine va_get (D := D) (ci := 0) (v := .ref (a 14)) (C := RX0) (T := TX0) (N := 8) hx hb hts inX0 hown hK hP 0 rfl rfl 4 (by decide) f25 (fun _ h9 => h9) rfl dX0_minutesNeeded_17 ?_
  refine lv_iload_n hx hb dX0_minutesNeeded_20 rfl (lv_at hl 1 rfl) ?_
  refine xald hx hb hK hP 4 rfl rfl (s9) (rfl) (by omega) (by decide) dX0_minutesNeeded_21 ?_
  refine lv_imul hx hb dX0_minutesNeeded_22 ?_
  refine lv_isub hx hb dX0_minutesNeeded_23 ?_
  obtain ⟨y1, ey1⟩ : ∃ z : Int32, z = ((u 11 s9) + ((u 13 s9) / 5)) - (2 * (u 14 s9)) := ⟨_, rfl⟩
  rw [← ey1]
  refine lv_istore_n (lv' := [(2, .int y1), (0, .ref (a 10)), (1, .int (nI s9))]) hx hb dX0_minutesNeeded_24 rfl hl (by decide) rfl (fun ls hl => ?_)
  refine lv_iload_n hx hb dX0_minutesNeeded_25 rfl (lv_at hl 0 rfl) ?_
  refine lv_iconst (v := 1) hx hb dX0_minutesNeeded_26 (by decide) ?_
  refine lv_icmp_ge (tgt := 34) hx hb dX0_minutesNeeded_27 (by decide) (fun c2 => ?_) (fun c2 => ?_)
  · skip
    refine lv_iload_n hx hb dX0_minutesNeeded_34 rfl (lv_at hl 0 rfl) ?_
    exact fin _ _ _ _ _ _ _ _ (by (try subst ey1); simp only [needF, c2, ↓reduceIte, not_false_eq_true, not_true_eq_false, and_true, true_and, and_false, false_and, or_true, true_or, or_false, false_or, and_self, or_self]) rfl hP hD hS (Nat.le_of_ble_eq_true rfl) (Nat.le_of_ble_eq_true rfl) dX0_minutesNeeded_35
  · skip
    refine lv_iconst (v := 1) hx hb dX0_minutesNeeded_30 (by decide) ?_
    refine lv_goto (tgt := 35) hx hb dX0_minutesNeeded_31 (by decide) ?_
    exact fin _ _ _ _ _ _ _ _ (by (try subst ey1); simp only [needF, c2, ↓reduceIte, not_false_eq_true, not_true_eq_false, and_true, true_and, and_false, false_and, or_true, true_or, or_false, false_or, and_self, or_self]) rfl hP hD hS (Nat.le_of_ble_eq_true rfl) (Nat.le_of_ble_eq_true rfl) dX0_minutesNeeded_35
set_option maxHeartbeats 4000000 in
set_option maxRecDepth 100000 in
theorem c_X0_takeUp (l : Launch) (D : va_G) (cI : ClassId) (a : Nat → Nat) (u : Rc) (s9 : Nat) (hs : s9 < 4) (x : Int32) (ex : x = nI s9) (y : Int32) : CV l yX0_takeUp wsX0_takeUp ({ frames := 1, cells := 0, slots := 0, locals := 22 } : Room) D cI [.ref (a 10), .int x, .int y] (wCrew cI a u) (wCrew cI a (takeF u s9 y)) := by
  refine CV.mk (cc := cX0_takeUp) (maxL := 3) (by decide) rfl (Nat.le_of_ble_eq_true rfl) ?_
  intro p e s m args below meth c A Q ls hx hb hts hown hml hK hN hA hP hD hS hl fin
  have hown : s.vm.findClass RX0 = some m.cls := hown
  subst ex
  have hl : lv_has ls 3 [(0, .ref (a 10)), (1, .int (nI s9)), (2, .int y)] := hl
  have f28 := hts (.fieldLink RX0 28 "NightSorters$Crew" "held" "[I") (by decide +kernel)
  have f31 := hts (.fieldLink RX0 31 "NightSorters$Crew" "minutesLeft" "[I") (by decide +kernel)
  have inX0 : ∀ w ∈ wsX00, w ∈ wsX0_takeUp := by decide +kernel
  refine lv_aload_n hx hb dX0_takeUp_0 rfl (lv_at hl 0 rfl) ?_
  refine va_get (D := D) (ci := 0) (v := .ref (a 15)) (C := RX0) (T := TX0) (N := 8) hx hb hts inX0 hown hK hP 0 rfl rfl 5 (by decide) f28 (fun _ h9 => h9) rfl dX0_takeUp_1 ?_
  refine lv_iload_n hx hb dX0_takeUp_4 rfl (lv_at hl 1 rfl) ?_
  refine lv_iload_n hx hb dX0_takeUp_5 rfl (lv_at hl 2 rfl) ?_
  obtain ⟨u1, eu1⟩ : ∃ z0 : Rc, z0 = put u 15 s9 y := ⟨_, rfl⟩
  refine xast hx hb hK hP hD hS 5 rfl rfl (s9) (rfl) (by omega) (by decide) (wCrew cI a u1) (by subst eu1; rfl) dX0_takeUp_6 (fun H locs hP hD hS => ?_)
  refine lv_aload_n hx hb dX0_takeUp_7 rfl (lv_at hl 0 rfl) ?_
  refine va_get (D := D) (ci := 0) (v := .ref (a 16)) (C := RX0) (T := TX0) (N := 8) hx hb hts inX0 hown hK hP 0 rfl rfl 6 (by decide) f31 (fun _ h9 => h9) rfl dX0_takeUp_8 ?_
  refine lv_iload_n hx hb dX0_takeUp_11 rfl (lv_at hl 1 rfl) ?_
  refine lv_aload_n hx hb dX0_takeUp_12 rfl (lv_at hl 0 rfl) ?_
  refine lv_iload_n hx hb dX0_takeUp_13 rfl (lv_at hl 1 rfl) ?_
  refine ycalli (invV (As := [.int (nI s9)]) (rest := [.int (nI s9), .ref (a 16)]) (rm := ({ frames := 0, cells := 0, slots := 0, locals := 0 } : Room)) ⟨hx, hb, hml, hown, hts⟩ (cwV 1 hts gX0_takeUp_X0_minutesNeeded rfl rfl rfl (by decide +kernel) ⟨Nat.le_of_ble_eq_true rfl, Nat.le_of_ble_eq_true rfl⟩) (va_recv hK hP (ci := 0) (q0 := 0) rfl rfl) rfl rfl hl.1 (Nat.le_of_ble_eq_true rfl) dX0_takeUp_14) (c_X0_minutesNeeded l D cI a u1 s9 hs (nI s9) rfl) hK hN hA hP hD hS (W2 := wCrew cI a u1) [0, 1, 2, 3, 4, 5, 6, 7] [] [0, 1, 2, 3, 4, 5, 6, 7] rfl rfl rfl (by decide) ⟨Nat.le_of_ble_eq_true rfl, Nat.le_of_ble_eq_true rfl⟩ (fun H locs hP hD hS => ?_)
  obtain ⟨u2, eu2⟩ : ∃ z0 : Rc, z0 = put u1 16 s9 (needF u1 s9) := ⟨_, rfl⟩
  refine xast hx hb hK hP hD hS 6 rfl rfl (s9) (rfl) (by omega) (by decide) (wCrew cI a u2) (by subst eu2; rfl) dX0_takeUp_17 (fun H locs hP hD hS => ?_)
  have h3 : u2 = takeF u s9 y := (by (try subst eu2); (try subst eu1); simp only [takeF, ↓reduceIte, not_false_eq_true, not_true_eq_false, and_true, true_and, and_false, false_and, or_true, true_or, or_false, false_or, and_self, or_self])
  exact fin _ _ _ _ _ _ _ (congrArg (fun z9 : Rc => wCrew cI a z9) h3) hP hD hS (Nat.le_of_ble_eq_true rfl) (Nat.le_of_ble_eq_true rfl) dX0_takeUp_18
set_option maxHeartbeats 4000000 in
set_option maxRecDepth 100000 in
theorem c_X0_freeHands (l : Launch) (D : va_G) (cI : ClassId) (a : Nat → Nat) (u : Rc) (s9 : Nat) (hs : s9 < 4) (x : Int32) (ex : x = nI s9) : CV l yX0_freeHands wsX0_freeHands ({ frames := 0, cells := 0, slots := 0, locals := 0 } : Room) D cI [.ref (a 10), .int x] (wCrew cI a u) (wCrew cI a (freeF u s9)) := by
  refine CV.mk (cc := cX0_freeHands) (maxL := 2) (by decide) rfl (Nat.le_of_ble_eq_true rfl) ?_
  intro p e s m args below meth c A Q ls hx hb hts hown hml hK hN hA hP hD hS hl fin
  have hown : s.vm.findClass RX0 = some m.cls := hown
  subst ex
  have hl : lv_has ls 2 [(0, .ref (a 10)), (1, .int (nI s9))] := hl
  have f28 := hts (.fieldLink RX0 28 "NightSorters$Crew" "held" "[I") (by decide +kernel)
  have f31 := hts (.fieldLink RX0 31 "NightSorters$Crew" "minutesLeft" "[I") (by decide +kernel)
  have inX0 : ∀ w ∈ wsX00, w ∈ wsX0_freeHands := by decide +kernel
  refine lv_aload_n hx hb dX0_freeHands_0 rfl (lv_at hl 0 rfl) ?_
  refine va_get (D := D) (ci := 0) (v := .ref (a 15)) (C := RX0) (T := TX0) (N := 8) hx hb hts inX0 hown hK hP 0 rfl rfl 5 (by decide) f28 (fun _ h9 => h9) rfl dX0_freeHands_1 ?_
  refine lv_iload_n hx hb dX0_freeHands_4 rfl (lv_at hl 1 rfl) ?_
  refine lv_iconst (v := (-1)) hx hb dX0_freeHands_5 (by decide) ?_
  obtain ⟨u1, eu1⟩ : ∃ z0 : Rc, z0 = put u 15 s9 (-1) := ⟨_, rfl⟩
  refine xast hx hb hK hP hD hS 5 rfl rfl (s9) (rfl) (by omega) (by decide) (wCrew cI a u1) (by subst eu1; rfl) dX0_freeHands_6 (fun H locs hP hD hS => ?_)
  refine lv_aload_n hx hb dX0_freeHands_7 rfl (lv_at hl 0 rfl) ?_
  refine va_get (D := D) (ci := 0) (v := .ref (a 16)) (C := RX0) (T := TX0) (N := 8) hx hb hts inX0 hown hK hP 0 rfl rfl 6 (by decide) f31 (fun _ h9 => h9) rfl dX0_freeHands_8 ?_
  refine lv_iload_n hx hb dX0_freeHands_11 rfl (lv_at hl 1 rfl) ?_
  refine lv_iconst (v := 0) hx hb dX0_freeHands_12 (by decide) ?_
  obtain ⟨u2, eu2⟩ : ∃ z0 : Rc, z0 = put u1 16 s9 0 := ⟨_, rfl⟩
  refine xast hx hb hK hP hD hS 6 rfl rfl (s9) (rfl) (by omega) (by decide) (wCrew cI a u2) (by subst eu2; rfl) dX0_freeHands_13 (fun H locs hP hD hS => ?_)
  have h3 : u2 = freeF u s9 := (by (try subst eu2); (try subst eu1); simp only [freeF, ↓reduceIte, not_false_eq_true, not_true_eq_false, and_true, true_and, and_false, false_and, or_true, true_or, or_false, false_or, and_self, or_self])
  exact fin _ _ _ _ _ _ _ (congrArg (fun z9 : Rc => wCrew cI a z9) h3) hP hD hS (Nat.le_of_ble_eq_true rfl) (Nat.le_of_ble_eq_true rfl) dX0_freeHands_14
set_option maxHeartbeats 4000000 in
set_option maxRecDepth 100000 in
theorem c_X0_spillTea (l : Launch) (D : va_G) (cI : ClassId) (a : Nat → Nat) (u : Rc) (ok : Ok u) : CV l yX0_spillTea wsX0_spillTea ({ frames := 0, cells := 0, slots := 0, locals := 0 } : Room) D cI [.ref (a 10)] (wCrew cI a u) (wCrew cI a (spTeaF u)) := by
  refine CV.mk (cc := cX0_spillTea) (maxL := 2) (by decide) rfl (Nat.le_of_ble_eq_true rfl) ?_
  intro p e s m args below meth c A Q ls hx hb hts hown hml hK hN hA hP hD hS hl fin
  have hown : s.vm.findClass RX0 = some m.cls := hown
  have hk4 := ok.k4
  have hl : lv_has ls 2 [(0, .ref (a 10))] := hl
  have f9 := hts (.fieldLink RX0 9 "NightSorters$Crew" "size" "I") (by decide +kernel)
  have f25 := hts (.fieldLink RX0 25 "NightSorters$Crew" "withTea" "[I") (by decide +kernel)
  have inX0 : ∀ w ∈ wsX00, w ∈ wsX0_spillTea := by decide +kernel
  refine lv_iconst (v := 0) hx hb dX0_spillTea_0 (by decide) ?_
  refine lv_istore_n (lv' := [(1, .int 0), (0, .ref (a 10))]) hx hb dX0_spillTea_1 rfl hl (by decide) rfl (fun ls hl => ?_)
  have K2 : ∀ (n2 i2 : Nat), 0 ≤ i2 → i2 ≤ iv (u 10 0) → iv (u 10 0) < i2 + n2 → ∀ (H : Heap) (locs : List Loc), va_P D vwCl (wCrew cI a (itN (fun s w => put w 14 s 0) i2 u)) H → va_D A (wCrew cI a (itN (fun s w => put w 14 s 0) i2 u)) → va_S A s.heap H locs → ∀ (ls : Array Slot), lv_has ls 2 [(1, .int (nI i2)), (0, .ref (a 10))] → W p l e ({ frames := 0, cells := 0, slots := 0, locals := 0 } : Room) s m args below meth c H locs (0) (0) Q (F0 m 2 ls []) := by
    intro n2
    induction n2 with
    | zero => intro i2 hlo2 hi2 hn2; exact absurd hn2 (by omega)
    | succ n2 ih2 =>
      intro i2 hlo2 hi2 hn2 H locs hP hD hS ls hl
      obtain ⟨u1, eu1⟩ : ∃ z : Rc, z = itN (fun s w => put w 14 s 0) i2 u := ⟨_, rfl⟩
      rw [← eu1] at hP hD
      have hp : Pr u u1 := by rw [eu1]; exact Pr.it (fun _ _ => Pr.pt 14 Pr.rf (by omega) (fun _ => trivial)) _
      have hb0 := hp.k ok
      refine lv_iload_n hx hb dX0_spillTea_2 rfl (lv_at hl 0 rfl) ?_
      refine lv_aload_n hx hb dX0_spillTea_3 rfl (lv_at hl 1 rfl) ?_
      refine va_get (D := D) (ci := 0) (v := .int (u1 10 0)) (C := RX0) (T := TX0) (N := 8) hx hb hts inX0 hown hK hP 0 rfl rfl 0 (by decide) f9 (fun _ h9 => h9) rfl dX0_spillTea_4 ?_
      refine lv_icmp_ge (tgt := 23) hx hb dX0_spillTea_7 (by decide) (fun c2 => ?_) (fun c2 => ?_)
      · skip
        have hie := lp_out hb0 (by omega) hi2 c2
        have h3 : u1 = spTeaF u := (by rw [eu1, hie]; rfl)
        exact fin _ _ _ _ _ _ _ (congrArg (fun z9 : Rc => wCrew cI a z9) h3) hP hD hS (Nat.le_of_ble_eq_true rfl) (Nat.le_of_ble_eq_true rfl) dX0_spillTea_23
      · skip
        have hlt := lp_in hb0 (by omega) hi2 c2
        refine lv_aload_n hx hb dX0_spillTea_10 rfl (lv_at hl 1 rfl) ?_
        refine va_get (D := D) (ci := 0) (v := .ref (a 14)) (C := RX0) (T := TX0) (N := 8) hx hb hts inX0 hown hK hP 0 rfl rfl 4 (by decide) f25 (fun _ h9 => h9) rfl dX0_spillTea_11 ?_
        refine lv_iload_n hx hb dX0_spillTea_14 rfl (lv_at hl 0 rfl) ?_
        refine lv_iconst (v := 0) hx hb dX0_spillTea_15 (by decide) ?_
        obtain ⟨u4, eu4⟩ : ∃ z0 : Rc, z0 = put u1 14 i2 0 := ⟨_, rfl⟩
        refine xast hx hb hK hP hD hS 4 rfl rfl (i2) (rfl) (by omega) (by decide) (wCrew cI a u4) (by subst eu4; rfl) dX0_spillTea_16 (fun H locs hP hD hS => ?_)
        refine lv_iinc (v := nI (i2 + 1)) (lv' := [(1, .int (nI (i2 + 1))), (0, .ref (a 10))]) hx hb dX0_spillTea_17 hl (k := 0) rfl (nI_inc _) (by decide) rfl (fun ls hl => ?_)
        refine lv_goto (tgt := 2) hx hb dX0_spillTea_20 (by decide) ?_
        have h5 : u4 = itN (fun s w => put w 14 s 0) (i2 + 1) u := by rw [itN_s, ← eu1]; (try subst eu4); simp only [c2, ↓reduceIte, not_false_eq_true, not_true_eq_false, and_true, true_and, and_false, false_and, or_true, true_or, or_false, false_or, and_self, or_self]
        rw [h5] at hP hD
        exact ih2 (i2 + 1) (by omega) (by omega) (by omega) H locs hP hD hS ls (lv_sub hl [0, 1] rfl)
  exact K2 (iv (u 10 0) + 1) 0 (Nat.le_refl _) (by omega) (by omega) _ _ hP hD hS ls (lv_sub hl [0, 1] rfl)
set_option maxHeartbeats 4000000 in
set_option maxRecDepth 100000 in
theorem c_X0_tireAll (l : Launch) (D : va_G) (cI : ClassId) (a : Nat → Nat) (u : Rc) (ok : Ok u) (x : Int32) : CV l yX0_tireAll wsX0_tireAll ({ frames := 0, cells := 0, slots := 0, locals := 0 } : Room) D cI [.ref (a 10), .int x] (wCrew cI a u) (wCrew cI a (tireF x u)) := by
  refine CV.mk (cc := cX0_tireAll) (maxL := 3) (by decide) rfl (Nat.le_of_ble_eq_true rfl) ?_
  intro p e s m args below meth c A Q ls hx hb hts hown hml hK hN hA hP hD hS hl fin
  have hown : s.vm.findClass RX0 = some m.cls := hown
  have hk4 := ok.k4
  have hl : lv_has ls 3 [(0, .ref (a 10)), (1, .int x)] := hl
  have f9 := hts (.fieldLink RX0 9 "NightSorters$Crew" "size" "I") (by decide +kernel)
  have f22 := hts (.fieldLink RX0 22 "NightSorters$Crew" "tired" "[I") (by decide +kernel)
  have inX0 : ∀ w ∈ wsX00, w ∈ wsX0_tireAll := by decide +kernel
  refine lv_iconst (v := 0) hx hb dX0_tireAll_0 (by decide) ?_
  refine lv_istore_n (lv' := [(2, .int 0), (0, .ref (a 10)), (1, .int x)]) hx hb dX0_tireAll_1 rfl hl (by decide) rfl (fun ls hl => ?_)
  have K2 : ∀ (n2 i2 : Nat), 0 ≤ i2 → i2 ≤ iv (u 10 0) → iv (u 10 0) < i2 + n2 → ∀ (H : Heap) (locs : List Loc), va_P D vwCl (wCrew cI a (itN (fun s w => put w 13 s (w 13 s + x)) i2 u)) H → va_D A (wCrew cI a (itN (fun s w => put w 13 s (w 13 s + x)) i2 u)) → va_S A s.heap H locs → ∀ (ls : Array Slot), lv_has ls 3 [(2, .int (nI i2)), (0, .ref (a 10)), (1, .int x)] → W p l e ({ frames := 0, cells := 0, slots := 0, locals := 0 } : Room) s m args below meth c H locs (0) (0) Q (F0 m 2 ls []) := by
    intro n2
    induction n2 with
    | zero => intro i2 hlo2 hi2 hn2; exact absurd hn2 (by omega)
    | succ n2 ih2 =>
      intro i2 hlo2 hi2 hn2 H locs hP hD hS ls hl
      obtain ⟨u1, eu1⟩ : ∃ z : Rc, z = itN (fun s w => put w 13 s (w 13 s + x)) i2 u := ⟨_, rfl⟩
      rw [← eu1] at hP hD
      have hp : Pr u u1 := by rw [eu1]; exact Pr.it (fun _ _ => Pr.pt 13 Pr.rf (by omega) (fun _ => trivial)) _
      have hb0 := hp.k ok
      refine lv_iload_n hx hb dX0_tireAll_2 rfl (lv_at hl 0 rfl) ?_
      refine lv_aload_n hx hb dX0_tireAll_3 rfl (lv_at hl 1 rfl) ?_
      refine va_get (D := D) (ci := 0) (v := .int (u1 10 0)) (C := RX0) (T := TX0) (N := 8) hx hb hts inX0 hown hK hP 0 rfl rfl 0 (by decide) f9 (fun _ h9 => h9) rfl dX0_tireAll_4 ?_
      refine lv_icmp_ge (tgt := 26) hx hb dX0_tireAll_7 (by decide) (fun c2 => ?_) (fun c2 => ?_)
      · skip
        have hie := lp_out hb0 (by omega) hi2 c2
        have h3 : u1 = tireF x u := (by rw [eu1, hie]; rfl)
        exact fin _ _ _ _ _ _ _ (congrArg (fun z9 : Rc => wCrew cI a z9) h3) hP hD hS (Nat.le_of_ble_eq_true rfl) (Nat.le_of_ble_eq_true rfl) dX0_tireAll_26
      · skip
        have hlt := lp_in hb0 (by omega) hi2 c2
        refine lv_aload_n hx hb dX0_tireAll_10 rfl (lv_at hl 1 rfl) ?_
        refine va_get (D := D) (ci := 0) (v := .ref (a 13)) (C := RX0) (T := TX0) (N := 8) hx hb hts inX0 hown hK hP 0 rfl rfl 3 (by decide) f22 (fun _ h9 => h9) rfl dX0_tireAll_11 ?_
        refine lv_iload_n hx hb dX0_tireAll_14 rfl (lv_at hl 0 rfl) ?_
        refine lv_dup2_11 hx hb dX0_tireAll_15 rfl rfl ?_
        refine xald hx hb hK hP 3 rfl rfl (i2) (rfl) (by omega) (by decide) dX0_tireAll_16 ?_
        refine lv_iload_n hx hb dX0_tireAll_17 rfl (lv_at hl 2 rfl) ?_
        refine lv_iadd hx hb dX0_tireAll_18 ?_
        obtain ⟨u4, eu4⟩ : ∃ z0 : Rc, z0 = put u1 13 i2 ((u1 13 i2) + x) := ⟨_, rfl⟩
        refine xast hx hb hK hP hD hS 3 rfl rfl (i2) (rfl) (by omega) (by decide) (wCrew cI a u4) (by subst eu4; rfl) dX0_tireAll_19 (fun H locs hP hD hS => ?_)
        refine lv_iinc (v := nI (i2 + 1)) (lv' := [(2, .int (nI (i2 + 1))), (0, .ref (a 10)), (1, .int x)]) hx hb dX0_tireAll_20 hl (k := 0) rfl (nI_inc _) (by decide) rfl (fun ls hl => ?_)
        refine lv_goto (tgt := 2) hx hb dX0_tireAll_23 (by decide) ?_
        have h5 : u4 = itN (fun s w => put w 13 s (w 13 s + x)) (i2 + 1) u := by rw [itN_s, ← eu1]; (try subst eu4); simp only [c2, ↓reduceIte, not_false_eq_true, not_true_eq_false, and_true, true_and, and_false, false_and, or_true, true_or, or_false, false_or, and_self, or_self]
        rw [h5] at hP hD
        exact ih2 (i2 + 1) (by omega) (by omega) (by omega) H locs hP hD hS ls (lv_sub hl [0, 1, 2] rfl)
  exact K2 (iv (u 10 0) + 1) 0 (Nat.le_refl _) (by omega) (by omega) _ _ hP hD hS ls (lv_sub hl [0, 1, 2] rfl)
set_option maxHeartbeats 4000000 in
set_option maxRecDepth 100000 in
theorem c_X0_copyFrom (l : Launch) (D : va_G) (cI : ClassId) (a b : Nat → Nat) (u v : Rc) : CV l yX0_copyFrom wsX0_copyFrom ({ frames := 1, cells := 0, slots := 0, locals := 60 } : Room) D cI [.ref (a 10), .ref (b 10)] (wCrew2 cI a b u v) (wCrew2 cI a b v v) := by
  refine CV.mk (cc := cX0_copyFrom) (maxL := 2) (by decide) rfl (Nat.le_of_ble_eq_true rfl) ?_
  intro p e s m args below meth c A Q ls hx hb hts hown hml hK hN hA hP hD hS hl fin
  have hown : s.vm.findClass RX0 = some m.cls := hown
  have hl : lv_has ls 2 [(0, .ref (a 10)), (1, .ref (b 10))] := hl
  have f9 := hts (.fieldLink RX0 9 "NightSorters$Crew" "size" "I") (by decide +kernel)
  have f15 := hts (.fieldLink RX0 15 "NightSorters$Crew" "pace" "[I") (by decide +kernel)
  have f19 := hts (.fieldLink RX0 19 "NightSorters$Crew" "towns" "[I") (by decide +kernel)
  have f22 := hts (.fieldLink RX0 22 "NightSorters$Crew" "tired" "[I") (by decide +kernel)
  have f25 := hts (.fieldLink RX0 25 "NightSorters$Crew" "withTea" "[I") (by decide +kernel)
  have f28 := hts (.fieldLink RX0 28 "NightSorters$Crew" "held" "[I") (by decide +kernel)
  have f31 := hts (.fieldLink RX0 31 "NightSorters$Crew" "minutesLeft" "[I") (by decide +kernel)
  have f34 := hts (.fieldLink RX0 34 "NightSorters$Crew" "sorted" "[I") (by decide +kernel)
  have inX0 : ∀ w ∈ wsX00, w ∈ wsX0_copyFrom := by decide +kernel
  refine lv_aload_n hx hb dX0_copyFrom_0 rfl (lv_at hl 0 rfl) ?_
  refine lv_aload_n hx hb dX0_copyFrom_1 rfl (lv_at hl 1 rfl) ?_
  refine va_get (D := D) (ci := 0) (v := .int (v 10 0)) (C := RX0) (T := TX0) (N := 8) hx hb hts inX0 hown hK hP 8 rfl rfl 0 (by decide) f9 (fun _ h9 => h9) rfl dX0_copyFrom_2 ?_
  obtain ⟨u1, eu1⟩ : ∃ z0 : Rc, z0 = put u 10 0 (v 10 0) := ⟨_, rfl⟩
  refine va_put (D := D) (ci := 0) (v := .int (v 10 0)) (ty := .int) (C := RX0) (T := TX0) (N := 8) hx hb hts inX0 tyX0 tyX0_ok nmX0 hown hK hP hD hS 0 rfl rfl 0 (by decide) f9 (fun _ h9 => h9) rfl (by decide +kernel) rfl rfl (Nat.le_of_ble_eq_true rfl) dX0_copyFrom_5 (fun H locs hP hD hS => ?_)
  have hP : va_P D vwCl (wCrew2 cI a b u1 v) H := by subst eu1; exact hP
  have hD : va_D A (wCrew2 cI a b u1 v) := by subst eu1; exact hD
  refine lv_aload_n hx hb dX0_copyFrom_8 rfl (lv_at hl 1 rfl) ?_
  refine va_get (D := D) (ci := 0) (v := .ref (b 11)) (C := RX0) (T := TX0) (N := 8) hx hb hts inX0 hown hK hP 8 rfl rfl 1 (by decide) f15 (fun _ h9 => h9) rfl dX0_copyFrom_9 ?_
  refine lv_iconst (v := 0) hx hb dX0_copyFrom_12 (by decide) ?_
  refine lv_aload_n hx hb dX0_copyFrom_13 rfl (lv_at hl 0 rfl) ?_
  refine va_get (D := D) (ci := 0) (v := .ref (a 11)) (C := RX0) (T := TX0) (N := 8) hx hb hts inX0 hown hK hP 0 rfl rfl 1 (by decide) f15 (fun _ h9 => h9) rfl dX0_copyFrom_14 ?_
  refine lv_iconst (v := 0) hx hb dX0_copyFrom_17 (by decide) ?_
  refine lv_iconst (v := 4) hx hb dX0_copyFrom_18 (by decide) ?_
  obtain ⟨u2, eu2⟩ : ∃ z0 : Rc, z0 = setR u1 11 (v 11) := ⟨_, rfl⟩
  refine xcopy hx hb (hml.trans hl.1.symm) hown (hts (.methodLink RX0 41 arraycopyName) (by decide +kernel)) (hts (.native arraycopyName) (by decide +kernel)) (hts (.static arraycopyName) (by decide +kernel)) (hts (.initialized "java/lang/System") (by decide +kernel)) hK hP hD hS 9 1 rfl rfl rfl (wCrew2 cI a b u2 v) (by subst eu2; rfl) (by decide) (by decide) (Nat.le_of_ble_eq_true rfl) (Nat.le_of_ble_eq_true rfl) dX0_copyFrom_19 (fun H locs hP hD hS => ?_)
  refine lv_aload_n hx hb dX0_copyFrom_22 rfl (lv_at hl 1 rfl) ?_
  refine va_get (D := D) (ci := 0) (v := .ref (b 12)) (C := RX0) (T := TX0) (N := 8) hx hb hts inX0 hown hK hP 8 rfl rfl 2 (by decide) f19 (fun _ h9 => h9) rfl dX0_copyFrom_23 ?_
  refine lv_iconst (v := 0) hx hb dX0_copyFrom_26 (by decide) ?_
  refine lv_aload_n hx hb dX0_copyFrom_27 rfl (lv_at hl 0 rfl) ?_
  refine va_get (D := D) (ci := 0) (v := .ref (a 12)) (C := RX0) (T := TX0) (N := 8) hx hb hts inX0 hown hK hP 0 rfl rfl 2 (by decide) f19 (fun _ h9 => h9) rfl dX0_copyFrom_28 ?_
  refine lv_iconst (v := 0) hx hb dX0_copyFrom_31 (by decide) ?_
  refine lv_iconst (v := 4) hx hb dX0_copyFrom_32 (by decide) ?_
  obtain ⟨u3, eu3⟩ : ∃ z0 : Rc, z0 = setR u2 12 (v 12) := ⟨_, rfl⟩
  refine xcopy hx hb (hml.trans hl.1.symm) hown (hts (.methodLink RX0 41 arraycopyName) (by decide +kernel)) (hts (.native arraycopyName) (by decide +kernel)) (hts (.static arraycopyName) (by decide +kernel)) (hts (.initialized "java/lang/System") (by decide +kernel)) hK hP hD hS 10 2 rfl rfl rfl (wCrew2 cI a b u3 v) (by subst eu3; rfl) (by decide) (by decide) (Nat.le_of_ble_eq_true rfl) (Nat.le_of_ble_eq_true rfl) dX0_copyFrom_33 (fun H locs hP hD hS => ?_)
  refine lv_aload_n hx hb dX0_copyFrom_36 rfl (lv_at hl 1 rfl) ?_
  refine va_get (D := D) (ci := 0) (v := .ref (b 13)) (C := RX0) (T := TX0) (N := 8) hx hb hts inX0 hown hK hP 8 rfl rfl 3 (by decide) f22 (fun _ h9 => h9) rfl dX0_copyFrom_37 ?_
  refine lv_iconst (v := 0) hx hb dX0_copyFrom_40 (by decide) ?_
  refine lv_aload_n hx hb dX0_copyFrom_41 rfl (lv_at hl 0 rfl) ?_
  refine va_get (D := D) (ci := 0) (v := .ref (a 13)) (C := RX0) (T := TX0) (N := 8) hx hb hts inX0 hown hK hP 0 rfl rfl 3 (by decide) f22 (fun _ h9 => h9) rfl dX0_copyFrom_42 ?_
  refine lv_iconst (v := 0) hx hb dX0_copyFrom_45 (by decide) ?_
  refine lv_iconst (v := 4) hx hb dX0_copyFrom_46 (by decide) ?_
  obtain ⟨u4, eu4⟩ : ∃ z0 : Rc, z0 = setR u3 13 (v 13) := ⟨_, rfl⟩
  refine xcopy hx hb (hml.trans hl.1.symm) hown (hts (.methodLink RX0 41 arraycopyName) (by decide +kernel)) (hts (.native arraycopyName) (by decide +kernel)) (hts (.static arraycopyName) (by decide +kernel)) (hts (.initialized "java/lang/System") (by decide +kernel)) hK hP hD hS 11 3 rfl rfl rfl (wCrew2 cI a b u4 v) (by subst eu4; rfl) (by decide) (by decide) (Nat.le_of_ble_eq_true rfl) (Nat.le_of_ble_eq_true rfl) dX0_copyFrom_47 (fun H locs hP hD hS => ?_)
  refine lv_aload_n hx hb dX0_copyFrom_50 rfl (lv_at hl 1 rfl) ?_
  refine va_get (D := D) (ci := 0) (v := .ref (b 14)) (C := RX0) (T := TX0) (N := 8) hx hb hts inX0 hown hK hP 8 rfl rfl 4 (by decide) f25 (fun _ h9 => h9) rfl dX0_copyFrom_51 ?_
  refine lv_iconst (v := 0) hx hb dX0_copyFrom_54 (by decide) ?_
  refine lv_aload_n hx hb dX0_copyFrom_55 rfl (lv_at hl 0 rfl) ?_
  refine va_get (D := D) (ci := 0) (v := .ref (a 14)) (C := RX0) (T := TX0) (N := 8) hx hb hts inX0 hown hK hP 0 rfl rfl 4 (by decide) f25 (fun _ h9 => h9) rfl dX0_copyFrom_56 ?_
  refine lv_iconst (v := 0) hx hb dX0_copyFrom_59 (by decide) ?_
  refine lv_iconst (v := 4) hx hb dX0_copyFrom_60 (by decide) ?_
  obtain ⟨u5, eu5⟩ : ∃ z0 : Rc, z0 = setR u4 14 (v 14) := ⟨_, rfl⟩
  refine xcopy hx hb (hml.trans hl.1.symm) hown (hts (.methodLink RX0 41 arraycopyName) (by decide +kernel)) (hts (.native arraycopyName) (by decide +kernel)) (hts (.static arraycopyName) (by decide +kernel)) (hts (.initialized "java/lang/System") (by decide +kernel)) hK hP hD hS 12 4 rfl rfl rfl (wCrew2 cI a b u5 v) (by subst eu5; rfl) (by decide) (by decide) (Nat.le_of_ble_eq_true rfl) (Nat.le_of_ble_eq_true rfl) dX0_copyFrom_61 (fun H locs hP hD hS => ?_)
  refine lv_aload_n hx hb dX0_copyFrom_64 rfl (lv_at hl 1 rfl) ?_
  refine va_get (D := D) (ci := 0) (v := .ref (b 15)) (C := RX0) (T := TX0) (N := 8) hx hb hts inX0 hown hK hP 8 rfl rfl 5 (by decide) f28 (fun _ h9 => h9) rfl dX0_copyFrom_65 ?_
  refine lv_iconst (v := 0) hx hb dX0_copyFrom_68 (by decide) ?_
  refine lv_aload_n hx hb dX0_copyFrom_69 rfl (lv_at hl 0 rfl) ?_
  refine va_get (D := D) (ci := 0) (v := .ref (a 15)) (C := RX0) (T := TX0) (N := 8) hx hb hts inX0 hown hK hP 0 rfl rfl 5 (by decide) f28 (fun _ h9 => h9) rfl dX0_copyFrom_70 ?_
  refine lv_iconst (v := 0) hx hb dX0_copyFrom_73 (by decide) ?_
  refine lv_iconst (v := 4) hx hb dX0_copyFrom_74 (by decide) ?_
  obtain ⟨u6, eu6⟩ : ∃ z0 : Rc, z0 = setR u5 15 (v 15) := ⟨_, rfl⟩
  refine xcopy hx hb (hml.trans hl.1.symm) hown (hts (.methodLink RX0 41 arraycopyName) (by decide +kernel)) (hts (.native arraycopyName) (by decide +kernel)) (hts (.static arraycopyName) (by decide +kernel)) (hts (.initialized "java/lang/System") (by decide +kernel)) hK hP hD hS 13 5 rfl rfl rfl (wCrew2 cI a b u6 v) (by subst eu6; rfl) (by decide) (by decide) (Nat.le_of_ble_eq_true rfl) (Nat.le_of_ble_eq_true rfl) dX0_copyFrom_75 (fun H locs hP hD hS => ?_)
  refine lv_aload_n hx hb dX0_copyFrom_78 rfl (lv_at hl 1 rfl) ?_
  refine va_get (D := D) (ci := 0) (v := .ref (b 16)) (C := RX0) (T := TX0) (N := 8) hx hb hts inX0 hown hK hP 8 rfl rfl 6 (by decide) f31 (fun _ h9 => h9) rfl dX0_copyFrom_79 ?_
  refine lv_iconst (v := 0) hx hb dX0_copyFrom_82 (by decide) ?_
  refine lv_aload_n hx hb dX0_copyFrom_83 rfl (lv_at hl 0 rfl) ?_
  refine va_get (D := D) (ci := 0) (v := .ref (a 16)) (C := RX0) (T := TX0) (N := 8) hx hb hts inX0 hown hK hP 0 rfl rfl 6 (by decide) f31 (fun _ h9 => h9) rfl dX0_copyFrom_84 ?_
  refine lv_iconst (v := 0) hx hb dX0_copyFrom_87 (by decide) ?_
  refine lv_iconst (v := 4) hx hb dX0_copyFrom_88 (by decide) ?_
  obtain ⟨u7, eu7⟩ : ∃ z0 : Rc, z0 = setR u6 16 (v 16) := ⟨_, rfl⟩
  refine xcopy hx hb (hml.trans hl.1.symm) hown (hts (.methodLink RX0 41 arraycopyName) (by decide +kernel)) (hts (.native arraycopyName) (by decide +kernel)) (hts (.static arraycopyName) (by decide +kernel)) (hts (.initialized "java/lang/System") (by decide +kernel)) hK hP hD hS 14 6 rfl rfl rfl (wCrew2 cI a b u7 v) (by subst eu7; rfl) (by decide) (by decide) (Nat.le_of_ble_eq_true rfl) (Nat.le_of_ble_eq_true rfl) dX0_copyFrom_89 (fun H locs hP hD hS => ?_)
  refine lv_aload_n hx hb dX0_copyFrom_92 rfl (lv_at hl 1 rfl) ?_
  refine va_get (D := D) (ci := 0) (v := .ref (b 17)) (C := RX0) (T := TX0) (N := 8) hx hb hts inX0 hown hK hP 8 rfl rfl 7 (by decide) f34 (fun _ h9 => h9) rfl dX0_copyFrom_93 ?_
  refine lv_iconst (v := 0) hx hb dX0_copyFrom_96 (by decide) ?_
  refine lv_aload_n hx hb dX0_copyFrom_97 rfl (lv_at hl 0 rfl) ?_
  refine va_get (D := D) (ci := 0) (v := .ref (a 17)) (C := RX0) (T := TX0) (N := 8) hx hb hts inX0 hown hK hP 0 rfl rfl 7 (by decide) f34 (fun _ h9 => h9) rfl dX0_copyFrom_98 ?_
  refine lv_iconst (v := 0) hx hb dX0_copyFrom_101 (by decide) ?_
  refine lv_iconst (v := 4) hx hb dX0_copyFrom_102 (by decide) ?_
  obtain ⟨u8, eu8⟩ : ∃ z0 : Rc, z0 = setR u7 17 (v 17) := ⟨_, rfl⟩
  refine xcopy hx hb (hml.trans hl.1.symm) hown (hts (.methodLink RX0 41 arraycopyName) (by decide +kernel)) (hts (.native arraycopyName) (by decide +kernel)) (hts (.static arraycopyName) (by decide +kernel)) (hts (.initialized "java/lang/System") (by decide +kernel)) hK hP hD hS 15 7 rfl rfl rfl (wCrew2 cI a b u8 v) (by subst eu8; rfl) (by decide) (by decide) (Nat.le_of_ble_eq_true rfl) (Nat.le_of_ble_eq_true rfl) dX0_copyFrom_103 (fun H locs hP hD hS => ?_)
  exact fin _ _ _ _ _ _ _ (by (try subst eu8); (try subst eu7); (try subst eu6); (try subst eu5); (try subst eu4); (try subst eu3); (try subst eu2); (try subst eu1); rfl) hP hD hS (Nat.le_of_ble_eq_true rfl) (Nat.le_of_ble_eq_true rfl) dX0_copyFrom_106
set_option maxHeartbeats 4000000 in
set_option maxRecDepth 100000 in
theorem c_X1_passedIn (l : Launch) (D : va_G) (cI : ClassId) (g : Nat → Nat) (r : Rc) (x : Int32) : CI l yX1_passedIn wsX1_passedIn ({ frames := 0, cells := 0, slots := 0, locals := 0 } : Room) D cI [.ref (g 0), .int x] (wLine cI g r) (psdF r x) (wLine cI g r) := by
  refine CI.mk (cc := cX1_passedIn) (maxL := 3) (ret := (some .int)) rfl rfl (by decide) rfl (Nat.le_of_ble_eq_true rfl) ?_
  intro p e s m args below meth c A Q ls hx hb hts hown hml hK hN hA hP hD hS hl fin
  have hown : s.vm.findClass RX1 = some m.cls := hown
  have hl : lv_has ls 3 [(0, .ref (g 0)), (1, .int x)] := hl
  have f9 := hts (.fieldLink RX1 9 "NightSorters$Line" "minutes" "[I") (by decide +kernel)
  have inX1 : ∀ w ∈ wsX10, w ∈ wsX1_passedIn := by decide +kernel
  refine lv_iconst (v := 0) hx hb dX1_passedIn_0 (by decide) ?_
  refine lv_istore_n (lv' := [(2, .int 0), (0, .ref (g 0)), (1, .int x)]) hx hb dX1_passedIn_1 rfl hl (by decide) rfl (fun ls hl => ?_)
  have K2 : ∀ (n2 i2 : Nat), 0 ≤ i2 → i2 ≤ 8 → 8 < i2 + n2 → (∀ k, k < i2 → decide (r 20 k = x) = false) → ∀ (H : Heap) (locs : List Loc), va_P D vwCl (wLine cI g r) H → va_D A (wLine cI g r) → va_S A s.heap H locs → ∀ (ls : Array Slot), lv_has ls 3 [(2, .int (nI i2)), (0, .ref (g 0)), (1, .int x)] → W p l e ({ frames := 0, cells := 0, slots := 0, locals := 0 } : Room) s m args below meth c H locs (0) (0) Q (F0 m 2 ls []) := by
    intro n2
    induction n2 with
    | zero => intro i2 hlo2 hi2 hn2; exact absurd hn2 (by omega)
    | succ n2 ih2 =>
      intro i2 hlo2 hi2 hn2 hno H locs hP hD hS ls hl
      refine lv_iload_n hx hb dX1_passedIn_2 rfl (lv_at hl 0 rfl) ?_
      refine lv_bipush (v := 8) hx hb dX1_passedIn_3 (by decide) ?_
      refine lv_icmp_ge (tgt := 26) hx hb dX1_passedIn_5 (by decide) (fun c1 => ?_) (fun c1 => ?_)
      · skip
        have hie := lp_out (show (8 : Int32) = nI 8 from rfl) (by decide) hi2 c1
        subst hie
        refine lv_iconst (v := (-1)) hx hb dX1_passedIn_26 (by decide) ?_
        exact fin _ _ _ _ _ _ _ _ (by exact (fnd_no hno).symm) rfl hP hD hS (Nat.le_of_ble_eq_true rfl) (Nat.le_of_ble_eq_true rfl) dX1_passedIn_27
      · skip
        have hlt := lp_in (show (8 : Int32) = nI 8 from rfl) (by decide) hi2 c1
        refine lv_aload_n hx hb dX1_passedIn_8 rfl (lv_at hl 1 rfl) ?_
        refine va_get (D := D) (ci := 1) (v := .ref (g 20)) (C := RX1) (T := TX1) (N := 2) hx hb hts inX1 hown hK hP 0 rfl rfl 0 (by decide) f9 (fun _ h9 => h9) rfl dX1_passedIn_9 ?_
        refine lv_iload_n hx hb dX1_passedIn_12 rfl (lv_at hl 0 rfl) ?_
        refine xald hx hb hK hP 1 rfl rfl (i2) (rfl) (by omega) (by decide) dX1_passedIn_13 ?_
        refine lv_iload_n hx hb dX1_passedIn_14 rfl (lv_at hl 2 rfl) ?_
        refine lv_icmp_ne (tgt := 20) hx hb dX1_passedIn_15 (by decide) (fun c2 => ?_) (fun c2 => ?_)
        · skip
          refine lv_iinc (v := nI (i2 + 1)) (lv' := [(2, .int (nI (i2 + 1))), (0, .ref (g 0)), (1, .int x)]) hx hb dX1_passedIn_20 hl (k := 0) rfl (nI_inc _) (by decide) rfl (fun ls hl => ?_)
          refine lv_goto (tgt := 2) hx hb dX1_passedIn_23 (by decide) ?_
          exact ih2 (i2 + 1) (by omega) (by omega) (by omega) (lt_s hno (decide_eq_false (by first | exact c2 | exact fun h => h c2))) H locs hP hD hS ls (lv_sub hl [0, 1, 2] rfl)
        · skip
          refine lv_iload_n hx hb dX1_passedIn_18 rfl (lv_at hl 0 rfl) ?_
          exact fin _ _ _ _ _ _ _ _ (by exact (fnd_at (decide_eq_true c2) hno (by omega) (by decide)).symm) rfl hP hD hS (Nat.le_of_ble_eq_true rfl) (Nat.le_of_ble_eq_true rfl) dX1_passedIn_19
  exact K2 (8 + 1) 0 (Nat.le_refl _) (by omega) (by omega) (fun k hk => absurd hk (by omega)) _ _ hP hD hS ls (lv_sub hl [0, 1, 2] rfl)
set_option maxHeartbeats 4000000 in
set_option maxRecDepth 100000 in
theorem c_X1_nextFrom (l : Launch) (D : va_G) (cI : ClassId) (g : Nat → Nat) (r : Rc) (x : Int32) : CI l yX1_nextFrom wsX1_nextFrom ({ frames := 0, cells := 0, slots := 0, locals := 0 } : Room) D cI [.ref (g 0), .int x] (wLine cI g r) (nxtF r x) (wLine cI g r) := by
  refine CI.mk (cc := cX1_nextFrom) (maxL := 3) (ret := (some .int)) rfl rfl (by decide) rfl (Nat.le_of_ble_eq_true rfl) ?_
  intro p e s m args below meth c A Q ls hx hb hts hown hml hK hN hA hP hD hS hl fin
  have hown : s.vm.findClass RX1 = some m.cls := hown
  have hl : lv_has ls 3 [(0, .ref (g 0)), (1, .int x)] := hl
  have f9 := hts (.fieldLink RX1 9 "NightSorters$Line" "minutes" "[I") (by decide +kernel)
  have inX1 : ∀ w ∈ wsX10, w ∈ wsX1_nextFrom := by decide +kernel
  refine lv_iconst (v := 0) hx hb dX1_nextFrom_0 (by decide) ?_
  refine lv_istore_n (lv' := [(2, .int 0), (0, .ref (g 0)), (1, .int x)]) hx hb dX1_nextFrom_1 rfl hl (by decide) rfl (fun ls hl => ?_)
  have K2 : ∀ (n2 i2 : Nat), 0 ≤ i2 → i2 ≤ 8 → 8 < i2 + n2 → (∀ k, k < i2 → decide (¬ r 20 k < x) = false) → ∀ (H : Heap) (locs : List Loc), va_P D vwCl (wLine cI g r) H → va_D A (wLine cI g r) → va_S A s.heap H locs → ∀ (ls : Array Slot), lv_has ls 3 [(2, .int (nI i2)), (0, .ref (g 0)), (1, .int x)] → W p l e ({ frames := 0, cells := 0, slots := 0, locals := 0 } : Room) s m args below meth c H locs (0) (0) Q (F0 m 2 ls []) := by
    intro n2
    induction n2 with
    | zero => intro i2 hlo2 hi2 hn2; exact absurd hn2 (by omega)
    | succ n2 ih2 =>
      intro i2 hlo2 hi2 hn2 hno H locs hP hD hS ls hl
      refine lv_iload_n hx hb dX1_nextFrom_2 rfl (lv_at hl 0 rfl) ?_
      refine lv_bipush (v := 8) hx hb dX1_nextFrom_3 (by decide) ?_
      refine lv_icmp_ge (tgt := 26) hx hb dX1_nextFrom_5 (by decide) (fun c1 => ?_) (fun c1 => ?_)
      · skip
        have hie := lp_out (show (8 : Int32) = nI 8 from rfl) (by decide) hi2 c1
        subst hie
        refine lv_bipush (v := 8) hx hb dX1_nextFrom_26 (by decide) ?_
        exact fin _ _ _ _ _ _ _ _ (by unfold nxtF; rw [fnd_no hno, if_pos rfl]) rfl hP hD hS (Nat.le_of_ble_eq_true rfl) (Nat.le_of_ble_eq_true rfl) dX1_nextFrom_28
      · skip
        have hlt := lp_in (show (8 : Int32) = nI 8 from rfl) (by decide) hi2 c1
        refine lv_aload_n hx hb dX1_nextFrom_8 rfl (lv_at hl 1 rfl) ?_
        refine va_get (D := D) (ci := 1) (v := .ref (g 20)) (C := RX1) (T := TX1) (N := 2) hx hb hts inX1 hown hK hP 0 rfl rfl 0 (by decide) f9 (fun _ h9 => h9) rfl dX1_nextFrom_9 ?_
        refine lv_iload_n hx hb dX1_nextFrom_12 rfl (lv_at hl 0 rfl) ?_
        refine xald hx hb hK hP 1 rfl rfl (i2) (rfl) (by omega) (by decide) dX1_nextFrom_13 ?_
        refine lv_iload_n hx hb dX1_nextFrom_14 rfl (lv_at hl 2 rfl) ?_
        refine lv_icmp_lt (tgt := 20) hx hb dX1_nextFrom_15 (by decide) (fun c2 => ?_) (fun c2 => ?_)
        · skip
          refine lv_iinc (v := nI (i2 + 1)) (lv' := [(2, .int (nI (i2 + 1))), (0, .ref (g 0)), (1, .int x)]) hx hb dX1_nextFrom_20 hl (k := 0) rfl (nI_inc _) (by decide) rfl (fun ls hl => ?_)
          refine lv_goto (tgt := 2) hx hb dX1_nextFrom_23 (by decide) ?_
          exact ih2 (i2 + 1) (by omega) (by omega) (by omega) (lt_s hno (decide_eq_false (by first | exact c2 | exact fun h => h c2))) H locs hP hD hS ls (lv_sub hl [0, 1, 2] rfl)
        · skip
          refine lv_iload_n hx hb dX1_nextFrom_18 rfl (lv_at hl 0 rfl) ?_
          exact fin _ _ _ _ _ _ _ _ (by unfold nxtF; rw [fnd_at (decide_eq_true c2) hno (by omega) (by decide), if_neg (nI_nm1 (by omega))]) rfl hP hD hS (Nat.le_of_ble_eq_true rfl) (Nat.le_of_ble_eq_true rfl) dX1_nextFrom_19
  exact K2 (8 + 1) 0 (Nat.le_refl _) (by omega) (by omega) (fun k hk => absurd hk (by omega)) _ _ hP hD hS ls (lv_sub hl [0, 1, 2] rfl)
set_option maxHeartbeats 4000000 in
set_option maxRecDepth 100000 in
theorem c_X1_wouldRise (l : Launch) (D : va_G) (cI : ClassId) (g : Nat → Nat) (r : Rc) (s9 : Nat) (hs : s9 < 8) (x : Int32) (ex : x = nI s9) (y : Int32) : CI l yX1_wouldRise wsX1_wouldRise ({ frames := 0, cells := 0, slots := 0, locals := 0 } : Room) D cI [.ref (g 0), .int x, .int y] (wLine cI g r) (if riseF r s9 y then 1 else 0) (wLine cI g r) := by
  refine CI.mk (cc := cX1_wouldRise) (maxL := 5) (ret := (some .boolean)) rfl (by split <;> rfl) (by decide) rfl (Nat.le_of_ble_eq_true rfl) ?_
  intro p e s m args below meth c A Q ls hx hb hts hown hml hK hN hA hP hD hS hl fin
  have hown : s.vm.findClass RX1 = some m.cls := hown
  subst ex
  have hl : lv_has ls 5 [(0, .ref (g 0)), (1, .int (nI s9)), (2, .int y)] := hl
  have f9 := hts (.fieldLink RX1 9 "NightSorters$Line" "minutes" "[I") (by decide +kernel)
  have inX1 : ∀ w ∈ wsX10, w ∈ wsX1_wouldRise := by decide +kernel
  refine lv_iload_n hx hb dX1_wouldRise_0 rfl (lv_at hl 1 rfl) ?_
  refine lv_if_eq (tgt := 16) hx hb dX1_wouldRise_1 (by decide) (fun c1 => ?_) (fun c1 => ?_)
  · skip
    have cs0 : s9 = 0 := (nI_eq (by omega) (by decide)).mp c1
    refine lv_iconst (v := 1) hx hb dX1_wouldRise_16 (by decide) ?_
    refine lv_goto (tgt := 21) hx hb dX1_wouldRise_17 (by decide) ?_
    refine lv_istore_n (lv' := [(3, .int 1), (0, .ref (g 0)), (1, .int (nI s9)), (2, .int y)]) hx hb dX1_wouldRise_21 rfl hl (by decide) rfl (fun ls hl => ?_)
    refine lv_iload_n hx hb dX1_wouldRise_22 rfl (lv_at hl 2 rfl) ?_
    refine lv_bipush (v := 7) hx hb dX1_wouldRise_23 (by decide) ?_
    refine lv_icmp_eq (tgt := 40) hx hb dX1_wouldRise_25 (by decide) (fun c2 => ?_) (fun c2 => ?_)
    · skip
      have cs7 : s9 = 7 := (nI_eq (by omega) (by decide)).mp c2
      refine lv_iconst (v := 1) hx hb dX1_wouldRise_40 (by decide) ?_
      refine lv_goto (tgt := 45) hx hb dX1_wouldRise_41 (by decide) ?_
      refine lv_istore (lv' := [(4, .int 1), (3, .int 1), (0, .ref (g 0)), (1, .int (nI s9)), (2, .int y)]) hx hb dX1_wouldRise_45 hl (by decide) rfl (fun ls hl => ?_)
      refine lv_iload_n hx hb dX1_wouldRise_47 rfl (lv_at hl 1 rfl) ?_
      refine lv_if_eq (tgt := 60) hx hb dX1_wouldRise_48 (by decide) (fun c3 => ?_) (fun c3 => ?_)
      · exact absurd c3 (by decide)
      · skip
        refine lv_iload hx hb dX1_wouldRise_51 (lv_at hl 0 rfl) ?_
        refine lv_if_eq (tgt := 60) hx hb dX1_wouldRise_53 (by decide) (fun c4 => ?_) (fun c4 => ?_)
        · exact absurd c4 (by decide)
        · skip
          refine lv_iconst (v := 1) hx hb dX1_wouldRise_56 (by decide) ?_
          refine lv_goto (tgt := 61) hx hb dX1_wouldRise_57 (by decide) ?_
          exact fin _ _ _ _ _ _ _ _ (by first | exact (if_pos (show riseF r s9 y from ⟨Or.inl cs0, Or.inl cs7⟩)).symm | exact (if_pos (show riseF r s9 y from ⟨Or.inl cs0, Or.inr cB⟩)).symm | exact (if_pos (show riseF r s9 y from ⟨Or.inr cA, Or.inl cs7⟩)).symm | exact (if_pos (show riseF r s9 y from ⟨Or.inr cA, Or.inr cB⟩)).symm | exact (if_neg (show ¬ riseF r s9 y from fun h => h.1.elim cs0 (fun z => z cA))).symm | exact (if_neg (show ¬ riseF r s9 y from fun h => h.2.elim cs7 (fun z => z cB))).symm) rfl hP hD hS (Nat.le_of_ble_eq_true rfl) (Nat.le_of_ble_eq_true rfl) dX1_wouldRise_61
    · skip
      have cs7 : ¬ s9 = 7 := fun h => c2 (by rw [h]; rfl)
      refine lv_iload_n hx hb dX1_wouldRise_28 rfl (lv_at hl 3 rfl) ?_
      refine lv_aload_n hx hb dX1_wouldRise_29 rfl (lv_at hl 1 rfl) ?_
      refine va_get (D := D) (ci := 1) (v := .ref (g 20)) (C := RX1) (T := TX1) (N := 2) hx hb hts inX1 hown hK hP 0 rfl rfl 0 (by decide) f9 (fun _ h9 => h9) rfl dX1_wouldRise_30 ?_
      refine lv_iload_n hx hb dX1_wouldRise_33 rfl (lv_at hl 2 rfl) ?_
      refine lv_iconst (v := 1) hx hb dX1_wouldRise_34 (by decide) ?_
      refine lv_iadd hx hb dX1_wouldRise_35 ?_
      refine xald hx hb hK hP 1 rfl rfl (s9 + 1) (nI_1 s9) (by omega) (by decide) dX1_wouldRise_36 ?_
      refine lv_icmp_ge (tgt := 44) hx hb dX1_wouldRise_37 (by decide) (fun c5 => ?_) (fun c5 => ?_)
      · skip
        have cB : r 20 (s9 + 1) ≤ y := c5
        refine lv_iconst (v := 0) hx hb dX1_wouldRise_44 (by decide) ?_
        refine lv_istore (lv' := [(4, .int 0), (3, .int 1), (0, .ref (g 0)), (1, .int (nI s9)), (2, .int y)]) hx hb dX1_wouldRise_45 hl (by decide) rfl (fun ls hl => ?_)
        refine lv_iload_n hx hb dX1_wouldRise_47 rfl (lv_at hl 1 rfl) ?_
        refine lv_if_eq (tgt := 60) hx hb dX1_wouldRise_48 (by decide) (fun c6 => ?_) (fun c6 => ?_)
        · exact absurd c6 (by decide)
        · skip
          refine lv_iload hx hb dX1_wouldRise_51 (lv_at hl 0 rfl) ?_
          refine lv_if_eq (tgt := 60) hx hb dX1_wouldRise_53 (by decide) (fun c7 => ?_) (fun c7 => ?_)
          · skip
            refine lv_iconst (v := 0) hx hb dX1_wouldRise_60 (by decide) ?_
            exact fin _ _ _ _ _ _ _ _ (by first | exact (if_pos (show riseF r s9 y from ⟨Or.inl cs0, Or.inl cs7⟩)).symm | exact (if_pos (show riseF r s9 y from ⟨Or.inl cs0, Or.inr cB⟩)).symm | exact (if_pos (show riseF r s9 y from ⟨Or.inr cA, Or.inl cs7⟩)).symm | exact (if_pos (show riseF r s9 y from ⟨Or.inr cA, Or.inr cB⟩)).symm | exact (if_neg (show ¬ riseF r s9 y from fun h => h.1.elim cs0 (fun z => z cA))).symm | exact (if_neg (show ¬ riseF r s9 y from fun h => h.2.elim cs7 (fun z => z cB))).symm) rfl hP hD hS (Nat.le_of_ble_eq_true rfl) (Nat.le_of_ble_eq_true rfl) dX1_wouldRise_61
          · exact absurd (by decide) c7
      · skip
        have cB : ¬ r 20 (s9 + 1) ≤ y := c5
        refine lv_iconst (v := 1) hx hb dX1_wouldRise_40 (by decide) ?_
        refine lv_goto (tgt := 45) hx hb dX1_wouldRise_41 (by decide) ?_
        refine lv_istore (lv' := [(4, .int 1), (3, .int 1), (0, .ref (g 0)), (1, .int (nI s9)), (2, .int y)]) hx hb dX1_wouldRise_45 hl (by decide) rfl (fun ls hl => ?_)
        refine lv_iload_n hx hb dX1_wouldRise_47 rfl (lv_at hl 1 rfl) ?_
        refine lv_if_eq (tgt := 60) hx hb dX1_wouldRise_48 (by decide) (fun c8 => ?_) (fun c8 => ?_)
        · exact absurd c8 (by decide)
        · skip
          refine lv_iload hx hb dX1_wouldRise_51 (lv_at hl 0 rfl) ?_
          refine lv_if_eq (tgt := 60) hx hb dX1_wouldRise_53 (by decide) (fun c9 => ?_) (fun c9 => ?_)
          · exact absurd c9 (by decide)
          · skip
            refine lv_iconst (v := 1) hx hb dX1_wouldRise_56 (by decide) ?_
            refine lv_goto (tgt := 61) hx hb dX1_wouldRise_57 (by decide) ?_
            exact fin _ _ _ _ _ _ _ _ (by first | exact (if_pos (show riseF r s9 y from ⟨Or.inl cs0, Or.inl cs7⟩)).symm | exact (if_pos (show riseF r s9 y from ⟨Or.inl cs0, Or.inr cB⟩)).symm | exact (if_pos (show riseF r s9 y from ⟨Or.inr cA, Or.inl cs7⟩)).symm | exact (if_pos (show riseF r s9 y from ⟨Or.inr cA, Or.inr cB⟩)).symm | exact (if_neg (show ¬ riseF r s9 y from fun h => h.1.elim cs0 (fun z => z cA))).symm | exact (if_neg (show ¬ riseF r s9 y from fun h => h.2.elim cs7 (fun z => z cB))).symm) rfl hP hD hS (Nat.le_of_ble_eq_true rfl) (Nat.le_of_ble_eq_true rfl) dX1_wouldRise_61
  · skip
    have cs0 : ¬ s9 = 0 := fun h => c1 (by rw [h]; rfl)
    refine lv_iload_n hx hb dX1_wouldRise_4 rfl (lv_at hl 2 rfl) ?_
    refine lv_aload_n hx hb dX1_wouldRise_5 rfl (lv_at hl 0 rfl) ?_
    refine va_get (D := D) (ci := 1) (v := .ref (g 20)) (C := RX1) (T := TX1) (N := 2) hx hb hts inX1 hown hK hP 0 rfl rfl 0 (by decide) f9 (fun _ h9 => h9) rfl dX1_wouldRise_6 ?_
    refine lv_iload_n hx hb dX1_wouldRise_9 rfl (lv_at hl 1 rfl) ?_
    refine lv_iconst (v := 1) hx hb dX1_wouldRise_10 (by decide) ?_
    refine lv_isub hx hb dX1_wouldRise_11 ?_
    refine xald hx hb hK hP 1 rfl rfl (s9 - 1) (pk_sub (a := s9) (b := 1) (by omega)) (by omega) (by decide) dX1_wouldRise_12 ?_
    refine lv_icmp_le (tgt := 20) hx hb dX1_wouldRise_13 (by decide) (fun c10 => ?_) (fun c10 => ?_)
    · skip
      have cA : y ≤ r 20 (s9 - 1) := c10
      refine lv_iconst (v := 0) hx hb dX1_wouldRise_20 (by decide) ?_
      refine lv_istore_n (lv' := [(3, .int 0), (0, .ref (g 0)), (1, .int (nI s9)), (2, .int y)]) hx hb dX1_wouldRise_21 rfl hl (by decide) rfl (fun ls hl => ?_)
      refine lv_iload_n hx hb dX1_wouldRise_22 rfl (lv_at hl 2 rfl) ?_
      refine lv_bipush (v := 7) hx hb dX1_wouldRise_23 (by decide) ?_
      refine lv_icmp_eq (tgt := 40) hx hb dX1_wouldRise_25 (by decide) (fun c11 => ?_) (fun c11 => ?_)
      · skip
        have cs7 : s9 = 7 := (nI_eq (by omega) (by decide)).mp c11
        refine lv_iconst (v := 1) hx hb dX1_wouldRise_40 (by decide) ?_
        refine lv_goto (tgt := 45) hx hb dX1_wouldRise_41 (by decide) ?_
        refine lv_istore (lv' := [(4, .int 1), (3, .int 0), (0, .ref (g 0)), (1, .int (nI s9)), (2, .int y)]) hx hb dX1_wouldRise_45 hl (by decide) rfl (fun ls hl => ?_)
        refine lv_iload_n hx hb dX1_wouldRise_47 rfl (lv_at hl 1 rfl) ?_
        refine lv_if_eq (tgt := 60) hx hb dX1_wouldRise_48 (by decide) (fun c12 => ?_) (fun c12 => ?_)
        · skip
          refine lv_iconst (v := 0) hx hb dX1_wouldRise_60 (by decide) ?_
          exact fin _ _ _ _ _ _ _ _ (by first | exact (if_pos (show riseF r s9 y from ⟨Or.inl cs0, Or.inl cs7⟩)).symm | exact (if_pos (show riseF r s9 y from ⟨Or.inl cs0, Or.inr cB⟩)).symm | exact (if_pos (show riseF r s9 y from ⟨Or.inr cA, Or.inl cs7⟩)).symm | exact (if_pos (show riseF r s9 y from ⟨Or.inr cA, Or.inr cB⟩)).symm | exact (if_neg (show ¬ riseF r s9 y from fun h => h.1.elim cs0 (fun z => z cA))).symm | exact (if_neg (show ¬ riseF r s9 y from fun h => h.2.elim cs7 (fun z => z cB))).symm) rfl hP hD hS (Nat.le_of_ble_eq_true rfl) (Nat.le_of_ble_eq_true rfl) dX1_wouldRise_61
        · exact absurd (by decide) c12
      · skip
        have cs7 : ¬ s9 = 7 := fun h => c11 (by rw [h]; rfl)
        refine lv_iload_n hx hb dX1_wouldRise_28 rfl (lv_at hl 3 rfl) ?_
        refine lv_aload_n hx hb dX1_wouldRise_29 rfl (lv_at hl 1 rfl) ?_
        refine va_get (D := D) (ci := 1) (v := .ref (g 20)) (C := RX1) (T := TX1) (N := 2) hx hb hts inX1 hown hK hP 0 rfl rfl 0 (by decide) f9 (fun _ h9 => h9) rfl dX1_wouldRise_30 ?_
        refine lv_iload_n hx hb dX1_wouldRise_33 rfl (lv_at hl 2 rfl) ?_
        refine lv_iconst (v := 1) hx hb dX1_wouldRise_34 (by decide) ?_
        refine lv_iadd hx hb dX1_wouldRise_35 ?_
        refine xald hx hb hK hP 1 rfl rfl (s9 + 1) (nI_1 s9) (by omega) (by decide) dX1_wouldRise_36 ?_
        refine lv_icmp_ge (tgt := 44) hx hb dX1_wouldRise_37 (by decide) (fun c13 => ?_) (fun c13 => ?_)
        · skip
          have cB : r 20 (s9 + 1) ≤ y := c13
          refine lv_iconst (v := 0) hx hb dX1_wouldRise_44 (by decide) ?_
          refine lv_istore (lv' := [(4, .int 0), (3, .int 0), (0, .ref (g 0)), (1, .int (nI s9)), (2, .int y)]) hx hb dX1_wouldRise_45 hl (by decide) rfl (fun ls hl => ?_)
          refine lv_iload_n hx hb dX1_wouldRise_47 rfl (lv_at hl 1 rfl) ?_
          refine lv_if_eq (tgt := 60) hx hb dX1_wouldRise_48 (by decide) (fun c14 => ?_) (fun c14 => ?_)
          · skip
            refine lv_iconst (v := 0) hx hb dX1_wouldRise_60 (by decide) ?_
            exact fin _ _ _ _ _ _ _ _ (by first | exact (if_pos (show riseF r s9 y from ⟨Or.inl cs0, Or.inl cs7⟩)).symm | exact (if_pos (show riseF r s9 y from ⟨Or.inl cs0, Or.inr cB⟩)).symm | exact (if_pos (show riseF r s9 y from ⟨Or.inr cA, Or.inl cs7⟩)).symm | exact (if_pos (show riseF r s9 y from ⟨Or.inr cA, Or.inr cB⟩)).symm | exact (if_neg (show ¬ riseF r s9 y from fun h => h.1.elim cs0 (fun z => z cA))).symm | exact (if_neg (show ¬ riseF r s9 y from fun h => h.2.elim cs7 (fun z => z cB))).symm) rfl hP hD hS (Nat.le_of_ble_eq_true rfl) (Nat.le_of_ble_eq_true rfl) dX1_wouldRise_61
          · exact absurd (by decide) c14
        · skip
          have cB : ¬ r 20 (s9 + 1) ≤ y := c13
          refine lv_iconst (v := 1) hx hb dX1_wouldRise_40 (by decide) ?_
          refine lv_goto (tgt := 45) hx hb dX1_wouldRise_41 (by decide) ?_
          refine lv_istore (lv' := [(4, .int 1), (3, .int 0), (0, .ref (g 0)), (1, .int (nI s9)), (2, .int y)]) hx hb dX1_wouldRise_45 hl (by decide) rfl (fun ls hl => ?_)
          refine lv_iload_n hx hb dX1_wouldRise_47 rfl (lv_at hl 1 rfl) ?_
          refine lv_if_eq (tgt := 60) hx hb dX1_wouldRise_48 (by decide) (fun c15 => ?_) (fun c15 => ?_)
          · skip
            refine lv_iconst (v := 0) hx hb dX1_wouldRise_60 (by decide) ?_
            exact fin _ _ _ _ _ _ _ _ (by first | exact (if_pos (show riseF r s9 y from ⟨Or.inl cs0, Or.inl cs7⟩)).symm | exact (if_pos (show riseF r s9 y from ⟨Or.inl cs0, Or.inr cB⟩)).symm | exact (if_pos (show riseF r s9 y from ⟨Or.inr cA, Or.inl cs7⟩)).symm | exact (if_pos (show riseF r s9 y from ⟨Or.inr cA, Or.inr cB⟩)).symm | exact (if_neg (show ¬ riseF r s9 y from fun h => h.1.elim cs0 (fun z => z cA))).symm | exact (if_neg (show ¬ riseF r s9 y from fun h => h.2.elim cs7 (fun z => z cB))).symm) rfl hP hD hS (Nat.le_of_ble_eq_true rfl) (Nat.le_of_ble_eq_true rfl) dX1_wouldRise_61
          · exact absurd (by decide) c15
    · skip
      have cA : ¬ y ≤ r 20 (s9 - 1) := c10
      refine lv_iconst (v := 1) hx hb dX1_wouldRise_16 (by decide) ?_
      refine lv_goto (tgt := 21) hx hb dX1_wouldRise_17 (by decide) ?_
      refine lv_istore_n (lv' := [(3, .int 1), (0, .ref (g 0)), (1, .int (nI s9)), (2, .int y)]) hx hb dX1_wouldRise_21 rfl hl (by decide) rfl (fun ls hl => ?_)
      refine lv_iload_n hx hb dX1_wouldRise_22 rfl (lv_at hl 2 rfl) ?_
      refine lv_bipush (v := 7) hx hb dX1_wouldRise_23 (by decide) ?_
      refine lv_icmp_eq (tgt := 40) hx hb dX1_wouldRise_25 (by decide) (fun c16 => ?_) (fun c16 => ?_)
      · skip
        have cs7 : s9 = 7 := (nI_eq (by omega) (by decide)).mp c16
        refine lv_iconst (v := 1) hx hb dX1_wouldRise_40 (by decide) ?_
        refine lv_goto (tgt := 45) hx hb dX1_wouldRise_41 (by decide) ?_
        refine lv_istore (lv' := [(4, .int 1), (3, .int 1), (0, .ref (g 0)), (1, .int (nI s9)), (2, .int y)]) hx hb dX1_wouldRise_45 hl (by decide) rfl (fun ls hl => ?_)
        refine lv_iload_n hx hb dX1_wouldRise_47 rfl (lv_at hl 1 rfl) ?_
        refine lv_if_eq (tgt := 60) hx hb dX1_wouldRise_48 (by decide) (fun c17 => ?_) (fun c17 => ?_)
        · exact absurd c17 (by decide)
        · skip
          refine lv_iload hx hb dX1_wouldRise_51 (lv_at hl 0 rfl) ?_
          refine lv_if_eq (tgt := 60) hx hb dX1_wouldRise_53 (by decide) (fun c18 => ?_) (fun c18 => ?_)
          · exact absurd c18 (by decide)
          · skip
            refine lv_iconst (v := 1) hx hb dX1_wouldRise_56 (by decide) ?_
            refine lv_goto (tgt := 61) hx hb dX1_wouldRise_57 (by decide) ?_
            exact fin _ _ _ _ _ _ _ _ (by first | exact (if_pos (show riseF r s9 y from ⟨Or.inl cs0, Or.inl cs7⟩)).symm | exact (if_pos (show riseF r s9 y from ⟨Or.inl cs0, Or.inr cB⟩)).symm | exact (if_pos (show riseF r s9 y from ⟨Or.inr cA, Or.inl cs7⟩)).symm | exact (if_pos (show riseF r s9 y from ⟨Or.inr cA, Or.inr cB⟩)).symm | exact (if_neg (show ¬ riseF r s9 y from fun h => h.1.elim cs0 (fun z => z cA))).symm | exact (if_neg (show ¬ riseF r s9 y from fun h => h.2.elim cs7 (fun z => z cB))).symm) rfl hP hD hS (Nat.le_of_ble_eq_true rfl) (Nat.le_of_ble_eq_true rfl) dX1_wouldRise_61
      · skip
        have cs7 : ¬ s9 = 7 := fun h => c16 (by rw [h]; rfl)
        refine lv_iload_n hx hb dX1_wouldRise_28 rfl (lv_at hl 3 rfl) ?_
        refine lv_aload_n hx hb dX1_wouldRise_29 rfl (lv_at hl 1 rfl) ?_
        refine va_get (D := D) (ci := 1) (v := .ref (g 20)) (C := RX1) (T := TX1) (N := 2) hx hb hts inX1 hown hK hP 0 rfl rfl 0 (by decide) f9 (fun _ h9 => h9) rfl dX1_wouldRise_30 ?_
        refine lv_iload_n hx hb dX1_wouldRise_33 rfl (lv_at hl 2 rfl) ?_
        refine lv_iconst (v := 1) hx hb dX1_wouldRise_34 (by decide) ?_
        refine lv_iadd hx hb dX1_wouldRise_35 ?_
        refine xald hx hb hK hP 1 rfl rfl (s9 + 1) (nI_1 s9) (by omega) (by decide) dX1_wouldRise_36 ?_
        refine lv_icmp_ge (tgt := 44) hx hb dX1_wouldRise_37 (by decide) (fun c19 => ?_) (fun c19 => ?_)
        · skip
          have cB : r 20 (s9 + 1) ≤ y := c19
          refine lv_iconst (v := 0) hx hb dX1_wouldRise_44 (by decide) ?_
          refine lv_istore (lv' := [(4, .int 0), (3, .int 1), (0, .ref (g 0)), (1, .int (nI s9)), (2, .int y)]) hx hb dX1_wouldRise_45 hl (by decide) rfl (fun ls hl => ?_)
          refine lv_iload_n hx hb dX1_wouldRise_47 rfl (lv_at hl 1 rfl) ?_
          refine lv_if_eq (tgt := 60) hx hb dX1_wouldRise_48 (by decide) (fun c20 => ?_) (fun c20 => ?_)
          · exact absurd c20 (by decide)
          · skip
            refine lv_iload hx hb dX1_wouldRise_51 (lv_at hl 0 rfl) ?_
            refine lv_if_eq (tgt := 60) hx hb dX1_wouldRise_53 (by decide) (fun c21 => ?_) (fun c21 => ?_)
            · skip
              refine lv_iconst (v := 0) hx hb dX1_wouldRise_60 (by decide) ?_
              exact fin _ _ _ _ _ _ _ _ (by first | exact (if_pos (show riseF r s9 y from ⟨Or.inl cs0, Or.inl cs7⟩)).symm | exact (if_pos (show riseF r s9 y from ⟨Or.inl cs0, Or.inr cB⟩)).symm | exact (if_pos (show riseF r s9 y from ⟨Or.inr cA, Or.inl cs7⟩)).symm | exact (if_pos (show riseF r s9 y from ⟨Or.inr cA, Or.inr cB⟩)).symm | exact (if_neg (show ¬ riseF r s9 y from fun h => h.1.elim cs0 (fun z => z cA))).symm | exact (if_neg (show ¬ riseF r s9 y from fun h => h.2.elim cs7 (fun z => z cB))).symm) rfl hP hD hS (Nat.le_of_ble_eq_true rfl) (Nat.le_of_ble_eq_true rfl) dX1_wouldRise_61
            · exact absurd (by decide) c21
        · skip
          have cB : ¬ r 20 (s9 + 1) ≤ y := c19
          refine lv_iconst (v := 1) hx hb dX1_wouldRise_40 (by decide) ?_
          refine lv_goto (tgt := 45) hx hb dX1_wouldRise_41 (by decide) ?_
          refine lv_istore (lv' := [(4, .int 1), (3, .int 1), (0, .ref (g 0)), (1, .int (nI s9)), (2, .int y)]) hx hb dX1_wouldRise_45 hl (by decide) rfl (fun ls hl => ?_)
          refine lv_iload_n hx hb dX1_wouldRise_47 rfl (lv_at hl 1 rfl) ?_
          refine lv_if_eq (tgt := 60) hx hb dX1_wouldRise_48 (by decide) (fun c22 => ?_) (fun c22 => ?_)
          · exact absurd c22 (by decide)
          · skip
            refine lv_iload hx hb dX1_wouldRise_51 (lv_at hl 0 rfl) ?_
            refine lv_if_eq (tgt := 60) hx hb dX1_wouldRise_53 (by decide) (fun c23 => ?_) (fun c23 => ?_)
            · exact absurd c23 (by decide)
            · skip
              refine lv_iconst (v := 1) hx hb dX1_wouldRise_56 (by decide) ?_
              refine lv_goto (tgt := 61) hx hb dX1_wouldRise_57 (by decide) ?_
              exact fin _ _ _ _ _ _ _ _ (by first | exact (if_pos (show riseF r s9 y from ⟨Or.inl cs0, Or.inl cs7⟩)).symm | exact (if_pos (show riseF r s9 y from ⟨Or.inl cs0, Or.inr cB⟩)).symm | exact (if_pos (show riseF r s9 y from ⟨Or.inr cA, Or.inl cs7⟩)).symm | exact (if_pos (show riseF r s9 y from ⟨Or.inr cA, Or.inr cB⟩)).symm | exact (if_neg (show ¬ riseF r s9 y from fun h => h.1.elim cs0 (fun z => z cA))).symm | exact (if_neg (show ¬ riseF r s9 y from fun h => h.2.elim cs7 (fun z => z cB))).symm) rfl hP hD hS (Nat.le_of_ble_eq_true rfl) (Nat.le_of_ble_eq_true rfl) dX1_wouldRise_61
set_option maxHeartbeats 4000000 in
set_option maxRecDepth 100000 in
theorem c_X2_addToBag (l : Launch) (D : va_G) (cI : ClassId) (a : Nat → Nat) (u : Rc) (ok : Ok u) (hk : iv (u 0 0) < 60) (x y : Int32) : CI l yX2_addToBag wsX2_addToBag ({ frames := 0, cells := 0, slots := 0, locals := 0 } : Room) D cI [.ref (a 0), .int x, .int y] (wMail cI a u) (u 0 0) (wMail cI a (addF u x y)) := by
  refine CI.mk (cc := cX2_addToBag) (maxL := 4) (ret := (some .int)) rfl rfl (by decide) rfl (Nat.le_of_ble_eq_true rfl) ?_
  intro p e s m args below meth c A Q ls hx hb hts hown hml hK hN hA hP hD hS hl fin
  have hown : s.vm.findClass RX2 = some m.cls := hown
  have hl : lv_has ls 4 [(0, .ref (a 0)), (1, .int x), (2, .int y)] := hl
  have f9 := hts (.fieldLink RX2 9 "NightSorters$Mail" "size" "I") (by decide +kernel)
  have f15 := hts (.fieldLink RX2 15 "NightSorters$Mail" "town" "[I") (by decide +kernel)
  have f19 := hts (.fieldLink RX2 19 "NightSorters$Mail" "postedAt" "[I") (by decide +kernel)
  have f22 := hts (.fieldLink RX2 22 "NightSorters$Mail" "place" "[I") (by decide +kernel)
  have f25 := hts (.fieldLink RX2 25 "NightSorters$Mail" "holder" "[I") (by decide +kernel)
  have f28 := hts (.fieldLink RX2 28 "NightSorters$Mail" "endMinute" "[I") (by decide +kernel)
  have f31 := hts (.fieldLink RX2 31 "NightSorters$Mail" "inPlace" "[I") (by decide +kernel)
  have inX2 : ∀ w ∈ wsX20, w ∈ wsX2_addToBag := by decide +kernel
  refine lv_aload_n hx hb dX2_addToBag_0 rfl (lv_at hl 0 rfl) ?_
  refine va_get (D := D) (ci := 2) (v := .int (u 0 0)) (C := RX2) (T := TX2) (N := 8) hx hb hts inX2 hown hK hP 0 rfl rfl 0 (by decide) f9 (fun _ h9 => h9) rfl dX2_addToBag_1 ?_
  refine lv_istore_n (lv' := [(3, .int (u 0 0)), (0, .ref (a 0)), (1, .int x), (2, .int y)]) hx hb dX2_addToBag_4 rfl hl (by decide) rfl (fun ls hl => ?_)
  refine lv_aload_n hx hb dX2_addToBag_5 rfl (lv_at hl 1 rfl) ?_
  refine va_get (D := D) (ci := 2) (v := .ref (a 1)) (C := RX2) (T := TX2) (N := 8) hx hb hts inX2 hown hK hP 0 rfl rfl 1 (by decide) f15 (fun _ h9 => h9) rfl dX2_addToBag_6 ?_
  refine lv_iload_n hx hb dX2_addToBag_9 rfl (lv_at hl 0 rfl) ?_
  refine lv_iload_n hx hb dX2_addToBag_10 rfl (lv_at hl 3 rfl) ?_
  obtain ⟨u1, eu1⟩ : ∃ z0 : Rc, z0 = put u 1 (iv (u 0 0)) y := ⟨_, rfl⟩
  refine xast hx hb hK hP hD hS 1 rfl rfl (iv (u 0 0)) (ok.n) (hk) (by decide) (wMail cI a u1) (by subst eu1; rfl) dX2_addToBag_11 (fun H locs hP hD hS => ?_)
  refine lv_aload_n hx hb dX2_addToBag_12 rfl (lv_at hl 1 rfl) ?_
  refine va_get (D := D) (ci := 2) (v := .ref (a 2)) (C := RX2) (T := TX2) (N := 8) hx hb hts inX2 hown hK hP 0 rfl rfl 2 (by decide) f19 (fun _ h9 => h9) rfl dX2_addToBag_13 ?_
  refine lv_iload_n hx hb dX2_addToBag_16 rfl (lv_at hl 0 rfl) ?_
  refine lv_iload_n hx hb dX2_addToBag_17 rfl (lv_at hl 2 rfl) ?_
  obtain ⟨u2, eu2⟩ : ∃ z0 : Rc, z0 = put u1 2 (iv (u 0 0)) x := ⟨_, rfl⟩
  refine xast hx hb hK hP hD hS 2 rfl rfl (iv (u 0 0)) (ok.n) (hk) (by decide) (wMail cI a u2) (by subst eu2; rfl) dX2_addToBag_18 (fun H locs hP hD hS => ?_)
  refine lv_aload_n hx hb dX2_addToBag_19 rfl (lv_at hl 1 rfl) ?_
  refine va_get (D := D) (ci := 2) (v := .ref (a 3)) (C := RX2) (T := TX2) (N := 8) hx hb hts inX2 hown hK hP 0 rfl rfl 3 (by decide) f22 (fun _ h9 => h9) rfl dX2_addToBag_20 ?_
  refine lv_iload_n hx hb dX2_addToBag_23 rfl (lv_at hl 0 rfl) ?_
  refine lv_iconst (v := 0) hx hb dX2_addToBag_24 (by decide) ?_
  obtain ⟨u3, eu3⟩ : ∃ z0 : Rc, z0 = put u2 3 (iv (u 0 0)) 0 := ⟨_, rfl⟩
  refine xast hx hb hK hP hD hS 3 rfl rfl (iv (u 0 0)) (ok.n) (hk) (by decide) (wMail cI a u3) (by subst eu3; rfl) dX2_addToBag_25 (fun H locs hP hD hS => ?_)
  refine lv_aload_n hx hb dX2_addToBag_26 rfl (lv_at hl 1 rfl) ?_
  refine va_get (D := D) (ci := 2) (v := .ref (a 4)) (C := RX2) (T := TX2) (N := 8) hx hb hts inX2 hown hK hP 0 rfl rfl 4 (by decide) f25 (fun _ h9 => h9) rfl dX2_addToBag_27 ?_
  refine lv_iload_n hx hb dX2_addToBag_30 rfl (lv_at hl 0 rfl) ?_
  refine lv_iconst (v := (-1)) hx hb dX2_addToBag_31 (by decide) ?_
  obtain ⟨u4, eu4⟩ : ∃ z0 : Rc, z0 = put u3 4 (iv (u 0 0)) (-1) := ⟨_, rfl⟩
  refine xast hx hb hK hP hD hS 4 rfl rfl (iv (u 0 0)) (ok.n) (hk) (by decide) (wMail cI a u4) (by subst eu4; rfl) dX2_addToBag_32 (fun H locs hP hD hS => ?_)
  refine lv_aload_n hx hb dX2_addToBag_33 rfl (lv_at hl 1 rfl) ?_
  refine va_get (D := D) (ci := 2) (v := .ref (a 5)) (C := RX2) (T := TX2) (N := 8) hx hb hts inX2 hown hK hP 0 rfl rfl 5 (by decide) f28 (fun _ h9 => h9) rfl dX2_addToBag_34 ?_
  refine lv_iload_n hx hb dX2_addToBag_37 rfl (lv_at hl 0 rfl) ?_
  refine lv_iconst (v := (-1)) hx hb dX2_addToBag_38 (by decide) ?_
  obtain ⟨u5, eu5⟩ : ∃ z0 : Rc, z0 = put u4 5 (iv (u 0 0)) (-1) := ⟨_, rfl⟩
  refine xast hx hb hK hP hD hS 5 rfl rfl (iv (u 0 0)) (ok.n) (hk) (by decide) (wMail cI a u5) (by subst eu5; rfl) dX2_addToBag_39 (fun H locs hP hD hS => ?_)
  refine lv_aload_n hx hb dX2_addToBag_40 rfl (lv_at hl 1 rfl) ?_
  refine va_get (D := D) (ci := 2) (v := .ref (a 6)) (C := RX2) (T := TX2) (N := 8) hx hb hts inX2 hown hK hP 0 rfl rfl 6 (by decide) f31 (fun _ h9 => h9) rfl dX2_addToBag_41 ?_
  refine lv_iconst (v := 0) hx hb dX2_addToBag_44 (by decide) ?_
  refine lv_dup2_11 hx hb dX2_addToBag_45 rfl rfl ?_
  refine xald hx hb hK hP 6 rfl rfl (0) (by decide) (by decide) (by decide) dX2_addToBag_46 ?_
  refine lv_iconst (v := 1) hx hb dX2_addToBag_47 (by decide) ?_
  refine lv_iadd hx hb dX2_addToBag_48 ?_
  obtain ⟨u6, eu6⟩ : ∃ z0 : Rc, z0 = put u5 6 0 ((u5 6 0) + 1) := ⟨_, rfl⟩
  refine xast hx hb hK hP hD hS 6 rfl rfl (0) (by decide) (by decide) (by decide) (wMail cI a u6) (by subst eu6; rfl) dX2_addToBag_49 (fun H locs hP hD hS => ?_)
  refine lv_aload_n hx hb dX2_addToBag_50 rfl (lv_at hl 1 rfl) ?_
  refine lv_dup hx hb dX2_addToBag_51 rfl ?_
  refine va_get (D := D) (ci := 2) (v := .int (u6 0 0)) (C := RX2) (T := TX2) (N := 8) hx hb hts inX2 hown hK hP 0 rfl rfl 0 (by decide) f9 (fun _ h9 => h9) rfl dX2_addToBag_52 ?_
  refine lv_iconst (v := 1) hx hb dX2_addToBag_55 (by decide) ?_
  refine lv_iadd hx hb dX2_addToBag_56 ?_
  obtain ⟨u7, eu7⟩ : ∃ z0 : Rc, z0 = put u6 0 0 ((u6 0 0) + 1) := ⟨_, rfl⟩
  refine va_put (D := D) (ci := 2) (v := .int ((u6 0 0) + 1)) (ty := .int) (C := RX2) (T := TX2) (N := 8) hx hb hts inX2 tyX2 tyX2_ok nmX2 hown hK hP hD hS 0 rfl rfl 0 (by decide) f9 (fun _ h9 => h9) rfl (by decide +kernel) rfl rfl (Nat.le_of_ble_eq_true rfl) dX2_addToBag_57 (fun H locs hP hD hS => ?_)
  have hP : va_P D vwCl (wMail cI a u7) H := by subst eu7; exact hP
  have hD : va_D A (wMail cI a u7) := by subst eu7; exact hD
  refine lv_iload_n hx hb dX2_addToBag_60 rfl (lv_at hl 0 rfl) ?_
  have h8 : u7 = addF u x y := (by (try subst eu7); (try subst eu6); (try subst eu5); (try subst eu4); (try subst eu3); (try subst eu2); (try subst eu1); simp only [addF, incS, ↓reduceIte, not_false_eq_true, not_true_eq_false, and_true, true_and, and_false, false_and, or_true, true_or, or_false, false_or, and_self, or_self])
  exact fin _ _ _ _ _ _ _ _ rfl (congrArg (fun z9 : Rc => wMail cI a z9) h8) hP hD hS (Nat.le_of_ble_eq_true rfl) (Nat.le_of_ble_eq_true rfl) dX2_addToBag_61
set_option maxHeartbeats 4000000 in
set_option maxRecDepth 100000 in
theorem c_X2_fact (l : Launch) (D : va_G) (cI : ClassId) (a : Nat → Nat) (u : Rc) (j : Nat) (hj : j < 60) (x : Int32) (ex : x = nI j) (w : Nat) (hw : w < 5) (y : Int32) (ey : y = nI w) : CI l yX2_fact wsX2_fact ({ frames := 0, cells := 0, slots := 0, locals := 0 } : Room) D cI [.ref (a 0), .int x, .int y] (wMail cI a u) (mfact u j w) (wMail cI a u) := by
  refine CI.mk (cc := cX2_fact) (maxL := 3) (ret := (some .int)) rfl rfl (by decide) rfl (Nat.le_of_ble_eq_true rfl) ?_
  intro p e s m args below meth c A Q ls hx hb hts hown hml hK hN hA hP hD hS hl fin
  have hown : s.vm.findClass RX2 = some m.cls := hown
  subst ex
  subst ey
  have hl : lv_has ls 3 [(0, .ref (a 0)), (1, .int (nI j)), (2, .int (nI w))] := hl
  have f15 := hts (.fieldLink RX2 15 "NightSorters$Mail" "town" "[I") (by decide +kernel)
  have f19 := hts (.fieldLink RX2 19 "NightSorters$Mail" "postedAt" "[I") (by decide +kernel)
  have f22 := hts (.fieldLink RX2 22 "NightSorters$Mail" "place" "[I") (by decide +kernel)
  have f25 := hts (.fieldLink RX2 25 "NightSorters$Mail" "holder" "[I") (by decide +kernel)
  have f28 := hts (.fieldLink RX2 28 "NightSorters$Mail" "endMinute" "[I") (by decide +kernel)
  have inX2 : ∀ w ∈ wsX20, w ∈ wsX2_fact := by decide +kernel
  refine lv_iload_n hx hb dX2_fact_0 rfl (lv_at hl 2 rfl) ?_
  have ht1 : w = 0 ∨ w = 1 ∨ w = 2 ∨ w = 3 ∨ w = 4 := by omega
  rcases ht1 with rfl | rfl | rfl | rfl | rfl
  · skip
    refine lv_tableIn (off := 31) (tgt := 32) hx hb dX2_fact_1 (by decide) (by decide) (by decide) (by decide) ?_
    refine lv_aload_n hx hb dX2_fact_32 rfl (lv_at hl 0 rfl) ?_
    refine va_get (D := D) (ci := 2) (v := .ref (a 3)) (C := RX2) (T := TX2) (N := 8) hx hb hts inX2 hown hK hP 0 rfl rfl 3 (by decide) f22 (fun _ h9 => h9) rfl dX2_fact_33 ?_
    refine lv_iload_n hx hb dX2_fact_36 rfl (lv_at hl 1 rfl) ?_
    refine xald hx hb hK hP 3 rfl rfl (j) (rfl) (by omega) (by decide) dX2_fact_37 ?_
    exact fin _ _ _ _ _ _ _ _ (by rfl) rfl hP hD hS (Nat.le_of_ble_eq_true rfl) (Nat.le_of_ble_eq_true rfl) dX2_fact_38
  · skip
    refine lv_tableIn (off := 38) (tgt := 39) hx hb dX2_fact_1 (by decide) (by decide) (by decide) (by decide) ?_
    refine lv_aload_n hx hb dX2_fact_39 rfl (lv_at hl 0 rfl) ?_
    refine va_get (D := D) (ci := 2) (v := .ref (a 1)) (C := RX2) (T := TX2) (N := 8) hx hb hts inX2 hown hK hP 0 rfl rfl 1 (by decide) f15 (fun _ h9 => h9) rfl dX2_fact_40 ?_
    refine lv_iload_n hx hb dX2_fact_43 rfl (lv_at hl 1 rfl) ?_
    refine xald hx hb hK hP 1 rfl rfl (j) (rfl) (by omega) (by decide) dX2_fact_44 ?_
    exact fin _ _ _ _ _ _ _ _ (by rfl) rfl hP hD hS (Nat.le_of_ble_eq_true rfl) (Nat.le_of_ble_eq_true rfl) dX2_fact_45
  · skip
    refine lv_tableIn (off := 45) (tgt := 46) hx hb dX2_fact_1 (by decide) (by decide) (by decide) (by decide) ?_
    refine lv_aload_n hx hb dX2_fact_46 rfl (lv_at hl 0 rfl) ?_
    refine va_get (D := D) (ci := 2) (v := .ref (a 2)) (C := RX2) (T := TX2) (N := 8) hx hb hts inX2 hown hK hP 0 rfl rfl 2 (by decide) f19 (fun _ h9 => h9) rfl dX2_fact_47 ?_
    refine lv_iload_n hx hb dX2_fact_50 rfl (lv_at hl 1 rfl) ?_
    refine xald hx hb hK hP 2 rfl rfl (j) (rfl) (by omega) (by decide) dX2_fact_51 ?_
    exact fin _ _ _ _ _ _ _ _ (by rfl) rfl hP hD hS (Nat.le_of_ble_eq_true rfl) (Nat.le_of_ble_eq_true rfl) dX2_fact_52
  · skip
    refine lv_tableIn (off := 52) (tgt := 53) hx hb dX2_fact_1 (by decide) (by decide) (by decide) (by decide) ?_
    refine lv_aload_n hx hb dX2_fact_53 rfl (lv_at hl 0 rfl) ?_
    refine va_get (D := D) (ci := 2) (v := .ref (a 4)) (C := RX2) (T := TX2) (N := 8) hx hb hts inX2 hown hK hP 0 rfl rfl 4 (by decide) f25 (fun _ h9 => h9) rfl dX2_fact_54 ?_
    refine lv_iload_n hx hb dX2_fact_57 rfl (lv_at hl 1 rfl) ?_
    refine xald hx hb hK hP 4 rfl rfl (j) (rfl) (by omega) (by decide) dX2_fact_58 ?_
    exact fin _ _ _ _ _ _ _ _ (by rfl) rfl hP hD hS (Nat.le_of_ble_eq_true rfl) (Nat.le_of_ble_eq_true rfl) dX2_fact_59
  · skip
    refine lv_tableOut (tgt := 60) hx hb dX2_fact_1 (by decide) (by decide) ?_
    refine lv_aload_n hx hb dX2_fact_60 rfl (lv_at hl 0 rfl) ?_
    refine va_get (D := D) (ci := 2) (v := .ref (a 5)) (C := RX2) (T := TX2) (N := 8) hx hb hts inX2 hown hK hP 0 rfl rfl 5 (by decide) f28 (fun _ h9 => h9) rfl dX2_fact_61 ?_
    refine lv_iload_n hx hb dX2_fact_64 rfl (lv_at hl 1 rfl) ?_
    refine xald hx hb hK hP 5 rfl rfl (j) (rfl) (by omega) (by decide) dX2_fact_65 ?_
    exact fin _ _ _ _ _ _ _ _ (by rfl) rfl hP hD hS (Nat.le_of_ble_eq_true rfl) (Nat.le_of_ble_eq_true rfl) dX2_fact_66
set_option maxHeartbeats 4000000 in
set_option maxRecDepth 100000 in
theorem c_X2_move (l : Launch) (D : va_G) (cI : ClassId) (a : Nat → Nat) (u : Rc) (ok : Ok u) (j : Nat) (hj : j < 60) (x : Int32) (ex : x = nI j) (t : Int32) (ht : vp_in t 6) : CV l yX2_move wsX2_move ({ frames := 0, cells := 0, slots := 0, locals := 0 } : Room) D cI [.ref (a 0), .int x, .int t] (wMail cI a u) (wMail cI a (mvF u j t)) := by
  refine CV.mk (cc := cX2_move) (maxL := 4) (by decide) rfl (Nat.le_of_ble_eq_true rfl) ?_
  intro p e s m args below meth c A Q ls hx hb hts hown hml hK hN hA hP hD hS hl fin
  have hown : s.vm.findClass RX2 = some m.cls := hown
  subst ex
  have hl : lv_has ls 4 [(0, .ref (a 0)), (1, .int (nI j)), (2, .int t)] := hl
  have f15 := hts (.fieldLink RX2 15 "NightSorters$Mail" "town" "[I") (by decide +kernel)
  have f22 := hts (.fieldLink RX2 22 "NightSorters$Mail" "place" "[I") (by decide +kernel)
  have f25 := hts (.fieldLink RX2 25 "NightSorters$Mail" "holder" "[I") (by decide +kernel)
  have f31 := hts (.fieldLink RX2 31 "NightSorters$Mail" "inPlace" "[I") (by decide +kernel)
  have f34 := hts (.fieldLink RX2 34 "NightSorters$Mail" "inHole" "[I") (by decide +kernel)
  have inX2 : ∀ w ∈ wsX20, w ∈ wsX2_move := by decide +kernel
  refine lv_aload_n hx hb dX2_move_0 rfl (lv_at hl 0 rfl) ?_
  refine va_get (D := D) (ci := 2) (v := .ref (a 3)) (C := RX2) (T := TX2) (N := 8) hx hb hts inX2 hown hK hP 0 rfl rfl 3 (by decide) f22 (fun _ h9 => h9) rfl dX2_move_1 ?_
  refine lv_iload_n hx hb dX2_move_4 rfl (lv_at hl 1 rfl) ?_
  refine xald hx hb hK hP 3 rfl rfl (j) (rfl) (by omega) (by decide) dX2_move_5 ?_
  refine lv_istore_n (lv' := [(3, .int (u 3 j)), (0, .ref (a 0)), (1, .int (nI j)), (2, .int t)]) hx hb dX2_move_6 rfl hl (by decide) rfl (fun ls hl => ?_)
  refine lv_aload_n hx hb dX2_move_7 rfl (lv_at hl 1 rfl) ?_
  refine va_get (D := D) (ci := 2) (v := .ref (a 6)) (C := RX2) (T := TX2) (N := 8) hx hb hts inX2 hown hK hP 0 rfl rfl 6 (by decide) f31 (fun _ h9 => h9) rfl dX2_move_8 ?_
  refine lv_iload_n hx hb dX2_move_11 rfl (lv_at hl 0 rfl) ?_
  refine lv_dup2_11 hx hb dX2_move_12 rfl rfl ?_
  refine xald hx hb hK hP 6 rfl rfl (iv (u 3 j)) (vi_eq (n := 6) ((by  exact ok 3 j)) (by decide)) (vi_lt ((by  exact ok 3 j))) (by decide) dX2_move_13 ?_
  refine lv_iconst (v := 1) hx hb dX2_move_14 (by decide) ?_
  refine lv_isub hx hb dX2_move_15 ?_
  obtain ⟨u1, eu1⟩ : ∃ z0 : Rc, z0 = put u 6 (iv (u 3 j)) ((u 6 (iv (u 3 j))) - 1) := ⟨_, rfl⟩
  refine xast hx hb hK hP hD hS 6 rfl rfl (iv (u 3 j)) (vi_eq (n := 6) ((by  exact ok 3 j)) (by decide)) (vi_lt ((by  exact ok 3 j))) (by decide) (wMail cI a u1) (by subst eu1; rfl) dX2_move_16 (fun H locs hP hD hS => ?_)
  refine lv_aload_n hx hb dX2_move_17 rfl (lv_at hl 1 rfl) ?_
  refine va_get (D := D) (ci := 2) (v := .ref (a 6)) (C := RX2) (T := TX2) (N := 8) hx hb hts inX2 hown hK hP 0 rfl rfl 6 (by decide) f31 (fun _ h9 => h9) rfl dX2_move_18 ?_
  refine lv_iload_n hx hb dX2_move_21 rfl (lv_at hl 3 rfl) ?_
  refine lv_dup2_11 hx hb dX2_move_22 rfl rfl ?_
  refine xald hx hb hK hP 6 rfl rfl (iv t) (vi_eq (ht) (by decide)) (vi_lt (ht)) (by decide) dX2_move_23 ?_
  refine lv_iconst (v := 1) hx hb dX2_move_24 (by decide) ?_
  refine lv_iadd hx hb dX2_move_25 ?_
  obtain ⟨u2, eu2⟩ : ∃ z0 : Rc, z0 = put u1 6 (iv t) ((u1 6 (iv t)) + 1) := ⟨_, rfl⟩
  refine xast hx hb hK hP hD hS 6 rfl rfl (iv t) (vi_eq (ht) (by decide)) (vi_lt (ht)) (by decide) (wMail cI a u2) (by subst eu2; rfl) dX2_move_26 (fun H locs hP hD hS => ?_)
  refine lv_iload_n hx hb dX2_move_27 rfl (lv_at hl 0 rfl) ?_
  refine lv_iconst (v := 3) hx hb dX2_move_28 (by decide) ?_
  refine lv_icmp_ne (tgt := 47) hx hb dX2_move_29 (by decide) (fun c3 => ?_) (fun c3 => ?_)
  · skip
    refine lv_iload_n hx hb dX2_move_47 rfl (lv_at hl 3 rfl) ?_
    refine lv_iconst (v := 3) hx hb dX2_move_48 (by decide) ?_
    refine lv_icmp_ne (tgt := 67) hx hb dX2_move_49 (by decide) (fun c4 => ?_) (fun c4 => ?_)
    · skip
      refine lv_aload_n hx hb dX2_move_67 rfl (lv_at hl 1 rfl) ?_
      refine va_get (D := D) (ci := 2) (v := .ref (a 4)) (C := RX2) (T := TX2) (N := 8) hx hb hts inX2 hown hK hP 0 rfl rfl 4 (by decide) f25 (fun _ h9 => h9) rfl dX2_move_68 ?_
      refine lv_iload_n hx hb dX2_move_71 rfl (lv_at hl 2 rfl) ?_
      refine lv_iconst (v := (-1)) hx hb dX2_move_72 (by decide) ?_
      obtain ⟨u5, eu5⟩ : ∃ z0 : Rc, z0 = put u2 4 j (-1) := ⟨_, rfl⟩
      refine xast hx hb hK hP hD hS 4 rfl rfl (j) (rfl) (by omega) (by decide) (wMail cI a u5) (by subst eu5; rfl) dX2_move_73 (fun H locs hP hD hS => ?_)
      refine lv_aload_n hx hb dX2_move_74 rfl (lv_at hl 1 rfl) ?_
      refine va_get (D := D) (ci := 2) (v := .ref (a 3)) (C := RX2) (T := TX2) (N := 8) hx hb hts inX2 hown hK hP 0 rfl rfl 3 (by decide) f22 (fun _ h9 => h9) rfl dX2_move_75 ?_
      refine lv_iload_n hx hb dX2_move_78 rfl (lv_at hl 2 rfl) ?_
      refine lv_iload_n hx hb dX2_move_79 rfl (lv_at hl 3 rfl) ?_
      obtain ⟨u6, eu6⟩ : ∃ z0 : Rc, z0 = put u5 3 j t := ⟨_, rfl⟩
      refine xast hx hb hK hP hD hS 3 rfl rfl (j) (rfl) (by omega) (by decide) (wMail cI a u6) (by subst eu6; rfl) dX2_move_80 (fun H locs hP hD hS => ?_)
      have h7 : u6 = mvF u j t := (by (try subst eu6); (try subst eu5); (try subst eu2); (try subst eu1); simp only [mvF, mvA, mvB, mvC, mvD, opt, c3, c4, ↓reduceIte, not_false_eq_true, not_true_eq_false, and_true, true_and, and_false, false_and, or_true, true_or, or_false, false_or, and_self, or_self])
      exact fin _ _ _ _ _ _ _ (congrArg (fun z9 : Rc => wMail cI a z9) h7) hP hD hS (Nat.le_of_ble_eq_true rfl) (Nat.le_of_ble_eq_true rfl) dX2_move_81
    · skip
      refine lv_aload_n hx hb dX2_move_52 rfl (lv_at hl 1 rfl) ?_
      refine va_get (D := D) (ci := 2) (v := .ref (a 7)) (C := RX2) (T := TX2) (N := 8) hx hb hts inX2 hown hK hP 0 rfl rfl 7 (by decide) f34 (fun _ h9 => h9) rfl dX2_move_53 ?_
      refine lv_aload_n hx hb dX2_move_56 rfl (lv_at hl 1 rfl) ?_
      refine va_get (D := D) (ci := 2) (v := .ref (a 1)) (C := RX2) (T := TX2) (N := 8) hx hb hts inX2 hown hK hP 0 rfl rfl 1 (by decide) f15 (fun _ h9 => h9) rfl dX2_move_57 ?_
      refine lv_iload_n hx hb dX2_move_60 rfl (lv_at hl 2 rfl) ?_
      refine xald hx hb hK hP 1 rfl rfl (j) (rfl) (by omega) (by decide) dX2_move_61 ?_
      refine lv_dup2_11 hx hb dX2_move_62 rfl rfl ?_
      refine xald hx hb hK hP 7 rfl rfl (iv (u2 1 j)) (vi_eq (n := 16) ((by (try subst eu2); (try subst eu1); exact ok 1 j)) (by decide)) (vi_lt ((by (try subst eu2); (try subst eu1); exact ok 1 j))) (by decide) dX2_move_63 ?_
      refine lv_iconst (v := 1) hx hb dX2_move_64 (by decide) ?_
      refine lv_iadd hx hb dX2_move_65 ?_
      obtain ⟨u8, eu8⟩ : ∃ z0 : Rc, z0 = put u2 7 (iv (u2 1 j)) ((u2 7 (iv (u2 1 j))) + 1) := ⟨_, rfl⟩
      refine xast hx hb hK hP hD hS 7 rfl rfl (iv (u2 1 j)) (vi_eq (n := 16) ((by (try subst eu2); (try subst eu1); exact ok 1 j)) (by decide)) (vi_lt ((by (try subst eu2); (try subst eu1); exact ok 1 j))) (by decide) (wMail cI a u8) (by subst eu8; rfl) dX2_move_66 (fun H locs hP hD hS => ?_)
      refine lv_aload_n hx hb dX2_move_67 rfl (lv_at hl 1 rfl) ?_
      refine va_get (D := D) (ci := 2) (v := .ref (a 4)) (C := RX2) (T := TX2) (N := 8) hx hb hts inX2 hown hK hP 0 rfl rfl 4 (by decide) f25 (fun _ h9 => h9) rfl dX2_move_68 ?_
      refine lv_iload_n hx hb dX2_move_71 rfl (lv_at hl 2 rfl) ?_
      refine lv_iconst (v := (-1)) hx hb dX2_move_72 (by decide) ?_
      obtain ⟨u9, eu9⟩ : ∃ z0 : Rc, z0 = put u8 4 j (-1) := ⟨_, rfl⟩
      refine xast hx hb hK hP hD hS 4 rfl rfl (j) (rfl) (by omega) (by decide) (wMail cI a u9) (by subst eu9; rfl) dX2_move_73 (fun H locs hP hD hS => ?_)
      refine lv_aload_n hx hb dX2_move_74 rfl (lv_at hl 1 rfl) ?_
      refine va_get (D := D) (ci := 2) (v := .ref (a 3)) (C := RX2) (T := TX2) (N := 8) hx hb hts inX2 hown hK hP 0 rfl rfl 3 (by decide) f22 (fun _ h9 => h9) rfl dX2_move_75 ?_
      refine lv_iload_n hx hb dX2_move_78 rfl (lv_at hl 2 rfl) ?_
      refine lv_iload_n hx hb dX2_move_79 rfl (lv_at hl 3 rfl) ?_
      obtain ⟨u10, eu10⟩ : ∃ z0 : Rc, z0 = put u9 3 j t := ⟨_, rfl⟩
      refine xast hx hb hK hP hD hS 3 rfl rfl (j) (rfl) (by omega) (by decide) (wMail cI a u10) (by subst eu10; rfl) dX2_move_80 (fun H locs hP hD hS => ?_)
      have h11 : u10 = mvF u j t := (by (try subst eu10); (try subst eu9); (try subst eu8); (try subst eu2); (try subst eu1); simp only [mvF, mvA, mvB, mvC, mvD, opt, c3, c4, ↓reduceIte, not_false_eq_true, not_true_eq_false, and_true, true_and, and_false, false_and, or_true, true_or, or_false, false_or, and_self, or_self])
      exact fin _ _ _ _ _ _ _ (congrArg (fun z9 : Rc => wMail cI a z9) h11) hP hD hS (Nat.le_of_ble_eq_true rfl) (Nat.le_of_ble_eq_true rfl) dX2_move_81
  · skip
    refine lv_aload_n hx hb dX2_move_32 rfl (lv_at hl 1 rfl) ?_
    refine va_get (D := D) (ci := 2) (v := .ref (a 7)) (C := RX2) (T := TX2) (N := 8) hx hb hts inX2 hown hK hP 0 rfl rfl 7 (by decide) f34 (fun _ h9 => h9) rfl dX2_move_33 ?_
    refine lv_aload_n hx hb dX2_move_36 rfl (lv_at hl 1 rfl) ?_
    refine va_get (D := D) (ci := 2) (v := .ref (a 1)) (C := RX2) (T := TX2) (N := 8) hx hb hts inX2 hown hK hP 0 rfl rfl 1 (by decide) f15 (fun _ h9 => h9) rfl dX2_move_37 ?_
    refine lv_iload_n hx hb dX2_move_40 rfl (lv_at hl 2 rfl) ?_
    refine xald hx hb hK hP 1 rfl rfl (j) (rfl) (by omega) (by decide) dX2_move_41 ?_
    refine lv_dup2_11 hx hb dX2_move_42 rfl rfl ?_
    refine xald hx hb hK hP 7 rfl rfl (iv (u2 1 j)) (vi_eq (n := 16) ((by (try subst eu2); (try subst eu1); exact ok 1 j)) (by decide)) (vi_lt ((by (try subst eu2); (try subst eu1); exact ok 1 j))) (by decide) dX2_move_43 ?_
    refine lv_iconst (v := 1) hx hb dX2_move_44 (by decide) ?_
    refine lv_isub hx hb dX2_move_45 ?_
    obtain ⟨u12, eu12⟩ : ∃ z0 : Rc, z0 = put u2 7 (iv (u2 1 j)) ((u2 7 (iv (u2 1 j))) - 1) := ⟨_, rfl⟩
    refine xast hx hb hK hP hD hS 7 rfl rfl (iv (u2 1 j)) (vi_eq (n := 16) ((by (try subst eu2); (try subst eu1); exact ok 1 j)) (by decide)) (vi_lt ((by (try subst eu2); (try subst eu1); exact ok 1 j))) (by decide) (wMail cI a u12) (by subst eu12; rfl) dX2_move_46 (fun H locs hP hD hS => ?_)
    refine lv_iload_n hx hb dX2_move_47 rfl (lv_at hl 3 rfl) ?_
    refine lv_iconst (v := 3) hx hb dX2_move_48 (by decide) ?_
    refine lv_icmp_ne (tgt := 67) hx hb dX2_move_49 (by decide) (fun c13 => ?_) (fun c13 => ?_)
    · skip
      refine lv_aload_n hx hb dX2_move_67 rfl (lv_at hl 1 rfl) ?_
      refine va_get (D := D) (ci := 2) (v := .ref (a 4)) (C := RX2) (T := TX2) (N := 8) hx hb hts inX2 hown hK hP 0 rfl rfl 4 (by decide) f25 (fun _ h9 => h9) rfl dX2_move_68 ?_
      refine lv_iload_n hx hb dX2_move_71 rfl (lv_at hl 2 rfl) ?_
      refine lv_iconst (v := (-1)) hx hb dX2_move_72 (by decide) ?_
      obtain ⟨u14, eu14⟩ : ∃ z0 : Rc, z0 = put u12 4 j (-1) := ⟨_, rfl⟩
      refine xast hx hb hK hP hD hS 4 rfl rfl (j) (rfl) (by omega) (by decide) (wMail cI a u14) (by subst eu14; rfl) dX2_move_73 (fun H locs hP hD hS => ?_)
      refine lv_aload_n hx hb dX2_move_74 rfl (lv_at hl 1 rfl) ?_
      refine va_get (D := D) (ci := 2) (v := .ref (a 3)) (C := RX2) (T := TX2) (N := 8) hx hb hts inX2 hown hK hP 0 rfl rfl 3 (by decide) f22 (fun _ h9 => h9) rfl dX2_move_75 ?_
      refine lv_iload_n hx hb dX2_move_78 rfl (lv_at hl 2 rfl) ?_
      refine lv_iload_n hx hb dX2_move_79 rfl (lv_at hl 3 rfl) ?_
      obtain ⟨u15, eu15⟩ : ∃ z0 : Rc, z0 = put u14 3 j t := ⟨_, rfl⟩
      refine xast hx hb hK hP hD hS 3 rfl rfl (j) (rfl) (by omega) (by decide) (wMail cI a u15) (by subst eu15; rfl) dX2_move_80 (fun H locs hP hD hS => ?_)
      have h16 : u15 = mvF u j t := (by (try subst eu15); (try subst eu14); (try subst eu12); (try subst eu2); (try subst eu1); simp only [mvF, mvA, mvB, mvC, mvD, opt, c3, c13, ↓reduceIte, not_false_eq_true, not_true_eq_false, and_true, true_and, and_false, false_and, or_true, true_or, or_false, false_or, and_self, or_self])
      exact fin _ _ _ _ _ _ _ (congrArg (fun z9 : Rc => wMail cI a z9) h16) hP hD hS (Nat.le_of_ble_eq_true rfl) (Nat.le_of_ble_eq_true rfl) dX2_move_81
    · skip
      refine lv_aload_n hx hb dX2_move_52 rfl (lv_at hl 1 rfl) ?_
      refine va_get (D := D) (ci := 2) (v := .ref (a 7)) (C := RX2) (T := TX2) (N := 8) hx hb hts inX2 hown hK hP 0 rfl rfl 7 (by decide) f34 (fun _ h9 => h9) rfl dX2_move_53 ?_
      refine lv_aload_n hx hb dX2_move_56 rfl (lv_at hl 1 rfl) ?_
      refine va_get (D := D) (ci := 2) (v := .ref (a 1)) (C := RX2) (T := TX2) (N := 8) hx hb hts inX2 hown hK hP 0 rfl rfl 1 (by decide) f15 (fun _ h9 => h9) rfl dX2_move_57 ?_
      refine lv_iload_n hx hb dX2_move_60 rfl (lv_at hl 2 rfl) ?_
      refine xald hx hb hK hP 1 rfl rfl (j) (rfl) (by omega) (by decide) dX2_move_61 ?_
      refine lv_dup2_11 hx hb dX2_move_62 rfl rfl ?_
      refine xald hx hb hK hP 7 rfl rfl (iv (u12 1 j)) (vi_eq (n := 16) ((by (try subst eu12); (try subst eu2); (try subst eu1); exact ok 1 j)) (by decide)) (vi_lt ((by (try subst eu12); (try subst eu2); (try subst eu1); exact ok 1 j))) (by decide) dX2_move_63 ?_
      refine lv_iconst (v := 1) hx hb dX2_move_64 (by decide) ?_
      refine lv_iadd hx hb dX2_move_65 ?_
      obtain ⟨u17, eu17⟩ : ∃ z0 : Rc, z0 = put u12 7 (iv (u12 1 j)) ((u12 7 (iv (u12 1 j))) + 1) := ⟨_, rfl⟩
      refine xast hx hb hK hP hD hS 7 rfl rfl (iv (u12 1 j)) (vi_eq (n := 16) ((by (try subst eu12); (try subst eu2); (try subst eu1); exact ok 1 j)) (by decide)) (vi_lt ((by (try subst eu12); (try subst eu2); (try subst eu1); exact ok 1 j))) (by decide) (wMail cI a u17) (by subst eu17; rfl) dX2_move_66 (fun H locs hP hD hS => ?_)
      refine lv_aload_n hx hb dX2_move_67 rfl (lv_at hl 1 rfl) ?_
      refine va_get (D := D) (ci := 2) (v := .ref (a 4)) (C := RX2) (T := TX2) (N := 8) hx hb hts inX2 hown hK hP 0 rfl rfl 4 (by decide) f25 (fun _ h9 => h9) rfl dX2_move_68 ?_
      refine lv_iload_n hx hb dX2_move_71 rfl (lv_at hl 2 rfl) ?_
      refine lv_iconst (v := (-1)) hx hb dX2_move_72 (by decide) ?_
      obtain ⟨u18, eu18⟩ : ∃ z0 : Rc, z0 = put u17 4 j (-1) := ⟨_, rfl⟩
      refine xast hx hb hK hP hD hS 4 rfl rfl (j) (rfl) (by omega) (by decide) (wMail cI a u18) (by subst eu18; rfl) dX2_move_73 (fun H locs hP hD hS => ?_)
      refine lv_aload_n hx hb dX2_move_74 rfl (lv_at hl 1 rfl) ?_
      refine va_get (D := D) (ci := 2) (v := .ref (a 3)) (C := RX2) (T := TX2) (N := 8) hx hb hts inX2 hown hK hP 0 rfl rfl 3 (by decide) f22 (fun _ h9 => h9) rfl dX2_move_75 ?_
      refine lv_iload_n hx hb dX2_move_78 rfl (lv_at hl 2 rfl) ?_
      refine lv_iload_n hx hb dX2_move_79 rfl (lv_at hl 3 rfl) ?_
      obtain ⟨u19, eu19⟩ : ∃ z0 : Rc, z0 = put u18 3 j t := ⟨_, rfl⟩
      refine xast hx hb hK hP hD hS 3 rfl rfl (j) (rfl) (by omega) (by decide) (wMail cI a u19) (by subst eu19; rfl) dX2_move_80 (fun H locs hP hD hS => ?_)
      have h20 : u19 = mvF u j t := (by (try subst eu19); (try subst eu18); (try subst eu17); (try subst eu12); (try subst eu2); (try subst eu1); simp only [mvF, mvA, mvB, mvC, mvD, opt, c3, c13, ↓reduceIte, not_false_eq_true, not_true_eq_false, and_true, true_and, and_false, false_and, or_true, true_or, or_false, false_or, and_self, or_self])
      exact fin _ _ _ _ _ _ _ (congrArg (fun z9 : Rc => wMail cI a z9) h20) hP hD hS (Nat.le_of_ble_eq_true rfl) (Nat.le_of_ble_eq_true rfl) dX2_move_81
set_option maxHeartbeats 4000000 in
set_option maxRecDepth 100000 in
theorem c_X2_moveToHands (l : Launch) (D : va_G) (cI : ClassId) (a : Nat → Nat) (u : Rc) (ok : Ok u) (j : Nat) (hj : j < 60) (x : Int32) (ex : x = nI j) (y : Int32) : CV l yX2_moveToHands wsX2_moveToHands ({ frames := 1, cells := 0, slots := 0, locals := 23 } : Room) D cI [.ref (a 0), .int x, .int y] (wMail cI a u) (wMail cI a (mvH u j y)) := by
  refine CV.mk (cc := cX2_moveToHands) (maxL := 3) (by decide) rfl (Nat.le_of_ble_eq_true rfl) ?_
  intro p e s m args below meth c A Q ls hx hb hts hown hml hK hN hA hP hD hS hl fin
  have hown : s.vm.findClass RX2 = some m.cls := hown
  subst ex
  have hl : lv_has ls 3 [(0, .ref (a 0)), (1, .int (nI j)), (2, .int y)] := hl
  have f25 := hts (.fieldLink RX2 25 "NightSorters$Mail" "holder" "[I") (by decide +kernel)
  have inX2 : ∀ w ∈ wsX20, w ∈ wsX2_moveToHands := by decide +kernel
  refine lv_aload_n hx hb dX2_moveToHands_0 rfl (lv_at hl 0 rfl) ?_
  refine lv_iload_n hx hb dX2_moveToHands_1 rfl (lv_at hl 1 rfl) ?_
  refine lv_iconst (v := 2) hx hb dX2_moveToHands_2 (by decide) ?_
  obtain ⟨u1, eu1⟩ : ∃ z0 : Rc, z0 = mvF u j 2 := ⟨_, rfl⟩
  refine ycallv (invV (As := [.int (nI j), .int 2]) (rest := []) (rm := ({ frames := 0, cells := 0, slots := 0, locals := 0 } : Room)) ⟨hx, hb, hml, hown, hts⟩ (cwV 2 hts gX2_moveToHands_X2_move rfl rfl rfl (by decide +kernel) ⟨Nat.le_of_ble_eq_true rfl, Nat.le_of_ble_eq_true rfl⟩) (va_recv hK hP (ci := 2) (q0 := 0) rfl rfl) rfl rfl hl.1 (Nat.le_of_ble_eq_true rfl) dX2_moveToHands_3) (c_X2_move l D cI a u ok j hj (nI j) rfl 2 (vp_lit (by decide))) hK hN hA hP hD hS (W2 := wMail cI a u1) [0, 1, 2, 3, 4, 5, 6, 7] [] [0, 1, 2, 3, 4, 5, 6, 7] rfl rfl (by subst eu1; rfl) (by decide) ⟨Nat.le_of_ble_eq_true rfl, Nat.le_of_ble_eq_true rfl⟩ (fun H locs hP hD hS => ?_)
  refine lv_aload_n hx hb dX2_moveToHands_6 rfl (lv_at hl 0 rfl) ?_
  refine va_get (D := D) (ci := 2) (v := .ref (a 4)) (C := RX2) (T := TX2) (N := 8) hx hb hts inX2 hown hK hP 0 rfl rfl 4 (by decide) f25 (fun _ h9 => h9) rfl dX2_moveToHands_7 ?_
  refine lv_iload_n hx hb dX2_moveToHands_10 rfl (lv_at hl 1 rfl) ?_
  refine lv_iload_n hx hb dX2_moveToHands_11 rfl (lv_at hl 2 rfl) ?_
  obtain ⟨u2, eu2⟩ : ∃ z0 : Rc, z0 = put u1 4 j y := ⟨_, rfl⟩
  refine xast hx hb hK hP hD hS 4 rfl rfl (j) (rfl) (by omega) (by decide) (wMail cI a u2) (by subst eu2; rfl) dX2_moveToHands_12 (fun H locs hP hD hS => ?_)
  have h3 : u2 = mvH u j y := (by (try subst eu2); (try subst eu1); simp only [mvH, ↓reduceIte, not_false_eq_true, not_true_eq_false, and_true, true_and, and_false, false_and, or_true, true_or, or_false, false_or, and_self, or_self])
  exact fin _ _ _ _ _ _ _ (congrArg (fun z9 : Rc => wMail cI a z9) h3) hP hD hS (Nat.le_of_ble_eq_true rfl) (Nat.le_of_ble_eq_true rfl) dX2_moveToHands_13
set_option maxHeartbeats 4000000 in
set_option maxRecDepth 100000 in
theorem c_X2_end (l : Launch) (D : va_G) (cI : ClassId) (a : Nat → Nat) (u : Rc) (ok : Ok u) (j : Nat) (hj : j < 60) (x : Int32) (ex : x = nI j) (t : Int32) (ht : vp_in t 6) (y : Int32) : CV l yX2_end wsX2_end ({ frames := 1, cells := 0, slots := 0, locals := 23 } : Room) D cI [.ref (a 0), .int x, .int t, .int y] (wMail cI a u) (wMail cI a (endF u j t y)) := by
  refine CV.mk (cc := cX2_end) (maxL := 4) (by decide) rfl (Nat.le_of_ble_eq_true rfl) ?_
  intro p e s m args below meth c A Q ls hx hb hts hown hml hK hN hA hP hD hS hl fin
  have hown : s.vm.findClass RX2 = some m.cls := hown
  subst ex
  have hl : lv_has ls 4 [(0, .ref (a 0)), (1, .int (nI j)), (2, .int t), (3, .int y)] := hl
  have f28 := hts (.fieldLink RX2 28 "NightSorters$Mail" "endMinute" "[I") (by decide +kernel)
  have inX2 : ∀ w ∈ wsX20, w ∈ wsX2_end := by decide +kernel
  refine lv_aload_n hx hb dX2_end_0 rfl (lv_at hl 0 rfl) ?_
  refine lv_iload_n hx hb dX2_end_1 rfl (lv_at hl 1 rfl) ?_
  refine lv_iload_n hx hb dX2_end_2 rfl (lv_at hl 2 rfl) ?_
  obtain ⟨u1, eu1⟩ : ∃ z0 : Rc, z0 = mvF u j t := ⟨_, rfl⟩
  refine ycallv (invV (As := [.int (nI j), .int t]) (rest := []) (rm := ({ frames := 0, cells := 0, slots := 0, locals := 0 } : Room)) ⟨hx, hb, hml, hown, hts⟩ (cwV 2 hts gX2_end_X2_move rfl rfl rfl (by decide +kernel) ⟨Nat.le_of_ble_eq_true rfl, Nat.le_of_ble_eq_true rfl⟩) (va_recv hK hP (ci := 2) (q0 := 0) rfl rfl) rfl rfl hl.1 (Nat.le_of_ble_eq_true rfl) dX2_end_3) (c_X2_move l D cI a u ok j hj (nI j) rfl t ht) hK hN hA hP hD hS (W2 := wMail cI a u1) [0, 1, 2, 3, 4, 5, 6, 7] [] [0, 1, 2, 3, 4, 5, 6, 7] rfl rfl (by subst eu1; rfl) (by decide) ⟨Nat.le_of_ble_eq_true rfl, Nat.le_of_ble_eq_true rfl⟩ (fun H locs hP hD hS => ?_)
  refine lv_aload_n hx hb dX2_end_6 rfl (lv_at hl 0 rfl) ?_
  refine va_get (D := D) (ci := 2) (v := .ref (a 5)) (C := RX2) (T := TX2) (N := 8) hx hb hts inX2 hown hK hP 0 rfl rfl 5 (by decide) f28 (fun _ h9 => h9) rfl dX2_end_7 ?_
  refine lv_iload_n hx hb dX2_end_10 rfl (lv_at hl 1 rfl) ?_
  refine lv_iload_n hx hb dX2_end_11 rfl (lv_at hl 3 rfl) ?_
  obtain ⟨u2, eu2⟩ : ∃ z0 : Rc, z0 = put u1 5 j y := ⟨_, rfl⟩
  refine xast hx hb hK hP hD hS 5 rfl rfl (j) (rfl) (by omega) (by decide) (wMail cI a u2) (by subst eu2; rfl) dX2_end_12 (fun H locs hP hD hS => ?_)
  have h3 : u2 = endF u j t y := (by (try subst eu2); (try subst eu1); simp only [endF, ↓reduceIte, not_false_eq_true, not_true_eq_false, and_true, true_and, and_false, false_and, or_true, true_or, or_false, false_or, and_self, or_self])
  exact fin _ _ _ _ _ _ _ (congrArg (fun z9 : Rc => wMail cI a z9) h3) hP hD hS (Nat.le_of_ble_eq_true rfl) (Nat.le_of_ble_eq_true rfl) dX2_end_13
set_option maxHeartbeats 4000000 in
set_option maxRecDepth 100000 in
theorem c_X2_firstOnTable (l : Launch) (D : va_G) (cI : ClassId) (a : Nat → Nat) (u : Rc) (ok : Ok u) (x : Int32) : CI l yX2_firstOnTable wsX2_firstOnTable ({ frames := 1, cells := 0, slots := 0, locals := 21 } : Room) D cI [.ref (a 0), .int x] (wMail cI a u) (firstF u x) (wMail cI a u) := by
  refine CI.mk (cc := cX2_firstOnTable) (maxL := 3) (ret := (some .int)) rfl rfl (by decide) rfl (Nat.le_of_ble_eq_true rfl) ?_
  intro p e s m args below meth c A Q ls hx hb hts hown hml hK hN hA hP hD hS hl fin
  have hown : s.vm.findClass RX2 = some m.cls := hown
  have hn60 := ok.n60
  have hl : lv_has ls 3 [(0, .ref (a 0)), (1, .int x)] := hl
  have f9 := hts (.fieldLink RX2 9 "NightSorters$Mail" "size" "I") (by decide +kernel)
  have f15 := hts (.fieldLink RX2 15 "NightSorters$Mail" "town" "[I") (by decide +kernel)
  have f22 := hts (.fieldLink RX2 22 "NightSorters$Mail" "place" "[I") (by decide +kernel)
  have f31 := hts (.fieldLink RX2 31 "NightSorters$Mail" "inPlace" "[I") (by decide +kernel)
  have inX2 : ∀ w ∈ wsX20, w ∈ wsX2_firstOnTable := by decide +kernel
  refine lv_aload_n hx hb dX2_firstOnTable_0 rfl (lv_at hl 0 rfl) ?_
  refine va_get (D := D) (ci := 2) (v := .ref (a 6)) (C := RX2) (T := TX2) (N := 8) hx hb hts inX2 hown hK hP 0 rfl rfl 6 (by decide) f31 (fun _ h9 => h9) rfl dX2_firstOnTable_1 ?_
  refine lv_iconst (v := 1) hx hb dX2_firstOnTable_4 (by decide) ?_
  refine xald hx hb hK hP 6 rfl rfl (1) (by decide) (by decide) (by decide) dX2_firstOnTable_5 ?_
  refine lv_if_ne (tgt := 11) hx hb dX2_firstOnTable_6 (by decide) (fun c1 => ?_) (fun c1 => ?_)
  · skip
    refine lv_iconst (v := 0) hx hb dX2_firstOnTable_11 (by decide) ?_
    refine lv_istore_n (lv' := [(2, .int 0), (0, .ref (a 0)), (1, .int x)]) hx hb dX2_firstOnTable_12 rfl hl (by decide) rfl (fun ls hl => ?_)
    have K13 : ∀ (n13 i13 : Nat), 0 ≤ i13 → i13 ≤ iv (u 0 0) → iv (u 0 0) < i13 + n13 → (∀ k, k < i13 → decide (u 3 k = 1 ∧ hasT x (u 1 k)) = false) → ∀ (H : Heap) (locs : List Loc), va_P D vwCl (wMail cI a u) H → va_D A (wMail cI a u) → va_S A s.heap H locs → ∀ (ls : Array Slot), lv_has ls 3 [(2, .int (nI i13)), (0, .ref (a 0)), (1, .int x)] → W p l e ({ frames := 1, cells := 0, slots := 0, locals := 21 } : Room) s m args below meth c H locs (0) (0) Q (F0 m 13 ls []) := by
      intro n13
      induction n13 with
      | zero => intro i13 hlo13 hi13 hn13; exact absurd hn13 (by omega)
      | succ n13 ih13 =>
        intro i13 hlo13 hi13 hn13 hno H locs hP hD hS ls hl
        refine lv_iload_n hx hb dX2_firstOnTable_13 rfl (lv_at hl 0 rfl) ?_
        refine lv_aload_n hx hb dX2_firstOnTable_14 rfl (lv_at hl 1 rfl) ?_
        refine va_get (D := D) (ci := 2) (v := .int (u 0 0)) (C := RX2) (T := TX2) (N := 8) hx hb hts inX2 hown hK hP 0 rfl rfl 0 (by decide) f9 (fun _ h9 => h9) rfl dX2_firstOnTable_15 ?_
        refine lv_icmp_ge (tgt := 52) hx hb dX2_firstOnTable_18 (by decide) (fun c2 => ?_) (fun c2 => ?_)
        · skip
          have hie := lp_out ok.n (by omega) hi13 c2
          refine lv_iconst (v := (-1)) hx hb dX2_firstOnTable_52 (by decide) ?_
          exact fin _ _ _ _ _ _ _ _ (by unfold firstF; rw [if_neg c1]; exact (fnd_no (by rw [← hie]; exact hno)).symm) rfl hP hD hS (Nat.le_of_ble_eq_true rfl) (Nat.le_of_ble_eq_true rfl) dX2_firstOnTable_53
        · skip
          have hlt := lp_in ok.n (by omega) hi13 c2
          refine lv_aload_n hx hb dX2_firstOnTable_21 rfl (lv_at hl 1 rfl) ?_
          refine va_get (D := D) (ci := 2) (v := .ref (a 3)) (C := RX2) (T := TX2) (N := 8) hx hb hts inX2 hown hK hP 0 rfl rfl 3 (by decide) f22 (fun _ h9 => h9) rfl dX2_firstOnTable_22 ?_
          refine lv_iload_n hx hb dX2_firstOnTable_25 rfl (lv_at hl 0 rfl) ?_
          refine xald hx hb hK hP 3 rfl rfl (i13) (rfl) (by omega) (by decide) dX2_firstOnTable_26 ?_
          refine lv_iconst (v := 1) hx hb dX2_firstOnTable_27 (by decide) ?_
          refine lv_icmp_ne (tgt := 46) hx hb dX2_firstOnTable_28 (by decide) (fun c3 => ?_) (fun c3 => ?_)
          · skip
            refine lv_iinc (v := nI (i13 + 1)) (lv' := [(2, .int (nI (i13 + 1))), (0, .ref (a 0)), (1, .int x)]) hx hb dX2_firstOnTable_46 hl (k := 0) rfl (nI_inc _) (by decide) rfl (fun ls hl => ?_)
            refine lv_goto (tgt := 13) hx hb dX2_firstOnTable_49 (by decide) ?_
            exact ih13 (i13 + 1) (by omega) (by omega) (by omega) (lt_s hno (decide_eq_false (fun h => by first | exact c3 h.1 | exact c3 h.2))) H locs hP hD hS ls (lv_sub hl [0, 1, 2] rfl)
          · skip
            refine lv_iload_n hx hb dX2_firstOnTable_31 rfl (lv_at hl 2 rfl) ?_
            refine lv_aload_n hx hb dX2_firstOnTable_32 rfl (lv_at hl 1 rfl) ?_
            refine va_get (D := D) (ci := 2) (v := .ref (a 1)) (C := RX2) (T := TX2) (N := 8) hx hb hts inX2 hown hK hP 0 rfl rfl 1 (by decide) f15 (fun _ h9 => h9) rfl dX2_firstOnTable_33 ?_
            refine lv_iload_n hx hb dX2_firstOnTable_36 rfl (lv_at hl 0 rfl) ?_
            refine xald hx hb hK hP 1 rfl rfl (i13) (rfl) (by omega) (by decide) dX2_firstOnTable_37 ?_
            refine ycalli (invSN (As := [.int x, .int (u 1 i13)]) (rest := []) (rm := ({ frames := 0, cells := 0, slots := 0, locals := 0 } : Room)) ⟨hx, hb, hml, hown, hts⟩ ⟨va_cnB 2 hts gX2_firstOnTable_X4_hasTown_n41 rfl rfl rfl (NW.M hN (a := RX2) (i := 41) (x := yX4_hasTown) (h9 := "NightSorters") (by decide +kernel)) (hts (.initialized RX4) (by decide +kernel)) (by decide +kernel) ⟨Nat.le_of_ble_eq_true rfl, Nat.le_of_ble_eq_true rfl⟩, (hts (.static yX4_hasTown) (by decide +kernel)), trivial⟩ rfl rfl hl.1 (Nat.le_of_ble_eq_true rfl) dX2_firstOnTable_38) (c_X4_hasTown l D cI x (u 1 i13)) hK hN hA hP hD hS (W2 := wMail cI a u) [] [0, 1, 2, 3, 4, 5, 6, 7] [0, 1, 2, 3, 4, 5, 6, 7] rfl rfl rfl (by decide) ⟨Nat.le_of_ble_eq_true rfl, Nat.le_of_ble_eq_true rfl⟩ (fun H locs hP hD hS => ?_)
            refine lv_if_eq (tgt := 46) hx hb dX2_firstOnTable_41 (by decide) (fun c4 => ?_) (fun c4 => ?_)
            · skip
              have c4 := b01t c4
              refine lv_iinc (v := nI (i13 + 1)) (lv' := [(2, .int (nI (i13 + 1))), (0, .ref (a 0)), (1, .int x)]) hx hb dX2_firstOnTable_46 hl (k := 0) rfl (nI_inc _) (by decide) rfl (fun ls hl => ?_)
              refine lv_goto (tgt := 13) hx hb dX2_firstOnTable_49 (by decide) ?_
              exact ih13 (i13 + 1) (by omega) (by omega) (by omega) (lt_s hno (decide_eq_false (fun h => by first | exact c4 h.1 | exact c4 h.2))) H locs hP hD hS ls (lv_sub hl [0, 1, 2] rfl)
            · skip
              have c4 := b01f c4
              refine lv_iload_n hx hb dX2_firstOnTable_44 rfl (lv_at hl 0 rfl) ?_
              exact fin _ _ _ _ _ _ _ _ (by unfold firstF; rw [if_neg c1]; exact (fnd_at (decide_eq_true ⟨c3, c4⟩) hno (by omega) (by omega)).symm) rfl hP hD hS (Nat.le_of_ble_eq_true rfl) (Nat.le_of_ble_eq_true rfl) dX2_firstOnTable_45
    exact K13 (iv (u 0 0) + 1) 0 (Nat.le_refl _) (by omega) (by omega) (fun k hk => absurd hk (by omega)) _ _ hP hD hS ls (lv_sub hl [0, 1, 2] rfl)
  · skip
    refine lv_iconst (v := (-1)) hx hb dX2_firstOnTable_9 (by decide) ?_
    exact fin _ _ _ _ _ _ _ _ (by unfold firstF; rw [if_pos c1]) rfl hP hD hS (Nat.le_of_ble_eq_true rfl) (Nat.le_of_ble_eq_true rfl) dX2_firstOnTable_10
set_option maxHeartbeats 4000000 in
set_option maxRecDepth 100000 in
theorem c_X2_isInBag (l : Launch) (D : va_G) (cI : ClassId) (a : Nat → Nat) (u : Rc) (j : Nat) (hj : j < 60) (x : Int32) (ex : x = nI j) (y : Int32) : CI l yX2_isInBag wsX2_isInBag ({ frames := 0, cells := 0, slots := 0, locals := 0 } : Room) D cI [.ref (a 0), .int x, .int y] (wMail cI a u) (if inBag u j y then 1 else 0) (wMail cI a u) := by
  refine CI.mk (cc := cX2_isInBag) (maxL := 3) (ret := (some .boolean)) rfl (by split <;> rfl) (by decide) rfl (Nat.le_of_ble_eq_true rfl) ?_
  intro p e s m args below meth c A Q ls hx hb hts hown hml hK hN hA hP hD hS hl fin
  have hown : s.vm.findClass RX2 = some m.cls := hown
  subst ex
  have hl : lv_has ls 3 [(0, .ref (a 0)), (1, .int (nI j)), (2, .int y)] := hl
  have f19 := hts (.fieldLink RX2 19 "NightSorters$Mail" "postedAt" "[I") (by decide +kernel)
  have f22 := hts (.fieldLink RX2 22 "NightSorters$Mail" "place" "[I") (by decide +kernel)
  have inX2 : ∀ w ∈ wsX20, w ∈ wsX2_isInBag := by decide +kernel
  refine lv_aload_n hx hb dX2_isInBag_0 rfl (lv_at hl 0 rfl) ?_
  refine va_get (D := D) (ci := 2) (v := .ref (a 3)) (C := RX2) (T := TX2) (N := 8) hx hb hts inX2 hown hK hP 0 rfl rfl 3 (by decide) f22 (fun _ h9 => h9) rfl dX2_isInBag_1 ?_
  refine lv_iload_n hx hb dX2_isInBag_4 rfl (lv_at hl 1 rfl) ?_
  refine xald hx hb hK hP 3 rfl rfl (j) (rfl) (by omega) (by decide) dX2_isInBag_5 ?_
  refine lv_if_ne (tgt := 23) hx hb dX2_isInBag_6 (by decide) (fun c1 => ?_) (fun c1 => ?_)
  · skip
    refine lv_iconst (v := 0) hx hb dX2_isInBag_23 (by decide) ?_
    exact fin _ _ _ _ _ _ _ _ (by  simp only [inBag, c1, ↓reduceIte, not_false_eq_true, not_true_eq_false, and_true, true_and, and_false, false_and, or_true, true_or, or_false, false_or, and_self, or_self]) rfl hP hD hS (Nat.le_of_ble_eq_true rfl) (Nat.le_of_ble_eq_true rfl) dX2_isInBag_24
  · skip
    refine lv_aload_n hx hb dX2_isInBag_9 rfl (lv_at hl 0 rfl) ?_
    refine va_get (D := D) (ci := 2) (v := .ref (a 2)) (C := RX2) (T := TX2) (N := 8) hx hb hts inX2 hown hK hP 0 rfl rfl 2 (by decide) f19 (fun _ h9 => h9) rfl dX2_isInBag_10 ?_
    refine lv_iload_n hx hb dX2_isInBag_13 rfl (lv_at hl 1 rfl) ?_
    refine xald hx hb hK hP 2 rfl rfl (j) (rfl) (by omega) (by decide) dX2_isInBag_14 ?_
    refine lv_iload_n hx hb dX2_isInBag_15 rfl (lv_at hl 2 rfl) ?_
    refine lv_icmp_ne (tgt := 23) hx hb dX2_isInBag_16 (by decide) (fun c2 => ?_) (fun c2 => ?_)
    · skip
      refine lv_iconst (v := 0) hx hb dX2_isInBag_23 (by decide) ?_
      exact fin _ _ _ _ _ _ _ _ (by  simp only [inBag, c1, c2, ↓reduceIte, not_false_eq_true, not_true_eq_false, and_true, true_and, and_false, false_and, or_true, true_or, or_false, false_or, and_self, or_self]) rfl hP hD hS (Nat.le_of_ble_eq_true rfl) (Nat.le_of_ble_eq_true rfl) dX2_isInBag_24
    · skip
      refine lv_iconst (v := 1) hx hb dX2_isInBag_19 (by decide) ?_
      refine lv_goto (tgt := 24) hx hb dX2_isInBag_20 (by decide) ?_
      exact fin _ _ _ _ _ _ _ _ (by  simp only [inBag, c1, c2, ↓reduceIte, not_false_eq_true, not_true_eq_false, and_true, true_and, and_false, false_and, or_true, true_or, or_false, false_or, and_self, or_self]) rfl hP hD hS (Nat.le_of_ble_eq_true rfl) (Nat.le_of_ble_eq_true rfl) dX2_isInBag_24
set_option maxHeartbeats 4000000 in
set_option maxRecDepth 100000 in
theorem c_X2_lettersInBag (l : Launch) (D : va_G) (cI : ClassId) (a : Nat → Nat) (u : Rc) (ok : Ok u) (x : Int32) : CI l yX2_lettersInBag wsX2_lettersInBag ({ frames := 1, cells := 0, slots := 0, locals := 22 } : Room) D cI [.ref (a 0), .int x] (wMail cI a u) (lbagF u x) (wMail cI a u) := by
  refine CI.mk (cc := cX2_lettersInBag) (maxL := 4) (ret := (some .int)) rfl rfl (by decide) rfl (Nat.le_of_ble_eq_true rfl) ?_
  intro p e s m args below meth c A Q ls hx hb hts hown hml hK hN hA hP hD hS hl fin
  have hown : s.vm.findClass RX2 = some m.cls := hown
  have hn60 := ok.n60
  have hl : lv_has ls 4 [(0, .ref (a 0)), (1, .int x)] := hl
  have f9 := hts (.fieldLink RX2 9 "NightSorters$Mail" "size" "I") (by decide +kernel)
  have inX2 : ∀ w ∈ wsX20, w ∈ wsX2_lettersInBag := by decide +kernel
  refine lv_iconst (v := 0) hx hb dX2_lettersInBag_0 (by decide) ?_
  refine lv_istore_n (lv' := [(2, .int 0), (0, .ref (a 0)), (1, .int x)]) hx hb dX2_lettersInBag_1 rfl hl (by decide) rfl (fun ls hl => ?_)
  refine lv_iconst (v := 0) hx hb dX2_lettersInBag_2 (by decide) ?_
  refine lv_istore_n (lv' := [(3, .int 0), (2, .int 0), (0, .ref (a 0)), (1, .int x)]) hx hb dX2_lettersInBag_3 rfl hl (by decide) rfl (fun ls hl => ?_)
  have K4 : ∀ (n4 i4 : Nat), 0 ≤ i4 → i4 ≤ iv (u 0 0) → iv (u 0 0) < i4 + n4 → ∀ (H : Heap) (locs : List Loc), va_P D vwCl (wMail cI a u) H → va_D A (wMail cI a u) → va_S A s.heap H locs → ∀ (ls : Array Slot), lv_has ls 4 [(3, .int (nI i4)), (2, .int (cntN (fun k => decide (inBag u k x)) i4)), (0, .ref (a 0)), (1, .int x)] → W p l e ({ frames := 1, cells := 0, slots := 0, locals := 22 } : Room) s m args below meth c H locs (0) (0) Q (F0 m 4 ls []) := by
    intro n4
    induction n4 with
    | zero => intro i4 hlo4 hi4 hn4; exact absurd hn4 (by omega)
    | succ n4 ih4 =>
      intro i4 hlo4 hi4 hn4 H locs hP hD hS ls hl
      refine lv_iload_n hx hb dX2_lettersInBag_4 rfl (lv_at hl 0 rfl) ?_
      refine lv_aload_n hx hb dX2_lettersInBag_5 rfl (lv_at hl 2 rfl) ?_
      refine va_get (D := D) (ci := 2) (v := .int (u 0 0)) (C := RX2) (T := TX2) (N := 8) hx hb hts inX2 hown hK hP 0 rfl rfl 0 (by decide) f9 (fun _ h9 => h9) rfl dX2_lettersInBag_6 ?_
      refine lv_icmp_ge (tgt := 30) hx hb dX2_lettersInBag_9 (by decide) (fun c1 => ?_) (fun c1 => ?_)
      · skip
        have hie := lp_out ok.n (by omega) hi4 c1
        refine lv_iload_n hx hb dX2_lettersInBag_30 rfl (lv_at hl 1 rfl) ?_
        exact fin _ _ _ _ _ _ _ _ (by rw [hie]; rfl) rfl hP hD hS (Nat.le_of_ble_eq_true rfl) (Nat.le_of_ble_eq_true rfl) dX2_lettersInBag_31
      · skip
        have hlt := lp_in ok.n (by omega) hi4 c1
        refine lv_aload_n hx hb dX2_lettersInBag_12 rfl (lv_at hl 2 rfl) ?_
        refine lv_iload_n hx hb dX2_lettersInBag_13 rfl (lv_at hl 0 rfl) ?_
        refine lv_iload_n hx hb dX2_lettersInBag_14 rfl (lv_at hl 3 rfl) ?_
        refine ycalli (invV (As := [.int (nI i4), .int x]) (rest := []) (rm := ({ frames := 0, cells := 0, slots := 0, locals := 0 } : Room)) ⟨hx, hb, hml, hown, hts⟩ (cwV 2 hts gX2_lettersInBag_X2_isInBag rfl rfl rfl (by decide +kernel) ⟨Nat.le_of_ble_eq_true rfl, Nat.le_of_ble_eq_true rfl⟩) (va_recv hK hP (ci := 2) (q0 := 0) rfl rfl) rfl rfl hl.1 (Nat.le_of_ble_eq_true rfl) dX2_lettersInBag_15) (c_X2_isInBag l D cI a u i4 (by omega) (nI i4) rfl x) hK hN hA hP hD hS (W2 := wMail cI a u) [0, 1, 2, 3, 4, 5, 6, 7] [] [0, 1, 2, 3, 4, 5, 6, 7] rfl rfl rfl (by decide) ⟨Nat.le_of_ble_eq_true rfl, Nat.le_of_ble_eq_true rfl⟩ (fun H locs hP hD hS => ?_)
        refine lv_if_eq (tgt := 24) hx hb dX2_lettersInBag_18 (by decide) (fun c2 => ?_) (fun c2 => ?_)
        · skip
          have c2 := b01t c2
          refine lv_iinc (v := nI (i4 + 1)) (lv' := [(3, .int (nI (i4 + 1))), (2, .int (cntN (fun k => decide (inBag u k x)) i4)), (0, .ref (a 0)), (1, .int x)]) hx hb dX2_lettersInBag_24 hl (k := 0) rfl (nI_inc _) (by decide) rfl (fun ls hl => ?_)
          refine lv_goto (tgt := 4) hx hb dX2_lettersInBag_27 (by decide) ?_
          exact ih4 (i4 + 1) (by omega) (by omega) (by omega) H locs hP hD hS ls (lv_sub hl [0, 1, 2, 3] (by first | (rw [cnt_t (decide_eq_true c2)]; rfl) | (rw [cnt_f (decide_eq_false c2)]; rfl)))
        · skip
          have c2 := b01f c2
          refine lv_iinc (v := (cntN (fun k => decide (inBag u k x)) i4) + 1) (lv' := [(2, .int ((cntN (fun k => decide (inBag u k x)) i4) + 1)), (3, .int (nI i4)), (0, .ref (a 0)), (1, .int x)]) hx hb dX2_lettersInBag_21 hl (k := 1) rfl rfl (by decide) rfl (fun ls hl => ?_)
          refine lv_iinc (v := nI (i4 + 1)) (lv' := [(3, .int (nI (i4 + 1))), (2, .int ((cntN (fun k => decide (inBag u k x)) i4) + 1)), (0, .ref (a 0)), (1, .int x)]) hx hb dX2_lettersInBag_24 hl (k := 1) rfl (nI_inc _) (by decide) rfl (fun ls hl => ?_)
          refine lv_goto (tgt := 4) hx hb dX2_lettersInBag_27 (by decide) ?_
          exact ih4 (i4 + 1) (by omega) (by omega) (by omega) H locs hP hD hS ls (lv_sub hl [0, 1, 2, 3] (by first | (rw [cnt_t (decide_eq_true c2)]; rfl) | (rw [cnt_f (decide_eq_false c2)]; rfl)))
  exact K4 (iv (u 0 0) + 1) 0 (Nat.le_refl _) (by omega) (by omega) _ _ hP hD hS ls (lv_sub hl [0, 1, 2, 3] rfl)
set_option maxHeartbeats 4000000 in
set_option maxRecDepth 100000 in
theorem c_X2_fullestHole (l : Launch) (D : va_G) (cI : ClassId) (a : Nat → Nat) (u : Rc) : CI l yX2_fullestHole wsX2_fullestHole ({ frames := 0, cells := 0, slots := 0, locals := 0 } : Room) D cI [.ref (a 0)] (wMail cI a u) (nI (fullN (u 7) 15)) (wMail cI a u) := by
  refine CI.mk (cc := cX2_fullestHole) (maxL := 3) (ret := (some .int)) rfl rfl (by decide) rfl (Nat.le_of_ble_eq_true rfl) ?_
  intro p e s m args below meth c A Q ls hx hb hts hown hml hK hN hA hP hD hS hl fin
  have hown : s.vm.findClass RX2 = some m.cls := hown
  have hl : lv_has ls 3 [(0, .ref (a 0))] := hl
  have f34 := hts (.fieldLink RX2 34 "NightSorters$Mail" "inHole" "[I") (by decide +kernel)
  have inX2 : ∀ w ∈ wsX20, w ∈ wsX2_fullestHole := by decide +kernel
  refine lv_iconst (v := 0) hx hb dX2_fullestHole_0 (by decide) ?_
  refine lv_istore_n (lv' := [(1, .int 0), (0, .ref (a 0))]) hx hb dX2_fullestHole_1 rfl hl (by decide) rfl (fun ls hl => ?_)
  refine lv_iconst (v := nI (0 + 1)) hx hb dX2_fullestHole_2 (by decide) ?_
  refine lv_istore_n (lv' := [(2, .int (nI (0 + 1))), (1, .int 0), (0, .ref (a 0))]) hx hb dX2_fullestHole_3 rfl hl (by decide) rfl (fun ls hl => ?_)
  have K4 : ∀ (n4 i4 : Nat), 0 ≤ i4 → i4 ≤ 15 → 15 < i4 + n4 → ∀ (H : Heap) (locs : List Loc), va_P D vwCl (wMail cI a u) H → va_D A (wMail cI a u) → va_S A s.heap H locs → ∀ (ls : Array Slot), lv_has ls 3 [(2, .int (nI (i4 + 1))), (1, .int (nI (fullN (u 7) i4))), (0, .ref (a 0))] → W p l e ({ frames := 0, cells := 0, slots := 0, locals := 0 } : Room) s m args below meth c H locs (0) (0) Q (F0 m 4 ls []) := by
    intro n4
    induction n4 with
    | zero => intro i4 hlo4 hi4 hn4; exact absurd hn4 (by omega)
    | succ n4 ih4 =>
      intro i4 hlo4 hi4 hn4 H locs hP hD hS ls hl
      refine lv_iload_n hx hb dX2_fullestHole_4 rfl (lv_at hl 0 rfl) ?_
      refine lv_bipush (v := 16) hx hb dX2_fullestHole_5 (by decide) ?_
      refine lv_icmp_ge (tgt := 33) hx hb dX2_fullestHole_7 (by decide) (fun c1 => ?_) (fun c1 => ?_)
      · skip
        have hie := lp_out (show (16 : Int32) = nI 16 from rfl) (by decide) (by omega) c1
        refine lv_iload_n hx hb dX2_fullestHole_33 rfl (lv_at hl 1 rfl) ?_
        exact fin _ _ _ _ _ _ _ _ (by rw [show i4 = 15 by omega]) rfl hP hD hS (Nat.le_of_ble_eq_true rfl) (Nat.le_of_ble_eq_true rfl) dX2_fullestHole_34
      · skip
        have hlt := lp_in (show (16 : Int32) = nI 16 from rfl) (by decide) (by omega) c1
        have hfl := fullN_le (u 7) i4
        refine lv_aload_n hx hb dX2_fullestHole_10 rfl (lv_at hl 2 rfl) ?_
        refine va_get (D := D) (ci := 2) (v := .ref (a 7)) (C := RX2) (T := TX2) (N := 8) hx hb hts inX2 hown hK hP 0 rfl rfl 7 (by decide) f34 (fun _ h9 => h9) rfl dX2_fullestHole_11 ?_
        refine lv_iload_n hx hb dX2_fullestHole_14 rfl (lv_at hl 0 rfl) ?_
        refine xald hx hb hK hP 7 rfl rfl ((i4 + 1)) (rfl) (by omega) (by decide) dX2_fullestHole_15 ?_
        refine lv_aload_n hx hb dX2_fullestHole_16 rfl (lv_at hl 2 rfl) ?_
        refine va_get (D := D) (ci := 2) (v := .ref (a 7)) (C := RX2) (T := TX2) (N := 8) hx hb hts inX2 hown hK hP 0 rfl rfl 7 (by decide) f34 (fun _ h9 => h9) rfl dX2_fullestHole_17 ?_
        refine lv_iload_n hx hb dX2_fullestHole_20 rfl (lv_at hl 1 rfl) ?_
        refine xald hx hb hK hP 7 rfl rfl ((fullN (u 7) i4)) (rfl) (by omega) (by decide) dX2_fullestHole_21 ?_
        refine lv_icmp_le (tgt := 27) hx hb dX2_fullestHole_22 (by decide) (fun c2 => ?_) (fun c2 => ?_)
        · skip
          refine lv_iinc (v := nI ((i4 + 1) + 1)) (lv' := [(2, .int (nI ((i4 + 1) + 1))), (1, .int (nI (fullN (u 7) i4))), (0, .ref (a 0))]) hx hb dX2_fullestHole_27 hl (k := 0) rfl (nI_inc _) (by decide) rfl (fun ls hl => ?_)
          refine lv_goto (tgt := 4) hx hb dX2_fullestHole_30 (by decide) ?_
          exact ih4 (i4 + 1) (by omega) (by omega) (by omega) H locs hP hD hS ls (lv_sub hl [0, 1, 2] (by first | (rw [fullN, if_pos c2]; rfl) | (rw [fullN, if_neg c2]; rfl)))
        · skip
          refine lv_iload_n hx hb dX2_fullestHole_25 rfl (lv_at hl 0 rfl) ?_
          refine lv_istore_n (lv' := [(1, .int (nI (i4 + 1))), (2, .int (nI (i4 + 1))), (0, .ref (a 0))]) hx hb dX2_fullestHole_26 rfl hl (by decide) rfl (fun ls hl => ?_)
          refine lv_iinc (v := nI ((i4 + 1) + 1)) (lv' := [(2, .int (nI ((i4 + 1) + 1))), (1, .int (nI (i4 + 1))), (0, .ref (a 0))]) hx hb dX2_fullestHole_27 hl (k := 1) rfl (nI_inc _) (by decide) rfl (fun ls hl => ?_)
          refine lv_goto (tgt := 4) hx hb dX2_fullestHole_30 (by decide) ?_
          exact ih4 (i4 + 1) (by omega) (by omega) (by omega) H locs hP hD hS ls (lv_sub hl [0, 1, 2] (by first | (rw [fullN, if_pos c2]; rfl) | (rw [fullN, if_neg c2]; rfl)))
  exact K4 (15 + 1) 0 (Nat.le_refl _) (by omega) (by omega) _ _ hP hD hS ls (lv_sub hl [0, 1, 2] rfl)
set_option maxHeartbeats 4000000 in
set_option maxRecDepth 100000 in
theorem c_X2_spillHole (l : Launch) (D : va_G) (cI : ClassId) (a : Nat → Nat) (u : Rc) (ok : Ok u) (x : Int32) : CV l yX2_spillHole wsX2_spillHole ({ frames := 1, cells := 0, slots := 0, locals := 23 } : Room) D cI [.ref (a 0), .int x] (wMail cI a u) (wMail cI a (spillF x u)) := by
  refine CV.mk (cc := cX2_spillHole) (maxL := 3) (by decide) rfl (Nat.le_of_ble_eq_true rfl) ?_
  intro p e s m args below meth c A Q ls hx hb hts hown hml hK hN hA hP hD hS hl fin
  have hown : s.vm.findClass RX2 = some m.cls := hown
  have hn60 := ok.n60
  have hl : lv_has ls 3 [(0, .ref (a 0)), (1, .int x)] := hl
  have f9 := hts (.fieldLink RX2 9 "NightSorters$Mail" "size" "I") (by decide +kernel)
  have f15 := hts (.fieldLink RX2 15 "NightSorters$Mail" "town" "[I") (by decide +kernel)
  have f22 := hts (.fieldLink RX2 22 "NightSorters$Mail" "place" "[I") (by decide +kernel)
  have inX2 : ∀ w ∈ wsX20, w ∈ wsX2_spillHole := by decide +kernel
  refine lv_iconst (v := 0) hx hb dX2_spillHole_0 (by decide) ?_
  refine lv_istore_n (lv' := [(2, .int 0), (0, .ref (a 0)), (1, .int x)]) hx hb dX2_spillHole_1 rfl hl (by decide) rfl (fun ls hl => ?_)
  have K2 : ∀ (n2 i2 : Nat), 0 ≤ i2 → i2 ≤ iv (u 0 0) → iv (u 0 0) < i2 + n2 → ∀ (H : Heap) (locs : List Loc), va_P D vwCl (wMail cI a (itN (spillB x) i2 u)) H → va_D A (wMail cI a (itN (spillB x) i2 u)) → va_S A s.heap H locs → ∀ (ls : Array Slot), lv_has ls 3 [(2, .int (nI i2)), (0, .ref (a 0)), (1, .int x)] → W p l e ({ frames := 1, cells := 0, slots := 0, locals := 23 } : Room) s m args below meth c H locs (0) (0) Q (F0 m 2 ls []) := by
    intro n2
    induction n2 with
    | zero => intro i2 hlo2 hi2 hn2; exact absurd hn2 (by omega)
    | succ n2 ih2 =>
      intro i2 hlo2 hi2 hn2 H locs hP hD hS ls hl
      obtain ⟨u1, eu1⟩ : ∃ z : Rc, z = itN (spillB x) i2 u := ⟨_, rfl⟩
      rw [← eu1] at hP hD
      have hp : Pr u u1 := by rw [eu1]; exact Pr.it (fun _ _ => spillB_pr) _
      have hb0 := hp.n ok
      have ok2 := hp.ok ok
      refine lv_iload_n hx hb dX2_spillHole_2 rfl (lv_at hl 0 rfl) ?_
      refine lv_aload_n hx hb dX2_spillHole_3 rfl (lv_at hl 1 rfl) ?_
      refine va_get (D := D) (ci := 2) (v := .int (u1 0 0)) (C := RX2) (T := TX2) (N := 8) hx hb hts inX2 hown hK hP 0 rfl rfl 0 (by decide) f9 (fun _ h9 => h9) rfl dX2_spillHole_4 ?_
      refine lv_icmp_ge (tgt := 42) hx hb dX2_spillHole_7 (by decide) (fun c2 => ?_) (fun c2 => ?_)
      · skip
        have hie := lp_out hb0 (by omega) hi2 c2
        have h3 : u1 = spillF x u := (by rw [eu1, hie]; rfl)
        exact fin _ _ _ _ _ _ _ (congrArg (fun z9 : Rc => wMail cI a z9) h3) hP hD hS (Nat.le_of_ble_eq_true rfl) (Nat.le_of_ble_eq_true rfl) dX2_spillHole_42
      · skip
        have hlt := lp_in hb0 (by omega) hi2 c2
        refine lv_aload_n hx hb dX2_spillHole_10 rfl (lv_at hl 1 rfl) ?_
        refine va_get (D := D) (ci := 2) (v := .ref (a 3)) (C := RX2) (T := TX2) (N := 8) hx hb hts inX2 hown hK hP 0 rfl rfl 3 (by decide) f22 (fun _ h9 => h9) rfl dX2_spillHole_11 ?_
        refine lv_iload_n hx hb dX2_spillHole_14 rfl (lv_at hl 0 rfl) ?_
        refine xald hx hb hK hP 3 rfl rfl (i2) (rfl) (by omega) (by decide) dX2_spillHole_15 ?_
        refine lv_iconst (v := 3) hx hb dX2_spillHole_16 (by decide) ?_
        refine lv_icmp_ne (tgt := 36) hx hb dX2_spillHole_17 (by decide) (fun c4 => ?_) (fun c4 => ?_)
        · skip
          refine lv_iinc (v := nI (i2 + 1)) (lv' := [(2, .int (nI (i2 + 1))), (0, .ref (a 0)), (1, .int x)]) hx hb dX2_spillHole_36 hl (k := 0) rfl (nI_inc _) (by decide) rfl (fun ls hl => ?_)
          refine lv_goto (tgt := 2) hx hb dX2_spillHole_39 (by decide) ?_
          have h5 : u1 = itN (spillB x) (i2 + 1) u := by rw [itN_s, ← eu1]; simp only [spillB, opt, c2, c4, ↓reduceIte, not_false_eq_true, not_true_eq_false, and_true, true_and, and_false, false_and, or_true, true_or, or_false, false_or, and_self, or_self]
          rw [h5] at hP hD
          exact ih2 (i2 + 1) (by omega) (by omega) (by omega) H locs hP hD hS ls (lv_sub hl [0, 1, 2] rfl)
        · skip
          refine lv_aload_n hx hb dX2_spillHole_20 rfl (lv_at hl 1 rfl) ?_
          refine va_get (D := D) (ci := 2) (v := .ref (a 1)) (C := RX2) (T := TX2) (N := 8) hx hb hts inX2 hown hK hP 0 rfl rfl 1 (by decide) f15 (fun _ h9 => h9) rfl dX2_spillHole_21 ?_
          refine lv_iload_n hx hb dX2_spillHole_24 rfl (lv_at hl 0 rfl) ?_
          refine xald hx hb hK hP 1 rfl rfl (i2) (rfl) (by omega) (by decide) dX2_spillHole_25 ?_
          refine lv_iload_n hx hb dX2_spillHole_26 rfl (lv_at hl 2 rfl) ?_
          refine lv_icmp_ne (tgt := 36) hx hb dX2_spillHole_27 (by decide) (fun c6 => ?_) (fun c6 => ?_)
          · skip
            refine lv_iinc (v := nI (i2 + 1)) (lv' := [(2, .int (nI (i2 + 1))), (0, .ref (a 0)), (1, .int x)]) hx hb dX2_spillHole_36 hl (k := 0) rfl (nI_inc _) (by decide) rfl (fun ls hl => ?_)
            refine lv_goto (tgt := 2) hx hb dX2_spillHole_39 (by decide) ?_
            have h7 : u1 = itN (spillB x) (i2 + 1) u := by rw [itN_s, ← eu1]; simp only [spillB, opt, c2, c4, c6, ↓reduceIte, not_false_eq_true, not_true_eq_false, and_true, true_and, and_false, false_and, or_true, true_or, or_false, false_or, and_self, or_self]
            rw [h7] at hP hD
            exact ih2 (i2 + 1) (by omega) (by omega) (by omega) H locs hP hD hS ls (lv_sub hl [0, 1, 2] rfl)
          · skip
            refine lv_aload_n hx hb dX2_spillHole_30 rfl (lv_at hl 1 rfl) ?_
            refine lv_iload_n hx hb dX2_spillHole_31 rfl (lv_at hl 0 rfl) ?_
            refine lv_iconst (v := 1) hx hb dX2_spillHole_32 (by decide) ?_
            obtain ⟨u8, eu8⟩ : ∃ z0 : Rc, z0 = mvF u1 i2 1 := ⟨_, rfl⟩
            refine ycallv (invV (As := [.int (nI i2), .int 1]) (rest := []) (rm := ({ frames := 0, cells := 0, slots := 0, locals := 0 } : Room)) ⟨hx, hb, hml, hown, hts⟩ (cwV 2 hts gX2_spillHole_X2_move rfl rfl rfl (by decide +kernel) ⟨Nat.le_of_ble_eq_true rfl, Nat.le_of_ble_eq_true rfl⟩) (va_recv hK hP (ci := 2) (q0 := 0) rfl rfl) rfl rfl hl.1 (Nat.le_of_ble_eq_true rfl) dX2_spillHole_33) (c_X2_move l D cI a u1 ok2 i2 (by omega) (nI i2) rfl 1 (vp_lit (by decide))) hK hN hA hP hD hS (W2 := wMail cI a u8) [0, 1, 2, 3, 4, 5, 6, 7] [] [0, 1, 2, 3, 4, 5, 6, 7] rfl rfl (by subst eu8; rfl) (by decide) ⟨Nat.le_of_ble_eq_true rfl, Nat.le_of_ble_eq_true rfl⟩ (fun H locs hP hD hS => ?_)
            refine lv_iinc (v := nI (i2 + 1)) (lv' := [(2, .int (nI (i2 + 1))), (0, .ref (a 0)), (1, .int x)]) hx hb dX2_spillHole_36 hl (k := 0) rfl (nI_inc _) (by decide) rfl (fun ls hl => ?_)
            refine lv_goto (tgt := 2) hx hb dX2_spillHole_39 (by decide) ?_
            have h9 : u8 = itN (spillB x) (i2 + 1) u := by rw [itN_s, ← eu1]; (try subst eu8); simp only [spillB, opt, c2, c4, c6, ↓reduceIte, not_false_eq_true, not_true_eq_false, and_true, true_and, and_false, false_and, or_true, true_or, or_false, false_or, and_self, or_self]
            rw [h9] at hP hD
            exact ih2 (i2 + 1) (by omega) (by omega) (by omega) H locs hP hD hS ls (lv_sub hl [0, 1, 2] rfl)
  exact K2 (iv (u 0 0) + 1) 0 (Nat.le_refl _) (by omega) (by omega) _ _ hP hD hS ls (lv_sub hl [0, 1, 2] rfl)
set_option maxHeartbeats 4000000 in
set_option maxRecDepth 100000 in
theorem c_X2_copyFrom (l : Launch) (D : va_G) (cI : ClassId) (a b : Nat → Nat) (u v : Rc) : CV l yX2_copyFrom wsX2_copyFrom ({ frames := 1, cells := 0, slots := 0, locals := 60 } : Room) D cI [.ref (a 0), .ref (b 0)] (wMail2 cI a b u v) (wMail2 cI a b v v) := by
  refine CV.mk (cc := cX2_copyFrom) (maxL := 2) (by decide) rfl (Nat.le_of_ble_eq_true rfl) ?_
  intro p e s m args below meth c A Q ls hx hb hts hown hml hK hN hA hP hD hS hl fin
  have hown : s.vm.findClass RX2 = some m.cls := hown
  have hl : lv_has ls 2 [(0, .ref (a 0)), (1, .ref (b 0))] := hl
  have f9 := hts (.fieldLink RX2 9 "NightSorters$Mail" "size" "I") (by decide +kernel)
  have f15 := hts (.fieldLink RX2 15 "NightSorters$Mail" "town" "[I") (by decide +kernel)
  have f19 := hts (.fieldLink RX2 19 "NightSorters$Mail" "postedAt" "[I") (by decide +kernel)
  have f22 := hts (.fieldLink RX2 22 "NightSorters$Mail" "place" "[I") (by decide +kernel)
  have f25 := hts (.fieldLink RX2 25 "NightSorters$Mail" "holder" "[I") (by decide +kernel)
  have f28 := hts (.fieldLink RX2 28 "NightSorters$Mail" "endMinute" "[I") (by decide +kernel)
  have f31 := hts (.fieldLink RX2 31 "NightSorters$Mail" "inPlace" "[I") (by decide +kernel)
  have f34 := hts (.fieldLink RX2 34 "NightSorters$Mail" "inHole" "[I") (by decide +kernel)
  have inX2 : ∀ w ∈ wsX20, w ∈ wsX2_copyFrom := by decide +kernel
  refine lv_aload_n hx hb dX2_copyFrom_0 rfl (lv_at hl 0 rfl) ?_
  refine lv_aload_n hx hb dX2_copyFrom_1 rfl (lv_at hl 1 rfl) ?_
  refine va_get (D := D) (ci := 2) (v := .int (v 0 0)) (C := RX2) (T := TX2) (N := 8) hx hb hts inX2 hown hK hP 8 rfl rfl 0 (by decide) f9 (fun _ h9 => h9) rfl dX2_copyFrom_2 ?_
  obtain ⟨u1, eu1⟩ : ∃ z0 : Rc, z0 = put u 0 0 (v 0 0) := ⟨_, rfl⟩
  refine va_put (D := D) (ci := 2) (v := .int (v 0 0)) (ty := .int) (C := RX2) (T := TX2) (N := 8) hx hb hts inX2 tyX2 tyX2_ok nmX2 hown hK hP hD hS 0 rfl rfl 0 (by decide) f9 (fun _ h9 => h9) rfl (by decide +kernel) rfl rfl (Nat.le_of_ble_eq_true rfl) dX2_copyFrom_5 (fun H locs hP hD hS => ?_)
  have hP : va_P D vwCl (wMail2 cI a b u1 v) H := by subst eu1; exact hP
  have hD : va_D A (wMail2 cI a b u1 v) := by subst eu1; exact hD
  refine lv_aload_n hx hb dX2_copyFrom_8 rfl (lv_at hl 1 rfl) ?_
  refine va_get (D := D) (ci := 2) (v := .ref (b 1)) (C := RX2) (T := TX2) (N := 8) hx hb hts inX2 hown hK hP 8 rfl rfl 1 (by decide) f15 (fun _ h9 => h9) rfl dX2_copyFrom_9 ?_
  refine lv_iconst (v := 0) hx hb dX2_copyFrom_12 (by decide) ?_
  refine lv_aload_n hx hb dX2_copyFrom_13 rfl (lv_at hl 0 rfl) ?_
  refine va_get (D := D) (ci := 2) (v := .ref (a 1)) (C := RX2) (T := TX2) (N := 8) hx hb hts inX2 hown hK hP 0 rfl rfl 1 (by decide) f15 (fun _ h9 => h9) rfl dX2_copyFrom_14 ?_
  refine lv_iconst (v := 0) hx hb dX2_copyFrom_17 (by decide) ?_
  refine lv_bipush (v := 60) hx hb dX2_copyFrom_18 (by decide) ?_
  obtain ⟨u2, eu2⟩ : ∃ z0 : Rc, z0 = setR u1 1 (v 1) := ⟨_, rfl⟩
  refine xcopy hx hb (hml.trans hl.1.symm) hown (hts (.methodLink RX2 48 arraycopyName) (by decide +kernel)) (hts (.native arraycopyName) (by decide +kernel)) (hts (.static arraycopyName) (by decide +kernel)) (hts (.initialized "java/lang/System") (by decide +kernel)) hK hP hD hS 9 1 rfl rfl rfl (wMail2 cI a b u2 v) (by subst eu2; rfl) (by decide) (by decide) (Nat.le_of_ble_eq_true rfl) (Nat.le_of_ble_eq_true rfl) dX2_copyFrom_20 (fun H locs hP hD hS => ?_)
  refine lv_aload_n hx hb dX2_copyFrom_23 rfl (lv_at hl 1 rfl) ?_
  refine va_get (D := D) (ci := 2) (v := .ref (b 2)) (C := RX2) (T := TX2) (N := 8) hx hb hts inX2 hown hK hP 8 rfl rfl 2 (by decide) f19 (fun _ h9 => h9) rfl dX2_copyFrom_24 ?_
  refine lv_iconst (v := 0) hx hb dX2_copyFrom_27 (by decide) ?_
  refine lv_aload_n hx hb dX2_copyFrom_28 rfl (lv_at hl 0 rfl) ?_
  refine va_get (D := D) (ci := 2) (v := .ref (a 2)) (C := RX2) (T := TX2) (N := 8) hx hb hts inX2 hown hK hP 0 rfl rfl 2 (by decide) f19 (fun _ h9 => h9) rfl dX2_copyFrom_29 ?_
  refine lv_iconst (v := 0) hx hb dX2_copyFrom_32 (by decide) ?_
  refine lv_bipush (v := 60) hx hb dX2_copyFrom_33 (by decide) ?_
  obtain ⟨u3, eu3⟩ : ∃ z0 : Rc, z0 = setR u2 2 (v 2) := ⟨_, rfl⟩
  refine xcopy hx hb (hml.trans hl.1.symm) hown (hts (.methodLink RX2 48 arraycopyName) (by decide +kernel)) (hts (.native arraycopyName) (by decide +kernel)) (hts (.static arraycopyName) (by decide +kernel)) (hts (.initialized "java/lang/System") (by decide +kernel)) hK hP hD hS 10 2 rfl rfl rfl (wMail2 cI a b u3 v) (by subst eu3; rfl) (by decide) (by decide) (Nat.le_of_ble_eq_true rfl) (Nat.le_of_ble_eq_true rfl) dX2_copyFrom_35 (fun H locs hP hD hS => ?_)
  refine lv_aload_n hx hb dX2_copyFrom_38 rfl (lv_at hl 1 rfl) ?_
  refine va_get (D := D) (ci := 2) (v := .ref (b 3)) (C := RX2) (T := TX2) (N := 8) hx hb hts inX2 hown hK hP 8 rfl rfl 3 (by decide) f22 (fun _ h9 => h9) rfl dX2_copyFrom_39 ?_
  refine lv_iconst (v := 0) hx hb dX2_copyFrom_42 (by decide) ?_
  refine lv_aload_n hx hb dX2_copyFrom_43 rfl (lv_at hl 0 rfl) ?_
  refine va_get (D := D) (ci := 2) (v := .ref (a 3)) (C := RX2) (T := TX2) (N := 8) hx hb hts inX2 hown hK hP 0 rfl rfl 3 (by decide) f22 (fun _ h9 => h9) rfl dX2_copyFrom_44 ?_
  refine lv_iconst (v := 0) hx hb dX2_copyFrom_47 (by decide) ?_
  refine lv_bipush (v := 60) hx hb dX2_copyFrom_48 (by decide) ?_
  obtain ⟨u4, eu4⟩ : ∃ z0 : Rc, z0 = setR u3 3 (v 3) := ⟨_, rfl⟩
  refine xcopy hx hb (hml.trans hl.1.symm) hown (hts (.methodLink RX2 48 arraycopyName) (by decide +kernel)) (hts (.native arraycopyName) (by decide +kernel)) (hts (.static arraycopyName) (by decide +kernel)) (hts (.initialized "java/lang/System") (by decide +kernel)) hK hP hD hS 11 3 rfl rfl rfl (wMail2 cI a b u4 v) (by subst eu4; rfl) (by decide) (by decide) (Nat.le_of_ble_eq_true rfl) (Nat.le_of_ble_eq_true rfl) dX2_copyFrom_50 (fun H locs hP hD hS => ?_)
  refine lv_aload_n hx hb dX2_copyFrom_53 rfl (lv_at hl 1 rfl) ?_
  refine va_get (D := D) (ci := 2) (v := .ref (b 4)) (C := RX2) (T := TX2) (N := 8) hx hb hts inX2 hown hK hP 8 rfl rfl 4 (by decide) f25 (fun _ h9 => h9) rfl dX2_copyFrom_54 ?_
  refine lv_iconst (v := 0) hx hb dX2_copyFrom_57 (by decide) ?_
  refine lv_aload_n hx hb dX2_copyFrom_58 rfl (lv_at hl 0 rfl) ?_
  refine va_get (D := D) (ci := 2) (v := .ref (a 4)) (C := RX2) (T := TX2) (N := 8) hx hb hts inX2 hown hK hP 0 rfl rfl 4 (by decide) f25 (fun _ h9 => h9) rfl dX2_copyFrom_59 ?_
  refine lv_iconst (v := 0) hx hb dX2_copyFrom_62 (by decide) ?_
  refine lv_bipush (v := 60) hx hb dX2_copyFrom_63 (by decide) ?_
  obtain ⟨u5, eu5⟩ : ∃ z0 : Rc, z0 = setR u4 4 (v 4) := ⟨_, rfl⟩
  refine xcopy hx hb (hml.trans hl.1.symm) hown (hts (.methodLink RX2 48 arraycopyName) (by decide +kernel)) (hts (.native arraycopyName) (by decide +kernel)) (hts (.static arraycopyName) (by decide +kernel)) (hts (.initialized "java/lang/System") (by decide +kernel)) hK hP hD hS 12 4 rfl rfl rfl (wMail2 cI a b u5 v) (by subst eu5; rfl) (by decide) (by decide) (Nat.le_of_ble_eq_true rfl) (Nat.le_of_ble_eq_true rfl) dX2_copyFrom_65 (fun H locs hP hD hS => ?_)
  refine lv_aload_n hx hb dX2_copyFrom_68 rfl (lv_at hl 1 rfl) ?_
  refine va_get (D := D) (ci := 2) (v := .ref (b 5)) (C := RX2) (T := TX2) (N := 8) hx hb hts inX2 hown hK hP 8 rfl rfl 5 (by decide) f28 (fun _ h9 => h9) rfl dX2_copyFrom_69 ?_
  refine lv_iconst (v := 0) hx hb dX2_copyFrom_72 (by decide) ?_
  refine lv_aload_n hx hb dX2_copyFrom_73 rfl (lv_at hl 0 rfl) ?_
  refine va_get (D := D) (ci := 2) (v := .ref (a 5)) (C := RX2) (T := TX2) (N := 8) hx hb hts inX2 hown hK hP 0 rfl rfl 5 (by decide) f28 (fun _ h9 => h9) rfl dX2_copyFrom_74 ?_
  refine lv_iconst (v := 0) hx hb dX2_copyFrom_77 (by decide) ?_
  refine lv_bipush (v := 60) hx hb dX2_copyFrom_78 (by decide) ?_
  obtain ⟨u6, eu6⟩ : ∃ z0 : Rc, z0 = setR u5 5 (v 5) := ⟨_, rfl⟩
  refine xcopy hx hb (hml.trans hl.1.symm) hown (hts (.methodLink RX2 48 arraycopyName) (by decide +kernel)) (hts (.native arraycopyName) (by decide +kernel)) (hts (.static arraycopyName) (by decide +kernel)) (hts (.initialized "java/lang/System") (by decide +kernel)) hK hP hD hS 13 5 rfl rfl rfl (wMail2 cI a b u6 v) (by subst eu6; rfl) (by decide) (by decide) (Nat.le_of_ble_eq_true rfl) (Nat.le_of_ble_eq_true rfl) dX2_copyFrom_80 (fun H locs hP hD hS => ?_)
  refine lv_aload_n hx hb dX2_copyFrom_83 rfl (lv_at hl 1 rfl) ?_
  refine va_get (D := D) (ci := 2) (v := .ref (b 6)) (C := RX2) (T := TX2) (N := 8) hx hb hts inX2 hown hK hP 8 rfl rfl 6 (by decide) f31 (fun _ h9 => h9) rfl dX2_copyFrom_84 ?_
  refine lv_iconst (v := 0) hx hb dX2_copyFrom_87 (by decide) ?_
  refine lv_aload_n hx hb dX2_copyFrom_88 rfl (lv_at hl 0 rfl) ?_
  refine va_get (D := D) (ci := 2) (v := .ref (a 6)) (C := RX2) (T := TX2) (N := 8) hx hb hts inX2 hown hK hP 0 rfl rfl 6 (by decide) f31 (fun _ h9 => h9) rfl dX2_copyFrom_89 ?_
  refine lv_iconst (v := 0) hx hb dX2_copyFrom_92 (by decide) ?_
  refine lv_bipush (v := 6) hx hb dX2_copyFrom_93 (by decide) ?_
  obtain ⟨u7, eu7⟩ : ∃ z0 : Rc, z0 = setR u6 6 (v 6) := ⟨_, rfl⟩
  refine xcopy hx hb (hml.trans hl.1.symm) hown (hts (.methodLink RX2 48 arraycopyName) (by decide +kernel)) (hts (.native arraycopyName) (by decide +kernel)) (hts (.static arraycopyName) (by decide +kernel)) (hts (.initialized "java/lang/System") (by decide +kernel)) hK hP hD hS 14 6 rfl rfl rfl (wMail2 cI a b u7 v) (by subst eu7; rfl) (by decide) (by decide) (Nat.le_of_ble_eq_true rfl) (Nat.le_of_ble_eq_true rfl) dX2_copyFrom_95 (fun H locs hP hD hS => ?_)
  refine lv_aload_n hx hb dX2_copyFrom_98 rfl (lv_at hl 1 rfl) ?_
  refine va_get (D := D) (ci := 2) (v := .ref (b 7)) (C := RX2) (T := TX2) (N := 8) hx hb hts inX2 hown hK hP 8 rfl rfl 7 (by decide) f34 (fun _ h9 => h9) rfl dX2_copyFrom_99 ?_
  refine lv_iconst (v := 0) hx hb dX2_copyFrom_102 (by decide) ?_
  refine lv_aload_n hx hb dX2_copyFrom_103 rfl (lv_at hl 0 rfl) ?_
  refine va_get (D := D) (ci := 2) (v := .ref (a 7)) (C := RX2) (T := TX2) (N := 8) hx hb hts inX2 hown hK hP 0 rfl rfl 7 (by decide) f34 (fun _ h9 => h9) rfl dX2_copyFrom_104 ?_
  refine lv_iconst (v := 0) hx hb dX2_copyFrom_107 (by decide) ?_
  refine lv_bipush (v := 16) hx hb dX2_copyFrom_108 (by decide) ?_
  obtain ⟨u8, eu8⟩ : ∃ z0 : Rc, z0 = setR u7 7 (v 7) := ⟨_, rfl⟩
  refine xcopy hx hb (hml.trans hl.1.symm) hown (hts (.methodLink RX2 48 arraycopyName) (by decide +kernel)) (hts (.native arraycopyName) (by decide +kernel)) (hts (.static arraycopyName) (by decide +kernel)) (hts (.initialized "java/lang/System") (by decide +kernel)) hK hP hD hS 15 7 rfl rfl rfl (wMail2 cI a b u8 v) (by subst eu8; rfl) (by decide) (by decide) (Nat.le_of_ble_eq_true rfl) (Nat.le_of_ble_eq_true rfl) dX2_copyFrom_110 (fun H locs hP hD hS => ?_)
  exact fin _ _ _ _ _ _ _ (by (try subst eu8); (try subst eu7); (try subst eu6); (try subst eu5); (try subst eu4); (try subst eu3); (try subst eu2); (try subst eu1); rfl) hP hD hS (Nat.le_of_ble_eq_true rfl) (Nat.le_of_ble_eq_true rfl) dX2_copyFrom_113
