/-! the reference's methods -/
set_option maxHeartbeats 4000000 in
set_option maxRecDepth 100000 in
theorem c_X6_thrown (l : Launch) (D : va_G) (cI : ClassId) (h b d : Nat → Nat) (n q w0 : Rc) : CI l yX6_thrown wsX6_thrown ({ frames := 0, cells := 0, slots := 0, locals := 0 } : Room) D cI [.ref (h 0)] (wMo cI h b d n q w0) (n 31 0) (wMo cI h b d n q w0) := by
  refine CI.mk (cc := cX6_thrown) (maxL := 1) (ret := (some .int)) rfl rfl (by decide) rfl (Nat.le_of_ble_eq_true rfl) ?_
  intro p e s m args below meth c A Q ls hx hb hts hown hml hK hN hA hP hD hS hl fin
  have hown : s.vm.findClass RX6 = some m.cls := hown
  have hl : lv_has ls 1 [(0, .ref (h 0))] := hl
  have f37 := hts (.fieldLink RX6 37 "NightSortersModel" "thrown" "I") (by decide +kernel)
  have inX6 : ∀ w ∈ wsX60, w ∈ wsX6_thrown := by decide +kernel
  refine lv_aload_n hx hb dX6_thrown_0 rfl (lv_at hl 0 rfl) ?_
  refine va_get (D := D) (ci := 6) (v := .int (n 31 0)) (C := RX6) (T := TX6) (N := 10) hx hb hts inX6 hown hK hP 0 rfl rfl 0 (by decide) f37 (fun _ h9 => h9) rfl dX6_thrown_1 ?_
  exact fin _ _ _ _ _ _ _ _ rfl rfl hP hD hS (Nat.le_of_ble_eq_true rfl) (Nat.le_of_ble_eq_true rfl) dX6_thrown_4

set_option maxHeartbeats 4000000 in
set_option maxRecDepth 100000 in
theorem c_X6_no (l : Launch) (D : va_G) (cI : ClassId) (h b d : Nat → Nat) (n q w0 : Rc) (x : Int32) : CI l yX6_no wsX6_no ({ frames := 0, cells := 0, slots := 0, locals := 0 } : Room) D cI [.ref (h 0), .int x] (wMo cI h b d n q w0) 0 (wMo cI h b d (put n 31 0 x) q w0) := by
  refine CI.mk (cc := cX6_no) (maxL := 2) (ret := (some .int)) rfl rfl (by decide) rfl (Nat.le_of_ble_eq_true rfl) ?_
  intro p e s m args below meth c A Q ls hx hb hts hown hml hK hN hA hP hD hS hl fin
  have hown : s.vm.findClass RX6 = some m.cls := hown
  have hl : lv_has ls 2 [(0, .ref (h 0)), (1, .int x)] := hl
  have f37 := hts (.fieldLink RX6 37 "NightSortersModel" "thrown" "I") (by decide +kernel)
  have inX6 : ∀ w ∈ wsX60, w ∈ wsX6_no := by decide +kernel
  refine lv_aload_n hx hb dX6_no_0 rfl (lv_at hl 0 rfl) ?_
  refine lv_iload_n hx hb dX6_no_1 rfl (lv_at hl 1 rfl) ?_
  obtain ⟨u1, eu1⟩ : ∃ z0 : Rc, z0 = put n 31 0 x := ⟨_, rfl⟩
  refine va_put (D := D) (ci := 6) (v := .int x) (ty := .int) (C := RX6) (T := TX6) (N := 10) hx hb hts inX6 tyX6 tyX6_ok nmX6 hown hK hP hD hS 0 rfl rfl 0 (by decide) f37 (fun _ h9 => h9) rfl (by decide +kernel) rfl rfl (Nat.le_of_ble_eq_true rfl) dX6_no_2 (fun H locs hP hD hS => ?_)
  have hP : va_P D vwCl (wMo cI h b d u1 q w0) H := by subst eu1; exact hP
  have hD : va_D A (wMo cI h b d u1 q w0) := by subst eu1; exact hD
  refine lv_iconst (v := 0) hx hb dX6_no_5 (by decide) ?_
  have h2 : u1 = put n 31 0 x := (by (try subst eu1); rfl)
  exact fin _ _ _ _ _ _ _ _ rfl (congrArg (fun z9 : Rc => wMo cI h b d z9 q w0) h2) hP hD hS (Nat.le_of_ble_eq_true rfl) (Nat.le_of_ble_eq_true rfl) dX6_no_6

set_option maxHeartbeats 4000000 in
set_option maxRecDepth 100000 in
theorem c_X6_isIn (l : Launch) (D : va_G) (cI : ClassId) (x y z : Int32) : CI l yX6_isIn wsX6_isIn ({ frames := 0, cells := 0, slots := 0, locals := 0 } : Room) D cI [.int x, .int y, .int z] (w0 cI) (if ¬ x < y ∧ ¬ z < x then 1 else 0) (w0 cI) := by
  refine CI.mk (cc := cX6_isIn) (maxL := 3) (ret := (some .boolean)) rfl (by split <;> rfl) (by decide) rfl (Nat.le_of_ble_eq_true rfl) ?_
  intro p e s m args below meth c A Q ls hx hb hts hown hml hK hN hA hP hD hS hl fin
  have hown : s.vm.findClass RX6 = some m.cls := hown
  have hl : lv_has ls 3 [(0, .int x), (1, .int y), (2, .int z)] := hl
  refine lv_iload_n hx hb dX6_isIn_0 rfl (lv_at hl 0 rfl) ?_
  refine lv_iload_n hx hb dX6_isIn_1 rfl (lv_at hl 1 rfl) ?_
  refine lv_icmp_lt (tgt := 14) hx hb dX6_isIn_2 (by decide) (fun c1 => ?_) (fun c1 => ?_)
  · skip
    refine lv_iconst (v := 0) hx hb dX6_isIn_14 (by decide) ?_
    exact fin _ _ _ _ _ _ _ _ (by  simp only [and_true, c1, ↓reduceIte, not_false_eq_true, not_true_eq_false, and_true, true_and, and_false, false_and, or_true, true_or, or_false, false_or, and_self, or_self]) rfl hP hD hS (Nat.le_of_ble_eq_true rfl) (Nat.le_of_ble_eq_true rfl) dX6_isIn_15
  · skip
    refine lv_iload_n hx hb dX6_isIn_5 rfl (lv_at hl 0 rfl) ?_
    refine lv_iload_n hx hb dX6_isIn_6 rfl (lv_at hl 2 rfl) ?_
    refine lv_icmp_gt (tgt := 14) hx hb dX6_isIn_7 (by decide) (fun c2 => ?_) (fun c2 => ?_)
    · skip
      refine lv_iconst (v := 0) hx hb dX6_isIn_14 (by decide) ?_
      exact fin _ _ _ _ _ _ _ _ (by  simp only [and_true, c1, c2, ↓reduceIte, not_false_eq_true, not_true_eq_false, and_true, true_and, and_false, false_and, or_true, true_or, or_false, false_or, and_self, or_self]) rfl hP hD hS (Nat.le_of_ble_eq_true rfl) (Nat.le_of_ble_eq_true rfl) dX6_isIn_15
    · skip
      refine lv_iconst (v := 1) hx hb dX6_isIn_10 (by decide) ?_
      refine lv_goto (tgt := 15) hx hb dX6_isIn_11 (by decide) ?_
      exact fin _ _ _ _ _ _ _ _ (by  simp only [and_true, c1, c2, ↓reduceIte, not_false_eq_true, not_true_eq_false, and_true, true_and, and_false, false_and, or_true, true_or, or_false, false_or, and_self, or_self]) rfl hP hD hS (Nat.le_of_ble_eq_true rfl) (Nat.le_of_ble_eq_true rfl) dX6_isIn_15

set_option maxHeartbeats 4000000 in
set_option maxRecDepth 100000 in
theorem c_X6_isStation (l : Launch) (D : va_G) (cI : ClassId) (x : Int32) : CI l yX6_isStation wsX6_isStation ({ frames := 1, cells := 0, slots := 0, locals := 22 } : Room) D cI [.int x] (w0 cI) (if ¬ x < 0 ∧ ¬ 7 < x then 1 else 0) (w0 cI) := by
  refine CI.mk (cc := cX6_isStation) (maxL := 1) (ret := (some .boolean)) rfl (by split <;> rfl) (by decide) rfl (Nat.le_of_ble_eq_true rfl) ?_
  intro p e s m args below meth c A Q ls hx hb hts hown hml hK hN hA hP hD hS hl fin
  have hown : s.vm.findClass RX6 = some m.cls := hown
  have hl : lv_has ls 1 [(0, .int x)] := hl
  refine lv_iload_n hx hb dX6_isStation_0 rfl (lv_at hl 0 rfl) ?_
  refine lv_iconst (v := 0) hx hb dX6_isStation_1 (by decide) ?_
  refine lv_bipush (v := 7) hx hb dX6_isStation_2 (by decide) ?_
  refine ycalli (invS (As := [.int x, .int 0, .int 7]) (rest := []) (rm := ({ frames := 0, cells := 0, slots := 0, locals := 0 } : Room)) ⟨hx, hb, hml, hown, hts⟩ (va_cwS 3 hts gX6_isStation_X6_isIn rfl rfl rfl (by decide +kernel) ⟨Nat.le_of_ble_eq_true rfl, Nat.le_of_ble_eq_true rfl⟩) rfl rfl hl.1 (Nat.le_of_ble_eq_true rfl) dX6_isStation_4) (c_X6_isIn l D cI (x) (0) (7)) hK hN hA hP hD hS (W2 := w0 cI) [] [] [] rfl rfl rfl (by decide) ⟨Nat.le_of_ble_eq_true rfl, Nat.le_of_ble_eq_true rfl⟩ (fun H locs hP hD hS => ?_)
  exact fin _ _ _ _ _ _ _ _ rfl rfl hP hD hS (Nat.le_of_ble_eq_true rfl) (Nat.le_of_ble_eq_true rfl) dX6_isStation_7

set_option maxHeartbeats 4000000 in
set_option maxRecDepth 100000 in
theorem c_X6_isTown (l : Launch) (D : va_G) (cI : ClassId) (x : Int32) : CI l yX6_isTown wsX6_isTown ({ frames := 1, cells := 0, slots := 0, locals := 22 } : Room) D cI [.int x] (w0 cI) (if ¬ x < 0 ∧ ¬ 15 < x then 1 else 0) (w0 cI) := by
  refine CI.mk (cc := cX6_isTown) (maxL := 1) (ret := (some .boolean)) rfl (by split <;> rfl) (by decide) rfl (Nat.le_of_ble_eq_true rfl) ?_
  intro p e s m args below meth c A Q ls hx hb hts hown hml hK hN hA hP hD hS hl fin
  have hown : s.vm.findClass RX6 = some m.cls := hown
  have hl : lv_has ls 1 [(0, .int x)] := hl
  refine lv_iload_n hx hb dX6_isTown_0 rfl (lv_at hl 0 rfl) ?_
  refine lv_iconst (v := 0) hx hb dX6_isTown_1 (by decide) ?_
  refine lv_bipush (v := 15) hx hb dX6_isTown_2 (by decide) ?_
  refine ycalli (invS (As := [.int x, .int 0, .int 15]) (rest := []) (rm := ({ frames := 0, cells := 0, slots := 0, locals := 0 } : Room)) ⟨hx, hb, hml, hown, hts⟩ (va_cwS 3 hts gX6_isTown_X6_isIn rfl rfl rfl (by decide +kernel) ⟨Nat.le_of_ble_eq_true rfl, Nat.le_of_ble_eq_true rfl⟩) rfl rfl hl.1 (Nat.le_of_ble_eq_true rfl) dX6_isTown_4) (c_X6_isIn l D cI (x) (0) (15)) hK hN hA hP hD hS (W2 := w0 cI) [] [] [] rfl rfl rfl (by decide) ⟨Nat.le_of_ble_eq_true rfl, Nat.le_of_ble_eq_true rfl⟩ (fun H locs hP hD hS => ?_)
  exact fin _ _ _ _ _ _ _ _ rfl rfl hP hD hS (Nat.le_of_ble_eq_true rfl) (Nat.le_of_ble_eq_true rfl) dX6_isTown_7

set_option maxHeartbeats 4000000 in
set_option maxRecDepth 100000 in
theorem c_X6_isSet (l : Launch) (D : va_G) (cI : ClassId) (x : Int32) : CI l yX6_isSet wsX6_isSet ({ frames := 1, cells := 0, slots := 0, locals := 22 } : Room) D cI [.int x] (w0 cI) (if ¬ x < 0 ∧ ¬ 65535 < x then 1 else 0) (w0 cI) := by
  refine CI.mk (cc := cX6_isSet) (maxL := 1) (ret := (some .boolean)) rfl (by split <;> rfl) (by decide) rfl (Nat.le_of_ble_eq_true rfl) ?_
  intro p e s m args below meth c A Q ls hx hb hts hown hml hK hN hA hP hD hS hl fin
  have hown : s.vm.findClass RX6 = some m.cls := hown
  have hl : lv_has ls 1 [(0, .int x)] := hl
  refine lv_iload_n hx hb dX6_isSet_0 rfl (lv_at hl 0 rfl) ?_
  refine lv_iconst (v := 0) hx hb dX6_isSet_1 (by decide) ?_
  refine lv_ldc hx hb hown (hts (.constant RX6 45 (65535)) (by decide +kernel)) dX6_isSet_2 ?_
  refine ycalli (invS (As := [.int x, .int 0, .int 65535]) (rest := []) (rm := ({ frames := 0, cells := 0, slots := 0, locals := 0 } : Room)) ⟨hx, hb, hml, hown, hts⟩ (va_cwS 3 hts gX6_isSet_X6_isIn rfl rfl rfl (by decide +kernel) ⟨Nat.le_of_ble_eq_true rfl, Nat.le_of_ble_eq_true rfl⟩) rfl rfl hl.1 (Nat.le_of_ble_eq_true rfl) dX6_isSet_4) (c_X6_isIn l D cI (x) (0) (65535)) hK hN hA hP hD hS (W2 := w0 cI) [] [] [] rfl rfl rfl (by decide) ⟨Nat.le_of_ble_eq_true rfl, Nat.le_of_ble_eq_true rfl⟩ (fun H locs hP hD hS => ?_)
  exact fin _ _ _ _ _ _ _ _ rfl rfl hP hD hS (Nat.le_of_ble_eq_true rfl) (Nat.le_of_ble_eq_true rfl) dX6_isSet_7

set_option maxHeartbeats 4000000 in
set_option maxRecDepth 100000 in
theorem c_X6_isLetter (l : Launch) (D : va_G) (cI : ClassId) (h b d : Nat → Nat) (n q w0 : Rc) (x : Int32) : CI l yX6_isLetter wsX6_isLetter ({ frames := 1, cells := 0, slots := 0, locals := 22 } : Room) D cI [.ref (h 0), .int x] (wMo cI h b d n q w0) (if ¬ x < 0 ∧ ¬ (n 0 0 - 1) < x then 1 else 0) (wMo cI h b d n q w0) := by
  refine CI.mk (cc := cX6_isLetter) (maxL := 2) (ret := (some .boolean)) rfl (by split <;> rfl) (by decide) rfl (Nat.le_of_ble_eq_true rfl) ?_
  intro p e s m args below meth c A Q ls hx hb hts hown hml hK hN hA hP hD hS hl fin
  have hown : s.vm.findClass RX6 = some m.cls := hown
  have hl : lv_has ls 2 [(0, .ref (h 0)), (1, .int x)] := hl
  have f46 := hts (.fieldLink RX6 46 "NightSortersModel" "letters" "I") (by decide +kernel)
  have inX6 : ∀ w ∈ wsX60, w ∈ wsX6_isLetter := by decide +kernel
  refine lv_iload_n hx hb dX6_isLetter_0 rfl (lv_at hl 1 rfl) ?_
  refine lv_iconst (v := 0) hx hb dX6_isLetter_1 (by decide) ?_
  refine lv_aload_n hx hb dX6_isLetter_2 rfl (lv_at hl 0 rfl) ?_
  refine va_get (D := D) (ci := 6) (v := .int (n 0 0)) (C := RX6) (T := TX6) (N := 10) hx hb hts inX6 hown hK hP 0 rfl rfl 3 (by decide) f46 (fun _ h9 => h9) rfl dX6_isLetter_3 ?_
  refine lv_iconst (v := 1) hx hb dX6_isLetter_6 (by decide) ?_
  refine lv_isub hx hb dX6_isLetter_7 ?_
  refine ycalli (invS (As := [.int x, .int 0, .int ((n 0 0) - 1)]) (rest := []) (rm := ({ frames := 0, cells := 0, slots := 0, locals := 0 } : Room)) ⟨hx, hb, hml, hown, hts⟩ (va_cwS 3 hts gX6_isLetter_X6_isIn rfl rfl rfl (by decide +kernel) ⟨Nat.le_of_ble_eq_true rfl, Nat.le_of_ble_eq_true rfl⟩) rfl rfl hl.1 (Nat.le_of_ble_eq_true rfl) dX6_isLetter_8) (c_X6_isIn l D cI (x) (0) (n 0 0 - 1)) hK hN hA hP hD hS (W2 := wMo cI h b d n q w0) [] [0, 1, 2, 3, 4, 5, 6, 7, 8, 9, 10, 11, 12, 13, 14, 15, 16, 17, 18, 19, 20, 21, 22, 23, 24, 25] [0, 1, 2, 3, 4, 5, 6, 7, 8, 9, 10, 11, 12, 13, 14, 15, 16, 17, 18, 19, 20, 21, 22, 23, 24, 25] rfl rfl rfl (by decide) ⟨Nat.le_of_ble_eq_true rfl, Nat.le_of_ble_eq_true rfl⟩ (fun H locs hP hD hS => ?_)
  exact fin _ _ _ _ _ _ _ _ rfl rfl hP hD hS (Nat.le_of_ble_eq_true rfl) (Nat.le_of_ble_eq_true rfl) dX6_isLetter_11

set_option maxHeartbeats 4000000 in
set_option maxRecDepth 100000 in
theorem c_X6_isSorter (l : Launch) (D : va_G) (cI : ClassId) (h b d : Nat → Nat) (n q w0 : Rc) (x : Int32) : CI l yX6_isSorter wsX6_isSorter ({ frames := 1, cells := 0, slots := 0, locals := 22 } : Room) D cI [.ref (h 0), .int x] (wMo cI h b d n q w0) (if ¬ x < 0 ∧ ¬ (n 10 0 - 1) < x then 1 else 0) (wMo cI h b d n q w0) := by
  refine CI.mk (cc := cX6_isSorter) (maxL := 2) (ret := (some .boolean)) rfl (by split <;> rfl) (by decide) rfl (Nat.le_of_ble_eq_true rfl) ?_
  intro p e s m args below meth c A Q ls hx hb hts hown hml hK hN hA hP hD hS hl fin
  have hown : s.vm.findClass RX6 = some m.cls := hown
  have hl : lv_has ls 2 [(0, .ref (h 0)), (1, .int x)] := hl
  have f49 := hts (.fieldLink RX6 49 "NightSortersModel" "sorters" "I") (by decide +kernel)
  have inX6 : ∀ w ∈ wsX60, w ∈ wsX6_isSorter := by decide +kernel
  refine lv_iload_n hx hb dX6_isSorter_0 rfl (lv_at hl 1 rfl) ?_
  refine lv_iconst (v := 0) hx hb dX6_isSorter_1 (by decide) ?_
  refine lv_aload_n hx hb dX6_isSorter_2 rfl (lv_at hl 0 rfl) ?_
  refine va_get (D := D) (ci := 6) (v := .int (n 10 0)) (C := RX6) (T := TX6) (N := 10) hx hb hts inX6 hown hK hP 0 rfl rfl 6 (by decide) f49 (fun _ h9 => h9) rfl dX6_isSorter_3 ?_
  refine lv_iconst (v := 1) hx hb dX6_isSorter_6 (by decide) ?_
  refine lv_isub hx hb dX6_isSorter_7 ?_
  refine ycalli (invS (As := [.int x, .int 0, .int ((n 10 0) - 1)]) (rest := []) (rm := ({ frames := 0, cells := 0, slots := 0, locals := 0 } : Room)) ⟨hx, hb, hml, hown, hts⟩ (va_cwS 3 hts gX6_isSorter_X6_isIn rfl rfl rfl (by decide +kernel) ⟨Nat.le_of_ble_eq_true rfl, Nat.le_of_ble_eq_true rfl⟩) rfl rfl hl.1 (Nat.le_of_ble_eq_true rfl) dX6_isSorter_8) (c_X6_isIn l D cI (x) (0) (n 10 0 - 1)) hK hN hA hP hD hS (W2 := wMo cI h b d n q w0) [] [0, 1, 2, 3, 4, 5, 6, 7, 8, 9, 10, 11, 12, 13, 14, 15, 16, 17, 18, 19, 20, 21, 22, 23, 24, 25] [0, 1, 2, 3, 4, 5, 6, 7, 8, 9, 10, 11, 12, 13, 14, 15, 16, 17, 18, 19, 20, 21, 22, 23, 24, 25] rfl rfl rfl (by decide) ⟨Nat.le_of_ble_eq_true rfl, Nat.le_of_ble_eq_true rfl⟩ (fun H locs hP hD hS => ?_)
  exact fin _ _ _ _ _ _ _ _ rfl rfl hP hD hS (Nat.le_of_ble_eq_true rfl) (Nat.le_of_ble_eq_true rfl) dX6_isSorter_11

set_option maxHeartbeats 4000000 in
set_option maxRecDepth 100000 in
theorem c_X6_wouldRise (l : Launch) (D : va_G) (cI : ClassId) (h b d : Nat → Nat) (n q w0 : Rc) (s9 : Nat) (hs : s9 < 8) (x : Int32) (ex : x = nI s9) (y : Int32) : CI l yX6_wouldRise wsX6_wouldRise ({ frames := 0, cells := 0, slots := 0, locals := 0 } : Room) D cI [.ref (h 0), .int x, .int y] (wMo cI h b d n q w0) (if riseF n s9 y then 1 else 0) (wMo cI h b d n q w0) := by
  refine CI.mk (cc := cX6_wouldRise) (maxL := 3) (ret := (some .boolean)) rfl (by split <;> rfl) (by decide) rfl (Nat.le_of_ble_eq_true rfl) ?_
  intro p e s m args below meth c A Q ls hx hb hts hown hml hK hN hA hP hD hS hl fin
  have hown : s.vm.findClass RX6 = some m.cls := hown
  subst ex
  have hl : lv_has ls 3 [(0, .ref (h 0)), (1, .int (nI s9)), (2, .int y)] := hl
  have f9 := hts (.fieldLink RX6 9 "NightSortersModel" "passes" "[I") (by decide +kernel)
  have inX6 : ∀ w ∈ wsX60, w ∈ wsX6_wouldRise := by decide +kernel
  refine lv_iload_n hx hb dX6_wouldRise_0 rfl (lv_at hl 1 rfl) ?_
  refine lv_if_eq (tgt := 16) hx hb dX6_wouldRise_1 (by decide) (fun c1 => ?_) (fun c1 => ?_)
  · skip
    have cs0 : s9 = 0 := (nI_eq (by omega) (by decide)).mp c1
    refine lv_iload_n hx hb dX6_wouldRise_16 rfl (lv_at hl 1 rfl) ?_
    refine lv_bipush (v := 7) hx hb dX6_wouldRise_17 (by decide) ?_
    refine lv_icmp_eq (tgt := 34) hx hb dX6_wouldRise_19 (by decide) (fun c2 => ?_) (fun c2 => ?_)
    · skip
      have cs7 : s9 = 7 := (nI_eq (by omega) (by decide)).mp c2
      refine lv_iconst (v := 1) hx hb dX6_wouldRise_34 (by decide) ?_
      refine lv_goto (tgt := 39) hx hb dX6_wouldRise_35 (by decide) ?_
      exact fin _ _ _ _ _ _ _ _ (by first | exact (if_pos (show riseF n s9 y from ⟨Or.inl cs0, Or.inl cs7⟩)).symm | exact (if_pos (show riseF n s9 y from ⟨Or.inl cs0, Or.inr cB⟩)).symm | exact (if_pos (show riseF n s9 y from ⟨Or.inr cA, Or.inl cs7⟩)).symm | exact (if_pos (show riseF n s9 y from ⟨Or.inr cA, Or.inr cB⟩)).symm | exact (if_neg (show ¬ riseF n s9 y from fun h => h.1.elim cs0 (fun z => z cA))).symm | exact (if_neg (show ¬ riseF n s9 y from fun h => h.2.elim cs7 (fun z => z cB))).symm) rfl hP hD hS (Nat.le_of_ble_eq_true rfl) (Nat.le_of_ble_eq_true rfl) dX6_wouldRise_39
    · skip
      have cs7 : ¬ s9 = 7 := fun h => c2 (by rw [h]; rfl)
      refine lv_iload_n hx hb dX6_wouldRise_22 rfl (lv_at hl 2 rfl) ?_
      refine lv_aload_n hx hb dX6_wouldRise_23 rfl (lv_at hl 0 rfl) ?_
      refine va_get (D := D) (ci := 6) (v := .ref (h 20)) (C := RX6) (T := TX6) (N := 10) hx hb hts inX6 hown hK hP 0 rfl rfl 1 (by decide) f9 (fun _ h9 => h9) rfl dX6_wouldRise_24 ?_
      refine lv_iload_n hx hb dX6_wouldRise_27 rfl (lv_at hl 1 rfl) ?_
      refine lv_iconst (v := 1) hx hb dX6_wouldRise_28 (by decide) ?_
      refine lv_iadd hx hb dX6_wouldRise_29 ?_
      refine xald hx hb hK hP 1 rfl rfl (s9 + 1) (nI_1 s9) (by omega) (by decide) dX6_wouldRise_30 ?_
      refine lv_icmp_ge (tgt := 38) hx hb dX6_wouldRise_31 (by decide) (fun c3 => ?_) (fun c3 => ?_)
      · skip
        have cB : n 20 (s9 + 1) ≤ y := c3
        refine lv_iconst (v := 0) hx hb dX6_wouldRise_38 (by decide) ?_
        exact fin _ _ _ _ _ _ _ _ (by first | exact (if_pos (show riseF n s9 y from ⟨Or.inl cs0, Or.inl cs7⟩)).symm | exact (if_pos (show riseF n s9 y from ⟨Or.inl cs0, Or.inr cB⟩)).symm | exact (if_pos (show riseF n s9 y from ⟨Or.inr cA, Or.inl cs7⟩)).symm | exact (if_pos (show riseF n s9 y from ⟨Or.inr cA, Or.inr cB⟩)).symm | exact (if_neg (show ¬ riseF n s9 y from fun h => h.1.elim cs0 (fun z => z cA))).symm | exact (if_neg (show ¬ riseF n s9 y from fun h => h.2.elim cs7 (fun z => z cB))).symm) rfl hP hD hS (Nat.le_of_ble_eq_true rfl) (Nat.le_of_ble_eq_true rfl) dX6_wouldRise_39
      · skip
        have cB : ¬ n 20 (s9 + 1) ≤ y := c3
        refine lv_iconst (v := 1) hx hb dX6_wouldRise_34 (by decide) ?_
        refine lv_goto (tgt := 39) hx hb dX6_wouldRise_35 (by decide) ?_
        exact fin _ _ _ _ _ _ _ _ (by first | exact (if_pos (show riseF n s9 y from ⟨Or.inl cs0, Or.inl cs7⟩)).symm | exact (if_pos (show riseF n s9 y from ⟨Or.inl cs0, Or.inr cB⟩)).symm | exact (if_pos (show riseF n s9 y from ⟨Or.inr cA, Or.inl cs7⟩)).symm | exact (if_pos (show riseF n s9 y from ⟨Or.inr cA, Or.inr cB⟩)).symm | exact (if_neg (show ¬ riseF n s9 y from fun h => h.1.elim cs0 (fun z => z cA))).symm | exact (if_neg (show ¬ riseF n s9 y from fun h => h.2.elim cs7 (fun z => z cB))).symm) rfl hP hD hS (Nat.le_of_ble_eq_true rfl) (Nat.le_of_ble_eq_true rfl) dX6_wouldRise_39
  · skip
    have cs0 : ¬ s9 = 0 := fun h => c1 (by rw [h]; rfl)
    refine lv_aload_n hx hb dX6_wouldRise_4 rfl (lv_at hl 0 rfl) ?_
    refine va_get (D := D) (ci := 6) (v := .ref (h 20)) (C := RX6) (T := TX6) (N := 10) hx hb hts inX6 hown hK hP 0 rfl rfl 1 (by decide) f9 (fun _ h9 => h9) rfl dX6_wouldRise_5 ?_
    refine lv_iload_n hx hb dX6_wouldRise_8 rfl (lv_at hl 1 rfl) ?_
    refine lv_iconst (v := 1) hx hb dX6_wouldRise_9 (by decide) ?_
    refine lv_isub hx hb dX6_wouldRise_10 ?_
    refine xald hx hb hK hP 1 rfl rfl (s9 - 1) (pk_sub (a := s9) (b := 1) (by omega)) (by omega) (by decide) dX6_wouldRise_11 ?_
    refine lv_iload_n hx hb dX6_wouldRise_12 rfl (lv_at hl 2 rfl) ?_
    refine lv_icmp_ge (tgt := 38) hx hb dX6_wouldRise_13 (by decide) (fun c4 => ?_) (fun c4 => ?_)
    · skip
      have cA : y ≤ n 20 (s9 - 1) := c4
      refine lv_iconst (v := 0) hx hb dX6_wouldRise_38 (by decide) ?_
      exact fin _ _ _ _ _ _ _ _ (by first | exact (if_pos (show riseF n s9 y from ⟨Or.inl cs0, Or.inl cs7⟩)).symm | exact (if_pos (show riseF n s9 y from ⟨Or.inl cs0, Or.inr cB⟩)).symm | exact (if_pos (show riseF n s9 y from ⟨Or.inr cA, Or.inl cs7⟩)).symm | exact (if_pos (show riseF n s9 y from ⟨Or.inr cA, Or.inr cB⟩)).symm | exact (if_neg (show ¬ riseF n s9 y from fun h => h.1.elim cs0 (fun z => z cA))).symm | exact (if_neg (show ¬ riseF n s9 y from fun h => h.2.elim cs7 (fun z => z cB))).symm) rfl hP hD hS (Nat.le_of_ble_eq_true rfl) (Nat.le_of_ble_eq_true rfl) dX6_wouldRise_39
    · skip
      have cA : ¬ y ≤ n 20 (s9 - 1) := c4
      refine lv_iload_n hx hb dX6_wouldRise_16 rfl (lv_at hl 1 rfl) ?_
      refine lv_bipush (v := 7) hx hb dX6_wouldRise_17 (by decide) ?_
      refine lv_icmp_eq (tgt := 34) hx hb dX6_wouldRise_19 (by decide) (fun c5 => ?_) (fun c5 => ?_)
      · skip
        have cs7 : s9 = 7 := (nI_eq (by omega) (by decide)).mp c5
        refine lv_iconst (v := 1) hx hb dX6_wouldRise_34 (by decide) ?_
        refine lv_goto (tgt := 39) hx hb dX6_wouldRise_35 (by decide) ?_
        exact fin _ _ _ _ _ _ _ _ (by first | exact (if_pos (show riseF n s9 y from ⟨Or.inl cs0, Or.inl cs7⟩)).symm | exact (if_pos (show riseF n s9 y from ⟨Or.inl cs0, Or.inr cB⟩)).symm | exact (if_pos (show riseF n s9 y from ⟨Or.inr cA, Or.inl cs7⟩)).symm | exact (if_pos (show riseF n s9 y from ⟨Or.inr cA, Or.inr cB⟩)).symm | exact (if_neg (show ¬ riseF n s9 y from fun h => h.1.elim cs0 (fun z => z cA))).symm | exact (if_neg (show ¬ riseF n s9 y from fun h => h.2.elim cs7 (fun z => z cB))).symm) rfl hP hD hS (Nat.le_of_ble_eq_true rfl) (Nat.le_of_ble_eq_true rfl) dX6_wouldRise_39
      · skip
        have cs7 : ¬ s9 = 7 := fun h => c5 (by rw [h]; rfl)
        refine lv_iload_n hx hb dX6_wouldRise_22 rfl (lv_at hl 2 rfl) ?_
        refine lv_aload_n hx hb dX6_wouldRise_23 rfl (lv_at hl 0 rfl) ?_
        refine va_get (D := D) (ci := 6) (v := .ref (h 20)) (C := RX6) (T := TX6) (N := 10) hx hb hts inX6 hown hK hP 0 rfl rfl 1 (by decide) f9 (fun _ h9 => h9) rfl dX6_wouldRise_24 ?_
        refine lv_iload_n hx hb dX6_wouldRise_27 rfl (lv_at hl 1 rfl) ?_
        refine lv_iconst (v := 1) hx hb dX6_wouldRise_28 (by decide) ?_
        refine lv_iadd hx hb dX6_wouldRise_29 ?_
        refine xald hx hb hK hP 1 rfl rfl (s9 + 1) (nI_1 s9) (by omega) (by decide) dX6_wouldRise_30 ?_
        refine lv_icmp_ge (tgt := 38) hx hb dX6_wouldRise_31 (by decide) (fun c6 => ?_) (fun c6 => ?_)
        · skip
          have cB : n 20 (s9 + 1) ≤ y := c6
          refine lv_iconst (v := 0) hx hb dX6_wouldRise_38 (by decide) ?_
          exact fin _ _ _ _ _ _ _ _ (by first | exact (if_pos (show riseF n s9 y from ⟨Or.inl cs0, Or.inl cs7⟩)).symm | exact (if_pos (show riseF n s9 y from ⟨Or.inl cs0, Or.inr cB⟩)).symm | exact (if_pos (show riseF n s9 y from ⟨Or.inr cA, Or.inl cs7⟩)).symm | exact (if_pos (show riseF n s9 y from ⟨Or.inr cA, Or.inr cB⟩)).symm | exact (if_neg (show ¬ riseF n s9 y from fun h => h.1.elim cs0 (fun z => z cA))).symm | exact (if_neg (show ¬ riseF n s9 y from fun h => h.2.elim cs7 (fun z => z cB))).symm) rfl hP hD hS (Nat.le_of_ble_eq_true rfl) (Nat.le_of_ble_eq_true rfl) dX6_wouldRise_39
        · skip
          have cB : ¬ n 20 (s9 + 1) ≤ y := c6
          refine lv_iconst (v := 1) hx hb dX6_wouldRise_34 (by decide) ?_
          refine lv_goto (tgt := 39) hx hb dX6_wouldRise_35 (by decide) ?_
          exact fin _ _ _ _ _ _ _ _ (by first | exact (if_pos (show riseF n s9 y from ⟨Or.inl cs0, Or.inl cs7⟩)).symm | exact (if_pos (show riseF n s9 y from ⟨Or.inl cs0, Or.inr cB⟩)).symm | exact (if_pos (show riseF n s9 y from ⟨Or.inr cA, Or.inl cs7⟩)).symm | exact (if_pos (show riseF n s9 y from ⟨Or.inr cA, Or.inr cB⟩)).symm | exact (if_neg (show ¬ riseF n s9 y from fun h => h.1.elim cs0 (fun z => z cA))).symm | exact (if_neg (show ¬ riseF n s9 y from fun h => h.2.elim cs7 (fun z => z cB))).symm) rfl hP hD hS (Nat.le_of_ble_eq_true rfl) (Nat.le_of_ble_eq_true rfl) dX6_wouldRise_39

set_option maxHeartbeats 4000000 in
set_option maxRecDepth 100000 in
theorem c_X6_setStation (l : Launch) (D : va_G) (cI : ClassId) (h b d : Nat → Nat) (n q w0 : Rc) (s9 : Nat) (hs : s9 < 8) (x : Int32) (ex : x = nI s9) (y z : Int32) (h12 : ¬ y < 1 ∧ ¬ 999 < y) (h34 : ¬ z < 0 ∧ ¬ 3 < z) (h5 : ¬ n 20 s9 < q 30 0) (h6 : ¬ y < q 30 0) (h7 : riseF n s9 y) : CI l yX6_setStation wsX6_setStation ({ frames := 2, cells := 0, slots := 0, locals := 42 } : Room) D cI [.ref (h 0), .int x, .int y, .int z] (wMo cI h b d n q w0) (10 * n 20 s9 + n 21 s9) (wMo cI h b d (put (put (put n 31 0 0) 20 s9 y) 21 s9 z) q w0) := by
  refine CI.mk (cc := cX6_setStation) (maxL := 5) (ret := (some .int)) rfl rfl (by decide) rfl (Nat.le_of_ble_eq_true rfl) ?_
  intro p e s m args below meth c A Q ls hx hb hts hown hml hK hN hA hP hD hS hl fin
  have hown : s.vm.findClass RX6 = some m.cls := hown
  subst ex
  have hRs9 : ¬ nI s9 < 0 ∧ ¬ 7 < nI s9 := rng (M := 7) rfl (by omega) (by decide)
  have hl : lv_has ls 5 [(0, .ref (h 0)), (1, .int (nI s9)), (2, .int y), (3, .int z)] := hl
  have f9 := hts (.fieldLink RX6 9 "NightSortersModel" "passes" "[I") (by decide +kernel)
  have f13 := hts (.fieldLink RX6 13 "NightSortersModel" "jolt" "[I") (by decide +kernel)
  have f30 := hts (.fieldLink RX6 30 "NightSortersModel" "s" "LNightSortersModel$State;") (by decide +kernel)
  have f37 := hts (.fieldLink RX6 37 "NightSortersModel" "thrown" "I") (by decide +kernel)
  have inX5 : ∀ w ∈ wsX50, w ∈ wsX6_setStation := by decide +kernel
  have inX6 : ∀ w ∈ wsX60, w ∈ wsX6_setStation := by decide +kernel
  refine lv_aload_n hx hb dX6_setStation_0 rfl (lv_at hl 0 rfl) ?_
  refine lv_iconst (v := 0) hx hb dX6_setStation_1 (by decide) ?_
  obtain ⟨u1, eu1⟩ : ∃ z0 : Rc, z0 = put n 31 0 0 := ⟨_, rfl⟩
  refine va_put (D := D) (ci := 6) (v := .int 0) (ty := .int) (C := RX6) (T := TX6) (N := 10) hx hb hts inX6 tyX6 tyX6_ok nmX6 hown hK hP hD hS 0 rfl rfl 0 (by decide) f37 (fun _ h9 => h9) rfl (by decide +kernel) rfl rfl (Nat.le_of_ble_eq_true rfl) dX6_setStation_2 (fun H locs hP hD hS => ?_)
  have hP : va_P D vwCl (wMo cI h b d u1 q w0) H := by subst eu1; exact hP
  have hD : va_D A (wMo cI h b d u1 q w0) := by subst eu1; exact hD
  refine lv_iload_n hx hb dX6_setStation_5 rfl (lv_at hl 1 rfl) ?_
  refine ycalli (invS (As := [.int (nI s9)]) (rest := []) (rm := ({ frames := 1, cells := 0, slots := 0, locals := 22 } : Room)) ⟨hx, hb, hml, hown, hts⟩ (va_cwS 1 hts gX6_setStation_X6_isStation rfl rfl rfl (by decide +kernel) ⟨Nat.le_of_ble_eq_true rfl, Nat.le_of_ble_eq_true rfl⟩) rfl rfl hl.1 (Nat.le_of_ble_eq_true rfl) dX6_setStation_6) (c_X6_isStation l D cI (nI s9)) hK hN hA hP hD hS (W2 := wMo cI h b d u1 q w0) [] [0, 1, 2, 3, 4, 5, 6, 7, 8, 9, 10, 11, 12, 13, 14, 15, 16, 17, 18, 19, 20, 21, 22, 23, 24, 25] [0, 1, 2, 3, 4, 5, 6, 7, 8, 9, 10, 11, 12, 13, 14, 15, 16, 17, 18, 19, 20, 21, 22, 23, 24, 25] rfl rfl rfl (by decide) ⟨Nat.le_of_ble_eq_true rfl, Nat.le_of_ble_eq_true rfl⟩ (fun H locs hP hD hS => ?_)
  refine lv_if_ne (tgt := 18) hx hb dX6_setStation_9 (by decide) (fun c2 => ?_) (fun c2 => ?_)
  · skip
    have c2 := b01f c2
    refine lv_iload_n hx hb dX6_setStation_18 rfl (lv_at hl 2 rfl) ?_
    refine lv_iconst (v := 1) hx hb dX6_setStation_19 (by decide) ?_
    refine lv_sipush (v := 999) hx hb dX6_setStation_20 (by decide) ?_
    refine ycalli (invS (As := [.int y, .int 1, .int 999]) (rest := []) (rm := ({ frames := 0, cells := 0, slots := 0, locals := 0 } : Room)) ⟨hx, hb, hml, hown, hts⟩ (va_cwS 3 hts gX6_setStation_X6_isIn rfl rfl rfl (by decide +kernel) ⟨Nat.le_of_ble_eq_true rfl, Nat.le_of_ble_eq_true rfl⟩) rfl rfl hl.1 (Nat.le_of_ble_eq_true rfl) dX6_setStation_23) (c_X6_isIn l D cI (y) (1) (999)) hK hN hA hP hD hS (W2 := wMo cI h b d u1 q w0) [] [0, 1, 2, 3, 4, 5, 6, 7, 8, 9, 10, 11, 12, 13, 14, 15, 16, 17, 18, 19, 20, 21, 22, 23, 24, 25] [0, 1, 2, 3, 4, 5, 6, 7, 8, 9, 10, 11, 12, 13, 14, 15, 16, 17, 18, 19, 20, 21, 22, 23, 24, 25] rfl rfl rfl (by decide) ⟨Nat.le_of_ble_eq_true rfl, Nat.le_of_ble_eq_true rfl⟩ (fun H locs hP hD hS => ?_)
    refine lv_if_eq (tgt := 38) hx hb dX6_setStation_26 (by decide) (fun c3 => ?_) (fun c3 => ?_)
    · exact absurd h12 (b01t c3)
    · skip
      have c3 := b01f c3
      refine lv_iload_n hx hb dX6_setStation_29 rfl (lv_at hl 3 rfl) ?_
      refine lv_iconst (v := 0) hx hb dX6_setStation_30 (by decide) ?_
      refine lv_iconst (v := 3) hx hb dX6_setStation_31 (by decide) ?_
      refine ycalli (invS (As := [.int z, .int 0, .int 3]) (rest := []) (rm := ({ frames := 0, cells := 0, slots := 0, locals := 0 } : Room)) ⟨hx, hb, hml, hown, hts⟩ (va_cwS 3 hts gX6_setStation_X6_isIn rfl rfl rfl (by decide +kernel) ⟨Nat.le_of_ble_eq_true rfl, Nat.le_of_ble_eq_true rfl⟩) rfl rfl hl.1 (Nat.le_of_ble_eq_true rfl) dX6_setStation_32) (c_X6_isIn l D cI (z) (0) (3)) hK hN hA hP hD hS (W2 := wMo cI h b d u1 q w0) [] [0, 1, 2, 3, 4, 5, 6, 7, 8, 9, 10, 11, 12, 13, 14, 15, 16, 17, 18, 19, 20, 21, 22, 23, 24, 25] [0, 1, 2, 3, 4, 5, 6, 7, 8, 9, 10, 11, 12, 13, 14, 15, 16, 17, 18, 19, 20, 21, 22, 23, 24, 25] rfl rfl rfl (by decide) ⟨Nat.le_of_ble_eq_true rfl, Nat.le_of_ble_eq_true rfl⟩ (fun H locs hP hD hS => ?_)
      refine lv_if_ne (tgt := 44) hx hb dX6_setStation_35 (by decide) (fun c4 => ?_) (fun c4 => ?_)
      · skip
        have c4 := b01f c4
        refine lv_aload_n hx hb dX6_setStation_44 rfl (lv_at hl 0 rfl) ?_
        refine va_get (D := D) (ci := 6) (v := .ref (b 30)) (C := RX6) (T := TX6) (N := 10) hx hb hts inX6 hown hK hP 0 rfl rfl 8 (by decide) f30 (fun _ h9 => h9) rfl dX6_setStation_45 ?_
        refine va_getN (D := D) (ci := 5) (v := .int (q 30 0)) (C := RX5) (T := TX5) (N := 11) hx hb hts inX5 hown hK hP 6 rfl rfl 0 (by decide) (NW.F hN (a := RX6) (i := 60) (b := "NightSortersModel$State") (n := "minute") (d := "I") (h9 := "NightSortersModel") (by decide +kernel)) (fun _ h9 => h9) rfl dX6_setStation_48 ?_
        refine lv_aload_n hx hb dX6_setStation_51 rfl (lv_at hl 0 rfl) ?_
        refine va_get (D := D) (ci := 6) (v := .ref (h 20)) (C := RX6) (T := TX6) (N := 10) hx hb hts inX6 hown hK hP 0 rfl rfl 1 (by decide) f9 (fun _ h9 => h9) rfl dX6_setStation_52 ?_
        refine lv_iload_n hx hb dX6_setStation_55 rfl (lv_at hl 1 rfl) ?_
        refine xald hx hb hK hP 1 rfl rfl (s9) (rfl) (by omega) (by decide) dX6_setStation_56 ?_
        refine lv_icmp_gt (tgt := 80) hx hb dX6_setStation_57 (by decide) (fun c5 => ?_) (fun c5 => ?_)
        · exact absurd c5 (by (try subst eu1); exact h5)
        · skip
          refine lv_aload_n hx hb dX6_setStation_60 rfl (lv_at hl 0 rfl) ?_
          refine va_get (D := D) (ci := 6) (v := .ref (b 30)) (C := RX6) (T := TX6) (N := 10) hx hb hts inX6 hown hK hP 0 rfl rfl 8 (by decide) f30 (fun _ h9 => h9) rfl dX6_setStation_61 ?_
          refine va_getN (D := D) (ci := 5) (v := .int (q 30 0)) (C := RX5) (T := TX5) (N := 11) hx hb hts inX5 hown hK hP 6 rfl rfl 0 (by decide) (NW.F hN (a := RX6) (i := 60) (b := "NightSortersModel$State") (n := "minute") (d := "I") (h9 := "NightSortersModel") (by decide +kernel)) (fun _ h9 => h9) rfl dX6_setStation_64 ?_
          refine lv_iload_n hx hb dX6_setStation_67 rfl (lv_at hl 2 rfl) ?_
          refine lv_icmp_gt (tgt := 80) hx hb dX6_setStation_68 (by decide) (fun c6 => ?_) (fun c6 => ?_)
          · exact absurd c6 (by (try subst eu1); exact h6)
          · skip
            refine lv_aload_n hx hb dX6_setStation_71 rfl (lv_at hl 0 rfl) ?_
            refine lv_iload_n hx hb dX6_setStation_72 rfl (lv_at hl 1 rfl) ?_
            refine lv_iload_n hx hb dX6_setStation_73 rfl (lv_at hl 2 rfl) ?_
            refine ycalli (invV (As := [.int (nI s9), .int y]) (rest := []) (rm := ({ frames := 0, cells := 0, slots := 0, locals := 0 } : Room)) ⟨hx, hb, hml, hown, hts⟩ (cwV 2 hts gX6_setStation_X6_wouldRise rfl rfl rfl (by decide +kernel) ⟨Nat.le_of_ble_eq_true rfl, Nat.le_of_ble_eq_true rfl⟩) (va_recv hK hP (ci := 6) (q0 := 0) rfl rfl) rfl rfl hl.1 (Nat.le_of_ble_eq_true rfl) dX6_setStation_74) (c_X6_wouldRise l D cI h b d u1 q w0 s9 hs (nI s9) rfl y) hK hN hA hP hD hS (W2 := wMo cI h b d u1 q w0) [0, 1, 2, 3, 4, 5, 6, 7, 8, 9, 10, 11, 12, 13, 14, 15, 16, 17, 18, 19, 20, 21, 22, 23, 24, 25] [] [0, 1, 2, 3, 4, 5, 6, 7, 8, 9, 10, 11, 12, 13, 14, 15, 16, 17, 18, 19, 20, 21, 22, 23, 24, 25] rfl rfl rfl (by decide) ⟨Nat.le_of_ble_eq_true rfl, Nat.le_of_ble_eq_true rfl⟩ (fun H locs hP hD hS => ?_)
            refine lv_if_ne (tgt := 86) hx hb dX6_setStation_77 (by decide) (fun c7 => ?_) (fun c7 => ?_)
            · skip
              have c7 := b01f c7
              refine lv_bipush (v := 10) hx hb dX6_setStation_86 (by decide) ?_
              refine lv_aload_n hx hb dX6_setStation_88 rfl (lv_at hl 0 rfl) ?_
              refine va_get (D := D) (ci := 6) (v := .ref (h 20)) (C := RX6) (T := TX6) (N := 10) hx hb hts inX6 hown hK hP 0 rfl rfl 1 (by decide) f9 (fun _ h9 => h9) rfl dX6_setStation_89 ?_
              refine lv_iload_n hx hb dX6_setStation_92 rfl (lv_at hl 1 rfl) ?_
              refine xald hx hb hK hP 1 rfl rfl (s9) (rfl) (by omega) (by decide) dX6_setStation_93 ?_
              refine lv_imul hx hb dX6_setStation_94 ?_
              refine lv_aload_n hx hb dX6_setStation_95 rfl (lv_at hl 0 rfl) ?_
              refine va_get (D := D) (ci := 6) (v := .ref (h 21)) (C := RX6) (T := TX6) (N := 10) hx hb hts inX6 hown hK hP 0 rfl rfl 2 (by decide) f13 (fun _ h9 => h9) rfl dX6_setStation_96 ?_
              refine lv_iload_n hx hb dX6_setStation_99 rfl (lv_at hl 1 rfl) ?_
              refine xald hx hb hK hP 2 rfl rfl (s9) (rfl) (by omega) (by decide) dX6_setStation_100 ?_
              refine lv_iadd hx hb dX6_setStation_101 ?_
              refine lv_istore (lv' := [(4, .int ((10 * (u1 20 s9)) + (u1 21 s9))), (0, .ref (h 0)), (1, .int (nI s9)), (2, .int y), (3, .int z)]) hx hb dX6_setStation_102 hl (by decide) rfl (fun ls hl => ?_)
              refine lv_aload_n hx hb dX6_setStation_104 rfl (lv_at hl 1 rfl) ?_
              refine va_get (D := D) (ci := 6) (v := .ref (h 20)) (C := RX6) (T := TX6) (N := 10) hx hb hts inX6 hown hK hP 0 rfl rfl 1 (by decide) f9 (fun _ h9 => h9) rfl dX6_setStation_105 ?_
              refine lv_iload_n hx hb dX6_setStation_108 rfl (lv_at hl 2 rfl) ?_
              refine lv_iload_n hx hb dX6_setStation_109 rfl (lv_at hl 3 rfl) ?_
              obtain ⟨u8, eu8⟩ : ∃ z0 : Rc, z0 = put u1 20 s9 y := ⟨_, rfl⟩
              refine xast hx hb hK hP hD hS 1 rfl rfl (s9) (rfl) (by omega) (by decide) (wMo cI h b d u8 q w0) (by subst eu8; rfl) dX6_setStation_110 (fun H locs hP hD hS => ?_)
              refine lv_aload_n hx hb dX6_setStation_111 rfl (lv_at hl 1 rfl) ?_
              refine va_get (D := D) (ci := 6) (v := .ref (h 21)) (C := RX6) (T := TX6) (N := 10) hx hb hts inX6 hown hK hP 0 rfl rfl 2 (by decide) f13 (fun _ h9 => h9) rfl dX6_setStation_112 ?_
              refine lv_iload_n hx hb dX6_setStation_115 rfl (lv_at hl 2 rfl) ?_
              refine lv_iload_n hx hb dX6_setStation_116 rfl (lv_at hl 4 rfl) ?_
              obtain ⟨u9, eu9⟩ : ∃ z0 : Rc, z0 = put u8 21 s9 z := ⟨_, rfl⟩
              refine xast hx hb hK hP hD hS 2 rfl rfl (s9) (rfl) (by omega) (by decide) (wMo cI h b d u9 q w0) (by subst eu9; rfl) dX6_setStation_117 (fun H locs hP hD hS => ?_)
              refine lv_iload hx hb dX6_setStation_118 (lv_at hl 0 rfl) ?_
              have h10 : u9 = put (put (put n 31 0 0) 20 s9 y) 21 s9 z := (by (try subst eu9); (try subst eu8); (try subst eu1); rfl)
              exact fin _ _ _ _ _ _ _ _ (by (try subst eu9); (try subst eu8); (try subst eu1); rfl) (congrArg (fun z9 : Rc => wMo cI h b d z9 q w0) h10) hP hD hS (Nat.le_of_ble_eq_true rfl) (Nat.le_of_ble_eq_true rfl) dX6_setStation_120
            · exact absurd (show riseF u1 s9 y from (by (try subst eu1); exact h7)) (b01t c7)
      · exact absurd h34 (b01t c4)
  · exact absurd hRs9 (b01t c2)

set_option maxHeartbeats 4000000 in
set_option maxRecDepth 100000 in
theorem c_X6_setStation_1 (l : Launch) (D : va_G) (cI : ClassId) (h b d : Nat → Nat) (n q w0 : Rc) (x y z : Int32) (hno : ¬ (¬ x < 0 ∧ ¬ 7 < x)) : CI l yX6_setStation wsX6_setStation ({ frames := 2, cells := 0, slots := 0, locals := 42 } : Room) D cI [.ref (h 0), .int x, .int y, .int z] (wMo cI h b d n q w0) 0 (wMo cI h b d (put (put n 31 0 0) 31 0 1) q w0) := by
  refine CI.mk (cc := cX6_setStation) (maxL := 5) (ret := (some .int)) rfl rfl (by decide) rfl (Nat.le_of_ble_eq_true rfl) ?_
  intro p e s m args below meth c A Q ls hx hb hts hown hml hK hN hA hP hD hS hl fin
  have hown : s.vm.findClass RX6 = some m.cls := hown
  have hl : lv_has ls 5 [(0, .ref (h 0)), (1, .int x), (2, .int y), (3, .int z)] := hl
  have f37 := hts (.fieldLink RX6 37 "NightSortersModel" "thrown" "I") (by decide +kernel)
  have inX6 : ∀ w ∈ wsX60, w ∈ wsX6_setStation := by decide +kernel
  refine lv_aload_n hx hb dX6_setStation_0 rfl (lv_at hl 0 rfl) ?_
  refine lv_iconst (v := 0) hx hb dX6_setStation_1 (by decide) ?_
  obtain ⟨u1, eu1⟩ : ∃ z0 : Rc, z0 = put n 31 0 0 := ⟨_, rfl⟩
  refine va_put (D := D) (ci := 6) (v := .int 0) (ty := .int) (C := RX6) (T := TX6) (N := 10) hx hb hts inX6 tyX6 tyX6_ok nmX6 hown hK hP hD hS 0 rfl rfl 0 (by decide) f37 (fun _ h9 => h9) rfl (by decide +kernel) rfl rfl (Nat.le_of_ble_eq_true rfl) dX6_setStation_2 (fun H locs hP hD hS => ?_)
  have hP : va_P D vwCl (wMo cI h b d u1 q w0) H := by subst eu1; exact hP
  have hD : va_D A (wMo cI h b d u1 q w0) := by subst eu1; exact hD
  refine lv_iload_n hx hb dX6_setStation_5 rfl (lv_at hl 1 rfl) ?_
  refine ycalli (invS (As := [.int x]) (rest := []) (rm := ({ frames := 1, cells := 0, slots := 0, locals := 22 } : Room)) ⟨hx, hb, hml, hown, hts⟩ (va_cwS 1 hts gX6_setStation_X6_isStation rfl rfl rfl (by decide +kernel) ⟨Nat.le_of_ble_eq_true rfl, Nat.le_of_ble_eq_true rfl⟩) rfl rfl hl.1 (Nat.le_of_ble_eq_true rfl) dX6_setStation_6) (c_X6_isStation l D cI (x)) hK hN hA hP hD hS (W2 := wMo cI h b d u1 q w0) [] [0, 1, 2, 3, 4, 5, 6, 7, 8, 9, 10, 11, 12, 13, 14, 15, 16, 17, 18, 19, 20, 21, 22, 23, 24, 25] [0, 1, 2, 3, 4, 5, 6, 7, 8, 9, 10, 11, 12, 13, 14, 15, 16, 17, 18, 19, 20, 21, 22, 23, 24, 25] rfl rfl rfl (by decide) ⟨Nat.le_of_ble_eq_true rfl, Nat.le_of_ble_eq_true rfl⟩ (fun H locs hP hD hS => ?_)
  refine lv_if_ne (tgt := 18) hx hb dX6_setStation_9 (by decide) (fun c2 => ?_) (fun c2 => ?_)
  · exact absurd (b01f c2) hno
  · skip
    have c2 := b01t c2
    refine lv_aload_n hx hb dX6_setStation_12 rfl (lv_at hl 0 rfl) ?_
    refine lv_iconst (v := 1) hx hb dX6_setStation_13 (by decide) ?_
    obtain ⟨u3, eu3⟩ : ∃ z0 : Rc, z0 = put u1 31 0 1 := ⟨_, rfl⟩
    refine ycalli (invV (As := [.int 1]) (rest := []) (rm := ({ frames := 0, cells := 0, slots := 0, locals := 0 } : Room)) ⟨hx, hb, hml, hown, hts⟩ (cwV 1 hts gX6_setStation_X6_no rfl rfl rfl (by decide +kernel) ⟨Nat.le_of_ble_eq_true rfl, Nat.le_of_ble_eq_true rfl⟩) (va_recv hK hP (ci := 6) (q0 := 0) rfl rfl) rfl rfl hl.1 (Nat.le_of_ble_eq_true rfl) dX6_setStation_14) (c_X6_no l D cI h b d u1 q w0 1) hK hN hA hP hD hS (W2 := wMo cI h b d u3 q w0) [0, 1, 2, 3, 4, 5, 6, 7, 8, 9, 10, 11, 12, 13, 14, 15, 16, 17, 18, 19, 20, 21, 22, 23, 24, 25] [] [0, 1, 2, 3, 4, 5, 6, 7, 8, 9, 10, 11, 12, 13, 14, 15, 16, 17, 18, 19, 20, 21, 22, 23, 24, 25] rfl rfl (by subst eu3; rfl) (by decide) ⟨Nat.le_of_ble_eq_true rfl, Nat.le_of_ble_eq_true rfl⟩ (fun H locs hP hD hS => ?_)
    have h4 : u3 = put (put n 31 0 0) 31 0 1 := (by (try subst eu3); (try subst eu1); rfl)
    exact fin _ _ _ _ _ _ _ _ rfl (congrArg (fun z9 : Rc => wMo cI h b d z9 q w0) h4) hP hD hS (Nat.le_of_ble_eq_true rfl) (Nat.le_of_ble_eq_true rfl) dX6_setStation_17

set_option maxHeartbeats 4000000 in
set_option maxRecDepth 100000 in
theorem c_X6_setStation_2 (l : Launch) (D : va_G) (cI : ClassId) (h b d : Nat → Nat) (n q w0 : Rc) (s9 : Nat) (hs : s9 < 8) (x : Int32) (ex : x = nI s9) (y z : Int32) (hno : ¬ ((¬ y < 1 ∧ ¬ 999 < y) ∧ (¬ z < 0 ∧ ¬ 3 < z))) : CI l yX6_setStation wsX6_setStation ({ frames := 2, cells := 0, slots := 0, locals := 42 } : Room) D cI [.ref (h 0), .int x, .int y, .int z] (wMo cI h b d n q w0) 0 (wMo cI h b d (put (put n 31 0 0) 31 0 2) q w0) := by
  refine CI.mk (cc := cX6_setStation) (maxL := 5) (ret := (some .int)) rfl rfl (by decide) rfl (Nat.le_of_ble_eq_true rfl) ?_
  intro p e s m args below meth c A Q ls hx hb hts hown hml hK hN hA hP hD hS hl fin
  have hown : s.vm.findClass RX6 = some m.cls := hown
  subst ex
  have hRs9 : ¬ nI s9 < 0 ∧ ¬ 7 < nI s9 := rng (M := 7) rfl (by omega) (by decide)
  have hl : lv_has ls 5 [(0, .ref (h 0)), (1, .int (nI s9)), (2, .int y), (3, .int z)] := hl
  have f37 := hts (.fieldLink RX6 37 "NightSortersModel" "thrown" "I") (by decide +kernel)
  have inX6 : ∀ w ∈ wsX60, w ∈ wsX6_setStation := by decide +kernel
  refine lv_aload_n hx hb dX6_setStation_0 rfl (lv_at hl 0 rfl) ?_
  refine lv_iconst (v := 0) hx hb dX6_setStation_1 (by decide) ?_
  obtain ⟨u1, eu1⟩ : ∃ z0 : Rc, z0 = put n 31 0 0 := ⟨_, rfl⟩
  refine va_put (D := D) (ci := 6) (v := .int 0) (ty := .int) (C := RX6) (T := TX6) (N := 10) hx hb hts inX6 tyX6 tyX6_ok nmX6 hown hK hP hD hS 0 rfl rfl 0 (by decide) f37 (fun _ h9 => h9) rfl (by decide +kernel) rfl rfl (Nat.le_of_ble_eq_true rfl) dX6_setStation_2 (fun H locs hP hD hS => ?_)
  have hP : va_P D vwCl (wMo cI h b d u1 q w0) H := by subst eu1; exact hP
  have hD : va_D A (wMo cI h b d u1 q w0) := by subst eu1; exact hD
  refine lv_iload_n hx hb dX6_setStation_5 rfl (lv_at hl 1 rfl) ?_
  refine ycalli (invS (As := [.int (nI s9)]) (rest := []) (rm := ({ frames := 1, cells := 0, slots := 0, locals := 22 } : Room)) ⟨hx, hb, hml, hown, hts⟩ (va_cwS 1 hts gX6_setStation_X6_isStation rfl rfl rfl (by decide +kernel) ⟨Nat.le_of_ble_eq_true rfl, Nat.le_of_ble_eq_true rfl⟩) rfl rfl hl.1 (Nat.le_of_ble_eq_true rfl) dX6_setStation_6) (c_X6_isStation l D cI (nI s9)) hK hN hA hP hD hS (W2 := wMo cI h b d u1 q w0) [] [0, 1, 2, 3, 4, 5, 6, 7, 8, 9, 10, 11, 12, 13, 14, 15, 16, 17, 18, 19, 20, 21, 22, 23, 24, 25] [0, 1, 2, 3, 4, 5, 6, 7, 8, 9, 10, 11, 12, 13, 14, 15, 16, 17, 18, 19, 20, 21, 22, 23, 24, 25] rfl rfl rfl (by decide) ⟨Nat.le_of_ble_eq_true rfl, Nat.le_of_ble_eq_true rfl⟩ (fun H locs hP hD hS => ?_)
  refine lv_if_ne (tgt := 18) hx hb dX6_setStation_9 (by decide) (fun c2 => ?_) (fun c2 => ?_)
  · skip
    have c2 := b01f c2
    refine lv_iload_n hx hb dX6_setStation_18 rfl (lv_at hl 2 rfl) ?_
    refine lv_iconst (v := 1) hx hb dX6_setStation_19 (by decide) ?_
    refine lv_sipush (v := 999) hx hb dX6_setStation_20 (by decide) ?_
    refine ycalli (invS (As := [.int y, .int 1, .int 999]) (rest := []) (rm := ({ frames := 0, cells := 0, slots := 0, locals := 0 } : Room)) ⟨hx, hb, hml, hown, hts⟩ (va_cwS 3 hts gX6_setStation_X6_isIn rfl rfl rfl (by decide +kernel) ⟨Nat.le_of_ble_eq_true rfl, Nat.le_of_ble_eq_true rfl⟩) rfl rfl hl.1 (Nat.le_of_ble_eq_true rfl) dX6_setStation_23) (c_X6_isIn l D cI (y) (1) (999)) hK hN hA hP hD hS (W2 := wMo cI h b d u1 q w0) [] [0, 1, 2, 3, 4, 5, 6, 7, 8, 9, 10, 11, 12, 13, 14, 15, 16, 17, 18, 19, 20, 21, 22, 23, 24, 25] [0, 1, 2, 3, 4, 5, 6, 7, 8, 9, 10, 11, 12, 13, 14, 15, 16, 17, 18, 19, 20, 21, 22, 23, 24, 25] rfl rfl rfl (by decide) ⟨Nat.le_of_ble_eq_true rfl, Nat.le_of_ble_eq_true rfl⟩ (fun H locs hP hD hS => ?_)
    refine lv_if_eq (tgt := 38) hx hb dX6_setStation_26 (by decide) (fun c3 => ?_) (fun c3 => ?_)
    · skip
      have c3 := b01t c3
      refine lv_aload_n hx hb dX6_setStation_38 rfl (lv_at hl 0 rfl) ?_
      refine lv_iconst (v := 2) hx hb dX6_setStation_39 (by decide) ?_
      obtain ⟨u4, eu4⟩ : ∃ z0 : Rc, z0 = put u1 31 0 2 := ⟨_, rfl⟩
      refine ycalli (invV (As := [.int 2]) (rest := []) (rm := ({ frames := 0, cells := 0, slots := 0, locals := 0 } : Room)) ⟨hx, hb, hml, hown, hts⟩ (cwV 1 hts gX6_setStation_X6_no rfl rfl rfl (by decide +kernel) ⟨Nat.le_of_ble_eq_true rfl, Nat.le_of_ble_eq_true rfl⟩) (va_recv hK hP (ci := 6) (q0 := 0) rfl rfl) rfl rfl hl.1 (Nat.le_of_ble_eq_true rfl) dX6_setStation_40) (c_X6_no l D cI h b d u1 q w0 2) hK hN hA hP hD hS (W2 := wMo cI h b d u4 q w0) [0, 1, 2, 3, 4, 5, 6, 7, 8, 9, 10, 11, 12, 13, 14, 15, 16, 17, 18, 19, 20, 21, 22, 23, 24, 25] [] [0, 1, 2, 3, 4, 5, 6, 7, 8, 9, 10, 11, 12, 13, 14, 15, 16, 17, 18, 19, 20, 21, 22, 23, 24, 25] rfl rfl (by subst eu4; rfl) (by decide) ⟨Nat.le_of_ble_eq_true rfl, Nat.le_of_ble_eq_true rfl⟩ (fun H locs hP hD hS => ?_)
      have h5 : u4 = put (put n 31 0 0) 31 0 2 := (by (try subst eu4); (try subst eu1); rfl)
      exact fin _ _ _ _ _ _ _ _ rfl (congrArg (fun z9 : Rc => wMo cI h b d z9 q w0) h5) hP hD hS (Nat.le_of_ble_eq_true rfl) (Nat.le_of_ble_eq_true rfl) dX6_setStation_43
    · skip
      have c3 := b01f c3
      refine lv_iload_n hx hb dX6_setStation_29 rfl (lv_at hl 3 rfl) ?_
      refine lv_iconst (v := 0) hx hb dX6_setStation_30 (by decide) ?_
      refine lv_iconst (v := 3) hx hb dX6_setStation_31 (by decide) ?_
      refine ycalli (invS (As := [.int z, .int 0, .int 3]) (rest := []) (rm := ({ frames := 0, cells := 0, slots := 0, locals := 0 } : Room)) ⟨hx, hb, hml, hown, hts⟩ (va_cwS 3 hts gX6_setStation_X6_isIn rfl rfl rfl (by decide +kernel) ⟨Nat.le_of_ble_eq_true rfl, Nat.le_of_ble_eq_true rfl⟩) rfl rfl hl.1 (Nat.le_of_ble_eq_true rfl) dX6_setStation_32) (c_X6_isIn l D cI (z) (0) (3)) hK hN hA hP hD hS (W2 := wMo cI h b d u1 q w0) [] [0, 1, 2, 3, 4, 5, 6, 7, 8, 9, 10, 11, 12, 13, 14, 15, 16, 17, 18, 19, 20, 21, 22, 23, 24, 25] [0, 1, 2, 3, 4, 5, 6, 7, 8, 9, 10, 11, 12, 13, 14, 15, 16, 17, 18, 19, 20, 21, 22, 23, 24, 25] rfl rfl rfl (by decide) ⟨Nat.le_of_ble_eq_true rfl, Nat.le_of_ble_eq_true rfl⟩ (fun H locs hP hD hS => ?_)
      refine lv_if_ne (tgt := 44) hx hb dX6_setStation_35 (by decide) (fun c6 => ?_) (fun c6 => ?_)
      · exact absurd (And.intro c3 (b01f c6)) hno
      · skip
        have c6 := b01t c6
        refine lv_aload_n hx hb dX6_setStation_38 rfl (lv_at hl 0 rfl) ?_
        refine lv_iconst (v := 2) hx hb dX6_setStation_39 (by decide) ?_
        obtain ⟨u7, eu7⟩ : ∃ z0 : Rc, z0 = put u1 31 0 2 := ⟨_, rfl⟩
        refine ycalli (invV (As := [.int 2]) (rest := []) (rm := ({ frames := 0, cells := 0, slots := 0, locals := 0 } : Room)) ⟨hx, hb, hml, hown, hts⟩ (cwV 1 hts gX6_setStation_X6_no rfl rfl rfl (by decide +kernel) ⟨Nat.le_of_ble_eq_true rfl, Nat.le_of_ble_eq_true rfl⟩) (va_recv hK hP (ci := 6) (q0 := 0) rfl rfl) rfl rfl hl.1 (Nat.le_of_ble_eq_true rfl) dX6_setStation_40) (c_X6_no l D cI h b d u1 q w0 2) hK hN hA hP hD hS (W2 := wMo cI h b d u7 q w0) [0, 1, 2, 3, 4, 5, 6, 7, 8, 9, 10, 11, 12, 13, 14, 15, 16, 17, 18, 19, 20, 21, 22, 23, 24, 25] [] [0, 1, 2, 3, 4, 5, 6, 7, 8, 9, 10, 11, 12, 13, 14, 15, 16, 17, 18, 19, 20, 21, 22, 23, 24, 25] rfl rfl (by subst eu7; rfl) (by decide) ⟨Nat.le_of_ble_eq_true rfl, Nat.le_of_ble_eq_true rfl⟩ (fun H locs hP hD hS => ?_)
        have h8 : u7 = put (put n 31 0 0) 31 0 2 := (by (try subst eu7); (try subst eu1); rfl)
        exact fin _ _ _ _ _ _ _ _ rfl (congrArg (fun z9 : Rc => wMo cI h b d z9 q w0) h8) hP hD hS (Nat.le_of_ble_eq_true rfl) (Nat.le_of_ble_eq_true rfl) dX6_setStation_43
  · exact absurd hRs9 (b01t c2)

set_option maxHeartbeats 4000000 in
set_option maxRecDepth 100000 in
theorem c_X6_setStation_3 (l : Launch) (D : va_G) (cI : ClassId) (h b d : Nat → Nat) (n q w0 : Rc) (s9 : Nat) (hs : s9 < 8) (x : Int32) (ex : x = nI s9) (y z : Int32) (h12 : ¬ y < 1 ∧ ¬ 999 < y) (h34 : ¬ z < 0 ∧ ¬ 3 < z) (hno : n 20 s9 < q 30 0 ∨ y < q 30 0 ∨ ¬ riseF n s9 y) : CI l yX6_setStation wsX6_setStation ({ frames := 2, cells := 0, slots := 0, locals := 42 } : Room) D cI [.ref (h 0), .int x, .int y, .int z] (wMo cI h b d n q w0) 0 (wMo cI h b d (put (put n 31 0 0) 31 0 3) q w0) := by
  refine CI.mk (cc := cX6_setStation) (maxL := 5) (ret := (some .int)) rfl rfl (by decide) rfl (Nat.le_of_ble_eq_true rfl) ?_
  intro p e s m args below meth c A Q ls hx hb hts hown hml hK hN hA hP hD hS hl fin
  have hown : s.vm.findClass RX6 = some m.cls := hown
  subst ex
  have hRs9 : ¬ nI s9 < 0 ∧ ¬ 7 < nI s9 := rng (M := 7) rfl (by omega) (by decide)
  have hl : lv_has ls 5 [(0, .ref (h 0)), (1, .int (nI s9)), (2, .int y), (3, .int z)] := hl
  have f9 := hts (.fieldLink RX6 9 "NightSortersModel" "passes" "[I") (by decide +kernel)
  have f30 := hts (.fieldLink RX6 30 "NightSortersModel" "s" "LNightSortersModel$State;") (by decide +kernel)
  have f37 := hts (.fieldLink RX6 37 "NightSortersModel" "thrown" "I") (by decide +kernel)
  have inX5 : ∀ w ∈ wsX50, w ∈ wsX6_setStation := by decide +kernel
  have inX6 : ∀ w ∈ wsX60, w ∈ wsX6_setStation := by decide +kernel
  refine lv_aload_n hx hb dX6_setStation_0 rfl (lv_at hl 0 rfl) ?_
  refine lv_iconst (v := 0) hx hb dX6_setStation_1 (by decide) ?_
  obtain ⟨u1, eu1⟩ : ∃ z0 : Rc, z0 = put n 31 0 0 := ⟨_, rfl⟩
  refine va_put (D := D) (ci := 6) (v := .int 0) (ty := .int) (C := RX6) (T := TX6) (N := 10) hx hb hts inX6 tyX6 tyX6_ok nmX6 hown hK hP hD hS 0 rfl rfl 0 (by decide) f37 (fun _ h9 => h9) rfl (by decide +kernel) rfl rfl (Nat.le_of_ble_eq_true rfl) dX6_setStation_2 (fun H locs hP hD hS => ?_)
  have hP : va_P D vwCl (wMo cI h b d u1 q w0) H := by subst eu1; exact hP
  have hD : va_D A (wMo cI h b d u1 q w0) := by subst eu1; exact hD
  refine lv_iload_n hx hb dX6_setStation_5 rfl (lv_at hl 1 rfl) ?_
  refine ycalli (invS (As := [.int (nI s9)]) (rest := []) (rm := ({ frames := 1, cells := 0, slots := 0, locals := 22 } : Room)) ⟨hx, hb, hml, hown, hts⟩ (va_cwS 1 hts gX6_setStation_X6_isStation rfl rfl rfl (by decide +kernel) ⟨Nat.le_of_ble_eq_true rfl, Nat.le_of_ble_eq_true rfl⟩) rfl rfl hl.1 (Nat.le_of_ble_eq_true rfl) dX6_setStation_6) (c_X6_isStation l D cI (nI s9)) hK hN hA hP hD hS (W2 := wMo cI h b d u1 q w0) [] [0, 1, 2, 3, 4, 5, 6, 7, 8, 9, 10, 11, 12, 13, 14, 15, 16, 17, 18, 19, 20, 21, 22, 23, 24, 25] [0, 1, 2, 3, 4, 5, 6, 7, 8, 9, 10, 11, 12, 13, 14, 15, 16, 17, 18, 19, 20, 21, 22, 23, 24, 25] rfl rfl rfl (by decide) ⟨Nat.le_of_ble_eq_true rfl, Nat.le_of_ble_eq_true rfl⟩ (fun H locs hP hD hS => ?_)
  refine lv_if_ne (tgt := 18) hx hb dX6_setStation_9 (by decide) (fun c2 => ?_) (fun c2 => ?_)
  · skip
    have c2 := b01f c2
    refine lv_iload_n hx hb dX6_setStation_18 rfl (lv_at hl 2 rfl) ?_
    refine lv_iconst (v := 1) hx hb dX6_setStation_19 (by decide) ?_
    refine lv_sipush (v := 999) hx hb dX6_setStation_20 (by decide) ?_
    refine ycalli (invS (As := [.int y, .int 1, .int 999]) (rest := []) (rm := ({ frames := 0, cells := 0, slots := 0, locals := 0 } : Room)) ⟨hx, hb, hml, hown, hts⟩ (va_cwS 3 hts gX6_setStation_X6_isIn rfl rfl rfl (by decide +kernel) ⟨Nat.le_of_ble_eq_true rfl, Nat.le_of_ble_eq_true rfl⟩) rfl rfl hl.1 (Nat.le_of_ble_eq_true rfl) dX6_setStation_23) (c_X6_isIn l D cI (y) (1) (999)) hK hN hA hP hD hS (W2 := wMo cI h b d u1 q w0) [] [0, 1, 2, 3, 4, 5, 6, 7, 8, 9, 10, 11, 12, 13, 14, 15, 16, 17, 18, 19, 20, 21, 22, 23, 24, 25] [0, 1, 2, 3, 4, 5, 6, 7, 8, 9, 10, 11, 12, 13, 14, 15, 16, 17, 18, 19, 20, 21, 22, 23, 24, 25] rfl rfl rfl (by decide) ⟨Nat.le_of_ble_eq_true rfl, Nat.le_of_ble_eq_true rfl⟩ (fun H locs hP hD hS => ?_)
    refine lv_if_eq (tgt := 38) hx hb dX6_setStation_26 (by decide) (fun c3 => ?_) (fun c3 => ?_)
    · exact absurd h12 (b01t c3)
    · skip
      have c3 := b01f c3
      refine lv_iload_n hx hb dX6_setStation_29 rfl (lv_at hl 3 rfl) ?_
      refine lv_iconst (v := 0) hx hb dX6_setStation_30 (by decide) ?_
      refine lv_iconst (v := 3) hx hb dX6_setStation_31 (by decide) ?_
      refine ycalli (invS (As := [.int z, .int 0, .int 3]) (rest := []) (rm := ({ frames := 0, cells := 0, slots := 0, locals := 0 } : Room)) ⟨hx, hb, hml, hown, hts⟩ (va_cwS 3 hts gX6_setStation_X6_isIn rfl rfl rfl (by decide +kernel) ⟨Nat.le_of_ble_eq_true rfl, Nat.le_of_ble_eq_true rfl⟩) rfl rfl hl.1 (Nat.le_of_ble_eq_true rfl) dX6_setStation_32) (c_X6_isIn l D cI (z) (0) (3)) hK hN hA hP hD hS (W2 := wMo cI h b d u1 q w0) [] [0, 1, 2, 3, 4, 5, 6, 7, 8, 9, 10, 11, 12, 13, 14, 15, 16, 17, 18, 19, 20, 21, 22, 23, 24, 25] [0, 1, 2, 3, 4, 5, 6, 7, 8, 9, 10, 11, 12, 13, 14, 15, 16, 17, 18, 19, 20, 21, 22, 23, 24, 25] rfl rfl rfl (by decide) ⟨Nat.le_of_ble_eq_true rfl, Nat.le_of_ble_eq_true rfl⟩ (fun H locs hP hD hS => ?_)
      refine lv_if_ne (tgt := 44) hx hb dX6_setStation_35 (by decide) (fun c4 => ?_) (fun c4 => ?_)
      · skip
        have c4 := b01f c4
        refine lv_aload_n hx hb dX6_setStation_44 rfl (lv_at hl 0 rfl) ?_
        refine va_get (D := D) (ci := 6) (v := .ref (b 30)) (C := RX6) (T := TX6) (N := 10) hx hb hts inX6 hown hK hP 0 rfl rfl 8 (by decide) f30 (fun _ h9 => h9) rfl dX6_setStation_45 ?_
        refine va_getN (D := D) (ci := 5) (v := .int (q 30 0)) (C := RX5) (T := TX5) (N := 11) hx hb hts inX5 hown hK hP 6 rfl rfl 0 (by decide) (NW.F hN (a := RX6) (i := 60) (b := "NightSortersModel$State") (n := "minute") (d := "I") (h9 := "NightSortersModel") (by decide +kernel)) (fun _ h9 => h9) rfl dX6_setStation_48 ?_
        refine lv_aload_n hx hb dX6_setStation_51 rfl (lv_at hl 0 rfl) ?_
        refine va_get (D := D) (ci := 6) (v := .ref (h 20)) (C := RX6) (T := TX6) (N := 10) hx hb hts inX6 hown hK hP 0 rfl rfl 1 (by decide) f9 (fun _ h9 => h9) rfl dX6_setStation_52 ?_
        refine lv_iload_n hx hb dX6_setStation_55 rfl (lv_at hl 1 rfl) ?_
        refine xald hx hb hK hP 1 rfl rfl (s9) (rfl) (by omega) (by decide) dX6_setStation_56 ?_
        refine lv_icmp_gt (tgt := 80) hx hb dX6_setStation_57 (by decide) (fun c5 => ?_) (fun c5 => ?_)
        · skip
          refine lv_aload_n hx hb dX6_setStation_80 rfl (lv_at hl 0 rfl) ?_
          refine lv_iconst (v := 3) hx hb dX6_setStation_81 (by decide) ?_
          obtain ⟨u6, eu6⟩ : ∃ z0 : Rc, z0 = put u1 31 0 3 := ⟨_, rfl⟩
          refine ycalli (invV (As := [.int 3]) (rest := []) (rm := ({ frames := 0, cells := 0, slots := 0, locals := 0 } : Room)) ⟨hx, hb, hml, hown, hts⟩ (cwV 1 hts gX6_setStation_X6_no rfl rfl rfl (by decide +kernel) ⟨Nat.le_of_ble_eq_true rfl, Nat.le_of_ble_eq_true rfl⟩) (va_recv hK hP (ci := 6) (q0 := 0) rfl rfl) rfl rfl hl.1 (Nat.le_of_ble_eq_true rfl) dX6_setStation_82) (c_X6_no l D cI h b d u1 q w0 3) hK hN hA hP hD hS (W2 := wMo cI h b d u6 q w0) [0, 1, 2, 3, 4, 5, 6, 7, 8, 9, 10, 11, 12, 13, 14, 15, 16, 17, 18, 19, 20, 21, 22, 23, 24, 25] [] [0, 1, 2, 3, 4, 5, 6, 7, 8, 9, 10, 11, 12, 13, 14, 15, 16, 17, 18, 19, 20, 21, 22, 23, 24, 25] rfl rfl (by subst eu6; rfl) (by decide) ⟨Nat.le_of_ble_eq_true rfl, Nat.le_of_ble_eq_true rfl⟩ (fun H locs hP hD hS => ?_)
          have h7 : u6 = put (put n 31 0 0) 31 0 3 := (by (try subst eu6); (try subst eu1); rfl)
          exact fin _ _ _ _ _ _ _ _ rfl (congrArg (fun z9 : Rc => wMo cI h b d z9 q w0) h7) hP hD hS (Nat.le_of_ble_eq_true rfl) (Nat.le_of_ble_eq_true rfl) dX6_setStation_85
        · skip
          refine lv_aload_n hx hb dX6_setStation_60 rfl (lv_at hl 0 rfl) ?_
          refine va_get (D := D) (ci := 6) (v := .ref (b 30)) (C := RX6) (T := TX6) (N := 10) hx hb hts inX6 hown hK hP 0 rfl rfl 8 (by decide) f30 (fun _ h9 => h9) rfl dX6_setStation_61 ?_
          refine va_getN (D := D) (ci := 5) (v := .int (q 30 0)) (C := RX5) (T := TX5) (N := 11) hx hb hts inX5 hown hK hP 6 rfl rfl 0 (by decide) (NW.F hN (a := RX6) (i := 60) (b := "NightSortersModel$State") (n := "minute") (d := "I") (h9 := "NightSortersModel") (by decide +kernel)) (fun _ h9 => h9) rfl dX6_setStation_64 ?_
          refine lv_iload_n hx hb dX6_setStation_67 rfl (lv_at hl 2 rfl) ?_
          refine lv_icmp_gt (tgt := 80) hx hb dX6_setStation_68 (by decide) (fun c8 => ?_) (fun c8 => ?_)
          · skip
            refine lv_aload_n hx hb dX6_setStation_80 rfl (lv_at hl 0 rfl) ?_
            refine lv_iconst (v := 3) hx hb dX6_setStation_81 (by decide) ?_
            obtain ⟨u9, eu9⟩ : ∃ z0 : Rc, z0 = put u1 31 0 3 := ⟨_, rfl⟩
            refine ycalli (invV (As := [.int 3]) (rest := []) (rm := ({ frames := 0, cells := 0, slots := 0, locals := 0 } : Room)) ⟨hx, hb, hml, hown, hts⟩ (cwV 1 hts gX6_setStation_X6_no rfl rfl rfl (by decide +kernel) ⟨Nat.le_of_ble_eq_true rfl, Nat.le_of_ble_eq_true rfl⟩) (va_recv hK hP (ci := 6) (q0 := 0) rfl rfl) rfl rfl hl.1 (Nat.le_of_ble_eq_true rfl) dX6_setStation_82) (c_X6_no l D cI h b d u1 q w0 3) hK hN hA hP hD hS (W2 := wMo cI h b d u9 q w0) [0, 1, 2, 3, 4, 5, 6, 7, 8, 9, 10, 11, 12, 13, 14, 15, 16, 17, 18, 19, 20, 21, 22, 23, 24, 25] [] [0, 1, 2, 3, 4, 5, 6, 7, 8, 9, 10, 11, 12, 13, 14, 15, 16, 17, 18, 19, 20, 21, 22, 23, 24, 25] rfl rfl (by subst eu9; rfl) (by decide) ⟨Nat.le_of_ble_eq_true rfl, Nat.le_of_ble_eq_true rfl⟩ (fun H locs hP hD hS => ?_)
            have h10 : u9 = put (put n 31 0 0) 31 0 3 := (by (try subst eu9); (try subst eu1); rfl)
            exact fin _ _ _ _ _ _ _ _ rfl (congrArg (fun z9 : Rc => wMo cI h b d z9 q w0) h10) hP hD hS (Nat.le_of_ble_eq_true rfl) (Nat.le_of_ble_eq_true rfl) dX6_setStation_85
          · skip
            refine lv_aload_n hx hb dX6_setStation_71 rfl (lv_at hl 0 rfl) ?_
            refine lv_iload_n hx hb dX6_setStation_72 rfl (lv_at hl 1 rfl) ?_
            refine lv_iload_n hx hb dX6_setStation_73 rfl (lv_at hl 2 rfl) ?_
            refine ycalli (invV (As := [.int (nI s9), .int y]) (rest := []) (rm := ({ frames := 0, cells := 0, slots := 0, locals := 0 } : Room)) ⟨hx, hb, hml, hown, hts⟩ (cwV 2 hts gX6_setStation_X6_wouldRise rfl rfl rfl (by decide +kernel) ⟨Nat.le_of_ble_eq_true rfl, Nat.le_of_ble_eq_true rfl⟩) (va_recv hK hP (ci := 6) (q0 := 0) rfl rfl) rfl rfl hl.1 (Nat.le_of_ble_eq_true rfl) dX6_setStation_74) (c_X6_wouldRise l D cI h b d u1 q w0 s9 hs (nI s9) rfl y) hK hN hA hP hD hS (W2 := wMo cI h b d u1 q w0) [0, 1, 2, 3, 4, 5, 6, 7, 8, 9, 10, 11, 12, 13, 14, 15, 16, 17, 18, 19, 20, 21, 22, 23, 24, 25] [] [0, 1, 2, 3, 4, 5, 6, 7, 8, 9, 10, 11, 12, 13, 14, 15, 16, 17, 18, 19, 20, 21, 22, 23, 24, 25] rfl rfl rfl (by decide) ⟨Nat.le_of_ble_eq_true rfl, Nat.le_of_ble_eq_true rfl⟩ (fun H locs hP hD hS => ?_)
            refine lv_if_ne (tgt := 86) hx hb dX6_setStation_77 (by decide) (fun c11 => ?_) (fun c11 => ?_)
            · exact absurd (b01f c11) (by (try subst eu1); exact (hno.resolve_left c5).resolve_left c8)
            · skip
              have c11 := b01t c11
              refine lv_aload_n hx hb dX6_setStation_80 rfl (lv_at hl 0 rfl) ?_
              refine lv_iconst (v := 3) hx hb dX6_setStation_81 (by decide) ?_
              obtain ⟨u12, eu12⟩ : ∃ z0 : Rc, z0 = put u1 31 0 3 := ⟨_, rfl⟩
              refine ycalli (invV (As := [.int 3]) (rest := []) (rm := ({ frames := 0, cells := 0, slots := 0, locals := 0 } : Room)) ⟨hx, hb, hml, hown, hts⟩ (cwV 1 hts gX6_setStation_X6_no rfl rfl rfl (by decide +kernel) ⟨Nat.le_of_ble_eq_true rfl, Nat.le_of_ble_eq_true rfl⟩) (va_recv hK hP (ci := 6) (q0 := 0) rfl rfl) rfl rfl hl.1 (Nat.le_of_ble_eq_true rfl) dX6_setStation_82) (c_X6_no l D cI h b d u1 q w0 3) hK hN hA hP hD hS (W2 := wMo cI h b d u12 q w0) [0, 1, 2, 3, 4, 5, 6, 7, 8, 9, 10, 11, 12, 13, 14, 15, 16, 17, 18, 19, 20, 21, 22, 23, 24, 25] [] [0, 1, 2, 3, 4, 5, 6, 7, 8, 9, 10, 11, 12, 13, 14, 15, 16, 17, 18, 19, 20, 21, 22, 23, 24, 25] rfl rfl (by subst eu12; rfl) (by decide) ⟨Nat.le_of_ble_eq_true rfl, Nat.le_of_ble_eq_true rfl⟩ (fun H locs hP hD hS => ?_)
              have h13 : u12 = put (put n 31 0 0) 31 0 3 := (by (try subst eu12); (try subst eu1); rfl)
              exact fin _ _ _ _ _ _ _ _ rfl (congrArg (fun z9 : Rc => wMo cI h b d z9 q w0) h13) hP hD hS (Nat.le_of_ble_eq_true rfl) (Nat.le_of_ble_eq_true rfl) dX6_setStation_85
      · exact absurd h34 (b01t c4)
  · exact absurd hRs9 (b01t c2)

set_option maxHeartbeats 4000000 in
set_option maxRecDepth 100000 in
theorem c_X6_post (l : Launch) (D : va_G) (cI : ClassId) (h b d : Nat → Nat) (n q w0 : Rc) (okn : Ok n) (s9 : Nat) (hs : s9 < 8) (x : Int32) (ex : x = nI s9) (t9 : Nat) (ht9 : t9 < 16) (y : Int32) (ey : y = nI t9) (hk : iv (n 0 0) < 60) (ne : ¬ n 0 0 = 60) : CI l yX6_post wsX6_post ({ frames := 2, cells := 0, slots := 0, locals := 42 } : Room) D cI [.ref (h 0), .int x, .int y] (wMo cI h b d n q w0) (n 0 0 + 1 - 1) (wMo cI h b d (put (put (put (put n 31 0 0) 2 (iv (n 0 0)) (nI s9)) 1 (iv (n 0 0)) (nI t9)) 0 0 (n 0 0 + 1)) (put (put q 4 (iv (n 0 0)) (-1)) 5 (iv (n 0 0)) (-1)) w0) := by
  refine CI.mk (cc := cX6_post) (maxL := 3) (ret := (some .int)) rfl rfl (by decide) rfl (Nat.le_of_ble_eq_true rfl) ?_
  intro p e s m args below meth c A Q ls hx hb hts hown hml hK hN hA hP hD hS hl fin
  have hown : s.vm.findClass RX6 = some m.cls := hown
  subst ex
  subst ey
  have hRs9 : ¬ nI s9 < 0 ∧ ¬ 7 < nI s9 := rng (M := 7) rfl (by omega) (by decide)
  have hRt9 : ¬ nI t9 < 0 ∧ ¬ 15 < nI t9 := rng (M := 15) rfl (by omega) (by decide)
  have hl : lv_has ls 3 [(0, .ref (h 0)), (1, .int (nI s9)), (2, .int (nI t9))] := hl
  have f16 := hts (.fieldLink RX6 16 "NightSortersModel" "town" "[I") (by decide +kernel)
  have f19 := hts (.fieldLink RX6 19 "NightSortersModel" "station" "[I") (by decide +kernel)
  have f30 := hts (.fieldLink RX6 30 "NightSortersModel" "s" "LNightSortersModel$State;") (by decide +kernel)
  have f37 := hts (.fieldLink RX6 37 "NightSortersModel" "thrown" "I") (by decide +kernel)
  have f46 := hts (.fieldLink RX6 46 "NightSortersModel" "letters" "I") (by decide +kernel)
  have inX5 : ∀ w ∈ wsX50, w ∈ wsX6_post := by decide +kernel
  have inX6 : ∀ w ∈ wsX60, w ∈ wsX6_post := by decide +kernel
  refine lv_aload_n hx hb dX6_post_0 rfl (lv_at hl 0 rfl) ?_
  refine lv_iconst (v := 0) hx hb dX6_post_1 (by decide) ?_
  obtain ⟨u1, eu1⟩ : ∃ z0 : Rc, z0 = put n 31 0 0 := ⟨_, rfl⟩
  refine va_put (D := D) (ci := 6) (v := .int 0) (ty := .int) (C := RX6) (T := TX6) (N := 10) hx hb hts inX6 tyX6 tyX6_ok nmX6 hown hK hP hD hS 0 rfl rfl 0 (by decide) f37 (fun _ h9 => h9) rfl (by decide +kernel) rfl rfl (Nat.le_of_ble_eq_true rfl) dX6_post_2 (fun H locs hP hD hS => ?_)
  have hP : va_P D vwCl (wMo cI h b d u1 q w0) H := by subst eu1; exact hP
  have hD : va_D A (wMo cI h b d u1 q w0) := by subst eu1; exact hD
  refine lv_iload_n hx hb dX6_post_5 rfl (lv_at hl 1 rfl) ?_
  refine ycalli (invS (As := [.int (nI s9)]) (rest := []) (rm := ({ frames := 1, cells := 0, slots := 0, locals := 22 } : Room)) ⟨hx, hb, hml, hown, hts⟩ (va_cwS 1 hts gX6_post_X6_isStation rfl rfl rfl (by decide +kernel) ⟨Nat.le_of_ble_eq_true rfl, Nat.le_of_ble_eq_true rfl⟩) rfl rfl hl.1 (Nat.le_of_ble_eq_true rfl) dX6_post_6) (c_X6_isStation l D cI (nI s9)) hK hN hA hP hD hS (W2 := wMo cI h b d u1 q w0) [] [0, 1, 2, 3, 4, 5, 6, 7, 8, 9, 10, 11, 12, 13, 14, 15, 16, 17, 18, 19, 20, 21, 22, 23, 24, 25] [0, 1, 2, 3, 4, 5, 6, 7, 8, 9, 10, 11, 12, 13, 14, 15, 16, 17, 18, 19, 20, 21, 22, 23, 24, 25] rfl rfl rfl (by decide) ⟨Nat.le_of_ble_eq_true rfl, Nat.le_of_ble_eq_true rfl⟩ (fun H locs hP hD hS => ?_)
  refine lv_if_eq (tgt := 19) hx hb dX6_post_9 (by decide) (fun c2 => ?_) (fun c2 => ?_)
  · exact absurd hRs9 (b01t c2)
  · skip
    have c2 := b01f c2
    refine lv_iload_n hx hb dX6_post_12 rfl (lv_at hl 2 rfl) ?_
    refine ycalli (invS (As := [.int (nI t9)]) (rest := []) (rm := ({ frames := 1, cells := 0, slots := 0, locals := 22 } : Room)) ⟨hx, hb, hml, hown, hts⟩ (va_cwS 1 hts gX6_post_X6_isTown rfl rfl rfl (by decide +kernel) ⟨Nat.le_of_ble_eq_true rfl, Nat.le_of_ble_eq_true rfl⟩) rfl rfl hl.1 (Nat.le_of_ble_eq_true rfl) dX6_post_13) (c_X6_isTown l D cI (nI t9)) hK hN hA hP hD hS (W2 := wMo cI h b d u1 q w0) [] [0, 1, 2, 3, 4, 5, 6, 7, 8, 9, 10, 11, 12, 13, 14, 15, 16, 17, 18, 19, 20, 21, 22, 23, 24, 25] [0, 1, 2, 3, 4, 5, 6, 7, 8, 9, 10, 11, 12, 13, 14, 15, 16, 17, 18, 19, 20, 21, 22, 23, 24, 25] rfl rfl rfl (by decide) ⟨Nat.le_of_ble_eq_true rfl, Nat.le_of_ble_eq_true rfl⟩ (fun H locs hP hD hS => ?_)
    refine lv_if_ne (tgt := 25) hx hb dX6_post_16 (by decide) (fun c3 => ?_) (fun c3 => ?_)
    · skip
      have c3 := b01f c3
      refine lv_aload_n hx hb dX6_post_25 rfl (lv_at hl 0 rfl) ?_
      refine va_get (D := D) (ci := 6) (v := .int (u1 0 0)) (C := RX6) (T := TX6) (N := 10) hx hb hts inX6 hown hK hP 0 rfl rfl 3 (by decide) f46 (fun _ h9 => h9) rfl dX6_post_26 ?_
      refine lv_bipush (v := 60) hx hb dX6_post_29 (by decide) ?_
      refine lv_icmp_ne (tgt := 40) hx hb dX6_post_31 (by decide) (fun c4 => ?_) (fun c4 => ?_)
      · skip
        refine lv_aload_n hx hb dX6_post_40 rfl (lv_at hl 0 rfl) ?_
        refine va_get (D := D) (ci := 6) (v := .ref (h 2)) (C := RX6) (T := TX6) (N := 10) hx hb hts inX6 hown hK hP 0 rfl rfl 5 (by decide) f19 (fun _ h9 => h9) rfl dX6_post_41 ?_
        refine lv_aload_n hx hb dX6_post_44 rfl (lv_at hl 0 rfl) ?_
        refine va_get (D := D) (ci := 6) (v := .int (u1 0 0)) (C := RX6) (T := TX6) (N := 10) hx hb hts inX6 hown hK hP 0 rfl rfl 3 (by decide) f46 (fun _ h9 => h9) rfl dX6_post_45 ?_
        refine lv_iload_n hx hb dX6_post_48 rfl (lv_at hl 1 rfl) ?_
        obtain ⟨u5, eu5⟩ : ∃ z0 : Rc, z0 = put u1 2 (iv (n 0 0)) (nI s9) := ⟨_, rfl⟩
        refine xast hx hb hK hP hD hS 4 rfl rfl (iv (n 0 0)) ((by (try subst eu1); exact okn.n)) (hk) (by decide) (wMo cI h b d u5 q w0) (by subst eu5; rfl) dX6_post_49 (fun H locs hP hD hS => ?_)
        refine lv_aload_n hx hb dX6_post_50 rfl (lv_at hl 0 rfl) ?_
        refine va_get (D := D) (ci := 6) (v := .ref (h 1)) (C := RX6) (T := TX6) (N := 10) hx hb hts inX6 hown hK hP 0 rfl rfl 4 (by decide) f16 (fun _ h9 => h9) rfl dX6_post_51 ?_
        refine lv_aload_n hx hb dX6_post_54 rfl (lv_at hl 0 rfl) ?_
        refine va_get (D := D) (ci := 6) (v := .int (u5 0 0)) (C := RX6) (T := TX6) (N := 10) hx hb hts inX6 hown hK hP 0 rfl rfl 3 (by decide) f46 (fun _ h9 => h9) rfl dX6_post_55 ?_
        refine lv_iload_n hx hb dX6_post_58 rfl (lv_at hl 2 rfl) ?_
        obtain ⟨u6, eu6⟩ : ∃ z0 : Rc, z0 = put u5 1 (iv (n 0 0)) (nI t9) := ⟨_, rfl⟩
        refine xast hx hb hK hP hD hS 3 rfl rfl (iv (n 0 0)) ((by (try subst eu5); (try subst eu1); exact okn.n)) (hk) (by decide) (wMo cI h b d u6 q w0) (by subst eu6; rfl) dX6_post_59 (fun H locs hP hD hS => ?_)
        refine lv_aload_n hx hb dX6_post_60 rfl (lv_at hl 0 rfl) ?_
        refine va_get (D := D) (ci := 6) (v := .ref (b 30)) (C := RX6) (T := TX6) (N := 10) hx hb hts inX6 hown hK hP 0 rfl rfl 8 (by decide) f30 (fun _ h9 => h9) rfl dX6_post_61 ?_
        refine va_getN (D := D) (ci := 5) (v := .ref (b 4)) (C := RX5) (T := TX5) (N := 11) hx hb hts inX5 hown hK hP 6 rfl rfl 2 (by decide) (NW.F hN (a := RX6) (i := 70) (b := "NightSortersModel$State") (n := "who") (d := "[I") (h9 := "NightSortersModel") (by decide +kernel)) (fun _ h9 => h9) rfl dX6_post_64 ?_
        refine lv_aload_n hx hb dX6_post_67 rfl (lv_at hl 0 rfl) ?_
        refine va_get (D := D) (ci := 6) (v := .int (u6 0 0)) (C := RX6) (T := TX6) (N := 10) hx hb hts inX6 hown hK hP 0 rfl rfl 3 (by decide) f46 (fun _ h9 => h9) rfl dX6_post_68 ?_
        refine lv_iconst (v := (-1)) hx hb dX6_post_71 (by decide) ?_
        obtain ⟨u7, eu7⟩ : ∃ z0 : Rc, z0 = put q 4 (iv (n 0 0)) (-1) := ⟨_, rfl⟩
        refine xast hx hb hK hP hD hS 8 rfl rfl (iv (n 0 0)) ((by (try subst eu6); (try subst eu5); (try subst eu1); exact okn.n)) (hk) (by decide) (wMo cI h b d u6 u7 w0) (by subst eu7; rfl) dX6_post_72 (fun H locs hP hD hS => ?_)
        refine lv_aload_n hx hb dX6_post_73 rfl (lv_at hl 0 rfl) ?_
        refine va_get (D := D) (ci := 6) (v := .ref (b 30)) (C := RX6) (T := TX6) (N := 10) hx hb hts inX6 hown hK hP 0 rfl rfl 8 (by decide) f30 (fun _ h9 => h9) rfl dX6_post_74 ?_
        refine va_getN (D := D) (ci := 5) (v := .ref (b 5)) (C := RX5) (T := TX5) (N := 11) hx hb hts inX5 hown hK hP 6 rfl rfl 3 (by decide) (NW.F hN (a := RX6) (i := 73) (b := "NightSortersModel$State") (n := "when") (d := "[I") (h9 := "NightSortersModel") (by decide +kernel)) (fun _ h9 => h9) rfl dX6_post_77 ?_
        refine lv_aload_n hx hb dX6_post_80 rfl (lv_at hl 0 rfl) ?_
        refine va_get (D := D) (ci := 6) (v := .int (u6 0 0)) (C := RX6) (T := TX6) (N := 10) hx hb hts inX6 hown hK hP 0 rfl rfl 3 (by decide) f46 (fun _ h9 => h9) rfl dX6_post_81 ?_
        refine lv_iconst (v := (-1)) hx hb dX6_post_84 (by decide) ?_
        obtain ⟨u8, eu8⟩ : ∃ z0 : Rc, z0 = put u7 5 (iv (n 0 0)) (-1) := ⟨_, rfl⟩
        refine xast hx hb hK hP hD hS 9 rfl rfl (iv (n 0 0)) ((by (try subst eu7); (try subst eu6); (try subst eu5); (try subst eu1); exact okn.n)) (hk) (by decide) (wMo cI h b d u6 u8 w0) (by subst eu8; rfl) dX6_post_85 (fun H locs hP hD hS => ?_)
        refine lv_aload_n hx hb dX6_post_86 rfl (lv_at hl 0 rfl) ?_
        refine lv_dup hx hb dX6_post_87 rfl ?_
        refine va_get (D := D) (ci := 6) (v := .int (u6 0 0)) (C := RX6) (T := TX6) (N := 10) hx hb hts inX6 hown hK hP 0 rfl rfl 3 (by decide) f46 (fun _ h9 => h9) rfl dX6_post_88 ?_
        refine lv_iconst (v := 1) hx hb dX6_post_91 (by decide) ?_
        refine lv_iadd hx hb dX6_post_92 ?_
        obtain ⟨u9, eu9⟩ : ∃ z0 : Rc, z0 = put u6 0 0 ((u6 0 0) + 1) := ⟨_, rfl⟩
        refine va_put (D := D) (ci := 6) (v := .int ((u6 0 0) + 1)) (ty := .int) (C := RX6) (T := TX6) (N := 10) hx hb hts inX6 tyX6 tyX6_ok nmX6 hown hK hP hD hS 0 rfl rfl 3 (by decide) f46 (fun _ h9 => h9) rfl (by decide +kernel) rfl rfl (Nat.le_of_ble_eq_true rfl) dX6_post_93 (fun H locs hP hD hS => ?_)
        have hP : va_P D vwCl (wMo cI h b d u9 u8 w0) H := by subst eu9; exact hP
        have hD : va_D A (wMo cI h b d u9 u8 w0) := by subst eu9; exact hD
        refine lv_aload_n hx hb dX6_post_96 rfl (lv_at hl 0 rfl) ?_
        refine va_get (D := D) (ci := 6) (v := .int (u9 0 0)) (C := RX6) (T := TX6) (N := 10) hx hb hts inX6 hown hK hP 0 rfl rfl 3 (by decide) f46 (fun _ h9 => h9) rfl dX6_post_97 ?_
        refine lv_iconst (v := 1) hx hb dX6_post_100 (by decide) ?_
        refine lv_isub hx hb dX6_post_101 ?_
        have h10 : u9 = put (put (put (put n 31 0 0) 2 (iv (n 0 0)) (nI s9)) 1 (iv (n 0 0)) (nI t9)) 0 0 (n 0 0 + 1) := (by (try subst eu9); (try subst eu8); (try subst eu7); (try subst eu6); (try subst eu5); (try subst eu1); rfl)
        have h11 : u8 = put (put q 4 (iv (n 0 0)) (-1)) 5 (iv (n 0 0)) (-1) := (by (try subst eu9); (try subst eu8); (try subst eu7); (try subst eu6); (try subst eu5); (try subst eu1); rfl)
        exact fin _ _ _ _ _ _ _ _ (by (try subst eu9); (try subst eu8); (try subst eu7); (try subst eu6); (try subst eu5); (try subst eu1); rfl) ((congrArg (fun z9 : Rc => wMo cI h b d z9 u8 w0) h10).trans (congrArg (fun z9 : Rc => wMo cI h b d (put (put (put (put n 31 0 0) 2 (iv (n 0 0)) (nI s9)) 1 (iv (n 0 0)) (nI t9)) 0 0 (n 0 0 + 1)) z9 w0) h11)) hP hD hS (Nat.le_of_ble_eq_true rfl) (Nat.le_of_ble_eq_true rfl) dX6_post_102
      · exact absurd c4 (by (try subst eu1); exact ne)
    · exact absurd hRt9 (b01t c3)

set_option maxHeartbeats 4000000 in
set_option maxRecDepth 100000 in
theorem c_X6_post_1 (l : Launch) (D : va_G) (cI : ClassId) (h b d : Nat → Nat) (n q w0 : Rc) (x y : Int32) (hno : ¬ ((¬ x < 0 ∧ ¬ 7 < x) ∧ (¬ y < 0 ∧ ¬ 15 < y))) : CI l yX6_post wsX6_post ({ frames := 2, cells := 0, slots := 0, locals := 42 } : Room) D cI [.ref (h 0), .int x, .int y] (wMo cI h b d n q w0) 0 (wMo cI h b d (put (put n 31 0 0) 31 0 1) q w0) := by
  refine CI.mk (cc := cX6_post) (maxL := 3) (ret := (some .int)) rfl rfl (by decide) rfl (Nat.le_of_ble_eq_true rfl) ?_
  intro p e s m args below meth c A Q ls hx hb hts hown hml hK hN hA hP hD hS hl fin
  have hown : s.vm.findClass RX6 = some m.cls := hown
  have hl : lv_has ls 3 [(0, .ref (h 0)), (1, .int x), (2, .int y)] := hl
  have f37 := hts (.fieldLink RX6 37 "NightSortersModel" "thrown" "I") (by decide +kernel)
  have inX6 : ∀ w ∈ wsX60, w ∈ wsX6_post := by decide +kernel
  refine lv_aload_n hx hb dX6_post_0 rfl (lv_at hl 0 rfl) ?_
  refine lv_iconst (v := 0) hx hb dX6_post_1 (by decide) ?_
  obtain ⟨u1, eu1⟩ : ∃ z0 : Rc, z0 = put n 31 0 0 := ⟨_, rfl⟩
  refine va_put (D := D) (ci := 6) (v := .int 0) (ty := .int) (C := RX6) (T := TX6) (N := 10) hx hb hts inX6 tyX6 tyX6_ok nmX6 hown hK hP hD hS 0 rfl rfl 0 (by decide) f37 (fun _ h9 => h9) rfl (by decide +kernel) rfl rfl (Nat.le_of_ble_eq_true rfl) dX6_post_2 (fun H locs hP hD hS => ?_)
  have hP : va_P D vwCl (wMo cI h b d u1 q w0) H := by subst eu1; exact hP
  have hD : va_D A (wMo cI h b d u1 q w0) := by subst eu1; exact hD
  refine lv_iload_n hx hb dX6_post_5 rfl (lv_at hl 1 rfl) ?_
  refine ycalli (invS (As := [.int x]) (rest := []) (rm := ({ frames := 1, cells := 0, slots := 0, locals := 22 } : Room)) ⟨hx, hb, hml, hown, hts⟩ (va_cwS 1 hts gX6_post_X6_isStation rfl rfl rfl (by decide +kernel) ⟨Nat.le_of_ble_eq_true rfl, Nat.le_of_ble_eq_true rfl⟩) rfl rfl hl.1 (Nat.le_of_ble_eq_true rfl) dX6_post_6) (c_X6_isStation l D cI (x)) hK hN hA hP hD hS (W2 := wMo cI h b d u1 q w0) [] [0, 1, 2, 3, 4, 5, 6, 7, 8, 9, 10, 11, 12, 13, 14, 15, 16, 17, 18, 19, 20, 21, 22, 23, 24, 25] [0, 1, 2, 3, 4, 5, 6, 7, 8, 9, 10, 11, 12, 13, 14, 15, 16, 17, 18, 19, 20, 21, 22, 23, 24, 25] rfl rfl rfl (by decide) ⟨Nat.le_of_ble_eq_true rfl, Nat.le_of_ble_eq_true rfl⟩ (fun H locs hP hD hS => ?_)
  refine lv_if_eq (tgt := 19) hx hb dX6_post_9 (by decide) (fun c2 => ?_) (fun c2 => ?_)
  · skip
    have c2 := b01t c2
    refine lv_aload_n hx hb dX6_post_19 rfl (lv_at hl 0 rfl) ?_
    refine lv_iconst (v := 1) hx hb dX6_post_20 (by decide) ?_
    obtain ⟨u3, eu3⟩ : ∃ z0 : Rc, z0 = put u1 31 0 1 := ⟨_, rfl⟩
    refine ycalli (invV (As := [.int 1]) (rest := []) (rm := ({ frames := 0, cells := 0, slots := 0, locals := 0 } : Room)) ⟨hx, hb, hml, hown, hts⟩ (cwV 1 hts gX6_post_X6_no rfl rfl rfl (by decide +kernel) ⟨Nat.le_of_ble_eq_true rfl, Nat.le_of_ble_eq_true rfl⟩) (va_recv hK hP (ci := 6) (q0 := 0) rfl rfl) rfl rfl hl.1 (Nat.le_of_ble_eq_true rfl) dX6_post_21) (c_X6_no l D cI h b d u1 q w0 1) hK hN hA hP hD hS (W2 := wMo cI h b d u3 q w0) [0, 1, 2, 3, 4, 5, 6, 7, 8, 9, 10, 11, 12, 13, 14, 15, 16, 17, 18, 19, 20, 21, 22, 23, 24, 25] [] [0, 1, 2, 3, 4, 5, 6, 7, 8, 9, 10, 11, 12, 13, 14, 15, 16, 17, 18, 19, 20, 21, 22, 23, 24, 25] rfl rfl (by subst eu3; rfl) (by decide) ⟨Nat.le_of_ble_eq_true rfl, Nat.le_of_ble_eq_true rfl⟩ (fun H locs hP hD hS => ?_)
    have h4 : u3 = put (put n 31 0 0) 31 0 1 := (by (try subst eu3); (try subst eu1); rfl)
    exact fin _ _ _ _ _ _ _ _ rfl (congrArg (fun z9 : Rc => wMo cI h b d z9 q w0) h4) hP hD hS (Nat.le_of_ble_eq_true rfl) (Nat.le_of_ble_eq_true rfl) dX6_post_24
  · skip
    have c2 := b01f c2
    refine lv_iload_n hx hb dX6_post_12 rfl (lv_at hl 2 rfl) ?_
    refine ycalli (invS (As := [.int y]) (rest := []) (rm := ({ frames := 1, cells := 0, slots := 0, locals := 22 } : Room)) ⟨hx, hb, hml, hown, hts⟩ (va_cwS 1 hts gX6_post_X6_isTown rfl rfl rfl (by decide +kernel) ⟨Nat.le_of_ble_eq_true rfl, Nat.le_of_ble_eq_true rfl⟩) rfl rfl hl.1 (Nat.le_of_ble_eq_true rfl) dX6_post_13) (c_X6_isTown l D cI (y)) hK hN hA hP hD hS (W2 := wMo cI h b d u1 q w0) [] [0, 1, 2, 3, 4, 5, 6, 7, 8, 9, 10, 11, 12, 13, 14, 15, 16, 17, 18, 19, 20, 21, 22, 23, 24, 25] [0, 1, 2, 3, 4, 5, 6, 7, 8, 9, 10, 11, 12, 13, 14, 15, 16, 17, 18, 19, 20, 21, 22, 23, 24, 25] rfl rfl rfl (by decide) ⟨Nat.le_of_ble_eq_true rfl, Nat.le_of_ble_eq_true rfl⟩ (fun H locs hP hD hS => ?_)
    refine lv_if_ne (tgt := 25) hx hb dX6_post_16 (by decide) (fun c5 => ?_) (fun c5 => ?_)
    · exact absurd (And.intro c2 (b01f c5)) hno
    · skip
      have c5 := b01t c5
      refine lv_aload_n hx hb dX6_post_19 rfl (lv_at hl 0 rfl) ?_
      refine lv_iconst (v := 1) hx hb dX6_post_20 (by decide) ?_
      obtain ⟨u6, eu6⟩ : ∃ z0 : Rc, z0 = put u1 31 0 1 := ⟨_, rfl⟩
      refine ycalli (invV (As := [.int 1]) (rest := []) (rm := ({ frames := 0, cells := 0, slots := 0, locals := 0 } : Room)) ⟨hx, hb, hml, hown, hts⟩ (cwV 1 hts gX6_post_X6_no rfl rfl rfl (by decide +kernel) ⟨Nat.le_of_ble_eq_true rfl, Nat.le_of_ble_eq_true rfl⟩) (va_recv hK hP (ci := 6) (q0 := 0) rfl rfl) rfl rfl hl.1 (Nat.le_of_ble_eq_true rfl) dX6_post_21) (c_X6_no l D cI h b d u1 q w0 1) hK hN hA hP hD hS (W2 := wMo cI h b d u6 q w0) [0, 1, 2, 3, 4, 5, 6, 7, 8, 9, 10, 11, 12, 13, 14, 15, 16, 17, 18, 19, 20, 21, 22, 23, 24, 25] [] [0, 1, 2, 3, 4, 5, 6, 7, 8, 9, 10, 11, 12, 13, 14, 15, 16, 17, 18, 19, 20, 21, 22, 23, 24, 25] rfl rfl (by subst eu6; rfl) (by decide) ⟨Nat.le_of_ble_eq_true rfl, Nat.le_of_ble_eq_true rfl⟩ (fun H locs hP hD hS => ?_)
      have h7 : u6 = put (put n 31 0 0) 31 0 1 := (by (try subst eu6); (try subst eu1); rfl)
      exact fin _ _ _ _ _ _ _ _ rfl (congrArg (fun z9 : Rc => wMo cI h b d z9 q w0) h7) hP hD hS (Nat.le_of_ble_eq_true rfl) (Nat.le_of_ble_eq_true rfl) dX6_post_24

set_option maxHeartbeats 4000000 in
set_option maxRecDepth 100000 in
theorem c_X6_post_2 (l : Launch) (D : va_G) (cI : ClassId) (h b d : Nat → Nat) (n q w0 : Rc) (s9 : Nat) (hs : s9 < 8) (x : Int32) (ex : x = nI s9) (t9 : Nat) (ht9 : t9 < 16) (y : Int32) (ey : y = nI t9) (he : n 0 0 = 60) : CI l yX6_post wsX6_post ({ frames := 2, cells := 0, slots := 0, locals := 42 } : Room) D cI [.ref (h 0), .int x, .int y] (wMo cI h b d n q w0) 0 (wMo cI h b d (put (put n 31 0 0) 31 0 2) q w0) := by
  refine CI.mk (cc := cX6_post) (maxL := 3) (ret := (some .int)) rfl rfl (by decide) rfl (Nat.le_of_ble_eq_true rfl) ?_
  intro p e s m args below meth c A Q ls hx hb hts hown hml hK hN hA hP hD hS hl fin
  have hown : s.vm.findClass RX6 = some m.cls := hown
  subst ex
  subst ey
  have hRs9 : ¬ nI s9 < 0 ∧ ¬ 7 < nI s9 := rng (M := 7) rfl (by omega) (by decide)
  have hRt9 : ¬ nI t9 < 0 ∧ ¬ 15 < nI t9 := rng (M := 15) rfl (by omega) (by decide)
  have hl : lv_has ls 3 [(0, .ref (h 0)), (1, .int (nI s9)), (2, .int (nI t9))] := hl
  have f37 := hts (.fieldLink RX6 37 "NightSortersModel" "thrown" "I") (by decide +kernel)
  have f46 := hts (.fieldLink RX6 46 "NightSortersModel" "letters" "I") (by decide +kernel)
  have inX6 : ∀ w ∈ wsX60, w ∈ wsX6_post := by decide +kernel
  refine lv_aload_n hx hb dX6_post_0 rfl (lv_at hl 0 rfl) ?_
  refine lv_iconst (v := 0) hx hb dX6_post_1 (by decide) ?_
  obtain ⟨u1, eu1⟩ : ∃ z0 : Rc, z0 = put n 31 0 0 := ⟨_, rfl⟩
  refine va_put (D := D) (ci := 6) (v := .int 0) (ty := .int) (C := RX6) (T := TX6) (N := 10) hx hb hts inX6 tyX6 tyX6_ok nmX6 hown hK hP hD hS 0 rfl rfl 0 (by decide) f37 (fun _ h9 => h9) rfl (by decide +kernel) rfl rfl (Nat.le_of_ble_eq_true rfl) dX6_post_2 (fun H locs hP hD hS => ?_)
  have hP : va_P D vwCl (wMo cI h b d u1 q w0) H := by subst eu1; exact hP
  have hD : va_D A (wMo cI h b d u1 q w0) := by subst eu1; exact hD
  refine lv_iload_n hx hb dX6_post_5 rfl (lv_at hl 1 rfl) ?_
  refine ycalli (invS (As := [.int (nI s9)]) (rest := []) (rm := ({ frames := 1, cells := 0, slots := 0, locals := 22 } : Room)) ⟨hx, hb, hml, hown, hts⟩ (va_cwS 1 hts gX6_post_X6_isStation rfl rfl rfl (by decide +kernel) ⟨Nat.le_of_ble_eq_true rfl, Nat.le_of_ble_eq_true rfl⟩) rfl rfl hl.1 (Nat.le_of_ble_eq_true rfl) dX6_post_6) (c_X6_isStation l D cI (nI s9)) hK hN hA hP hD hS (W2 := wMo cI h b d u1 q w0) [] [0, 1, 2, 3, 4, 5, 6, 7, 8, 9, 10, 11, 12, 13, 14, 15, 16, 17, 18, 19, 20, 21, 22, 23, 24, 25] [0, 1, 2, 3, 4, 5, 6, 7, 8, 9, 10, 11, 12, 13, 14, 15, 16, 17, 18, 19, 20, 21, 22, 23, 24, 25] rfl rfl rfl (by decide) ⟨Nat.le_of_ble_eq_true rfl, Nat.le_of_ble_eq_true rfl⟩ (fun H locs hP hD hS => ?_)
  refine lv_if_eq (tgt := 19) hx hb dX6_post_9 (by decide) (fun c2 => ?_) (fun c2 => ?_)
  · exact absurd hRs9 (b01t c2)
  · skip
    have c2 := b01f c2
    refine lv_iload_n hx hb dX6_post_12 rfl (lv_at hl 2 rfl) ?_
    refine ycalli (invS (As := [.int (nI t9)]) (rest := []) (rm := ({ frames := 1, cells := 0, slots := 0, locals := 22 } : Room)) ⟨hx, hb, hml, hown, hts⟩ (va_cwS 1 hts gX6_post_X6_isTown rfl rfl rfl (by decide +kernel) ⟨Nat.le_of_ble_eq_true rfl, Nat.le_of_ble_eq_true rfl⟩) rfl rfl hl.1 (Nat.le_of_ble_eq_true rfl) dX6_post_13) (c_X6_isTown l D cI (nI t9)) hK hN hA hP hD hS (W2 := wMo cI h b d u1 q w0) [] [0, 1, 2, 3, 4, 5, 6, 7, 8, 9, 10, 11, 12, 13, 14, 15, 16, 17, 18, 19, 20, 21, 22, 23, 24, 25] [0, 1, 2, 3, 4, 5, 6, 7, 8, 9, 10, 11, 12, 13, 14, 15, 16, 17, 18, 19, 20, 21, 22, 23, 24, 25] rfl rfl rfl (by decide) ⟨Nat.le_of_ble_eq_true rfl, Nat.le_of_ble_eq_true rfl⟩ (fun H locs hP hD hS => ?_)
    refine lv_if_ne (tgt := 25) hx hb dX6_post_16 (by decide) (fun c3 => ?_) (fun c3 => ?_)
    · skip
      have c3 := b01f c3
      refine lv_aload_n hx hb dX6_post_25 rfl (lv_at hl 0 rfl) ?_
      refine va_get (D := D) (ci := 6) (v := .int (u1 0 0)) (C := RX6) (T := TX6) (N := 10) hx hb hts inX6 hown hK hP 0 rfl rfl 3 (by decide) f46 (fun _ h9 => h9) rfl dX6_post_26 ?_
      refine lv_bipush (v := 60) hx hb dX6_post_29 (by decide) ?_
      refine lv_icmp_ne (tgt := 40) hx hb dX6_post_31 (by decide) (fun c4 => ?_) (fun c4 => ?_)
      · exact absurd (show u1 0 0 = 60 from (by (try subst eu1); exact he)) c4
      · skip
        refine lv_aload_n hx hb dX6_post_34 rfl (lv_at hl 0 rfl) ?_
        refine lv_iconst (v := 2) hx hb dX6_post_35 (by decide) ?_
        obtain ⟨u5, eu5⟩ : ∃ z0 : Rc, z0 = put u1 31 0 2 := ⟨_, rfl⟩
        refine ycalli (invV (As := [.int 2]) (rest := []) (rm := ({ frames := 0, cells := 0, slots := 0, locals := 0 } : Room)) ⟨hx, hb, hml, hown, hts⟩ (cwV 1 hts gX6_post_X6_no rfl rfl rfl (by decide +kernel) ⟨Nat.le_of_ble_eq_true rfl, Nat.le_of_ble_eq_true rfl⟩) (va_recv hK hP (ci := 6) (q0 := 0) rfl rfl) rfl rfl hl.1 (Nat.le_of_ble_eq_true rfl) dX6_post_36) (c_X6_no l D cI h b d u1 q w0 2) hK hN hA hP hD hS (W2 := wMo cI h b d u5 q w0) [0, 1, 2, 3, 4, 5, 6, 7, 8, 9, 10, 11, 12, 13, 14, 15, 16, 17, 18, 19, 20, 21, 22, 23, 24, 25] [] [0, 1, 2, 3, 4, 5, 6, 7, 8, 9, 10, 11, 12, 13, 14, 15, 16, 17, 18, 19, 20, 21, 22, 23, 24, 25] rfl rfl (by subst eu5; rfl) (by decide) ⟨Nat.le_of_ble_eq_true rfl, Nat.le_of_ble_eq_true rfl⟩ (fun H locs hP hD hS => ?_)
        have h6 : u5 = put (put n 31 0 0) 31 0 2 := (by (try subst eu5); (try subst eu1); rfl)
        exact fin _ _ _ _ _ _ _ _ rfl (congrArg (fun z9 : Rc => wMo cI h b d z9 q w0) h6) hP hD hS (Nat.le_of_ble_eq_true rfl) (Nat.le_of_ble_eq_true rfl) dX6_post_39
    · exact absurd hRt9 (b01t c3)

set_option maxHeartbeats 4000000 in
set_option maxRecDepth 100000 in
theorem c_X6_hire (l : Launch) (D : va_G) (cI : ClassId) (h b d : Nat → Nat) (n q w0 : Rc) (okn : Ok n) (x y : Int32) (h12 : ¬ x < 1 ∧ ¬ 9 < x) (h34 : ¬ y < 0 ∧ ¬ 65535 < y) (hk : iv (n 10 0) < 4) (ne : ¬ n 10 0 = 4) : CI l yX6_hire wsX6_hire ({ frames := 2, cells := 0, slots := 0, locals := 42 } : Room) D cI [.ref (h 0), .int x, .int y] (wMo cI h b d n q w0) (n 10 0 + 1 - 1) (wMo cI h b d (put (put (put n 31 0 0) 11 (iv (n 10 0)) x) 10 0 (n 10 0 + 1)) (put (put q 12 (iv (n 10 0)) y) 15 (iv (n 10 0)) (-1)) w0) := by
  refine CI.mk (cc := cX6_hire) (maxL := 3) (ret := (some .int)) rfl rfl (by decide) rfl (Nat.le_of_ble_eq_true rfl) ?_
  intro p e s m args below meth c A Q ls hx hb hts hown hml hK hN hA hP hD hS hl fin
  have hown : s.vm.findClass RX6 = some m.cls := hown
  have hl : lv_has ls 3 [(0, .ref (h 0)), (1, .int x), (2, .int y)] := hl
  have f22 := hts (.fieldLink RX6 22 "NightSortersModel" "pace" "[I") (by decide +kernel)
  have f30 := hts (.fieldLink RX6 30 "NightSortersModel" "s" "LNightSortersModel$State;") (by decide +kernel)
  have f37 := hts (.fieldLink RX6 37 "NightSortersModel" "thrown" "I") (by decide +kernel)
  have f49 := hts (.fieldLink RX6 49 "NightSortersModel" "sorters" "I") (by decide +kernel)
  have inX5 : ∀ w ∈ wsX50, w ∈ wsX6_hire := by decide +kernel
  have inX6 : ∀ w ∈ wsX60, w ∈ wsX6_hire := by decide +kernel
  refine lv_aload_n hx hb dX6_hire_0 rfl (lv_at hl 0 rfl) ?_
  refine lv_iconst (v := 0) hx hb dX6_hire_1 (by decide) ?_
  obtain ⟨u1, eu1⟩ : ∃ z0 : Rc, z0 = put n 31 0 0 := ⟨_, rfl⟩
  refine va_put (D := D) (ci := 6) (v := .int 0) (ty := .int) (C := RX6) (T := TX6) (N := 10) hx hb hts inX6 tyX6 tyX6_ok nmX6 hown hK hP hD hS 0 rfl rfl 0 (by decide) f37 (fun _ h9 => h9) rfl (by decide +kernel) rfl rfl (Nat.le_of_ble_eq_true rfl) dX6_hire_2 (fun H locs hP hD hS => ?_)
  have hP : va_P D vwCl (wMo cI h b d u1 q w0) H := by subst eu1; exact hP
  have hD : va_D A (wMo cI h b d u1 q w0) := by subst eu1; exact hD
  refine lv_iload_n hx hb dX6_hire_5 rfl (lv_at hl 1 rfl) ?_
  refine lv_iconst (v := 1) hx hb dX6_hire_6 (by decide) ?_
  refine lv_bipush (v := 9) hx hb dX6_hire_7 (by decide) ?_
  refine ycalli (invS (As := [.int x, .int 1, .int 9]) (rest := []) (rm := ({ frames := 0, cells := 0, slots := 0, locals := 0 } : Room)) ⟨hx, hb, hml, hown, hts⟩ (va_cwS 3 hts gX6_hire_X6_isIn rfl rfl rfl (by decide +kernel) ⟨Nat.le_of_ble_eq_true rfl, Nat.le_of_ble_eq_true rfl⟩) rfl rfl hl.1 (Nat.le_of_ble_eq_true rfl) dX6_hire_9) (c_X6_isIn l D cI (x) (1) (9)) hK hN hA hP hD hS (W2 := wMo cI h b d u1 q w0) [] [0, 1, 2, 3, 4, 5, 6, 7, 8, 9, 10, 11, 12, 13, 14, 15, 16, 17, 18, 19, 20, 21, 22, 23, 24, 25] [0, 1, 2, 3, 4, 5, 6, 7, 8, 9, 10, 11, 12, 13, 14, 15, 16, 17, 18, 19, 20, 21, 22, 23, 24, 25] rfl rfl rfl (by decide) ⟨Nat.le_of_ble_eq_true rfl, Nat.le_of_ble_eq_true rfl⟩ (fun H locs hP hD hS => ?_)
  refine lv_if_eq (tgt := 22) hx hb dX6_hire_12 (by decide) (fun c2 => ?_) (fun c2 => ?_)
  · exact absurd h12 (b01t c2)
  · skip
    have c2 := b01f c2
    refine lv_iload_n hx hb dX6_hire_15 rfl (lv_at hl 2 rfl) ?_
    refine ycalli (invS (As := [.int y]) (rest := []) (rm := ({ frames := 1, cells := 0, slots := 0, locals := 22 } : Room)) ⟨hx, hb, hml, hown, hts⟩ (va_cwS 1 hts gX6_hire_X6_isSet rfl rfl rfl (by decide +kernel) ⟨Nat.le_of_ble_eq_true rfl, Nat.le_of_ble_eq_true rfl⟩) rfl rfl hl.1 (Nat.le_of_ble_eq_true rfl) dX6_hire_16) (c_X6_isSet l D cI (y)) hK hN hA hP hD hS (W2 := wMo cI h b d u1 q w0) [] [0, 1, 2, 3, 4, 5, 6, 7, 8, 9, 10, 11, 12, 13, 14, 15, 16, 17, 18, 19, 20, 21, 22, 23, 24, 25] [0, 1, 2, 3, 4, 5, 6, 7, 8, 9, 10, 11, 12, 13, 14, 15, 16, 17, 18, 19, 20, 21, 22, 23, 24, 25] rfl rfl rfl (by decide) ⟨Nat.le_of_ble_eq_true rfl, Nat.le_of_ble_eq_true rfl⟩ (fun H locs hP hD hS => ?_)
    refine lv_if_ne (tgt := 28) hx hb dX6_hire_19 (by decide) (fun c3 => ?_) (fun c3 => ?_)
    · skip
      have c3 := b01f c3
      refine lv_aload_n hx hb dX6_hire_28 rfl (lv_at hl 0 rfl) ?_
      refine va_get (D := D) (ci := 6) (v := .int (u1 10 0)) (C := RX6) (T := TX6) (N := 10) hx hb hts inX6 hown hK hP 0 rfl rfl 6 (by decide) f49 (fun _ h9 => h9) rfl dX6_hire_29 ?_
      refine lv_iconst (v := 4) hx hb dX6_hire_32 (by decide) ?_
      refine lv_icmp_ne (tgt := 42) hx hb dX6_hire_33 (by decide) (fun c4 => ?_) (fun c4 => ?_)
      · skip
        refine lv_aload_n hx hb dX6_hire_42 rfl (lv_at hl 0 rfl) ?_
        refine va_get (D := D) (ci := 6) (v := .ref (h 11)) (C := RX6) (T := TX6) (N := 10) hx hb hts inX6 hown hK hP 0 rfl rfl 7 (by decide) f22 (fun _ h9 => h9) rfl dX6_hire_43 ?_
        refine lv_aload_n hx hb dX6_hire_46 rfl (lv_at hl 0 rfl) ?_
        refine va_get (D := D) (ci := 6) (v := .int (u1 10 0)) (C := RX6) (T := TX6) (N := 10) hx hb hts inX6 hown hK hP 0 rfl rfl 6 (by decide) f49 (fun _ h9 => h9) rfl dX6_hire_47 ?_
        refine lv_iload_n hx hb dX6_hire_50 rfl (lv_at hl 1 rfl) ?_
        obtain ⟨u5, eu5⟩ : ∃ z0 : Rc, z0 = put u1 11 (iv (n 10 0)) x := ⟨_, rfl⟩
        refine xast hx hb hK hP hD hS 5 rfl rfl (iv (n 10 0)) ((by (try subst eu1); exact okn.k)) (hk) (by decide) (wMo cI h b d u5 q w0) (by subst eu5; rfl) dX6_hire_51 (fun H locs hP hD hS => ?_)
        refine lv_aload_n hx hb dX6_hire_52 rfl (lv_at hl 0 rfl) ?_
        refine va_get (D := D) (ci := 6) (v := .ref (b 30)) (C := RX6) (T := TX6) (N := 10) hx hb hts inX6 hown hK hP 0 rfl rfl 8 (by decide) f30 (fun _ h9 => h9) rfl dX6_hire_53 ?_
        refine va_getN (D := D) (ci := 5) (v := .ref (b 12)) (C := RX5) (T := TX5) (N := 11) hx hb hts inX5 hown hK hP 6 rfl rfl 4 (by decide) (NW.F hN (a := RX6) (i := 79) (b := "NightSortersModel$State") (n := "towns") (d := "[I") (h9 := "NightSortersModel") (by decide +kernel)) (fun _ h9 => h9) rfl dX6_hire_56 ?_
        refine lv_aload_n hx hb dX6_hire_59 rfl (lv_at hl 0 rfl) ?_
        refine va_get (D := D) (ci := 6) (v := .int (u5 10 0)) (C := RX6) (T := TX6) (N := 10) hx hb hts inX6 hown hK hP 0 rfl rfl 6 (by decide) f49 (fun _ h9 => h9) rfl dX6_hire_60 ?_
        refine lv_iload_n hx hb dX6_hire_63 rfl (lv_at hl 2 rfl) ?_
        obtain ⟨u6, eu6⟩ : ∃ z0 : Rc, z0 = put q 12 (iv (n 10 0)) y := ⟨_, rfl⟩
        refine xast hx hb hK hP hD hS 10 rfl rfl (iv (n 10 0)) ((by (try subst eu5); (try subst eu1); exact okn.k)) (hk) (by decide) (wMo cI h b d u5 u6 w0) (by subst eu6; rfl) dX6_hire_64 (fun H locs hP hD hS => ?_)
        refine lv_aload_n hx hb dX6_hire_65 rfl (lv_at hl 0 rfl) ?_
        refine va_get (D := D) (ci := 6) (v := .ref (b 30)) (C := RX6) (T := TX6) (N := 10) hx hb hts inX6 hown hK hP 0 rfl rfl 8 (by decide) f30 (fun _ h9 => h9) rfl dX6_hire_66 ?_
        refine va_getN (D := D) (ci := 5) (v := .ref (b 15)) (C := RX5) (T := TX5) (N := 11) hx hb hts inX5 hown hK hP 6 rfl rfl 7 (by decide) (NW.F hN (a := RX6) (i := 82) (b := "NightSortersModel$State") (n := "holds") (d := "[I") (h9 := "NightSortersModel") (by decide +kernel)) (fun _ h9 => h9) rfl dX6_hire_69 ?_
        refine lv_aload_n hx hb dX6_hire_72 rfl (lv_at hl 0 rfl) ?_
        refine va_get (D := D) (ci := 6) (v := .int (u5 10 0)) (C := RX6) (T := TX6) (N := 10) hx hb hts inX6 hown hK hP 0 rfl rfl 6 (by decide) f49 (fun _ h9 => h9) rfl dX6_hire_73 ?_
        refine lv_iconst (v := (-1)) hx hb dX6_hire_76 (by decide) ?_
        obtain ⟨u7, eu7⟩ : ∃ z0 : Rc, z0 = put u6 15 (iv (n 10 0)) (-1) := ⟨_, rfl⟩
        refine xast hx hb hK hP hD hS 13 rfl rfl (iv (n 10 0)) ((by (try subst eu6); (try subst eu5); (try subst eu1); exact okn.k)) (hk) (by decide) (wMo cI h b d u5 u7 w0) (by subst eu7; rfl) dX6_hire_77 (fun H locs hP hD hS => ?_)
        refine lv_aload_n hx hb dX6_hire_78 rfl (lv_at hl 0 rfl) ?_
        refine lv_dup hx hb dX6_hire_79 rfl ?_
        refine va_get (D := D) (ci := 6) (v := .int (u5 10 0)) (C := RX6) (T := TX6) (N := 10) hx hb hts inX6 hown hK hP 0 rfl rfl 6 (by decide) f49 (fun _ h9 => h9) rfl dX6_hire_80 ?_
        refine lv_iconst (v := 1) hx hb dX6_hire_83 (by decide) ?_
        refine lv_iadd hx hb dX6_hire_84 ?_
        obtain ⟨u8, eu8⟩ : ∃ z0 : Rc, z0 = put u5 10 0 ((u5 10 0) + 1) := ⟨_, rfl⟩
        refine va_put (D := D) (ci := 6) (v := .int ((u5 10 0) + 1)) (ty := .int) (C := RX6) (T := TX6) (N := 10) hx hb hts inX6 tyX6 tyX6_ok nmX6 hown hK hP hD hS 0 rfl rfl 6 (by decide) f49 (fun _ h9 => h9) rfl (by decide +kernel) rfl rfl (Nat.le_of_ble_eq_true rfl) dX6_hire_85 (fun H locs hP hD hS => ?_)
        have hP : va_P D vwCl (wMo cI h b d u8 u7 w0) H := by subst eu8; exact hP
        have hD : va_D A (wMo cI h b d u8 u7 w0) := by subst eu8; exact hD
        refine lv_aload_n hx hb dX6_hire_88 rfl (lv_at hl 0 rfl) ?_
        refine va_get (D := D) (ci := 6) (v := .int (u8 10 0)) (C := RX6) (T := TX6) (N := 10) hx hb hts inX6 hown hK hP 0 rfl rfl 6 (by decide) f49 (fun _ h9 => h9) rfl dX6_hire_89 ?_
        refine lv_iconst (v := 1) hx hb dX6_hire_92 (by decide) ?_
        refine lv_isub hx hb dX6_hire_93 ?_
        have h9 : u8 = put (put (put n 31 0 0) 11 (iv (n 10 0)) x) 10 0 (n 10 0 + 1) := (by (try subst eu8); (try subst eu7); (try subst eu6); (try subst eu5); (try subst eu1); rfl)
        have h10 : u7 = put (put q 12 (iv (n 10 0)) y) 15 (iv (n 10 0)) (-1) := (by (try subst eu8); (try subst eu7); (try subst eu6); (try subst eu5); (try subst eu1); rfl)
        exact fin _ _ _ _ _ _ _ _ (by (try subst eu8); (try subst eu7); (try subst eu6); (try subst eu5); (try subst eu1); rfl) ((congrArg (fun z9 : Rc => wMo cI h b d z9 u7 w0) h9).trans (congrArg (fun z9 : Rc => wMo cI h b d (put (put (put n 31 0 0) 11 (iv (n 10 0)) x) 10 0 (n 10 0 + 1)) z9 w0) h10)) hP hD hS (Nat.le_of_ble_eq_true rfl) (Nat.le_of_ble_eq_true rfl) dX6_hire_94
      · exact absurd c4 (by (try subst eu1); exact ne)
    · exact absurd h34 (b01t c3)

set_option maxHeartbeats 4000000 in
set_option maxRecDepth 100000 in
theorem c_X6_hire_1 (l : Launch) (D : va_G) (cI : ClassId) (h b d : Nat → Nat) (n q w0 : Rc) (x y : Int32) (hno : ¬ ((¬ x < 1 ∧ ¬ 9 < x) ∧ (¬ y < 0 ∧ ¬ 65535 < y))) : CI l yX6_hire wsX6_hire ({ frames := 2, cells := 0, slots := 0, locals := 42 } : Room) D cI [.ref (h 0), .int x, .int y] (wMo cI h b d n q w0) 0 (wMo cI h b d (put (put n 31 0 0) 31 0 1) q w0) := by
  refine CI.mk (cc := cX6_hire) (maxL := 3) (ret := (some .int)) rfl rfl (by decide) rfl (Nat.le_of_ble_eq_true rfl) ?_
  intro p e s m args below meth c A Q ls hx hb hts hown hml hK hN hA hP hD hS hl fin
  have hown : s.vm.findClass RX6 = some m.cls := hown
  have hl : lv_has ls 3 [(0, .ref (h 0)), (1, .int x), (2, .int y)] := hl
  have f37 := hts (.fieldLink RX6 37 "NightSortersModel" "thrown" "I") (by decide +kernel)
  have inX6 : ∀ w ∈ wsX60, w ∈ wsX6_hire := by decide +kernel
  refine lv_aload_n hx hb dX6_hire_0 rfl (lv_at hl 0 rfl) ?_
  refine lv_iconst (v := 0) hx hb dX6_hire_1 (by decide) ?_
  obtain ⟨u1, eu1⟩ : ∃ z0 : Rc, z0 = put n 31 0 0 := ⟨_, rfl⟩
  refine va_put (D := D) (ci := 6) (v := .int 0) (ty := .int) (C := RX6) (T := TX6) (N := 10) hx hb hts inX6 tyX6 tyX6_ok nmX6 hown hK hP hD hS 0 rfl rfl 0 (by decide) f37 (fun _ h9 => h9) rfl (by decide +kernel) rfl rfl (Nat.le_of_ble_eq_true rfl) dX6_hire_2 (fun H locs hP hD hS => ?_)
  have hP : va_P D vwCl (wMo cI h b d u1 q w0) H := by subst eu1; exact hP
  have hD : va_D A (wMo cI h b d u1 q w0) := by subst eu1; exact hD
  refine lv_iload_n hx hb dX6_hire_5 rfl (lv_at hl 1 rfl) ?_
  refine lv_iconst (v := 1) hx hb dX6_hire_6 (by decide) ?_
  refine lv_bipush (v := 9) hx hb dX6_hire_7 (by decide) ?_
  refine ycalli (invS (As := [.int x, .int 1, .int 9]) (rest := []) (rm := ({ frames := 0, cells := 0, slots := 0, locals := 0 } : Room)) ⟨hx, hb, hml, hown, hts⟩ (va_cwS 3 hts gX6_hire_X6_isIn rfl rfl rfl (by decide +kernel) ⟨Nat.le_of_ble_eq_true rfl, Nat.le_of_ble_eq_true rfl⟩) rfl rfl hl.1 (Nat.le_of_ble_eq_true rfl) dX6_hire_9) (c_X6_isIn l D cI (x) (1) (9)) hK hN hA hP hD hS (W2 := wMo cI h b d u1 q w0) [] [0, 1, 2, 3, 4, 5, 6, 7, 8, 9, 10, 11, 12, 13, 14, 15, 16, 17, 18, 19, 20, 21, 22, 23, 24, 25] [0, 1, 2, 3, 4, 5, 6, 7, 8, 9, 10, 11, 12, 13, 14, 15, 16, 17, 18, 19, 20, 21, 22, 23, 24, 25] rfl rfl rfl (by decide) ⟨Nat.le_of_ble_eq_true rfl, Nat.le_of_ble_eq_true rfl⟩ (fun H locs hP hD hS => ?_)
  refine lv_if_eq (tgt := 22) hx hb dX6_hire_12 (by decide) (fun c2 => ?_) (fun c2 => ?_)
  · skip
    have c2 := b01t c2
    refine lv_aload_n hx hb dX6_hire_22 rfl (lv_at hl 0 rfl) ?_
    refine lv_iconst (v := 1) hx hb dX6_hire_23 (by decide) ?_
    obtain ⟨u3, eu3⟩ : ∃ z0 : Rc, z0 = put u1 31 0 1 := ⟨_, rfl⟩
    refine ycalli (invV (As := [.int 1]) (rest := []) (rm := ({ frames := 0, cells := 0, slots := 0, locals := 0 } : Room)) ⟨hx, hb, hml, hown, hts⟩ (cwV 1 hts gX6_hire_X6_no rfl rfl rfl (by decide +kernel) ⟨Nat.le_of_ble_eq_true rfl, Nat.le_of_ble_eq_true rfl⟩) (va_recv hK hP (ci := 6) (q0 := 0) rfl rfl) rfl rfl hl.1 (Nat.le_of_ble_eq_true rfl) dX6_hire_24) (c_X6_no l D cI h b d u1 q w0 1) hK hN hA hP hD hS (W2 := wMo cI h b d u3 q w0) [0, 1, 2, 3, 4, 5, 6, 7, 8, 9, 10, 11, 12, 13, 14, 15, 16, 17, 18, 19, 20, 21, 22, 23, 24, 25] [] [0, 1, 2, 3, 4, 5, 6, 7, 8, 9, 10, 11, 12, 13, 14, 15, 16, 17, 18, 19, 20, 21, 22, 23, 24, 25] rfl rfl (by subst eu3; rfl) (by decide) ⟨Nat.le_of_ble_eq_true rfl, Nat.le_of_ble_eq_true rfl⟩ (fun H locs hP hD hS => ?_)
    have h4 : u3 = put (put n 31 0 0) 31 0 1 := (by (try subst eu3); (try subst eu1); rfl)
    exact fin _ _ _ _ _ _ _ _ rfl (congrArg (fun z9 : Rc => wMo cI h b d z9 q w0) h4) hP hD hS (Nat.le_of_ble_eq_true rfl) (Nat.le_of_ble_eq_true rfl) dX6_hire_27
  · skip
    have c2 := b01f c2
    refine lv_iload_n hx hb dX6_hire_15 rfl (lv_at hl 2 rfl) ?_
    refine ycalli (invS (As := [.int y]) (rest := []) (rm := ({ frames := 1, cells := 0, slots := 0, locals := 22 } : Room)) ⟨hx, hb, hml, hown, hts⟩ (va_cwS 1 hts gX6_hire_X6_isSet rfl rfl rfl (by decide +kernel) ⟨Nat.le_of_ble_eq_true rfl, Nat.le_of_ble_eq_true rfl⟩) rfl rfl hl.1 (Nat.le_of_ble_eq_true rfl) dX6_hire_16) (c_X6_isSet l D cI (y)) hK hN hA hP hD hS (W2 := wMo cI h b d u1 q w0) [] [0, 1, 2, 3, 4, 5, 6, 7, 8, 9, 10, 11, 12, 13, 14, 15, 16, 17, 18, 19, 20, 21, 22, 23, 24, 25] [0, 1, 2, 3, 4, 5, 6, 7, 8, 9, 10, 11, 12, 13, 14, 15, 16, 17, 18, 19, 20, 21, 22, 23, 24, 25] rfl rfl rfl (by decide) ⟨Nat.le_of_ble_eq_true rfl, Nat.le_of_ble_eq_true rfl⟩ (fun H locs hP hD hS => ?_)
    refine lv_if_ne (tgt := 28) hx hb dX6_hire_19 (by decide) (fun c5 => ?_) (fun c5 => ?_)
    · exact absurd (And.intro c2 (b01f c5)) hno
    · skip
      have c5 := b01t c5
      refine lv_aload_n hx hb dX6_hire_22 rfl (lv_at hl 0 rfl) ?_
      refine lv_iconst (v := 1) hx hb dX6_hire_23 (by decide) ?_
      obtain ⟨u6, eu6⟩ : ∃ z0 : Rc, z0 = put u1 31 0 1 := ⟨_, rfl⟩
      refine ycalli (invV (As := [.int 1]) (rest := []) (rm := ({ frames := 0, cells := 0, slots := 0, locals := 0 } : Room)) ⟨hx, hb, hml, hown, hts⟩ (cwV 1 hts gX6_hire_X6_no rfl rfl rfl (by decide +kernel) ⟨Nat.le_of_ble_eq_true rfl, Nat.le_of_ble_eq_true rfl⟩) (va_recv hK hP (ci := 6) (q0 := 0) rfl rfl) rfl rfl hl.1 (Nat.le_of_ble_eq_true rfl) dX6_hire_24) (c_X6_no l D cI h b d u1 q w0 1) hK hN hA hP hD hS (W2 := wMo cI h b d u6 q w0) [0, 1, 2, 3, 4, 5, 6, 7, 8, 9, 10, 11, 12, 13, 14, 15, 16, 17, 18, 19, 20, 21, 22, 23, 24, 25] [] [0, 1, 2, 3, 4, 5, 6, 7, 8, 9, 10, 11, 12, 13, 14, 15, 16, 17, 18, 19, 20, 21, 22, 23, 24, 25] rfl rfl (by subst eu6; rfl) (by decide) ⟨Nat.le_of_ble_eq_true rfl, Nat.le_of_ble_eq_true rfl⟩ (fun H locs hP hD hS => ?_)
      have h7 : u6 = put (put n 31 0 0) 31 0 1 := (by (try subst eu6); (try subst eu1); rfl)
      exact fin _ _ _ _ _ _ _ _ rfl (congrArg (fun z9 : Rc => wMo cI h b d z9 q w0) h7) hP hD hS (Nat.le_of_ble_eq_true rfl) (Nat.le_of_ble_eq_true rfl) dX6_hire_27

set_option maxHeartbeats 4000000 in
set_option maxRecDepth 100000 in
theorem c_X6_hire_2 (l : Launch) (D : va_G) (cI : ClassId) (h b d : Nat → Nat) (n q w0 : Rc) (x y : Int32) (h12 : ¬ x < 1 ∧ ¬ 9 < x) (h34 : ¬ y < 0 ∧ ¬ 65535 < y) (he : n 10 0 = 4) : CI l yX6_hire wsX6_hire ({ frames := 2, cells := 0, slots := 0, locals := 42 } : Room) D cI [.ref (h 0), .int x, .int y] (wMo cI h b d n q w0) 0 (wMo cI h b d (put (put n 31 0 0) 31 0 2) q w0) := by
  refine CI.mk (cc := cX6_hire) (maxL := 3) (ret := (some .int)) rfl rfl (by decide) rfl (Nat.le_of_ble_eq_true rfl) ?_
  intro p e s m args below meth c A Q ls hx hb hts hown hml hK hN hA hP hD hS hl fin
  have hown : s.vm.findClass RX6 = some m.cls := hown
  have hl : lv_has ls 3 [(0, .ref (h 0)), (1, .int x), (2, .int y)] := hl
  have f37 := hts (.fieldLink RX6 37 "NightSortersModel" "thrown" "I") (by decide +kernel)
  have f49 := hts (.fieldLink RX6 49 "NightSortersModel" "sorters" "I") (by decide +kernel)
  have inX6 : ∀ w ∈ wsX60, w ∈ wsX6_hire := by decide +kernel
  refine lv_aload_n hx hb dX6_hire_0 rfl (lv_at hl 0 rfl) ?_
  refine lv_iconst (v := 0) hx hb dX6_hire_1 (by decide) ?_
  obtain ⟨u1, eu1⟩ : ∃ z0 : Rc, z0 = put n 31 0 0 := ⟨_, rfl⟩
  refine va_put (D := D) (ci := 6) (v := .int 0) (ty := .int) (C := RX6) (T := TX6) (N := 10) hx hb hts inX6 tyX6 tyX6_ok nmX6 hown hK hP hD hS 0 rfl rfl 0 (by decide) f37 (fun _ h9 => h9) rfl (by decide +kernel) rfl rfl (Nat.le_of_ble_eq_true rfl) dX6_hire_2 (fun H locs hP hD hS => ?_)
  have hP : va_P D vwCl (wMo cI h b d u1 q w0) H := by subst eu1; exact hP
  have hD : va_D A (wMo cI h b d u1 q w0) := by subst eu1; exact hD
  refine lv_iload_n hx hb dX6_hire_5 rfl (lv_at hl 1 rfl) ?_
  refine lv_iconst (v := 1) hx hb dX6_hire_6 (by decide) ?_
  refine lv_bipush (v := 9) hx hb dX6_hire_7 (by decide) ?_
  refine ycalli (invS (As := [.int x, .int 1, .int 9]) (rest := []) (rm := ({ frames := 0, cells := 0, slots := 0, locals := 0 } : Room)) ⟨hx, hb, hml, hown, hts⟩ (va_cwS 3 hts gX6_hire_X6_isIn rfl rfl rfl (by decide +kernel) ⟨Nat.le_of_ble_eq_true rfl, Nat.le_of_ble_eq_true rfl⟩) rfl rfl hl.1 (Nat.le_of_ble_eq_true rfl) dX6_hire_9) (c_X6_isIn l D cI (x) (1) (9)) hK hN hA hP hD hS (W2 := wMo cI h b d u1 q w0) [] [0, 1, 2, 3, 4, 5, 6, 7, 8, 9, 10, 11, 12, 13, 14, 15, 16, 17, 18, 19, 20, 21, 22, 23, 24, 25] [0, 1, 2, 3, 4, 5, 6, 7, 8, 9, 10, 11, 12, 13, 14, 15, 16, 17, 18, 19, 20, 21, 22, 23, 24, 25] rfl rfl rfl (by decide) ⟨Nat.le_of_ble_eq_true rfl, Nat.le_of_ble_eq_true rfl⟩ (fun H locs hP hD hS => ?_)
  refine lv_if_eq (tgt := 22) hx hb dX6_hire_12 (by decide) (fun c2 => ?_) (fun c2 => ?_)
  · exact absurd h12 (b01t c2)
  · skip
    have c2 := b01f c2
    refine lv_iload_n hx hb dX6_hire_15 rfl (lv_at hl 2 rfl) ?_
    refine ycalli (invS (As := [.int y]) (rest := []) (rm := ({ frames := 1, cells := 0, slots := 0, locals := 22 } : Room)) ⟨hx, hb, hml, hown, hts⟩ (va_cwS 1 hts gX6_hire_X6_isSet rfl rfl rfl (by decide +kernel) ⟨Nat.le_of_ble_eq_true rfl, Nat.le_of_ble_eq_true rfl⟩) rfl rfl hl.1 (Nat.le_of_ble_eq_true rfl) dX6_hire_16) (c_X6_isSet l D cI (y)) hK hN hA hP hD hS (W2 := wMo cI h b d u1 q w0) [] [0, 1, 2, 3, 4, 5, 6, 7, 8, 9, 10, 11, 12, 13, 14, 15, 16, 17, 18, 19, 20, 21, 22, 23, 24, 25] [0, 1, 2, 3, 4, 5, 6, 7, 8, 9, 10, 11, 12, 13, 14, 15, 16, 17, 18, 19, 20, 21, 22, 23, 24, 25] rfl rfl rfl (by decide) ⟨Nat.le_of_ble_eq_true rfl, Nat.le_of_ble_eq_true rfl⟩ (fun H locs hP hD hS => ?_)
    refine lv_if_ne (tgt := 28) hx hb dX6_hire_19 (by decide) (fun c3 => ?_) (fun c3 => ?_)
    · skip
      have c3 := b01f c3
      refine lv_aload_n hx hb dX6_hire_28 rfl (lv_at hl 0 rfl) ?_
      refine va_get (D := D) (ci := 6) (v := .int (u1 10 0)) (C := RX6) (T := TX6) (N := 10) hx hb hts inX6 hown hK hP 0 rfl rfl 6 (by decide) f49 (fun _ h9 => h9) rfl dX6_hire_29 ?_
      refine lv_iconst (v := 4) hx hb dX6_hire_32 (by decide) ?_
      refine lv_icmp_ne (tgt := 42) hx hb dX6_hire_33 (by decide) (fun c4 => ?_) (fun c4 => ?_)
      · exact absurd (show u1 10 0 = 4 from (by (try subst eu1); exact he)) c4
      · skip
        refine lv_aload_n hx hb dX6_hire_36 rfl (lv_at hl 0 rfl) ?_
        refine lv_iconst (v := 2) hx hb dX6_hire_37 (by decide) ?_
        obtain ⟨u5, eu5⟩ : ∃ z0 : Rc, z0 = put u1 31 0 2 := ⟨_, rfl⟩
        refine ycalli (invV (As := [.int 2]) (rest := []) (rm := ({ frames := 0, cells := 0, slots := 0, locals := 0 } : Room)) ⟨hx, hb, hml, hown, hts⟩ (cwV 1 hts gX6_hire_X6_no rfl rfl rfl (by decide +kernel) ⟨Nat.le_of_ble_eq_true rfl, Nat.le_of_ble_eq_true rfl⟩) (va_recv hK hP (ci := 6) (q0 := 0) rfl rfl) rfl rfl hl.1 (Nat.le_of_ble_eq_true rfl) dX6_hire_38) (c_X6_no l D cI h b d u1 q w0 2) hK hN hA hP hD hS (W2 := wMo cI h b d u5 q w0) [0, 1, 2, 3, 4, 5, 6, 7, 8, 9, 10, 11, 12, 13, 14, 15, 16, 17, 18, 19, 20, 21, 22, 23, 24, 25] [] [0, 1, 2, 3, 4, 5, 6, 7, 8, 9, 10, 11, 12, 13, 14, 15, 16, 17, 18, 19, 20, 21, 22, 23, 24, 25] rfl rfl (by subst eu5; rfl) (by decide) ⟨Nat.le_of_ble_eq_true rfl, Nat.le_of_ble_eq_true rfl⟩ (fun H locs hP hD hS => ?_)
        have h6 : u5 = put (put n 31 0 0) 31 0 2 := (by (try subst eu5); (try subst eu1); rfl)
        exact fin _ _ _ _ _ _ _ _ rfl (congrArg (fun z9 : Rc => wMo cI h b d z9 q w0) h6) hP hD hS (Nat.le_of_ble_eq_true rfl) (Nat.le_of_ble_eq_true rfl) dX6_hire_41
    · exact absurd h34 (b01t c3)

set_option maxHeartbeats 4000000 in
set_option maxRecDepth 100000 in
theorem c_X6_assign (l : Launch) (D : va_G) (cI : ClassId) (h b d : Nat → Nat) (n q w0 : Rc) (s9 : Nat) (hs : s9 < 4) (x : Int32) (ex : x = nI s9) (hr : ¬ nI s9 < 0 ∧ ¬ (n 10 0 - 1) < nI s9) (y : Int32) (h34 : ¬ y < 0 ∧ ¬ 65535 < y) : CI l yX6_assign wsX6_assign ({ frames := 2, cells := 0, slots := 0, locals := 43 } : Room) D cI [.ref (h 0), .int x, .int y] (wMo cI h b d n q w0) (q 12 s9) (wMo cI h b d (put n 31 0 0) (put q 12 s9 y) w0) := by
  refine CI.mk (cc := cX6_assign) (maxL := 4) (ret := (some .int)) rfl rfl (by decide) rfl (Nat.le_of_ble_eq_true rfl) ?_
  intro p e s m args below meth c A Q ls hx hb hts hown hml hK hN hA hP hD hS hl fin
  have hown : s.vm.findClass RX6 = some m.cls := hown
  subst ex
  have hl : lv_has ls 4 [(0, .ref (h 0)), (1, .int (nI s9)), (2, .int y)] := hl
  have f30 := hts (.fieldLink RX6 30 "NightSortersModel" "s" "LNightSortersModel$State;") (by decide +kernel)
  have f37 := hts (.fieldLink RX6 37 "NightSortersModel" "thrown" "I") (by decide +kernel)
  have inX5 : ∀ w ∈ wsX50, w ∈ wsX6_assign := by decide +kernel
  have inX6 : ∀ w ∈ wsX60, w ∈ wsX6_assign := by decide +kernel
  refine lv_aload_n hx hb dX6_assign_0 rfl (lv_at hl 0 rfl) ?_
  refine lv_iconst (v := 0) hx hb dX6_assign_1 (by decide) ?_
  obtain ⟨u1, eu1⟩ : ∃ z0 : Rc, z0 = put n 31 0 0 := ⟨_, rfl⟩
  refine va_put (D := D) (ci := 6) (v := .int 0) (ty := .int) (C := RX6) (T := TX6) (N := 10) hx hb hts inX6 tyX6 tyX6_ok nmX6 hown hK hP hD hS 0 rfl rfl 0 (by decide) f37 (fun _ h9 => h9) rfl (by decide +kernel) rfl rfl (Nat.le_of_ble_eq_true rfl) dX6_assign_2 (fun H locs hP hD hS => ?_)
  have hP : va_P D vwCl (wMo cI h b d u1 q w0) H := by subst eu1; exact hP
  have hD : va_D A (wMo cI h b d u1 q w0) := by subst eu1; exact hD
  refine lv_aload_n hx hb dX6_assign_5 rfl (lv_at hl 0 rfl) ?_
  refine lv_iload_n hx hb dX6_assign_6 rfl (lv_at hl 1 rfl) ?_
  refine ycalli (invV (As := [.int (nI s9)]) (rest := []) (rm := ({ frames := 1, cells := 0, slots := 0, locals := 22 } : Room)) ⟨hx, hb, hml, hown, hts⟩ (cwV 1 hts gX6_assign_X6_isSorter rfl rfl rfl (by decide +kernel) ⟨Nat.le_of_ble_eq_true rfl, Nat.le_of_ble_eq_true rfl⟩) (va_recv hK hP (ci := 6) (q0 := 0) rfl rfl) rfl rfl hl.1 (Nat.le_of_ble_eq_true rfl) dX6_assign_7) (c_X6_isSorter l D cI h b d u1 q w0 (nI s9)) hK hN hA hP hD hS (W2 := wMo cI h b d u1 q w0) [0, 1, 2, 3, 4, 5, 6, 7, 8, 9, 10, 11, 12, 13, 14, 15, 16, 17, 18, 19, 20, 21, 22, 23, 24, 25] [] [0, 1, 2, 3, 4, 5, 6, 7, 8, 9, 10, 11, 12, 13, 14, 15, 16, 17, 18, 19, 20, 21, 22, 23, 24, 25] rfl rfl rfl (by decide) ⟨Nat.le_of_ble_eq_true rfl, Nat.le_of_ble_eq_true rfl⟩ (fun H locs hP hD hS => ?_)
  refine lv_if_ne (tgt := 19) hx hb dX6_assign_10 (by decide) (fun c2 => ?_) (fun c2 => ?_)
  · skip
    have c2 := b01f c2
    refine lv_iload_n hx hb dX6_assign_19 rfl (lv_at hl 2 rfl) ?_
    refine ycalli (invS (As := [.int y]) (rest := []) (rm := ({ frames := 1, cells := 0, slots := 0, locals := 22 } : Room)) ⟨hx, hb, hml, hown, hts⟩ (va_cwS 1 hts gX6_assign_X6_isSet rfl rfl rfl (by decide +kernel) ⟨Nat.le_of_ble_eq_true rfl, Nat.le_of_ble_eq_true rfl⟩) rfl rfl hl.1 (Nat.le_of_ble_eq_true rfl) dX6_assign_20) (c_X6_isSet l D cI (y)) hK hN hA hP hD hS (W2 := wMo cI h b d u1 q w0) [] [0, 1, 2, 3, 4, 5, 6, 7, 8, 9, 10, 11, 12, 13, 14, 15, 16, 17, 18, 19, 20, 21, 22, 23, 24, 25] [0, 1, 2, 3, 4, 5, 6, 7, 8, 9, 10, 11, 12, 13, 14, 15, 16, 17, 18, 19, 20, 21, 22, 23, 24, 25] rfl rfl rfl (by decide) ⟨Nat.le_of_ble_eq_true rfl, Nat.le_of_ble_eq_true rfl⟩ (fun H locs hP hD hS => ?_)
    refine lv_if_ne (tgt := 32) hx hb dX6_assign_23 (by decide) (fun c3 => ?_) (fun c3 => ?_)
    · skip
      have c3 := b01f c3
      refine lv_aload_n hx hb dX6_assign_32 rfl (lv_at hl 0 rfl) ?_
      refine va_get (D := D) (ci := 6) (v := .ref (b 30)) (C := RX6) (T := TX6) (N := 10) hx hb hts inX6 hown hK hP 0 rfl rfl 8 (by decide) f30 (fun _ h9 => h9) rfl dX6_assign_33 ?_
      refine va_getN (D := D) (ci := 5) (v := .ref (b 12)) (C := RX5) (T := TX5) (N := 11) hx hb hts inX5 hown hK hP 6 rfl rfl 4 (by decide) (NW.F hN (a := RX6) (i := 79) (b := "NightSortersModel$State") (n := "towns") (d := "[I") (h9 := "NightSortersModel") (by decide +kernel)) (fun _ h9 => h9) rfl dX6_assign_36 ?_
      refine lv_iload_n hx hb dX6_assign_39 rfl (lv_at hl 1 rfl) ?_
      refine xald hx hb hK hP 10 rfl rfl (s9) (rfl) (by omega) (by decide) dX6_assign_40 ?_
      refine lv_istore_n (lv' := [(3, .int (q 12 s9)), (0, .ref (h 0)), (1, .int (nI s9)), (2, .int y)]) hx hb dX6_assign_41 rfl hl (by decide) rfl (fun ls hl => ?_)
      refine lv_aload_n hx hb dX6_assign_42 rfl (lv_at hl 1 rfl) ?_
      refine va_get (D := D) (ci := 6) (v := .ref (b 30)) (C := RX6) (T := TX6) (N := 10) hx hb hts inX6 hown hK hP 0 rfl rfl 8 (by decide) f30 (fun _ h9 => h9) rfl dX6_assign_43 ?_
      refine va_getN (D := D) (ci := 5) (v := .ref (b 12)) (C := RX5) (T := TX5) (N := 11) hx hb hts inX5 hown hK hP 6 rfl rfl 4 (by decide) (NW.F hN (a := RX6) (i := 79) (b := "NightSortersModel$State") (n := "towns") (d := "[I") (h9 := "NightSortersModel") (by decide +kernel)) (fun _ h9 => h9) rfl dX6_assign_46 ?_
      refine lv_iload_n hx hb dX6_assign_49 rfl (lv_at hl 2 rfl) ?_
      refine lv_iload_n hx hb dX6_assign_50 rfl (lv_at hl 3 rfl) ?_
      obtain ⟨u4, eu4⟩ : ∃ z0 : Rc, z0 = put q 12 s9 y := ⟨_, rfl⟩
      refine xast hx hb hK hP hD hS 10 rfl rfl (s9) (rfl) (by omega) (by decide) (wMo cI h b d u1 u4 w0) (by subst eu4; rfl) dX6_assign_51 (fun H locs hP hD hS => ?_)
      refine lv_iload_n hx hb dX6_assign_52 rfl (lv_at hl 0 rfl) ?_
      have h5 : u1 = put n 31 0 0 := (by (try subst eu4); (try subst eu1); rfl)
      have h6 : u4 = put q 12 s9 y := (by (try subst eu4); (try subst eu1); rfl)
      exact fin _ _ _ _ _ _ _ _ rfl ((congrArg (fun z9 : Rc => wMo cI h b d z9 u4 w0) h5).trans (congrArg (fun z9 : Rc => wMo cI h b d (put n 31 0 0) z9 w0) h6)) hP hD hS (Nat.le_of_ble_eq_true rfl) (Nat.le_of_ble_eq_true rfl) dX6_assign_53
    · exact absurd h34 (b01t c3)
  · exact absurd (show ¬ nI s9 < 0 ∧ ¬ (u1 10 0 - 1) < nI s9 from (by (try subst eu1); exact hr)) (b01t c2)

set_option maxHeartbeats 4000000 in
set_option maxRecDepth 100000 in
theorem c_X6_assign_1 (l : Launch) (D : va_G) (cI : ClassId) (h b d : Nat → Nat) (n q w0 : Rc) (x y : Int32) (hno : ¬ (¬ x < 0 ∧ ¬ (n 10 0 - 1) < x)) : CI l yX6_assign wsX6_assign ({ frames := 2, cells := 0, slots := 0, locals := 43 } : Room) D cI [.ref (h 0), .int x, .int y] (wMo cI h b d n q w0) 0 (wMo cI h b d (put (put n 31 0 0) 31 0 1) q w0) := by
  refine CI.mk (cc := cX6_assign) (maxL := 4) (ret := (some .int)) rfl rfl (by decide) rfl (Nat.le_of_ble_eq_true rfl) ?_
  intro p e s m args below meth c A Q ls hx hb hts hown hml hK hN hA hP hD hS hl fin
  have hown : s.vm.findClass RX6 = some m.cls := hown
  have hl : lv_has ls 4 [(0, .ref (h 0)), (1, .int x), (2, .int y)] := hl
  have f37 := hts (.fieldLink RX6 37 "NightSortersModel" "thrown" "I") (by decide +kernel)
  have inX6 : ∀ w ∈ wsX60, w ∈ wsX6_assign := by decide +kernel
  refine lv_aload_n hx hb dX6_assign_0 rfl (lv_at hl 0 rfl) ?_
  refine lv_iconst (v := 0) hx hb dX6_assign_1 (by decide) ?_
  obtain ⟨u1, eu1⟩ : ∃ z0 : Rc, z0 = put n 31 0 0 := ⟨_, rfl⟩
  refine va_put (D := D) (ci := 6) (v := .int 0) (ty := .int) (C := RX6) (T := TX6) (N := 10) hx hb hts inX6 tyX6 tyX6_ok nmX6 hown hK hP hD hS 0 rfl rfl 0 (by decide) f37 (fun _ h9 => h9) rfl (by decide +kernel) rfl rfl (Nat.le_of_ble_eq_true rfl) dX6_assign_2 (fun H locs hP hD hS => ?_)
  have hP : va_P D vwCl (wMo cI h b d u1 q w0) H := by subst eu1; exact hP
  have hD : va_D A (wMo cI h b d u1 q w0) := by subst eu1; exact hD
  refine lv_aload_n hx hb dX6_assign_5 rfl (lv_at hl 0 rfl) ?_
  refine lv_iload_n hx hb dX6_assign_6 rfl (lv_at hl 1 rfl) ?_
  refine ycalli (invV (As := [.int x]) (rest := []) (rm := ({ frames := 1, cells := 0, slots := 0, locals := 22 } : Room)) ⟨hx, hb, hml, hown, hts⟩ (cwV 1 hts gX6_assign_X6_isSorter rfl rfl rfl (by decide +kernel) ⟨Nat.le_of_ble_eq_true rfl, Nat.le_of_ble_eq_true rfl⟩) (va_recv hK hP (ci := 6) (q0 := 0) rfl rfl) rfl rfl hl.1 (Nat.le_of_ble_eq_true rfl) dX6_assign_7) (c_X6_isSorter l D cI h b d u1 q w0 (x)) hK hN hA hP hD hS (W2 := wMo cI h b d u1 q w0) [0, 1, 2, 3, 4, 5, 6, 7, 8, 9, 10, 11, 12, 13, 14, 15, 16, 17, 18, 19, 20, 21, 22, 23, 24, 25] [] [0, 1, 2, 3, 4, 5, 6, 7, 8, 9, 10, 11, 12, 13, 14, 15, 16, 17, 18, 19, 20, 21, 22, 23, 24, 25] rfl rfl rfl (by decide) ⟨Nat.le_of_ble_eq_true rfl, Nat.le_of_ble_eq_true rfl⟩ (fun H locs hP hD hS => ?_)
  refine lv_if_ne (tgt := 19) hx hb dX6_assign_10 (by decide) (fun c2 => ?_) (fun c2 => ?_)
  · exact absurd (show ¬ x < 0 ∧ ¬ (n 10 0 - 1) < x from (by (try subst eu1); exact b01f c2)) hno
  · skip
    have c2 := b01t c2
    refine lv_aload_n hx hb dX6_assign_13 rfl (lv_at hl 0 rfl) ?_
    refine lv_iconst (v := 1) hx hb dX6_assign_14 (by decide) ?_
    obtain ⟨u3, eu3⟩ : ∃ z0 : Rc, z0 = put u1 31 0 1 := ⟨_, rfl⟩
    refine ycalli (invV (As := [.int 1]) (rest := []) (rm := ({ frames := 0, cells := 0, slots := 0, locals := 0 } : Room)) ⟨hx, hb, hml, hown, hts⟩ (cwV 1 hts gX6_assign_X6_no rfl rfl rfl (by decide +kernel) ⟨Nat.le_of_ble_eq_true rfl, Nat.le_of_ble_eq_true rfl⟩) (va_recv hK hP (ci := 6) (q0 := 0) rfl rfl) rfl rfl hl.1 (Nat.le_of_ble_eq_true rfl) dX6_assign_15) (c_X6_no l D cI h b d u1 q w0 1) hK hN hA hP hD hS (W2 := wMo cI h b d u3 q w0) [0, 1, 2, 3, 4, 5, 6, 7, 8, 9, 10, 11, 12, 13, 14, 15, 16, 17, 18, 19, 20, 21, 22, 23, 24, 25] [] [0, 1, 2, 3, 4, 5, 6, 7, 8, 9, 10, 11, 12, 13, 14, 15, 16, 17, 18, 19, 20, 21, 22, 23, 24, 25] rfl rfl (by subst eu3; rfl) (by decide) ⟨Nat.le_of_ble_eq_true rfl, Nat.le_of_ble_eq_true rfl⟩ (fun H locs hP hD hS => ?_)
    have h4 : u3 = put (put n 31 0 0) 31 0 1 := (by (try subst eu3); (try subst eu1); rfl)
    exact fin _ _ _ _ _ _ _ _ rfl (congrArg (fun z9 : Rc => wMo cI h b d z9 q w0) h4) hP hD hS (Nat.le_of_ble_eq_true rfl) (Nat.le_of_ble_eq_true rfl) dX6_assign_18

set_option maxHeartbeats 4000000 in
set_option maxRecDepth 100000 in
theorem c_X6_assign_2 (l : Launch) (D : va_G) (cI : ClassId) (h b d : Nat → Nat) (n q w0 : Rc) (s9 : Nat) (hs : s9 < 4) (x : Int32) (ex : x = nI s9) (hr : ¬ nI s9 < 0 ∧ ¬ (n 10 0 - 1) < nI s9) (y : Int32) (hno : ¬ (¬ y < 0 ∧ ¬ 65535 < y)) : CI l yX6_assign wsX6_assign ({ frames := 2, cells := 0, slots := 0, locals := 43 } : Room) D cI [.ref (h 0), .int x, .int y] (wMo cI h b d n q w0) 0 (wMo cI h b d (put (put n 31 0 0) 31 0 2) q w0) := by
  refine CI.mk (cc := cX6_assign) (maxL := 4) (ret := (some .int)) rfl rfl (by decide) rfl (Nat.le_of_ble_eq_true rfl) ?_
  intro p e s m args below meth c A Q ls hx hb hts hown hml hK hN hA hP hD hS hl fin
  have hown : s.vm.findClass RX6 = some m.cls := hown
  subst ex
  have hl : lv_has ls 4 [(0, .ref (h 0)), (1, .int (nI s9)), (2, .int y)] := hl
  have f37 := hts (.fieldLink RX6 37 "NightSortersModel" "thrown" "I") (by decide +kernel)
  have inX6 : ∀ w ∈ wsX60, w ∈ wsX6_assign := by decide +kernel
  refine lv_aload_n hx hb dX6_assign_0 rfl (lv_at hl 0 rfl) ?_
  refine lv_iconst (v := 0) hx hb dX6_assign_1 (by decide) ?_
  obtain ⟨u1, eu1⟩ : ∃ z0 : Rc, z0 = put n 31 0 0 := ⟨_, rfl⟩
  refine va_put (D := D) (ci := 6) (v := .int 0) (ty := .int) (C := RX6) (T := TX6) (N := 10) hx hb hts inX6 tyX6 tyX6_ok nmX6 hown hK hP hD hS 0 rfl rfl 0 (by decide) f37 (fun _ h9 => h9) rfl (by decide +kernel) rfl rfl (Nat.le_of_ble_eq_true rfl) dX6_assign_2 (fun H locs hP hD hS => ?_)
  have hP : va_P D vwCl (wMo cI h b d u1 q w0) H := by subst eu1; exact hP
  have hD : va_D A (wMo cI h b d u1 q w0) := by subst eu1; exact hD
  refine lv_aload_n hx hb dX6_assign_5 rfl (lv_at hl 0 rfl) ?_
  refine lv_iload_n hx hb dX6_assign_6 rfl (lv_at hl 1 rfl) ?_
  refine ycalli (invV (As := [.int (nI s9)]) (rest := []) (rm := ({ frames := 1, cells := 0, slots := 0, locals := 22 } : Room)) ⟨hx, hb, hml, hown, hts⟩ (cwV 1 hts gX6_assign_X6_isSorter rfl rfl rfl (by decide +kernel) ⟨Nat.le_of_ble_eq_true rfl, Nat.le_of_ble_eq_true rfl⟩) (va_recv hK hP (ci := 6) (q0 := 0) rfl rfl) rfl rfl hl.1 (Nat.le_of_ble_eq_true rfl) dX6_assign_7) (c_X6_isSorter l D cI h b d u1 q w0 (nI s9)) hK hN hA hP hD hS (W2 := wMo cI h b d u1 q w0) [0, 1, 2, 3, 4, 5, 6, 7, 8, 9, 10, 11, 12, 13, 14, 15, 16, 17, 18, 19, 20, 21, 22, 23, 24, 25] [] [0, 1, 2, 3, 4, 5, 6, 7, 8, 9, 10, 11, 12, 13, 14, 15, 16, 17, 18, 19, 20, 21, 22, 23, 24, 25] rfl rfl rfl (by decide) ⟨Nat.le_of_ble_eq_true rfl, Nat.le_of_ble_eq_true rfl⟩ (fun H locs hP hD hS => ?_)
  refine lv_if_ne (tgt := 19) hx hb dX6_assign_10 (by decide) (fun c2 => ?_) (fun c2 => ?_)
  · skip
    have c2 := b01f c2
    refine lv_iload_n hx hb dX6_assign_19 rfl (lv_at hl 2 rfl) ?_
    refine ycalli (invS (As := [.int y]) (rest := []) (rm := ({ frames := 1, cells := 0, slots := 0, locals := 22 } : Room)) ⟨hx, hb, hml, hown, hts⟩ (va_cwS 1 hts gX6_assign_X6_isSet rfl rfl rfl (by decide +kernel) ⟨Nat.le_of_ble_eq_true rfl, Nat.le_of_ble_eq_true rfl⟩) rfl rfl hl.1 (Nat.le_of_ble_eq_true rfl) dX6_assign_20) (c_X6_isSet l D cI (y)) hK hN hA hP hD hS (W2 := wMo cI h b d u1 q w0) [] [0, 1, 2, 3, 4, 5, 6, 7, 8, 9, 10, 11, 12, 13, 14, 15, 16, 17, 18, 19, 20, 21, 22, 23, 24, 25] [0, 1, 2, 3, 4, 5, 6, 7, 8, 9, 10, 11, 12, 13, 14, 15, 16, 17, 18, 19, 20, 21, 22, 23, 24, 25] rfl rfl rfl (by decide) ⟨Nat.le_of_ble_eq_true rfl, Nat.le_of_ble_eq_true rfl⟩ (fun H locs hP hD hS => ?_)
    refine lv_if_ne (tgt := 32) hx hb dX6_assign_23 (by decide) (fun c3 => ?_) (fun c3 => ?_)
    · exact absurd (b01f c3) hno
    · skip
      have c3 := b01t c3
      refine lv_aload_n hx hb dX6_assign_26 rfl (lv_at hl 0 rfl) ?_
      refine lv_iconst (v := 2) hx hb dX6_assign_27 (by decide) ?_
      obtain ⟨u4, eu4⟩ : ∃ z0 : Rc, z0 = put u1 31 0 2 := ⟨_, rfl⟩
      refine ycalli (invV (As := [.int 2]) (rest := []) (rm := ({ frames := 0, cells := 0, slots := 0, locals := 0 } : Room)) ⟨hx, hb, hml, hown, hts⟩ (cwV 1 hts gX6_assign_X6_no rfl rfl rfl (by decide +kernel) ⟨Nat.le_of_ble_eq_true rfl, Nat.le_of_ble_eq_true rfl⟩) (va_recv hK hP (ci := 6) (q0 := 0) rfl rfl) rfl rfl hl.1 (Nat.le_of_ble_eq_true rfl) dX6_assign_28) (c_X6_no l D cI h b d u1 q w0 2) hK hN hA hP hD hS (W2 := wMo cI h b d u4 q w0) [0, 1, 2, 3, 4, 5, 6, 7, 8, 9, 10, 11, 12, 13, 14, 15, 16, 17, 18, 19, 20, 21, 22, 23, 24, 25] [] [0, 1, 2, 3, 4, 5, 6, 7, 8, 9, 10, 11, 12, 13, 14, 15, 16, 17, 18, 19, 20, 21, 22, 23, 24, 25] rfl rfl (by subst eu4; rfl) (by decide) ⟨Nat.le_of_ble_eq_true rfl, Nat.le_of_ble_eq_true rfl⟩ (fun H locs hP hD hS => ?_)
      have h5 : u4 = put (put n 31 0 0) 31 0 2 := (by (try subst eu4); (try subst eu1); rfl)
      exact fin _ _ _ _ _ _ _ _ rfl (congrArg (fun z9 : Rc => wMo cI h b d z9 q w0) h5) hP hD hS (Nat.le_of_ble_eq_true rfl) (Nat.le_of_ble_eq_true rfl) dX6_assign_31
  · exact absurd (show ¬ nI s9 < 0 ∧ ¬ (u1 10 0 - 1) < nI s9 from (by (try subst eu1); exact hr)) (b01t c2)

set_option maxHeartbeats 4000000 in
set_option maxRecDepth 100000 in
theorem c_X6_tea (l : Launch) (D : va_G) (cI : ClassId) (h b d : Nat → Nat) (n q w0 : Rc) (s9 : Nat) (hs : s9 < 4) (x : Int32) (ex : x = nI s9) (hr : ¬ nI s9 < 0 ∧ ¬ (n 10 0 - 1) < nI s9) : CI l yX6_tea wsX6_tea ({ frames := 2, cells := 0, slots := 0, locals := 43 } : Room) D cI [.ref (h 0), .int x] (wMo cI h b d n q w0) (q 13 s9) (wMo cI h b d (put n 31 0 0) (put (put q 13 s9 0) 14 s9 1) w0) := by
  refine CI.mk (cc := cX6_tea) (maxL := 3) (ret := (some .int)) rfl rfl (by decide) rfl (Nat.le_of_ble_eq_true rfl) ?_
  intro p e s m args below meth c A Q ls hx hb hts hown hml hK hN hA hP hD hS hl fin
  have hown : s.vm.findClass RX6 = some m.cls := hown
  subst ex
  have hl : lv_has ls 3 [(0, .ref (h 0)), (1, .int (nI s9))] := hl
  have f30 := hts (.fieldLink RX6 30 "NightSortersModel" "s" "LNightSortersModel$State;") (by decide +kernel)
  have f37 := hts (.fieldLink RX6 37 "NightSortersModel" "thrown" "I") (by decide +kernel)
  have inX5 : ∀ w ∈ wsX50, w ∈ wsX6_tea := by decide +kernel
  have inX6 : ∀ w ∈ wsX60, w ∈ wsX6_tea := by decide +kernel
  refine lv_aload_n hx hb dX6_tea_0 rfl (lv_at hl 0 rfl) ?_
  refine lv_iconst (v := 0) hx hb dX6_tea_1 (by decide) ?_
  obtain ⟨u1, eu1⟩ : ∃ z0 : Rc, z0 = put n 31 0 0 := ⟨_, rfl⟩
  refine va_put (D := D) (ci := 6) (v := .int 0) (ty := .int) (C := RX6) (T := TX6) (N := 10) hx hb hts inX6 tyX6 tyX6_ok nmX6 hown hK hP hD hS 0 rfl rfl 0 (by decide) f37 (fun _ h9 => h9) rfl (by decide +kernel) rfl rfl (Nat.le_of_ble_eq_true rfl) dX6_tea_2 (fun H locs hP hD hS => ?_)
  have hP : va_P D vwCl (wMo cI h b d u1 q w0) H := by subst eu1; exact hP
  have hD : va_D A (wMo cI h b d u1 q w0) := by subst eu1; exact hD
  refine lv_aload_n hx hb dX6_tea_5 rfl (lv_at hl 0 rfl) ?_
  refine lv_iload_n hx hb dX6_tea_6 rfl (lv_at hl 1 rfl) ?_
  refine ycalli (invV (As := [.int (nI s9)]) (rest := []) (rm := ({ frames := 1, cells := 0, slots := 0, locals := 22 } : Room)) ⟨hx, hb, hml, hown, hts⟩ (cwV 1 hts gX6_tea_X6_isSorter rfl rfl rfl (by decide +kernel) ⟨Nat.le_of_ble_eq_true rfl, Nat.le_of_ble_eq_true rfl⟩) (va_recv hK hP (ci := 6) (q0 := 0) rfl rfl) rfl rfl hl.1 (Nat.le_of_ble_eq_true rfl) dX6_tea_7) (c_X6_isSorter l D cI h b d u1 q w0 (nI s9)) hK hN hA hP hD hS (W2 := wMo cI h b d u1 q w0) [0, 1, 2, 3, 4, 5, 6, 7, 8, 9, 10, 11, 12, 13, 14, 15, 16, 17, 18, 19, 20, 21, 22, 23, 24, 25] [] [0, 1, 2, 3, 4, 5, 6, 7, 8, 9, 10, 11, 12, 13, 14, 15, 16, 17, 18, 19, 20, 21, 22, 23, 24, 25] rfl rfl rfl (by decide) ⟨Nat.le_of_ble_eq_true rfl, Nat.le_of_ble_eq_true rfl⟩ (fun H locs hP hD hS => ?_)
  refine lv_if_ne (tgt := 19) hx hb dX6_tea_10 (by decide) (fun c2 => ?_) (fun c2 => ?_)
  · skip
    have c2 := b01f c2
    refine lv_aload_n hx hb dX6_tea_19 rfl (lv_at hl 0 rfl) ?_
    refine va_get (D := D) (ci := 6) (v := .ref (b 30)) (C := RX6) (T := TX6) (N := 10) hx hb hts inX6 hown hK hP 0 rfl rfl 8 (by decide) f30 (fun _ h9 => h9) rfl dX6_tea_20 ?_
    refine va_getN (D := D) (ci := 5) (v := .ref (b 13)) (C := RX5) (T := TX5) (N := 11) hx hb hts inX5 hown hK hP 6 rfl rfl 5 (by decide) (NW.F hN (a := RX6) (i := 88) (b := "NightSortersModel$State") (n := "tired") (d := "[I") (h9 := "NightSortersModel") (by decide +kernel)) (fun _ h9 => h9) rfl dX6_tea_23 ?_
    refine lv_iload_n hx hb dX6_tea_26 rfl (lv_at hl 1 rfl) ?_
    refine xald hx hb hK hP 11 rfl rfl (s9) (rfl) (by omega) (by decide) dX6_tea_27 ?_
    refine lv_istore_n (lv' := [(2, .int (q 13 s9)), (0, .ref (h 0)), (1, .int (nI s9))]) hx hb dX6_tea_28 rfl hl (by decide) rfl (fun ls hl => ?_)
    refine lv_aload_n hx hb dX6_tea_29 rfl (lv_at hl 1 rfl) ?_
    refine va_get (D := D) (ci := 6) (v := .ref (b 30)) (C := RX6) (T := TX6) (N := 10) hx hb hts inX6 hown hK hP 0 rfl rfl 8 (by decide) f30 (fun _ h9 => h9) rfl dX6_tea_30 ?_
    refine va_getN (D := D) (ci := 5) (v := .ref (b 13)) (C := RX5) (T := TX5) (N := 11) hx hb hts inX5 hown hK hP 6 rfl rfl 5 (by decide) (NW.F hN (a := RX6) (i := 88) (b := "NightSortersModel$State") (n := "tired") (d := "[I") (h9 := "NightSortersModel") (by decide +kernel)) (fun _ h9 => h9) rfl dX6_tea_33 ?_
    refine lv_iload_n hx hb dX6_tea_36 rfl (lv_at hl 2 rfl) ?_
    refine lv_iconst (v := 0) hx hb dX6_tea_37 (by decide) ?_
    obtain ⟨u3, eu3⟩ : ∃ z0 : Rc, z0 = put q 13 s9 0 := ⟨_, rfl⟩
    refine xast hx hb hK hP hD hS 11 rfl rfl (s9) (rfl) (by omega) (by decide) (wMo cI h b d u1 u3 w0) (by subst eu3; rfl) dX6_tea_38 (fun H locs hP hD hS => ?_)
    refine lv_aload_n hx hb dX6_tea_39 rfl (lv_at hl 1 rfl) ?_
    refine va_get (D := D) (ci := 6) (v := .ref (b 30)) (C := RX6) (T := TX6) (N := 10) hx hb hts inX6 hown hK hP 0 rfl rfl 8 (by decide) f30 (fun _ h9 => h9) rfl dX6_tea_40 ?_
    refine va_getN (D := D) (ci := 5) (v := .ref (b 14)) (C := RX5) (T := TX5) (N := 11) hx hb hts inX5 hown hK hP 6 rfl rfl 6 (by decide) (NW.F hN (a := RX6) (i := 91) (b := "NightSortersModel$State") (n := "tea") (d := "[I") (h9 := "NightSortersModel") (by decide +kernel)) (fun _ h9 => h9) rfl dX6_tea_43 ?_
    refine lv_iload_n hx hb dX6_tea_46 rfl (lv_at hl 2 rfl) ?_
    refine lv_iconst (v := 1) hx hb dX6_tea_47 (by decide) ?_
    obtain ⟨u4, eu4⟩ : ∃ z0 : Rc, z0 = put u3 14 s9 1 := ⟨_, rfl⟩
    refine xast hx hb hK hP hD hS 12 rfl rfl (s9) (rfl) (by omega) (by decide) (wMo cI h b d u1 u4 w0) (by subst eu4; rfl) dX6_tea_48 (fun H locs hP hD hS => ?_)
    refine lv_iload_n hx hb dX6_tea_49 rfl (lv_at hl 0 rfl) ?_
    have h5 : u1 = put n 31 0 0 := (by (try subst eu4); (try subst eu3); (try subst eu1); rfl)
    have h6 : u4 = put (put q 13 s9 0) 14 s9 1 := (by (try subst eu4); (try subst eu3); (try subst eu1); rfl)
    exact fin _ _ _ _ _ _ _ _ rfl ((congrArg (fun z9 : Rc => wMo cI h b d z9 u4 w0) h5).trans (congrArg (fun z9 : Rc => wMo cI h b d (put n 31 0 0) z9 w0) h6)) hP hD hS (Nat.le_of_ble_eq_true rfl) (Nat.le_of_ble_eq_true rfl) dX6_tea_50
  · exact absurd (show ¬ nI s9 < 0 ∧ ¬ (u1 10 0 - 1) < nI s9 from (by (try subst eu1); exact hr)) (b01t c2)

set_option maxHeartbeats 4000000 in
set_option maxRecDepth 100000 in
theorem c_X6_tea_1 (l : Launch) (D : va_G) (cI : ClassId) (h b d : Nat → Nat) (n q w0 : Rc) (x : Int32) (hno : ¬ (¬ x < 0 ∧ ¬ (n 10 0 - 1) < x)) : CI l yX6_tea wsX6_tea ({ frames := 2, cells := 0, slots := 0, locals := 43 } : Room) D cI [.ref (h 0), .int x] (wMo cI h b d n q w0) 0 (wMo cI h b d (put (put n 31 0 0) 31 0 1) q w0) := by
  refine CI.mk (cc := cX6_tea) (maxL := 3) (ret := (some .int)) rfl rfl (by decide) rfl (Nat.le_of_ble_eq_true rfl) ?_
  intro p e s m args below meth c A Q ls hx hb hts hown hml hK hN hA hP hD hS hl fin
  have hown : s.vm.findClass RX6 = some m.cls := hown
  have hl : lv_has ls 3 [(0, .ref (h 0)), (1, .int x)] := hl
  have f37 := hts (.fieldLink RX6 37 "NightSortersModel" "thrown" "I") (by decide +kernel)
  have inX6 : ∀ w ∈ wsX60, w ∈ wsX6_tea := by decide +kernel
  refine lv_aload_n hx hb dX6_tea_0 rfl (lv_at hl 0 rfl) ?_
  refine lv_iconst (v := 0) hx hb dX6_tea_1 (by decide) ?_
  obtain ⟨u1, eu1⟩ : ∃ z0 : Rc, z0 = put n 31 0 0 := ⟨_, rfl⟩
  refine va_put (D := D) (ci := 6) (v := .int 0) (ty := .int) (C := RX6) (T := TX6) (N := 10) hx hb hts inX6 tyX6 tyX6_ok nmX6 hown hK hP hD hS 0 rfl rfl 0 (by decide) f37 (fun _ h9 => h9) rfl (by decide +kernel) rfl rfl (Nat.le_of_ble_eq_true rfl) dX6_tea_2 (fun H locs hP hD hS => ?_)
  have hP : va_P D vwCl (wMo cI h b d u1 q w0) H := by subst eu1; exact hP
  have hD : va_D A (wMo cI h b d u1 q w0) := by subst eu1; exact hD
  refine lv_aload_n hx hb dX6_tea_5 rfl (lv_at hl 0 rfl) ?_
  refine lv_iload_n hx hb dX6_tea_6 rfl (lv_at hl 1 rfl) ?_
  refine ycalli (invV (As := [.int x]) (rest := []) (rm := ({ frames := 1, cells := 0, slots := 0, locals := 22 } : Room)) ⟨hx, hb, hml, hown, hts⟩ (cwV 1 hts gX6_tea_X6_isSorter rfl rfl rfl (by decide +kernel) ⟨Nat.le_of_ble_eq_true rfl, Nat.le_of_ble_eq_true rfl⟩) (va_recv hK hP (ci := 6) (q0 := 0) rfl rfl) rfl rfl hl.1 (Nat.le_of_ble_eq_true rfl) dX6_tea_7) (c_X6_isSorter l D cI h b d u1 q w0 (x)) hK hN hA hP hD hS (W2 := wMo cI h b d u1 q w0) [0, 1, 2, 3, 4, 5, 6, 7, 8, 9, 10, 11, 12, 13, 14, 15, 16, 17, 18, 19, 20, 21, 22, 23, 24, 25] [] [0, 1, 2, 3, 4, 5, 6, 7, 8, 9, 10, 11, 12, 13, 14, 15, 16, 17, 18, 19, 20, 21, 22, 23, 24, 25] rfl rfl rfl (by decide) ⟨Nat.le_of_ble_eq_true rfl, Nat.le_of_ble_eq_true rfl⟩ (fun H locs hP hD hS => ?_)
  refine lv_if_ne (tgt := 19) hx hb dX6_tea_10 (by decide) (fun c2 => ?_) (fun c2 => ?_)
  · exact absurd (show ¬ x < 0 ∧ ¬ (n 10 0 - 1) < x from (by (try subst eu1); exact b01f c2)) hno
  · skip
    have c2 := b01t c2
    refine lv_aload_n hx hb dX6_tea_13 rfl (lv_at hl 0 rfl) ?_
    refine lv_iconst (v := 1) hx hb dX6_tea_14 (by decide) ?_
    obtain ⟨u3, eu3⟩ : ∃ z0 : Rc, z0 = put u1 31 0 1 := ⟨_, rfl⟩
    refine ycalli (invV (As := [.int 1]) (rest := []) (rm := ({ frames := 0, cells := 0, slots := 0, locals := 0 } : Room)) ⟨hx, hb, hml, hown, hts⟩ (cwV 1 hts gX6_tea_X6_no rfl rfl rfl (by decide +kernel) ⟨Nat.le_of_ble_eq_true rfl, Nat.le_of_ble_eq_true rfl⟩) (va_recv hK hP (ci := 6) (q0 := 0) rfl rfl) rfl rfl hl.1 (Nat.le_of_ble_eq_true rfl) dX6_tea_15) (c_X6_no l D cI h b d u1 q w0 1) hK hN hA hP hD hS (W2 := wMo cI h b d u3 q w0) [0, 1, 2, 3, 4, 5, 6, 7, 8, 9, 10, 11, 12, 13, 14, 15, 16, 17, 18, 19, 20, 21, 22, 23, 24, 25] [] [0, 1, 2, 3, 4, 5, 6, 7, 8, 9, 10, 11, 12, 13, 14, 15, 16, 17, 18, 19, 20, 21, 22, 23, 24, 25] rfl rfl (by subst eu3; rfl) (by decide) ⟨Nat.le_of_ble_eq_true rfl, Nat.le_of_ble_eq_true rfl⟩ (fun H locs hP hD hS => ?_)
    have h4 : u3 = put (put n 31 0 0) 31 0 1 := (by (try subst eu3); (try subst eu1); rfl)
    exact fin _ _ _ _ _ _ _ _ rfl (congrArg (fun z9 : Rc => wMo cI h b d z9 q w0) h4) hP hD hS (Nat.le_of_ble_eq_true rfl) (Nat.le_of_ble_eq_true rfl) dX6_tea_18

set_option maxHeartbeats 4000000 in
set_option maxRecDepth 100000 in
theorem c_X6_hole (l : Launch) (D : va_G) (cI : ClassId) (h b d : Nat → Nat) (n q w0 : Rc) (okn : Ok n) (x : Int32) (hr : ¬ x < 0 ∧ ¬ 15 < x) : CI l yX6_hole wsX6_hole ({ frames := 2, cells := 0, slots := 0, locals := 42 } : Room) D cI [.ref (h 0), .int x] (wMo cI h b d n q w0) (holeR (put n 31 0 0) q x) (wMo cI h b d (put n 31 0 0) q w0) := by
  refine CI.mk (cc := cX6_hole) (maxL := 2) (ret := (some .int)) rfl rfl (by decide) rfl (Nat.le_of_ble_eq_true rfl) ?_
  intro p e s m args below meth c A Q ls hx hb hts hown hml hK hN hA hP hD hS hl fin
  have hown : s.vm.findClass RX6 = some m.cls := hown
  have hl : lv_has ls 2 [(0, .ref (h 0)), (1, .int x)] := hl
  have f30 := hts (.fieldLink RX6 30 "NightSortersModel" "s" "LNightSortersModel$State;") (by decide +kernel)
  have f37 := hts (.fieldLink RX6 37 "NightSortersModel" "thrown" "I") (by decide +kernel)
  have inX6 : ∀ w ∈ wsX60, w ∈ wsX6_hole := by decide +kernel
  refine lv_aload_n hx hb dX6_hole_0 rfl (lv_at hl 0 rfl) ?_
  refine lv_iconst (v := 0) hx hb dX6_hole_1 (by decide) ?_
  obtain ⟨u1, eu1⟩ : ∃ z0 : Rc, z0 = put n 31 0 0 := ⟨_, rfl⟩
  refine va_put (D := D) (ci := 6) (v := .int 0) (ty := .int) (C := RX6) (T := TX6) (N := 10) hx hb hts inX6 tyX6 tyX6_ok nmX6 hown hK hP hD hS 0 rfl rfl 0 (by decide) f37 (fun _ h9 => h9) rfl (by decide +kernel) rfl rfl (Nat.le_of_ble_eq_true rfl) dX6_hole_2 (fun H locs hP hD hS => ?_)
  have hP : va_P D vwCl (wMo cI h b d u1 q w0) H := by subst eu1; exact hP
  have hD : va_D A (wMo cI h b d u1 q w0) := by subst eu1; exact hD
  have okn1 : Ok u1 := (by (try subst eu1); exact Ok.ptt okn trivial)
  refine lv_iload_n hx hb dX6_hole_5 rfl (lv_at hl 1 rfl) ?_
  refine ycalli (invS (As := [.int x]) (rest := []) (rm := ({ frames := 1, cells := 0, slots := 0, locals := 22 } : Room)) ⟨hx, hb, hml, hown, hts⟩ (va_cwS 1 hts gX6_hole_X6_isTown rfl rfl rfl (by decide +kernel) ⟨Nat.le_of_ble_eq_true rfl, Nat.le_of_ble_eq_true rfl⟩) rfl rfl hl.1 (Nat.le_of_ble_eq_true rfl) dX6_hole_6) (c_X6_isTown l D cI (x)) hK hN hA hP hD hS (W2 := wMo cI h b d u1 q w0) [] [0, 1, 2, 3, 4, 5, 6, 7, 8, 9, 10, 11, 12, 13, 14, 15, 16, 17, 18, 19, 20, 21, 22, 23, 24, 25] [0, 1, 2, 3, 4, 5, 6, 7, 8, 9, 10, 11, 12, 13, 14, 15, 16, 17, 18, 19, 20, 21, 22, 23, 24, 25] rfl rfl rfl (by decide) ⟨Nat.le_of_ble_eq_true rfl, Nat.le_of_ble_eq_true rfl⟩ (fun H locs hP hD hS => ?_)
  refine lv_if_eq (tgt := 23) hx hb dX6_hole_9 (by decide) (fun c2 => ?_) (fun c2 => ?_)
  · exact absurd hr (b01t c2)
  · skip
    have c2 := b01f c2
    refine lv_aload_n hx hb dX6_hole_12 rfl (lv_at hl 0 rfl) ?_
    refine va_get (D := D) (ci := 6) (v := .ref (b 30)) (C := RX6) (T := TX6) (N := 10) hx hb hts inX6 hown hK hP 0 rfl rfl 8 (by decide) f30 (fun _ h9 => h9) rfl dX6_hole_13 ?_
    refine lv_iload_n hx hb dX6_hole_16 rfl (lv_at hl 1 rfl) ?_
    refine ycalli (invV (As := [.int x]) (rest := []) (rm := ({ frames := 0, cells := 0, slots := 0, locals := 0 } : Room)) ⟨hx, hb, hml, hown, hts⟩ (cwV 1 hts gX6_hole_X5_inHole rfl rfl rfl (by decide +kernel) ⟨Nat.le_of_ble_eq_true rfl, Nat.le_of_ble_eq_true rfl⟩) (va_recv hK hP (ci := 5) (q0 := 6) rfl rfl) rfl rfl hl.1 (Nat.le_of_ble_eq_true rfl) dX6_hole_17) (c_X5_inHole l D cI h b (b 30) (d 30) u1 q okn1 x) hK hN hA hP hD hS (W2 := wMo cI h b d u1 q w0) [6, 7, 8, 9, 10, 11, 12, 13, 14, 15, 0, 1, 2, 3, 4, 5] [16, 17, 18, 19, 20, 21, 22, 23, 24, 25] [20, 21, 22, 23, 24, 25, 10, 11, 12, 13, 14, 15, 16, 17, 18, 19, 0, 1, 2, 3, 4, 5, 6, 7, 8, 9] rfl rfl rfl (by decide) ⟨Nat.le_of_ble_eq_true rfl, Nat.le_of_ble_eq_true rfl⟩ (fun H locs hP hD hS => ?_)
    refine lv_goto (tgt := 28) hx hb dX6_hole_20 (by decide) ?_
    have h3 : u1 = put n 31 0 0 := (by (try subst eu1); rfl)
    exact fin _ _ _ _ _ _ _ _ (by (try subst eu1); rfl) (congrArg (fun z9 : Rc => wMo cI h b d z9 q w0) h3) hP hD hS (Nat.le_of_ble_eq_true rfl) (Nat.le_of_ble_eq_true rfl) dX6_hole_28

set_option maxHeartbeats 4000000 in
set_option maxRecDepth 100000 in
theorem c_X6_hole_1 (l : Launch) (D : va_G) (cI : ClassId) (h b d : Nat → Nat) (n q w0 : Rc) (x : Int32) (hno : ¬ (¬ x < 0 ∧ ¬ 15 < x)) : CI l yX6_hole wsX6_hole ({ frames := 2, cells := 0, slots := 0, locals := 42 } : Room) D cI [.ref (h 0), .int x] (wMo cI h b d n q w0) 0 (wMo cI h b d (put (put n 31 0 0) 31 0 1) q w0) := by
  refine CI.mk (cc := cX6_hole) (maxL := 2) (ret := (some .int)) rfl rfl (by decide) rfl (Nat.le_of_ble_eq_true rfl) ?_
  intro p e s m args below meth c A Q ls hx hb hts hown hml hK hN hA hP hD hS hl fin
  have hown : s.vm.findClass RX6 = some m.cls := hown
  have hl : lv_has ls 2 [(0, .ref (h 0)), (1, .int x)] := hl
  have f37 := hts (.fieldLink RX6 37 "NightSortersModel" "thrown" "I") (by decide +kernel)
  have inX6 : ∀ w ∈ wsX60, w ∈ wsX6_hole := by decide +kernel
  refine lv_aload_n hx hb dX6_hole_0 rfl (lv_at hl 0 rfl) ?_
  refine lv_iconst (v := 0) hx hb dX6_hole_1 (by decide) ?_
  obtain ⟨u1, eu1⟩ : ∃ z0 : Rc, z0 = put n 31 0 0 := ⟨_, rfl⟩
  refine va_put (D := D) (ci := 6) (v := .int 0) (ty := .int) (C := RX6) (T := TX6) (N := 10) hx hb hts inX6 tyX6 tyX6_ok nmX6 hown hK hP hD hS 0 rfl rfl 0 (by decide) f37 (fun _ h9 => h9) rfl (by decide +kernel) rfl rfl (Nat.le_of_ble_eq_true rfl) dX6_hole_2 (fun H locs hP hD hS => ?_)
  have hP : va_P D vwCl (wMo cI h b d u1 q w0) H := by subst eu1; exact hP
  have hD : va_D A (wMo cI h b d u1 q w0) := by subst eu1; exact hD
  refine lv_iload_n hx hb dX6_hole_5 rfl (lv_at hl 1 rfl) ?_
  refine ycalli (invS (As := [.int x]) (rest := []) (rm := ({ frames := 1, cells := 0, slots := 0, locals := 22 } : Room)) ⟨hx, hb, hml, hown, hts⟩ (va_cwS 1 hts gX6_hole_X6_isTown rfl rfl rfl (by decide +kernel) ⟨Nat.le_of_ble_eq_true rfl, Nat.le_of_ble_eq_true rfl⟩) rfl rfl hl.1 (Nat.le_of_ble_eq_true rfl) dX6_hole_6) (c_X6_isTown l D cI (x)) hK hN hA hP hD hS (W2 := wMo cI h b d u1 q w0) [] [0, 1, 2, 3, 4, 5, 6, 7, 8, 9, 10, 11, 12, 13, 14, 15, 16, 17, 18, 19, 20, 21, 22, 23, 24, 25] [0, 1, 2, 3, 4, 5, 6, 7, 8, 9, 10, 11, 12, 13, 14, 15, 16, 17, 18, 19, 20, 21, 22, 23, 24, 25] rfl rfl rfl (by decide) ⟨Nat.le_of_ble_eq_true rfl, Nat.le_of_ble_eq_true rfl⟩ (fun H locs hP hD hS => ?_)
  refine lv_if_eq (tgt := 23) hx hb dX6_hole_9 (by decide) (fun c2 => ?_) (fun c2 => ?_)
  · skip
    have c2 := b01t c2
    refine lv_aload_n hx hb dX6_hole_23 rfl (lv_at hl 0 rfl) ?_
    refine lv_iconst (v := 1) hx hb dX6_hole_24 (by decide) ?_
    obtain ⟨u3, eu3⟩ : ∃ z0 : Rc, z0 = put u1 31 0 1 := ⟨_, rfl⟩
    refine ycalli (invV (As := [.int 1]) (rest := []) (rm := ({ frames := 0, cells := 0, slots := 0, locals := 0 } : Room)) ⟨hx, hb, hml, hown, hts⟩ (cwV 1 hts gX6_hole_X6_no rfl rfl rfl (by decide +kernel) ⟨Nat.le_of_ble_eq_true rfl, Nat.le_of_ble_eq_true rfl⟩) (va_recv hK hP (ci := 6) (q0 := 0) rfl rfl) rfl rfl hl.1 (Nat.le_of_ble_eq_true rfl) dX6_hole_25) (c_X6_no l D cI h b d u1 q w0 1) hK hN hA hP hD hS (W2 := wMo cI h b d u3 q w0) [0, 1, 2, 3, 4, 5, 6, 7, 8, 9, 10, 11, 12, 13, 14, 15, 16, 17, 18, 19, 20, 21, 22, 23, 24, 25] [] [0, 1, 2, 3, 4, 5, 6, 7, 8, 9, 10, 11, 12, 13, 14, 15, 16, 17, 18, 19, 20, 21, 22, 23, 24, 25] rfl rfl (by subst eu3; rfl) (by decide) ⟨Nat.le_of_ble_eq_true rfl, Nat.le_of_ble_eq_true rfl⟩ (fun H locs hP hD hS => ?_)
    have h4 : u3 = put (put n 31 0 0) 31 0 1 := (by (try subst eu3); (try subst eu1); rfl)
    exact fin _ _ _ _ _ _ _ _ rfl (congrArg (fun z9 : Rc => wMo cI h b d z9 q w0) h4) hP hD hS (Nat.le_of_ble_eq_true rfl) (Nat.le_of_ble_eq_true rfl) dX6_hole_28
  · exact absurd (b01f c2) hno

set_option maxHeartbeats 4000000 in
set_option maxRecDepth 100000 in
theorem c_X6_stationTold (l : Launch) (D : va_G) (cI : ClassId) (h b d : Nat → Nat) (n q w0 : Rc) (okn : Ok n) (s9 : Nat) (hs : s9 < 8) (x : Int32) (ex : x = nI s9) (y : Int32) : CI l yX6_stationTold wsX6_stationTold ({ frames := 0, cells := 0, slots := 0, locals := 0 } : Room) D cI [.ref (h 0), .int x, .int y] (wMo cI h b d n q w0) (stR n q s9 y) (wMo cI h b d n q w0) := by
  refine CI.mk (cc := cX6_stationTold) (maxL := 5) (ret := (some .int)) rfl rfl (by decide) rfl (Nat.le_of_ble_eq_true rfl) ?_
  intro p e s m args below meth c A Q ls hx hb hts hown hml hK hN hA hP hD hS hl fin
  have hown : s.vm.findClass RX6 = some m.cls := hown
  subst ex
  have hn60 := okn.n60
  have hl : lv_has ls 5 [(0, .ref (h 0)), (1, .int (nI s9)), (2, .int y)] := hl
  have f9 := hts (.fieldLink RX6 9 "NightSortersModel" "passes" "[I") (by decide +kernel)
  have f13 := hts (.fieldLink RX6 13 "NightSortersModel" "jolt" "[I") (by decide +kernel)
  have f19 := hts (.fieldLink RX6 19 "NightSortersModel" "station" "[I") (by decide +kernel)
  have f30 := hts (.fieldLink RX6 30 "NightSortersModel" "s" "LNightSortersModel$State;") (by decide +kernel)
  have f46 := hts (.fieldLink RX6 46 "NightSortersModel" "letters" "I") (by decide +kernel)
  have inX5 : ∀ w ∈ wsX50, w ∈ wsX6_stationTold := by decide +kernel
  have inX6 : ∀ w ∈ wsX60, w ∈ wsX6_stationTold := by decide +kernel
  refine lv_iconst (v := 0) hx hb dX6_stationTold_0 (by decide) ?_
  refine lv_istore_n (lv' := [(3, .int 0), (0, .ref (h 0)), (1, .int (nI s9)), (2, .int y)]) hx hb dX6_stationTold_1 rfl hl (by decide) rfl (fun ls hl => ?_)
  refine lv_iconst (v := 0) hx hb dX6_stationTold_2 (by decide) ?_
  refine lv_istore (lv' := [(4, .int 0), (3, .int 0), (0, .ref (h 0)), (1, .int (nI s9)), (2, .int y)]) hx hb dX6_stationTold_3 hl (by decide) rfl (fun ls hl => ?_)
  have K5 : ∀ (n5 i5 : Nat), 0 ≤ i5 → i5 ≤ iv (n 0 0) → iv (n 0 0) < i5 + n5 → ∀ (H : Heap) (locs : List Loc), va_P D vwCl (wMo cI h b d n q w0) H → va_D A (wMo cI h b d n q w0) → va_S A s.heap H locs → ∀ (ls : Array Slot), lv_has ls 5 [(4, .int (nI i5)), (3, .int (cntN (fun k => decide (q 3 k = 0 ∧ n 2 k = nI s9)) i5)), (0, .ref (h 0)), (1, .int (nI s9)), (2, .int y)] → W p l e ({ frames := 0, cells := 0, slots := 0, locals := 0 } : Room) s m args below meth c H locs (0) (0) Q (F0 m 5 ls []) := by
    intro n5
    induction n5 with
    | zero => intro i5 hlo5 hi5 hn5; exact absurd hn5 (by omega)
    | succ n5 ih5 =>
      intro i5 hlo5 hi5 hn5 H locs hP hD hS ls hl
      refine lv_iload hx hb dX6_stationTold_5 (lv_at hl 0 rfl) ?_
      refine lv_aload_n hx hb dX6_stationTold_7 rfl (lv_at hl 2 rfl) ?_
      refine va_get (D := D) (ci := 6) (v := .int (n 0 0)) (C := RX6) (T := TX6) (N := 10) hx hb hts inX6 hown hK hP 0 rfl rfl 3 (by decide) f46 (fun _ h9 => h9) rfl dX6_stationTold_8 ?_
      refine lv_icmp_ge (tgt := 52) hx hb dX6_stationTold_11 (by decide) (fun c1 => ?_) (fun c1 => ?_)
      · skip
        have hie : iv (n 0 0) = i5 := (show i5 = iv (n 0 0) from lp_out okn.n (by omega) hi5 c1).symm
        subst hie
        refine lv_iload_n hx hb dX6_stationTold_52 rfl (lv_at hl 4 rfl) ?_
        refine lv_if_ne (tgt := 65) hx hb dX6_stationTold_53 (by decide) (fun c2 => ?_) (fun c2 => ?_)
        · skip
          refine lv_iload_n hx hb dX6_stationTold_65 rfl (lv_at hl 4 rfl) ?_
          refine lv_iconst (v := 1) hx hb dX6_stationTold_66 (by decide) ?_
          refine lv_icmp_ne (tgt := 79) hx hb dX6_stationTold_67 (by decide) (fun c3 => ?_) (fun c3 => ?_)
          · skip
            refine lv_iload_n hx hb dX6_stationTold_79 rfl (lv_at hl 1 rfl) ?_
            exact fin _ _ _ _ _ _ _ _ (by unfold stR; first | rw [if_pos c2] | rw [if_neg c2, if_pos c3] | rw [if_neg c2, if_neg c3]) rfl hP hD hS (Nat.le_of_ble_eq_true rfl) (Nat.le_of_ble_eq_true rfl) dX6_stationTold_80
          · skip
            refine lv_aload_n hx hb dX6_stationTold_70 rfl (lv_at hl 2 rfl) ?_
            refine va_get (D := D) (ci := 6) (v := .ref (h 21)) (C := RX6) (T := TX6) (N := 10) hx hb hts inX6 hown hK hP 0 rfl rfl 2 (by decide) f13 (fun _ h9 => h9) rfl dX6_stationTold_71 ?_
            refine lv_iload_n hx hb dX6_stationTold_74 rfl (lv_at hl 3 rfl) ?_
            refine xald hx hb hK hP 2 rfl rfl (s9) (rfl) (by omega) (by decide) dX6_stationTold_75 ?_
            refine lv_goto (tgt := 80) hx hb dX6_stationTold_76 (by decide) ?_
            exact fin _ _ _ _ _ _ _ _ (by unfold stR; first | rw [if_pos c2] | rw [if_neg c2, if_pos c3] | rw [if_neg c2, if_neg c3]) rfl hP hD hS (Nat.le_of_ble_eq_true rfl) (Nat.le_of_ble_eq_true rfl) dX6_stationTold_80
        · skip
          refine lv_aload_n hx hb dX6_stationTold_56 rfl (lv_at hl 2 rfl) ?_
          refine va_get (D := D) (ci := 6) (v := .ref (h 20)) (C := RX6) (T := TX6) (N := 10) hx hb hts inX6 hown hK hP 0 rfl rfl 1 (by decide) f9 (fun _ h9 => h9) rfl dX6_stationTold_57 ?_
          refine lv_iload_n hx hb dX6_stationTold_60 rfl (lv_at hl 3 rfl) ?_
          refine xald hx hb hK hP 1 rfl rfl (s9) (rfl) (by omega) (by decide) dX6_stationTold_61 ?_
          refine lv_goto (tgt := 80) hx hb dX6_stationTold_62 (by decide) ?_
          exact fin _ _ _ _ _ _ _ _ (by unfold stR; first | rw [if_pos c2] | rw [if_neg c2, if_pos hnone] | rw [if_neg c2, if_neg hnone]) rfl hP hD hS (Nat.le_of_ble_eq_true rfl) (Nat.le_of_ble_eq_true rfl) dX6_stationTold_80
      · skip
        have hlt := lp_in okn.n (by omega) hi5 c1
        refine lv_iload_n hx hb dX6_stationTold_14 rfl (lv_at hl 1 rfl) ?_
        refine lv_aload_n hx hb dX6_stationTold_15 rfl (lv_at hl 2 rfl) ?_
        refine va_get (D := D) (ci := 6) (v := .ref (b 30)) (C := RX6) (T := TX6) (N := 10) hx hb hts inX6 hown hK hP 0 rfl rfl 8 (by decide) f30 (fun _ h9 => h9) rfl dX6_stationTold_16 ?_
        refine va_getN (D := D) (ci := 5) (v := .ref (b 3)) (C := RX5) (T := TX5) (N := 11) hx hb hts inX5 hown hK hP 6 rfl rfl 1 (by decide) (NW.F hN (a := RX6) (i := 94) (b := "NightSortersModel$State") (n := "where") (d := "[I") (h9 := "NightSortersModel") (by decide +kernel)) (fun _ h9 => h9) rfl dX6_stationTold_19 ?_
        refine lv_iload hx hb dX6_stationTold_22 (lv_at hl 0 rfl) ?_
        refine xald hx hb hK hP 7 rfl rfl (i5) (rfl) (by omega) (by decide) dX6_stationTold_24 ?_
        refine lv_if_ne (tgt := 43) hx hb dX6_stationTold_25 (by decide) (fun c4 => ?_) (fun c4 => ?_)
        · skip
          refine lv_iconst (v := 0) hx hb dX6_stationTold_43 (by decide) ?_
          refine lv_iadd hx hb dX6_stationTold_44 ?_
          refine lv_istore_n (lv' := [(3, .int ((cntN (fun k => decide (q 3 k = 0 ∧ n 2 k = nI s9)) i5) + 0)), (4, .int (nI i5)), (0, .ref (h 0)), (1, .int (nI s9)), (2, .int y)]) hx hb dX6_stationTold_45 rfl hl (by decide) rfl (fun ls hl => ?_)
          refine lv_iinc (v := nI (i5 + 1)) (lv' := [(4, .int (nI (i5 + 1))), (3, .int ((cntN (fun k => decide (q 3 k = 0 ∧ n 2 k = nI s9)) i5) + 0)), (0, .ref (h 0)), (1, .int (nI s9)), (2, .int y)]) hx hb dX6_stationTold_46 hl (k := 1) rfl (nI_inc _) (by decide) rfl (fun ls hl => ?_)
          refine lv_goto (tgt := 5) hx hb dX6_stationTold_49 (by decide) ?_
          exact ih5 (i5 + 1) (by omega) (by omega) (by omega) H locs hP hD hS ls (lv_sub hl [0, 1, 2, 3, 4] (by first | (rw [cnt_t (decide_eq_true (And.intro c1 c4))]; rfl) | (rw [cnt_z (decide_eq_false (fun h => by first | exact c4 h.1 | exact c4 h.2))]; rfl)))
        · skip
          refine lv_aload_n hx hb dX6_stationTold_28 rfl (lv_at hl 2 rfl) ?_
          refine va_get (D := D) (ci := 6) (v := .ref (h 2)) (C := RX6) (T := TX6) (N := 10) hx hb hts inX6 hown hK hP 0 rfl rfl 5 (by decide) f19 (fun _ h9 => h9) rfl dX6_stationTold_29 ?_
          refine lv_iload hx hb dX6_stationTold_32 (lv_at hl 0 rfl) ?_
          refine xald hx hb hK hP 4 rfl rfl (i5) (rfl) (by omega) (by decide) dX6_stationTold_34 ?_
          refine lv_iload_n hx hb dX6_stationTold_35 rfl (lv_at hl 3 rfl) ?_
          refine lv_icmp_ne (tgt := 43) hx hb dX6_stationTold_36 (by decide) (fun c5 => ?_) (fun c5 => ?_)
          · skip
            refine lv_iconst (v := 0) hx hb dX6_stationTold_43 (by decide) ?_
            refine lv_iadd hx hb dX6_stationTold_44 ?_
            refine lv_istore_n (lv' := [(3, .int ((cntN (fun k => decide (q 3 k = 0 ∧ n 2 k = nI s9)) i5) + 0)), (4, .int (nI i5)), (0, .ref (h 0)), (1, .int (nI s9)), (2, .int y)]) hx hb dX6_stationTold_45 rfl hl (by decide) rfl (fun ls hl => ?_)
            refine lv_iinc (v := nI (i5 + 1)) (lv' := [(4, .int (nI (i5 + 1))), (3, .int ((cntN (fun k => decide (q 3 k = 0 ∧ n 2 k = nI s9)) i5) + 0)), (0, .ref (h 0)), (1, .int (nI s9)), (2, .int y)]) hx hb dX6_stationTold_46 hl (k := 1) rfl (nI_inc _) (by decide) rfl (fun ls hl => ?_)
            refine lv_goto (tgt := 5) hx hb dX6_stationTold_49 (by decide) ?_
            exact ih5 (i5 + 1) (by omega) (by omega) (by omega) H locs hP hD hS ls (lv_sub hl [0, 1, 2, 3, 4] (by first | (rw [cnt_t (decide_eq_true (And.intro c4 c5))]; rfl) | (rw [cnt_z (decide_eq_false (fun h => by first | exact c5 h.1 | exact c5 h.2))]; rfl)))
          · skip
            refine lv_iconst (v := 1) hx hb dX6_stationTold_39 (by decide) ?_
            refine lv_goto (tgt := 44) hx hb dX6_stationTold_40 (by decide) ?_
            refine lv_iadd hx hb dX6_stationTold_44 ?_
            refine lv_istore_n (lv' := [(3, .int ((cntN (fun k => decide (q 3 k = 0 ∧ n 2 k = nI s9)) i5) + 1)), (4, .int (nI i5)), (0, .ref (h 0)), (1, .int (nI s9)), (2, .int y)]) hx hb dX6_stationTold_45 rfl hl (by decide) rfl (fun ls hl => ?_)
            refine lv_iinc (v := nI (i5 + 1)) (lv' := [(4, .int (nI (i5 + 1))), (3, .int ((cntN (fun k => decide (q 3 k = 0 ∧ n 2 k = nI s9)) i5) + 1)), (0, .ref (h 0)), (1, .int (nI s9)), (2, .int y)]) hx hb dX6_stationTold_46 hl (k := 1) rfl (nI_inc _) (by decide) rfl (fun ls hl => ?_)
            refine lv_goto (tgt := 5) hx hb dX6_stationTold_49 (by decide) ?_
            exact ih5 (i5 + 1) (by omega) (by omega) (by omega) H locs hP hD hS ls (lv_sub hl [0, 1, 2, 3, 4] (by first | (rw [cnt_t (decide_eq_true (And.intro c4 c5))]; rfl) | (rw [cnt_z (decide_eq_false (fun h => by first | exact c5 h.1 | exact c5 h.2))]; rfl)))
  exact K5 (iv (n 0 0) + 1) 0 (Nat.le_refl _) (by omega) (by omega) _ _ hP hD hS ls (lv_sub hl [0, 1, 2, 3, 4] rfl)

set_option maxHeartbeats 4000000 in
set_option maxRecDepth 100000 in
theorem c_X6_station (l : Launch) (D : va_G) (cI : ClassId) (h b d : Nat → Nat) (n q w0 : Rc) (okn : Ok n) (s9 : Nat) (hs : s9 < 8) (x : Int32) (ex : x = nI s9) (y : Int32) (h12 : ¬ y < 0 ∧ ¬ 2 < y) : CI l yX6_station wsX6_station ({ frames := 2, cells := 0, slots := 0, locals := 42 } : Room) D cI [.ref (h 0), .int x, .int y] (wMo cI h b d n q w0) (stR (put n 31 0 0) q s9 y) (wMo cI h b d (put n 31 0 0) q w0) := by
  refine CI.mk (cc := cX6_station) (maxL := 3) (ret := (some .int)) rfl rfl (by decide) rfl (Nat.le_of_ble_eq_true rfl) ?_
  intro p e s m args below meth c A Q ls hx hb hts hown hml hK hN hA hP hD hS hl fin
  have hown : s.vm.findClass RX6 = some m.cls := hown
  subst ex
  have hRs9 : ¬ nI s9 < 0 ∧ ¬ 7 < nI s9 := rng (M := 7) rfl (by omega) (by decide)
  have hl : lv_has ls 3 [(0, .ref (h 0)), (1, .int (nI s9)), (2, .int y)] := hl
  have f37 := hts (.fieldLink RX6 37 "NightSortersModel" "thrown" "I") (by decide +kernel)
  have inX6 : ∀ w ∈ wsX60, w ∈ wsX6_station := by decide +kernel
  refine lv_aload_n hx hb dX6_station_0 rfl (lv_at hl 0 rfl) ?_
  refine lv_iconst (v := 0) hx hb dX6_station_1 (by decide) ?_
  obtain ⟨u1, eu1⟩ : ∃ z0 : Rc, z0 = put n 31 0 0 := ⟨_, rfl⟩
  refine va_put (D := D) (ci := 6) (v := .int 0) (ty := .int) (C := RX6) (T := TX6) (N := 10) hx hb hts inX6 tyX6 tyX6_ok nmX6 hown hK hP hD hS 0 rfl rfl 0 (by decide) f37 (fun _ h9 => h9) rfl (by decide +kernel) rfl rfl (Nat.le_of_ble_eq_true rfl) dX6_station_2 (fun H locs hP hD hS => ?_)
  have hP : va_P D vwCl (wMo cI h b d u1 q w0) H := by subst eu1; exact hP
  have hD : va_D A (wMo cI h b d u1 q w0) := by subst eu1; exact hD
  have okn1 : Ok u1 := (by (try subst eu1); exact Ok.ptt okn trivial)
  refine lv_iload_n hx hb dX6_station_5 rfl (lv_at hl 1 rfl) ?_
  refine ycalli (invS (As := [.int (nI s9)]) (rest := []) (rm := ({ frames := 1, cells := 0, slots := 0, locals := 22 } : Room)) ⟨hx, hb, hml, hown, hts⟩ (va_cwS 1 hts gX6_station_X6_isStation rfl rfl rfl (by decide +kernel) ⟨Nat.le_of_ble_eq_true rfl, Nat.le_of_ble_eq_true rfl⟩) rfl rfl hl.1 (Nat.le_of_ble_eq_true rfl) dX6_station_6) (c_X6_isStation l D cI (nI s9)) hK hN hA hP hD hS (W2 := wMo cI h b d u1 q w0) [] [0, 1, 2, 3, 4, 5, 6, 7, 8, 9, 10, 11, 12, 13, 14, 15, 16, 17, 18, 19, 20, 21, 22, 23, 24, 25] [0, 1, 2, 3, 4, 5, 6, 7, 8, 9, 10, 11, 12, 13, 14, 15, 16, 17, 18, 19, 20, 21, 22, 23, 24, 25] rfl rfl rfl (by decide) ⟨Nat.le_of_ble_eq_true rfl, Nat.le_of_ble_eq_true rfl⟩ (fun H locs hP hD hS => ?_)
  refine lv_if_eq (tgt := 30) hx hb dX6_station_9 (by decide) (fun c2 => ?_) (fun c2 => ?_)
  · exact absurd hRs9 (b01t c2)
  · skip
    have c2 := b01f c2
    refine lv_iload_n hx hb dX6_station_12 rfl (lv_at hl 2 rfl) ?_
    refine lv_iconst (v := 0) hx hb dX6_station_13 (by decide) ?_
    refine lv_iconst (v := 2) hx hb dX6_station_14 (by decide) ?_
    refine ycalli (invS (As := [.int y, .int 0, .int 2]) (rest := []) (rm := ({ frames := 0, cells := 0, slots := 0, locals := 0 } : Room)) ⟨hx, hb, hml, hown, hts⟩ (va_cwS 3 hts gX6_station_X6_isIn rfl rfl rfl (by decide +kernel) ⟨Nat.le_of_ble_eq_true rfl, Nat.le_of_ble_eq_true rfl⟩) rfl rfl hl.1 (Nat.le_of_ble_eq_true rfl) dX6_station_15) (c_X6_isIn l D cI (y) (0) (2)) hK hN hA hP hD hS (W2 := wMo cI h b d u1 q w0) [] [0, 1, 2, 3, 4, 5, 6, 7, 8, 9, 10, 11, 12, 13, 14, 15, 16, 17, 18, 19, 20, 21, 22, 23, 24, 25] [0, 1, 2, 3, 4, 5, 6, 7, 8, 9, 10, 11, 12, 13, 14, 15, 16, 17, 18, 19, 20, 21, 22, 23, 24, 25] rfl rfl rfl (by decide) ⟨Nat.le_of_ble_eq_true rfl, Nat.le_of_ble_eq_true rfl⟩ (fun H locs hP hD hS => ?_)
    refine lv_if_eq (tgt := 30) hx hb dX6_station_18 (by decide) (fun c3 => ?_) (fun c3 => ?_)
    · exact absurd h12 (b01t c3)
    · skip
      have c3 := b01f c3
      refine lv_aload_n hx hb dX6_station_21 rfl (lv_at hl 0 rfl) ?_
      refine lv_iload_n hx hb dX6_station_22 rfl (lv_at hl 1 rfl) ?_
      refine lv_iload_n hx hb dX6_station_23 rfl (lv_at hl 2 rfl) ?_
      refine ycalli (invV (As := [.int (nI s9), .int y]) (rest := []) (rm := ({ frames := 0, cells := 0, slots := 0, locals := 0 } : Room)) ⟨hx, hb, hml, hown, hts⟩ (cwV 2 hts gX6_station_X6_stationTold rfl rfl rfl (by decide +kernel) ⟨Nat.le_of_ble_eq_true rfl, Nat.le_of_ble_eq_true rfl⟩) (va_recv hK hP (ci := 6) (q0 := 0) rfl rfl) rfl rfl hl.1 (Nat.le_of_ble_eq_true rfl) dX6_station_24) (c_X6_stationTold l D cI h b d u1 q w0 okn1 s9 hs (nI s9) rfl y) hK hN hA hP hD hS (W2 := wMo cI h b d u1 q w0) [0, 1, 2, 3, 4, 5, 6, 7, 8, 9, 10, 11, 12, 13, 14, 15, 16, 17, 18, 19, 20, 21, 22, 23, 24, 25] [] [0, 1, 2, 3, 4, 5, 6, 7, 8, 9, 10, 11, 12, 13, 14, 15, 16, 17, 18, 19, 20, 21, 22, 23, 24, 25] rfl rfl rfl (by decide) ⟨Nat.le_of_ble_eq_true rfl, Nat.le_of_ble_eq_true rfl⟩ (fun H locs hP hD hS => ?_)
      refine lv_goto (tgt := 35) hx hb dX6_station_27 (by decide) ?_
      have h4 : u1 = put n 31 0 0 := (by (try subst eu1); rfl)
      exact fin _ _ _ _ _ _ _ _ (by (try subst eu1); rfl) (congrArg (fun z9 : Rc => wMo cI h b d z9 q w0) h4) hP hD hS (Nat.le_of_ble_eq_true rfl) (Nat.le_of_ble_eq_true rfl) dX6_station_35

set_option maxHeartbeats 4000000 in
set_option maxRecDepth 100000 in
theorem c_X6_station_1 (l : Launch) (D : va_G) (cI : ClassId) (h b d : Nat → Nat) (n q w0 : Rc) (x y : Int32) (hno : ¬ ((¬ x < 0 ∧ ¬ 7 < x) ∧ (¬ y < 0 ∧ ¬ 2 < y))) : CI l yX6_station wsX6_station ({ frames := 2, cells := 0, slots := 0, locals := 42 } : Room) D cI [.ref (h 0), .int x, .int y] (wMo cI h b d n q w0) 0 (wMo cI h b d (put (put n 31 0 0) 31 0 1) q w0) := by
  refine CI.mk (cc := cX6_station) (maxL := 3) (ret := (some .int)) rfl rfl (by decide) rfl (Nat.le_of_ble_eq_true rfl) ?_
  intro p e s m args below meth c A Q ls hx hb hts hown hml hK hN hA hP hD hS hl fin
  have hown : s.vm.findClass RX6 = some m.cls := hown
  have hl : lv_has ls 3 [(0, .ref (h 0)), (1, .int x), (2, .int y)] := hl
  have f37 := hts (.fieldLink RX6 37 "NightSortersModel" "thrown" "I") (by decide +kernel)
  have inX6 : ∀ w ∈ wsX60, w ∈ wsX6_station := by decide +kernel
  refine lv_aload_n hx hb dX6_station_0 rfl (lv_at hl 0 rfl) ?_
  refine lv_iconst (v := 0) hx hb dX6_station_1 (by decide) ?_
  obtain ⟨u1, eu1⟩ : ∃ z0 : Rc, z0 = put n 31 0 0 := ⟨_, rfl⟩
  refine va_put (D := D) (ci := 6) (v := .int 0) (ty := .int) (C := RX6) (T := TX6) (N := 10) hx hb hts inX6 tyX6 tyX6_ok nmX6 hown hK hP hD hS 0 rfl rfl 0 (by decide) f37 (fun _ h9 => h9) rfl (by decide +kernel) rfl rfl (Nat.le_of_ble_eq_true rfl) dX6_station_2 (fun H locs hP hD hS => ?_)
  have hP : va_P D vwCl (wMo cI h b d u1 q w0) H := by subst eu1; exact hP
  have hD : va_D A (wMo cI h b d u1 q w0) := by subst eu1; exact hD
  refine lv_iload_n hx hb dX6_station_5 rfl (lv_at hl 1 rfl) ?_
  refine ycalli (invS (As := [.int x]) (rest := []) (rm := ({ frames := 1, cells := 0, slots := 0, locals := 22 } : Room)) ⟨hx, hb, hml, hown, hts⟩ (va_cwS 1 hts gX6_station_X6_isStation rfl rfl rfl (by decide +kernel) ⟨Nat.le_of_ble_eq_true rfl, Nat.le_of_ble_eq_true rfl⟩) rfl rfl hl.1 (Nat.le_of_ble_eq_true rfl) dX6_station_6) (c_X6_isStation l D cI (x)) hK hN hA hP hD hS (W2 := wMo cI h b d u1 q w0) [] [0, 1, 2, 3, 4, 5, 6, 7, 8, 9, 10, 11, 12, 13, 14, 15, 16, 17, 18, 19, 20, 21, 22, 23, 24, 25] [0, 1, 2, 3, 4, 5, 6, 7, 8, 9, 10, 11, 12, 13, 14, 15, 16, 17, 18, 19, 20, 21, 22, 23, 24, 25] rfl rfl rfl (by decide) ⟨Nat.le_of_ble_eq_true rfl, Nat.le_of_ble_eq_true rfl⟩ (fun H locs hP hD hS => ?_)
  refine lv_if_eq (tgt := 30) hx hb dX6_station_9 (by decide) (fun c2 => ?_) (fun c2 => ?_)
  · skip
    have c2 := b01t c2
    refine lv_aload_n hx hb dX6_station_30 rfl (lv_at hl 0 rfl) ?_
    refine lv_iconst (v := 1) hx hb dX6_station_31 (by decide) ?_
    obtain ⟨u3, eu3⟩ : ∃ z0 : Rc, z0 = put u1 31 0 1 := ⟨_, rfl⟩
    refine ycalli (invV (As := [.int 1]) (rest := []) (rm := ({ frames := 0, cells := 0, slots := 0, locals := 0 } : Room)) ⟨hx, hb, hml, hown, hts⟩ (cwV 1 hts gX6_station_X6_no rfl rfl rfl (by decide +kernel) ⟨Nat.le_of_ble_eq_true rfl, Nat.le_of_ble_eq_true rfl⟩) (va_recv hK hP (ci := 6) (q0 := 0) rfl rfl) rfl rfl hl.1 (Nat.le_of_ble_eq_true rfl) dX6_station_32) (c_X6_no l D cI h b d u1 q w0 1) hK hN hA hP hD hS (W2 := wMo cI h b d u3 q w0) [0, 1, 2, 3, 4, 5, 6, 7, 8, 9, 10, 11, 12, 13, 14, 15, 16, 17, 18, 19, 20, 21, 22, 23, 24, 25] [] [0, 1, 2, 3, 4, 5, 6, 7, 8, 9, 10, 11, 12, 13, 14, 15, 16, 17, 18, 19, 20, 21, 22, 23, 24, 25] rfl rfl (by subst eu3; rfl) (by decide) ⟨Nat.le_of_ble_eq_true rfl, Nat.le_of_ble_eq_true rfl⟩ (fun H locs hP hD hS => ?_)
    have h4 : u3 = put (put n 31 0 0) 31 0 1 := (by (try subst eu3); (try subst eu1); rfl)
    exact fin _ _ _ _ _ _ _ _ rfl (congrArg (fun z9 : Rc => wMo cI h b d z9 q w0) h4) hP hD hS (Nat.le_of_ble_eq_true rfl) (Nat.le_of_ble_eq_true rfl) dX6_station_35
  · skip
    have c2 := b01f c2
    refine lv_iload_n hx hb dX6_station_12 rfl (lv_at hl 2 rfl) ?_
    refine lv_iconst (v := 0) hx hb dX6_station_13 (by decide) ?_
    refine lv_iconst (v := 2) hx hb dX6_station_14 (by decide) ?_
    refine ycalli (invS (As := [.int y, .int 0, .int 2]) (rest := []) (rm := ({ frames := 0, cells := 0, slots := 0, locals := 0 } : Room)) ⟨hx, hb, hml, hown, hts⟩ (va_cwS 3 hts gX6_station_X6_isIn rfl rfl rfl (by decide +kernel) ⟨Nat.le_of_ble_eq_true rfl, Nat.le_of_ble_eq_true rfl⟩) rfl rfl hl.1 (Nat.le_of_ble_eq_true rfl) dX6_station_15) (c_X6_isIn l D cI (y) (0) (2)) hK hN hA hP hD hS (W2 := wMo cI h b d u1 q w0) [] [0, 1, 2, 3, 4, 5, 6, 7, 8, 9, 10, 11, 12, 13, 14, 15, 16, 17, 18, 19, 20, 21, 22, 23, 24, 25] [0, 1, 2, 3, 4, 5, 6, 7, 8, 9, 10, 11, 12, 13, 14, 15, 16, 17, 18, 19, 20, 21, 22, 23, 24, 25] rfl rfl rfl (by decide) ⟨Nat.le_of_ble_eq_true rfl, Nat.le_of_ble_eq_true rfl⟩ (fun H locs hP hD hS => ?_)
    refine lv_if_eq (tgt := 30) hx hb dX6_station_18 (by decide) (fun c5 => ?_) (fun c5 => ?_)
    · skip
      have c5 := b01t c5
      refine lv_aload_n hx hb dX6_station_30 rfl (lv_at hl 0 rfl) ?_
      refine lv_iconst (v := 1) hx hb dX6_station_31 (by decide) ?_
      obtain ⟨u6, eu6⟩ : ∃ z0 : Rc, z0 = put u1 31 0 1 := ⟨_, rfl⟩
      refine ycalli (invV (As := [.int 1]) (rest := []) (rm := ({ frames := 0, cells := 0, slots := 0, locals := 0 } : Room)) ⟨hx, hb, hml, hown, hts⟩ (cwV 1 hts gX6_station_X6_no rfl rfl rfl (by decide +kernel) ⟨Nat.le_of_ble_eq_true rfl, Nat.le_of_ble_eq_true rfl⟩) (va_recv hK hP (ci := 6) (q0 := 0) rfl rfl) rfl rfl hl.1 (Nat.le_of_ble_eq_true rfl) dX6_station_32) (c_X6_no l D cI h b d u1 q w0 1) hK hN hA hP hD hS (W2 := wMo cI h b d u6 q w0) [0, 1, 2, 3, 4, 5, 6, 7, 8, 9, 10, 11, 12, 13, 14, 15, 16, 17, 18, 19, 20, 21, 22, 23, 24, 25] [] [0, 1, 2, 3, 4, 5, 6, 7, 8, 9, 10, 11, 12, 13, 14, 15, 16, 17, 18, 19, 20, 21, 22, 23, 24, 25] rfl rfl (by subst eu6; rfl) (by decide) ⟨Nat.le_of_ble_eq_true rfl, Nat.le_of_ble_eq_true rfl⟩ (fun H locs hP hD hS => ?_)
      have h7 : u6 = put (put n 31 0 0) 31 0 1 := (by (try subst eu6); (try subst eu1); rfl)
      exact fin _ _ _ _ _ _ _ _ rfl (congrArg (fun z9 : Rc => wMo cI h b d z9 q w0) h7) hP hD hS (Nat.le_of_ble_eq_true rfl) (Nat.le_of_ble_eq_true rfl) dX6_station_35
    · exact absurd (And.intro c2 (b01f c5)) hno

set_option maxHeartbeats 4000000 in
set_option maxRecDepth 100000 in
theorem c_X6_counted (l : Launch) (D : va_G) (cI : ClassId) (h b d : Nat → Nat) (n q w0 : Rc) (okn : Ok n) (x : Int32) : CI l yX6_counted wsX6_counted ({ frames := 2, cells := 0, slots := 0, locals := 42 } : Room) D cI [.ref (h 0), .int x] (wMo cI h b d n q w0) (cntR n q x) (wMo cI h b d n q w0) := by
  refine CI.mk (cc := cX6_counted) (maxL := 3) (ret := (some .int)) rfl rfl (by decide) rfl (Nat.le_of_ble_eq_true rfl) ?_
  intro p e s m args below meth c A Q ls hx hb hts hown hml hK hN hA hP hD hS hl fin
  have hown : s.vm.findClass RX6 = some m.cls := hown
  have hl : lv_has ls 3 [(0, .ref (h 0)), (1, .int x)] := hl
  have f9 := hts (.fieldLink RX6 9 "NightSortersModel" "passes" "[I") (by decide +kernel)
  have f30 := hts (.fieldLink RX6 30 "NightSortersModel" "s" "LNightSortersModel$State;") (by decide +kernel)
  have f46 := hts (.fieldLink RX6 46 "NightSortersModel" "letters" "I") (by decide +kernel)
  have f49 := hts (.fieldLink RX6 49 "NightSortersModel" "sorters" "I") (by decide +kernel)
  have inX5 : ∀ w ∈ wsX50, w ∈ wsX6_counted := by decide +kernel
  have inX6 : ∀ w ∈ wsX60, w ∈ wsX6_counted := by decide +kernel
  refine lv_iload_n hx hb dX6_counted_0 rfl (lv_at hl 1 rfl) ?_
  refine lv_iconst (v := 3) hx hb dX6_counted_1 (by decide) ?_
  refine lv_bipush (v := 8) hx hb dX6_counted_2 (by decide) ?_
  refine ycalli (invS (As := [.int x, .int 3, .int 8]) (rest := []) (rm := ({ frames := 0, cells := 0, slots := 0, locals := 0 } : Room)) ⟨hx, hb, hml, hown, hts⟩ (va_cwS 3 hts gX6_counted_X6_isIn rfl rfl rfl (by decide +kernel) ⟨Nat.le_of_ble_eq_true rfl, Nat.le_of_ble_eq_true rfl⟩) rfl rfl hl.1 (Nat.le_of_ble_eq_true rfl) dX6_counted_4) (c_X6_isIn l D cI (x) (3) (8)) hK hN hA hP hD hS (W2 := wMo cI h b d n q w0) [] [0, 1, 2, 3, 4, 5, 6, 7, 8, 9, 10, 11, 12, 13, 14, 15, 16, 17, 18, 19, 20, 21, 22, 23, 24, 25] [0, 1, 2, 3, 4, 5, 6, 7, 8, 9, 10, 11, 12, 13, 14, 15, 16, 17, 18, 19, 20, 21, 22, 23, 24, 25] rfl rfl rfl (by decide) ⟨Nat.le_of_ble_eq_true rfl, Nat.le_of_ble_eq_true rfl⟩ (fun H locs hP hD hS => ?_)
  refine lv_if_eq (tgt := 21) hx hb dX6_counted_7 (by decide) (fun c1 => ?_) (fun c1 => ?_)
  · skip
    have c1 := b01t c1
    refine lv_iconst (v := 0) hx hb dX6_counted_21 (by decide) ?_
    refine lv_istore_n (lv' := [(2, .int 0), (0, .ref (h 0)), (1, .int x)]) hx hb dX6_counted_22 rfl hl (by decide) rfl (fun ls hl => ?_)
    have K23 : ∀ (n23 i23 : Nat), 0 ≤ i23 → i23 ≤ 8 → 8 < i23 + n23 → (∀ k, k < i23 → decide (¬ n 20 k < q 30 0) = false) → ∀ (H : Heap) (locs : List Loc), va_P D vwCl (wMo cI h b d n q w0) H → va_D A (wMo cI h b d n q w0) → va_S A s.heap H locs → ∀ (ls : Array Slot), lv_has ls 3 [(2, .int (nI i23)), (0, .ref (h 0)), (1, .int x)] → W p l e ({ frames := 2, cells := 0, slots := 0, locals := 42 } : Room) s m args below meth c H locs (0 + 0) (0 + 0) Q (F0 m 23 ls []) := by
      intro n23
      induction n23 with
      | zero => intro i23 hlo23 hi23 hn23; exact absurd hn23 (by omega)
      | succ n23 ih23 =>
        intro i23 hlo23 hi23 hn23 hno H locs hP hD hS ls hl
        refine lv_iload_n hx hb dX6_counted_23 rfl (lv_at hl 0 rfl) ?_
        refine lv_bipush (v := 8) hx hb dX6_counted_24 (by decide) ?_
        refine lv_icmp_ge (tgt := 51) hx hb dX6_counted_26 (by decide) (fun c2 => ?_) (fun c2 => ?_)
        · skip
          have hie : 8 = i23 := (show i23 = 8 from lp_out (show (8 : Int32) = nI 8 from rfl) (by decide) hi23 c2).symm
          subst hie
          have hnx : nI 8 = nxtF n (q 30 0) := (by unfold nxtF; rw [fnd_no hno, if_pos rfl]; rfl)
          refine lv_iload_n hx hb dX6_counted_51 rfl (lv_at hl 2 rfl) ?_
          refine lv_if_ne (tgt := 65) hx hb dX6_counted_52 (by decide) (fun c3 => ?_) (fun c3 => ?_)
          · skip
            refine lv_iload_n hx hb dX6_counted_65 rfl (lv_at hl 2 rfl) ?_
            refine lv_iconst (v := 1) hx hb dX6_counted_66 (by decide) ?_
            refine lv_icmp_ne (tgt := 77) hx hb dX6_counted_67 (by decide) (fun c4 => ?_) (fun c4 => ?_)
            · skip
              refine lv_iload_n hx hb dX6_counted_77 rfl (lv_at hl 2 rfl) ?_
              refine lv_iconst (v := 2) hx hb dX6_counted_78 (by decide) ?_
              refine lv_icmp_ne (tgt := 89) hx hb dX6_counted_79 (by decide) (fun c5 => ?_) (fun c5 => ?_)
              · skip
                refine lv_iload_n hx hb dX6_counted_89 rfl (lv_at hl 0 rfl) ?_
                exact fin _ _ _ _ _ _ _ _ (by unfold cntR; rw [if_neg c1]; first | rw [if_pos c3] | rw [if_neg c3, if_pos c4] | rw [if_neg c3, if_neg c4, if_pos c5] | (rw [if_neg c3, if_neg c4, if_neg c5]; exact hnx) | rw [if_pos c4] | rw [if_neg c4, if_pos c5] | rw [if_neg c4, if_neg c5, if_pos hnone] | (rw [if_neg c4, if_neg c5, if_neg hnone]; exact hnx)) rfl hP hD hS (Nat.le_of_ble_eq_true rfl) (Nat.le_of_ble_eq_true rfl) dX6_counted_90
              · skip
                refine lv_aload_n hx hb dX6_counted_82 rfl (lv_at hl 1 rfl) ?_
                refine va_get (D := D) (ci := 6) (v := .int (n 10 0)) (C := RX6) (T := TX6) (N := 10) hx hb hts inX6 hown hK hP 0 rfl rfl 6 (by decide) f49 (fun _ h9 => h9) rfl dX6_counted_83 ?_
                refine lv_goto (tgt := 90) hx hb dX6_counted_86 (by decide) ?_
                exact fin _ _ _ _ _ _ _ _ (by unfold cntR; rw [if_neg c1]; first | rw [if_pos c3] | rw [if_neg c3, if_pos c4] | rw [if_neg c3, if_neg c4, if_pos c5] | (rw [if_neg c3, if_neg c4, if_neg c5]; exact hnx) | rw [if_pos c4] | rw [if_neg c4, if_pos c5] | rw [if_neg c4, if_neg c5, if_pos hnone] | (rw [if_neg c4, if_neg c5, if_neg hnone]; exact hnx)) rfl hP hD hS (Nat.le_of_ble_eq_true rfl) (Nat.le_of_ble_eq_true rfl) dX6_counted_90
            · skip
              refine lv_aload_n hx hb dX6_counted_70 rfl (lv_at hl 1 rfl) ?_
              refine va_get (D := D) (ci := 6) (v := .int (n 0 0)) (C := RX6) (T := TX6) (N := 10) hx hb hts inX6 hown hK hP 0 rfl rfl 3 (by decide) f46 (fun _ h9 => h9) rfl dX6_counted_71 ?_
              refine lv_goto (tgt := 90) hx hb dX6_counted_74 (by decide) ?_
              exact fin _ _ _ _ _ _ _ _ (by unfold cntR; rw [if_neg c1]; first | rw [if_pos c3] | rw [if_neg c3, if_pos c4] | rw [if_neg c3, if_neg c4, if_pos hnone] | (rw [if_neg c3, if_neg c4, if_neg hnone]; exact hnx) | rw [if_pos c4] | rw [if_neg c4, if_pos hnone] | rw [if_neg c4, if_neg hnone, if_pos hnone] | (rw [if_neg c4, if_neg hnone, if_neg hnone]; exact hnx)) rfl hP hD hS (Nat.le_of_ble_eq_true rfl) (Nat.le_of_ble_eq_true rfl) dX6_counted_90
          · skip
            refine lv_aload_n hx hb dX6_counted_55 rfl (lv_at hl 1 rfl) ?_
            refine va_get (D := D) (ci := 6) (v := .ref (b 30)) (C := RX6) (T := TX6) (N := 10) hx hb hts inX6 hown hK hP 0 rfl rfl 8 (by decide) f30 (fun _ h9 => h9) rfl dX6_counted_56 ?_
            refine va_getN (D := D) (ci := 5) (v := .int (q 30 0)) (C := RX5) (T := TX5) (N := 11) hx hb hts inX5 hown hK hP 6 rfl rfl 0 (by decide) (NW.F hN (a := RX6) (i := 60) (b := "NightSortersModel$State") (n := "minute") (d := "I") (h9 := "NightSortersModel") (by decide +kernel)) (fun _ h9 => h9) rfl dX6_counted_59 ?_
            refine lv_goto (tgt := 90) hx hb dX6_counted_62 (by decide) ?_
            exact fin _ _ _ _ _ _ _ _ (by unfold cntR; rw [if_neg c1]; first | rw [if_pos c3] | rw [if_neg c3, if_pos hnone] | rw [if_neg c3, if_neg hnone, if_pos hnone] | (rw [if_neg c3, if_neg hnone, if_neg hnone]; exact hnx) | rw [if_pos hnone] | rw [if_neg hnone, if_pos hnone] | rw [if_neg hnone, if_neg hnone, if_pos hnone] | (rw [if_neg hnone, if_neg hnone, if_neg hnone]; exact hnx)) rfl hP hD hS (Nat.le_of_ble_eq_true rfl) (Nat.le_of_ble_eq_true rfl) dX6_counted_90
        · skip
          have hlt := lp_in (show (8 : Int32) = nI 8 from rfl) (by decide) hi23 c2
          refine lv_aload_n hx hb dX6_counted_29 rfl (lv_at hl 1 rfl) ?_
          refine va_get (D := D) (ci := 6) (v := .ref (h 20)) (C := RX6) (T := TX6) (N := 10) hx hb hts inX6 hown hK hP 0 rfl rfl 1 (by decide) f9 (fun _ h9 => h9) rfl dX6_counted_30 ?_
          refine lv_iload_n hx hb dX6_counted_33 rfl (lv_at hl 0 rfl) ?_
          refine xald hx hb hK hP 1 rfl rfl (i23) (rfl) (by omega) (by decide) dX6_counted_34 ?_
          refine lv_aload_n hx hb dX6_counted_35 rfl (lv_at hl 1 rfl) ?_
          refine va_get (D := D) (ci := 6) (v := .ref (b 30)) (C := RX6) (T := TX6) (N := 10) hx hb hts inX6 hown hK hP 0 rfl rfl 8 (by decide) f30 (fun _ h9 => h9) rfl dX6_counted_36 ?_
          refine va_getN (D := D) (ci := 5) (v := .int (q 30 0)) (C := RX5) (T := TX5) (N := 11) hx hb hts inX5 hown hK hP 6 rfl rfl 0 (by decide) (NW.F hN (a := RX6) (i := 60) (b := "NightSortersModel$State") (n := "minute") (d := "I") (h9 := "NightSortersModel") (by decide +kernel)) (fun _ h9 => h9) rfl dX6_counted_39 ?_
          refine lv_icmp_ge (tgt := 51) hx hb dX6_counted_42 (by decide) (fun c6 => ?_) (fun c6 => ?_)
          · skip
            have hnx : nI i23 = nxtF n (q 30 0) := (by unfold nxtF; rw [fnd_at (decide_eq_true (Int32.not_lt.mpr c6)) hno hlt (by decide), if_neg (nI_nm1 (by omega))])
            refine lv_iload_n hx hb dX6_counted_51 rfl (lv_at hl 2 rfl) ?_
            refine lv_if_ne (tgt := 65) hx hb dX6_counted_52 (by decide) (fun c7 => ?_) (fun c7 => ?_)
            · skip
              refine lv_iload_n hx hb dX6_counted_65 rfl (lv_at hl 2 rfl) ?_
              refine lv_iconst (v := 1) hx hb dX6_counted_66 (by decide) ?_
              refine lv_icmp_ne (tgt := 77) hx hb dX6_counted_67 (by decide) (fun c8 => ?_) (fun c8 => ?_)
              · skip
                refine lv_iload_n hx hb dX6_counted_77 rfl (lv_at hl 2 rfl) ?_
                refine lv_iconst (v := 2) hx hb dX6_counted_78 (by decide) ?_
                refine lv_icmp_ne (tgt := 89) hx hb dX6_counted_79 (by decide) (fun c9 => ?_) (fun c9 => ?_)
                · skip
                  refine lv_iload_n hx hb dX6_counted_89 rfl (lv_at hl 0 rfl) ?_
                  exact fin _ _ _ _ _ _ _ _ (by unfold cntR; rw [if_neg c1]; first | rw [if_pos c6] | rw [if_neg c6, if_pos c7] | rw [if_neg c6, if_neg c7, if_pos c8] | (rw [if_neg c6, if_neg c7, if_neg c8]; exact hnx) | rw [if_pos c7] | rw [if_neg c7, if_pos c8] | rw [if_neg c7, if_neg c8, if_pos c9] | (rw [if_neg c7, if_neg c8, if_neg c9]; exact hnx)) rfl hP hD hS (Nat.le_of_ble_eq_true rfl) (Nat.le_of_ble_eq_true rfl) dX6_counted_90
                · skip
                  refine lv_aload_n hx hb dX6_counted_82 rfl (lv_at hl 1 rfl) ?_
                  refine va_get (D := D) (ci := 6) (v := .int (n 10 0)) (C := RX6) (T := TX6) (N := 10) hx hb hts inX6 hown hK hP 0 rfl rfl 6 (by decide) f49 (fun _ h9 => h9) rfl dX6_counted_83 ?_
                  refine lv_goto (tgt := 90) hx hb dX6_counted_86 (by decide) ?_
                  exact fin _ _ _ _ _ _ _ _ (by unfold cntR; rw [if_neg c1]; first | rw [if_pos c6] | rw [if_neg c6, if_pos c7] | rw [if_neg c6, if_neg c7, if_pos c8] | (rw [if_neg c6, if_neg c7, if_neg c8]; exact hnx) | rw [if_pos c7] | rw [if_neg c7, if_pos c8] | rw [if_neg c7, if_neg c8, if_pos c9] | (rw [if_neg c7, if_neg c8, if_neg c9]; exact hnx)) rfl hP hD hS (Nat.le_of_ble_eq_true rfl) (Nat.le_of_ble_eq_true rfl) dX6_counted_90
              · skip
                refine lv_aload_n hx hb dX6_counted_70 rfl (lv_at hl 1 rfl) ?_
                refine va_get (D := D) (ci := 6) (v := .int (n 0 0)) (C := RX6) (T := TX6) (N := 10) hx hb hts inX6 hown hK hP 0 rfl rfl 3 (by decide) f46 (fun _ h9 => h9) rfl dX6_counted_71 ?_
                refine lv_goto (tgt := 90) hx hb dX6_counted_74 (by decide) ?_
                exact fin _ _ _ _ _ _ _ _ (by unfold cntR; rw [if_neg c1]; first | rw [if_pos c6] | rw [if_neg c6, if_pos c7] | rw [if_neg c6, if_neg c7, if_pos c8] | (rw [if_neg c6, if_neg c7, if_neg c8]; exact hnx) | rw [if_pos c7] | rw [if_neg c7, if_pos c8] | rw [if_neg c7, if_neg c8, if_pos hnone] | (rw [if_neg c7, if_neg c8, if_neg hnone]; exact hnx)) rfl hP hD hS (Nat.le_of_ble_eq_true rfl) (Nat.le_of_ble_eq_true rfl) dX6_counted_90
            · skip
              refine lv_aload_n hx hb dX6_counted_55 rfl (lv_at hl 1 rfl) ?_
              refine va_get (D := D) (ci := 6) (v := .ref (b 30)) (C := RX6) (T := TX6) (N := 10) hx hb hts inX6 hown hK hP 0 rfl rfl 8 (by decide) f30 (fun _ h9 => h9) rfl dX6_counted_56 ?_
              refine va_getN (D := D) (ci := 5) (v := .int (q 30 0)) (C := RX5) (T := TX5) (N := 11) hx hb hts inX5 hown hK hP 6 rfl rfl 0 (by decide) (NW.F hN (a := RX6) (i := 60) (b := "NightSortersModel$State") (n := "minute") (d := "I") (h9 := "NightSortersModel") (by decide +kernel)) (fun _ h9 => h9) rfl dX6_counted_59 ?_
              refine lv_goto (tgt := 90) hx hb dX6_counted_62 (by decide) ?_
              exact fin _ _ _ _ _ _ _ _ (by unfold cntR; rw [if_neg c1]; first | rw [if_pos c6] | rw [if_neg c6, if_pos c7] | rw [if_neg c6, if_neg c7, if_pos hnone] | (rw [if_neg c6, if_neg c7, if_neg hnone]; exact hnx) | rw [if_pos c7] | rw [if_neg c7, if_pos hnone] | rw [if_neg c7, if_neg hnone, if_pos hnone] | (rw [if_neg c7, if_neg hnone, if_neg hnone]; exact hnx)) rfl hP hD hS (Nat.le_of_ble_eq_true rfl) (Nat.le_of_ble_eq_true rfl) dX6_counted_90
          · skip
            refine lv_iinc (v := nI (i23 + 1)) (lv' := [(2, .int (nI (i23 + 1))), (0, .ref (h 0)), (1, .int x)]) hx hb dX6_counted_45 hl (k := 0) rfl (nI_inc _) (by decide) rfl (fun ls hl => ?_)
            refine lv_goto (tgt := 23) hx hb dX6_counted_48 (by decide) ?_
            exact ih23 (i23 + 1) (by omega) (by omega) (by omega) (lt_s hno (decide_eq_false (fun h => c6 (Int32.not_lt.mp h)))) H locs hP hD hS ls (lv_sub hl [0, 1, 2] rfl)
    exact K23 (8 + 1) 0 (Nat.le_refl _) (by omega) (by omega) (fun k hk => absurd hk (by omega)) _ _ hP hD hS ls (lv_sub hl [0, 1, 2] rfl)
  · skip
    have c1 := b01f c1
    refine lv_aload_n hx hb dX6_counted_10 rfl (lv_at hl 0 rfl) ?_
    refine va_get (D := D) (ci := 6) (v := .ref (b 30)) (C := RX6) (T := TX6) (N := 10) hx hb hts inX6 hown hK hP 0 rfl rfl 8 (by decide) f30 (fun _ h9 => h9) rfl dX6_counted_11 ?_
    refine lv_iload_n hx hb dX6_counted_14 rfl (lv_at hl 1 rfl) ?_
    refine lv_iconst (v := 3) hx hb dX6_counted_15 (by decide) ?_
    refine lv_isub hx hb dX6_counted_16 ?_
    refine ycalli (invV (As := [.int (x - 3)]) (rest := []) (rm := ({ frames := 0, cells := 0, slots := 0, locals := 0 } : Room)) ⟨hx, hb, hml, hown, hts⟩ (cwV 1 hts gX6_counted_X5_are rfl rfl rfl (by decide +kernel) ⟨Nat.le_of_ble_eq_true rfl, Nat.le_of_ble_eq_true rfl⟩) (va_recv hK hP (ci := 5) (q0 := 6) rfl rfl) rfl rfl hl.1 (Nat.le_of_ble_eq_true rfl) dX6_counted_17) (c_X5_are l D cI h b (b 30) (d 30) n q okn (x - 3)) hK hN hA hP hD hS (W2 := wMo cI h b d n q w0) [6, 7, 8, 9, 10, 11, 12, 13, 14, 15, 0, 1, 2, 3, 4, 5] [16, 17, 18, 19, 20, 21, 22, 23, 24, 25] [20, 21, 22, 23, 24, 25, 10, 11, 12, 13, 14, 15, 16, 17, 18, 19, 0, 1, 2, 3, 4, 5, 6, 7, 8, 9] rfl rfl rfl (by decide) ⟨Nat.le_of_ble_eq_true rfl, Nat.le_of_ble_eq_true rfl⟩ (fun H locs hP hD hS => ?_)
    exact fin _ _ _ _ _ _ _ _ (by unfold cntR; rw [if_pos c1]) rfl hP hD hS (Nat.le_of_ble_eq_true rfl) (Nat.le_of_ble_eq_true rfl) dX6_counted_20

set_option maxHeartbeats 4000000 in
set_option maxRecDepth 100000 in
theorem c_X6_count (l : Launch) (D : va_G) (cI : ClassId) (h b d : Nat → Nat) (n q w0 : Rc) (okn : Ok n) (x : Int32) (hr : ¬ x < 0 ∧ ¬ 9 < x) : CI l yX6_count wsX6_count ({ frames := 3, cells := 0, slots := 0, locals := 64 } : Room) D cI [.ref (h 0), .int x] (wMo cI h b d n q w0) (cntR (put n 31 0 0) q x) (wMo cI h b d (put n 31 0 0) q w0) := by
  refine CI.mk (cc := cX6_count) (maxL := 2) (ret := (some .int)) rfl rfl (by decide) rfl (Nat.le_of_ble_eq_true rfl) ?_
  intro p e s m args below meth c A Q ls hx hb hts hown hml hK hN hA hP hD hS hl fin
  have hown : s.vm.findClass RX6 = some m.cls := hown
  have hl : lv_has ls 2 [(0, .ref (h 0)), (1, .int x)] := hl
  have f37 := hts (.fieldLink RX6 37 "NightSortersModel" "thrown" "I") (by decide +kernel)
  have inX6 : ∀ w ∈ wsX60, w ∈ wsX6_count := by decide +kernel
  refine lv_aload_n hx hb dX6_count_0 rfl (lv_at hl 0 rfl) ?_
  refine lv_iconst (v := 0) hx hb dX6_count_1 (by decide) ?_
  obtain ⟨u1, eu1⟩ : ∃ z0 : Rc, z0 = put n 31 0 0 := ⟨_, rfl⟩
  refine va_put (D := D) (ci := 6) (v := .int 0) (ty := .int) (C := RX6) (T := TX6) (N := 10) hx hb hts inX6 tyX6 tyX6_ok nmX6 hown hK hP hD hS 0 rfl rfl 0 (by decide) f37 (fun _ h9 => h9) rfl (by decide +kernel) rfl rfl (Nat.le_of_ble_eq_true rfl) dX6_count_2 (fun H locs hP hD hS => ?_)
  have hP : va_P D vwCl (wMo cI h b d u1 q w0) H := by subst eu1; exact hP
  have hD : va_D A (wMo cI h b d u1 q w0) := by subst eu1; exact hD
  have okn1 : Ok u1 := (by (try subst eu1); exact Ok.ptt okn trivial)
  refine lv_iload_n hx hb dX6_count_5 rfl (lv_at hl 1 rfl) ?_
  refine lv_iconst (v := 0) hx hb dX6_count_6 (by decide) ?_
  refine lv_bipush (v := 9) hx hb dX6_count_7 (by decide) ?_
  refine ycalli (invS (As := [.int x, .int 0, .int 9]) (rest := []) (rm := ({ frames := 0, cells := 0, slots := 0, locals := 0 } : Room)) ⟨hx, hb, hml, hown, hts⟩ (va_cwS 3 hts gX6_count_X6_isIn rfl rfl rfl (by decide +kernel) ⟨Nat.le_of_ble_eq_true rfl, Nat.le_of_ble_eq_true rfl⟩) rfl rfl hl.1 (Nat.le_of_ble_eq_true rfl) dX6_count_9) (c_X6_isIn l D cI (x) (0) (9)) hK hN hA hP hD hS (W2 := wMo cI h b d u1 q w0) [] [0, 1, 2, 3, 4, 5, 6, 7, 8, 9, 10, 11, 12, 13, 14, 15, 16, 17, 18, 19, 20, 21, 22, 23, 24, 25] [0, 1, 2, 3, 4, 5, 6, 7, 8, 9, 10, 11, 12, 13, 14, 15, 16, 17, 18, 19, 20, 21, 22, 23, 24, 25] rfl rfl rfl (by decide) ⟨Nat.le_of_ble_eq_true rfl, Nat.le_of_ble_eq_true rfl⟩ (fun H locs hP hD hS => ?_)
  refine lv_if_eq (tgt := 23) hx hb dX6_count_12 (by decide) (fun c2 => ?_) (fun c2 => ?_)
  · exact absurd hr (b01t c2)
  · skip
    have c2 := b01f c2
    refine lv_aload_n hx hb dX6_count_15 rfl (lv_at hl 0 rfl) ?_
    refine lv_iload_n hx hb dX6_count_16 rfl (lv_at hl 1 rfl) ?_
    refine ycalli (invV (As := [.int x]) (rest := []) (rm := ({ frames := 2, cells := 0, slots := 0, locals := 42 } : Room)) ⟨hx, hb, hml, hown, hts⟩ (cwV 1 hts gX6_count_X6_counted rfl rfl rfl (by decide +kernel) ⟨Nat.le_of_ble_eq_true rfl, Nat.le_of_ble_eq_true rfl⟩) (va_recv hK hP (ci := 6) (q0 := 0) rfl rfl) rfl rfl hl.1 (Nat.le_of_ble_eq_true rfl) dX6_count_17) (c_X6_counted l D cI h b d u1 q w0 okn1 x) hK hN hA hP hD hS (W2 := wMo cI h b d u1 q w0) [0, 1, 2, 3, 4, 5, 6, 7, 8, 9, 10, 11, 12, 13, 14, 15, 16, 17, 18, 19, 20, 21, 22, 23, 24, 25] [] [0, 1, 2, 3, 4, 5, 6, 7, 8, 9, 10, 11, 12, 13, 14, 15, 16, 17, 18, 19, 20, 21, 22, 23, 24, 25] rfl rfl rfl (by decide) ⟨Nat.le_of_ble_eq_true rfl, Nat.le_of_ble_eq_true rfl⟩ (fun H locs hP hD hS => ?_)
    refine lv_goto (tgt := 28) hx hb dX6_count_20 (by decide) ?_
    have h3 : u1 = put n 31 0 0 := (by (try subst eu1); rfl)
    exact fin _ _ _ _ _ _ _ _ (by (try subst eu1); rfl) (congrArg (fun z9 : Rc => wMo cI h b d z9 q w0) h3) hP hD hS (Nat.le_of_ble_eq_true rfl) (Nat.le_of_ble_eq_true rfl) dX6_count_28

set_option maxHeartbeats 4000000 in
set_option maxRecDepth 100000 in
theorem c_X6_count_1 (l : Launch) (D : va_G) (cI : ClassId) (h b d : Nat → Nat) (n q w0 : Rc) (x : Int32) (hno : ¬ (¬ x < 0 ∧ ¬ 9 < x)) : CI l yX6_count wsX6_count ({ frames := 3, cells := 0, slots := 0, locals := 64 } : Room) D cI [.ref (h 0), .int x] (wMo cI h b d n q w0) 0 (wMo cI h b d (put (put n 31 0 0) 31 0 1) q w0) := by
  refine CI.mk (cc := cX6_count) (maxL := 2) (ret := (some .int)) rfl rfl (by decide) rfl (Nat.le_of_ble_eq_true rfl) ?_
  intro p e s m args below meth c A Q ls hx hb hts hown hml hK hN hA hP hD hS hl fin
  have hown : s.vm.findClass RX6 = some m.cls := hown
  have hl : lv_has ls 2 [(0, .ref (h 0)), (1, .int x)] := hl
  have f37 := hts (.fieldLink RX6 37 "NightSortersModel" "thrown" "I") (by decide +kernel)
  have inX6 : ∀ w ∈ wsX60, w ∈ wsX6_count := by decide +kernel
  refine lv_aload_n hx hb dX6_count_0 rfl (lv_at hl 0 rfl) ?_
  refine lv_iconst (v := 0) hx hb dX6_count_1 (by decide) ?_
  obtain ⟨u1, eu1⟩ : ∃ z0 : Rc, z0 = put n 31 0 0 := ⟨_, rfl⟩
  refine va_put (D := D) (ci := 6) (v := .int 0) (ty := .int) (C := RX6) (T := TX6) (N := 10) hx hb hts inX6 tyX6 tyX6_ok nmX6 hown hK hP hD hS 0 rfl rfl 0 (by decide) f37 (fun _ h9 => h9) rfl (by decide +kernel) rfl rfl (Nat.le_of_ble_eq_true rfl) dX6_count_2 (fun H locs hP hD hS => ?_)
  have hP : va_P D vwCl (wMo cI h b d u1 q w0) H := by subst eu1; exact hP
  have hD : va_D A (wMo cI h b d u1 q w0) := by subst eu1; exact hD
  refine lv_iload_n hx hb dX6_count_5 rfl (lv_at hl 1 rfl) ?_
  refine lv_iconst (v := 0) hx hb dX6_count_6 (by decide) ?_
  refine lv_bipush (v := 9) hx hb dX6_count_7 (by decide) ?_
  refine ycalli (invS (As := [.int x, .int 0, .int 9]) (rest := []) (rm := ({ frames := 0, cells := 0, slots := 0, locals := 0 } : Room)) ⟨hx, hb, hml, hown, hts⟩ (va_cwS 3 hts gX6_count_X6_isIn rfl rfl rfl (by decide +kernel) ⟨Nat.le_of_ble_eq_true rfl, Nat.le_of_ble_eq_true rfl⟩) rfl rfl hl.1 (Nat.le_of_ble_eq_true rfl) dX6_count_9) (c_X6_isIn l D cI (x) (0) (9)) hK hN hA hP hD hS (W2 := wMo cI h b d u1 q w0) [] [0, 1, 2, 3, 4, 5, 6, 7, 8, 9, 10, 11, 12, 13, 14, 15, 16, 17, 18, 19, 20, 21, 22, 23, 24, 25] [0, 1, 2, 3, 4, 5, 6, 7, 8, 9, 10, 11, 12, 13, 14, 15, 16, 17, 18, 19, 20, 21, 22, 23, 24, 25] rfl rfl rfl (by decide) ⟨Nat.le_of_ble_eq_true rfl, Nat.le_of_ble_eq_true rfl⟩ (fun H locs hP hD hS => ?_)
  refine lv_if_eq (tgt := 23) hx hb dX6_count_12 (by decide) (fun c2 => ?_) (fun c2 => ?_)
  · skip
    have c2 := b01t c2
    refine lv_aload_n hx hb dX6_count_23 rfl (lv_at hl 0 rfl) ?_
    refine lv_iconst (v := 1) hx hb dX6_count_24 (by decide) ?_
    obtain ⟨u3, eu3⟩ : ∃ z0 : Rc, z0 = put u1 31 0 1 := ⟨_, rfl⟩
    refine ycalli (invV (As := [.int 1]) (rest := []) (rm := ({ frames := 0, cells := 0, slots := 0, locals := 0 } : Room)) ⟨hx, hb, hml, hown, hts⟩ (cwV 1 hts gX6_count_X6_no rfl rfl rfl (by decide +kernel) ⟨Nat.le_of_ble_eq_true rfl, Nat.le_of_ble_eq_true rfl⟩) (va_recv hK hP (ci := 6) (q0 := 0) rfl rfl) rfl rfl hl.1 (Nat.le_of_ble_eq_true rfl) dX6_count_25) (c_X6_no l D cI h b d u1 q w0 1) hK hN hA hP hD hS (W2 := wMo cI h b d u3 q w0) [0, 1, 2, 3, 4, 5, 6, 7, 8, 9, 10, 11, 12, 13, 14, 15, 16, 17, 18, 19, 20, 21, 22, 23, 24, 25] [] [0, 1, 2, 3, 4, 5, 6, 7, 8, 9, 10, 11, 12, 13, 14, 15, 16, 17, 18, 19, 20, 21, 22, 23, 24, 25] rfl rfl (by subst eu3; rfl) (by decide) ⟨Nat.le_of_ble_eq_true rfl, Nat.le_of_ble_eq_true rfl⟩ (fun H locs hP hD hS => ?_)
    have h4 : u3 = put (put n 31 0 0) 31 0 1 := (by (try subst eu3); (try subst eu1); rfl)
    exact fin _ _ _ _ _ _ _ _ rfl (congrArg (fun z9 : Rc => wMo cI h b d z9 q w0) h4) hP hD hS (Nat.le_of_ble_eq_true rfl) (Nat.le_of_ble_eq_true rfl) dX6_count_28
  · exact absurd (b01f c2) hno

set_option maxHeartbeats 4000000 in
set_option maxRecDepth 100000 in
theorem c_X6_letterTold (l : Launch) (D : va_G) (cI : ClassId) (h b d : Nat → Nat) (n q w0 : Rc) (j : Nat) (hj : j < 60) (x : Int32) (ex : x = nI j) (w : Nat) (hw : w < 5) (y : Int32) (ey : y = nI w) : CI l yX6_letterTold wsX6_letterTold ({ frames := 0, cells := 1, slots := 5, locals := 0 } : Room) D cI [.ref (h 0), .int x, .int y] (wMo cI h b d n q w0) (mfR n q j w) (wMo cI h b d n q w0) := by
  refine CI.mk (cc := cX6_letterTold) (maxL := 4) (ret := (some .int)) rfl rfl (by decide) rfl (Nat.le_of_ble_eq_true rfl) ?_
  intro p e s m args below meth c A Q ls hx hb hts hown hml hK hN hA hP hD hS hl fin
  have hown : s.vm.findClass RX6 = some m.cls := hown
  subst ex
  subst ey
  have hl : lv_has ls 4 [(0, .ref (h 0)), (1, .int (nI j)), (2, .int (nI w))] := hl
  have f16 := hts (.fieldLink RX6 16 "NightSortersModel" "town" "[I") (by decide +kernel)
  have f19 := hts (.fieldLink RX6 19 "NightSortersModel" "station" "[I") (by decide +kernel)
  have f30 := hts (.fieldLink RX6 30 "NightSortersModel" "s" "LNightSortersModel$State;") (by decide +kernel)
  have inX5 : ∀ w ∈ wsX50, w ∈ wsX6_letterTold := by decide +kernel
  have inX6 : ∀ w ∈ wsX60, w ∈ wsX6_letterTold := by decide +kernel
  refine lv_iconst (v := 5) hx hb dX6_letterTold_0 (by decide) ?_
  refine va_newa (atype := .int) (ty := .int) (a0 := (5, .inl (fun _ => 0))) (N' := 5) hx hb (hts (.arrayClass .int) (by decide +kernel)) rfl hK hP hD hS hA (fun _ => rfl) (by decide) (by decide) (by decide) (Nat.le_of_ble_eq_true rfl) (Nat.le_of_ble_eq_true rfl) dX6_letterTold_1 (fun tq cT H hK hP hD hS => ?_)
  have hP : va_P D vwCl (wMo cI h b d n q w0 ++ [(tq, .inl (cT, 5, .inl (fun _ => 0)))]) H := hP
  have hD : va_D A (wMo cI h b d n q w0 ++ [(tq, .inl (cT, 5, .inl (fun _ => 0)))]) := hD
  refine lv_dup hx hb dX6_letterTold_3 rfl ?_
  refine lv_iconst (v := 0) hx hb dX6_letterTold_4 (by decide) ?_
  refine lv_aload_n hx hb dX6_letterTold_5 rfl (lv_at hl 0 rfl) ?_
  refine va_get (D := D) (ci := 6) (v := .ref (b 30)) (C := RX6) (T := TX6) (N := 10) hx hb hts inX6 hown hK hP 0 rfl rfl 8 (by decide) f30 (fun _ h9 => h9) rfl dX6_letterTold_6 ?_
  refine va_getN (D := D) (ci := 5) (v := .ref (b 3)) (C := RX5) (T := TX5) (N := 11) hx hb hts inX5 hown hK hP 6 rfl rfl 1 (by decide) (NW.F hN (a := RX6) (i := 94) (b := "NightSortersModel$State") (n := "where") (d := "[I") (h9 := "NightSortersModel") (by decide +kernel)) (fun _ h9 => h9) rfl dX6_letterTold_9 ?_
  refine lv_iload_n hx hb dX6_letterTold_12 rfl (lv_at hl 1 rfl) ?_
  refine xald hx hb hK hP 7 rfl rfl (j) (rfl) (by omega) (by decide) dX6_letterTold_13 ?_
  refine va_iast hx hb hK hP hD hS 26 1 rfl rfl (vp_lit (by decide)) dX6_letterTold_14 (fun H locs hP hD hS => ?_)
  have hP : va_P D vwCl (wMo cI h b d n q w0 ++ [(tq, .inl (cT, 5, .inl (upd (fun _ => 0) 0 (q 3 j))))]) H := hP
  have hD : va_D A (wMo cI h b d n q w0 ++ [(tq, .inl (cT, 5, .inl (upd (fun _ => 0) 0 (q 3 j))))]) := hD
  refine lv_dup hx hb dX6_letterTold_15 rfl ?_
  refine lv_iconst (v := 1) hx hb dX6_letterTold_16 (by decide) ?_
  refine lv_aload_n hx hb dX6_letterTold_17 rfl (lv_at hl 0 rfl) ?_
  refine va_get (D := D) (ci := 6) (v := .ref (h 1)) (C := RX6) (T := TX6) (N := 10) hx hb hts inX6 hown hK hP 0 rfl rfl 4 (by decide) f16 (fun _ h9 => h9) rfl dX6_letterTold_18 ?_
  refine lv_iload_n hx hb dX6_letterTold_21 rfl (lv_at hl 1 rfl) ?_
  refine xald hx hb hK hP 3 rfl rfl (j) (rfl) (by omega) (by decide) dX6_letterTold_22 ?_
  refine va_iast hx hb hK hP hD hS 26 1 rfl rfl (vp_lit (by decide)) dX6_letterTold_23 (fun H locs hP hD hS => ?_)
  have hP : va_P D vwCl (wMo cI h b d n q w0 ++ [(tq, .inl (cT, 5, .inl (upd (upd (fun _ => 0) 0 (q 3 j)) 1 (n 1 j))))]) H := hP
  have hD : va_D A (wMo cI h b d n q w0 ++ [(tq, .inl (cT, 5, .inl (upd (upd (fun _ => 0) 0 (q 3 j)) 1 (n 1 j))))]) := hD
  refine lv_dup hx hb dX6_letterTold_24 rfl ?_
  refine lv_iconst (v := 2) hx hb dX6_letterTold_25 (by decide) ?_
  refine lv_aload_n hx hb dX6_letterTold_26 rfl (lv_at hl 0 rfl) ?_
  refine va_get (D := D) (ci := 6) (v := .ref (h 2)) (C := RX6) (T := TX6) (N := 10) hx hb hts inX6 hown hK hP 0 rfl rfl 5 (by decide) f19 (fun _ h9 => h9) rfl dX6_letterTold_27 ?_
  refine lv_iload_n hx hb dX6_letterTold_30 rfl (lv_at hl 1 rfl) ?_
  refine xald hx hb hK hP 4 rfl rfl (j) (rfl) (by omega) (by decide) dX6_letterTold_31 ?_
  refine va_iast hx hb hK hP hD hS 26 1 rfl rfl (vp_lit (by decide)) dX6_letterTold_32 (fun H locs hP hD hS => ?_)
  have hP : va_P D vwCl (wMo cI h b d n q w0 ++ [(tq, .inl (cT, 5, .inl (upd (upd (upd (fun _ => 0) 0 (q 3 j)) 1 (n 1 j)) 2 (n 2 j))))]) H := hP
  have hD : va_D A (wMo cI h b d n q w0 ++ [(tq, .inl (cT, 5, .inl (upd (upd (upd (fun _ => 0) 0 (q 3 j)) 1 (n 1 j)) 2 (n 2 j))))]) := hD
  refine lv_dup hx hb dX6_letterTold_33 rfl ?_
  refine lv_iconst (v := 3) hx hb dX6_letterTold_34 (by decide) ?_
  refine lv_aload_n hx hb dX6_letterTold_35 rfl (lv_at hl 0 rfl) ?_
  refine va_get (D := D) (ci := 6) (v := .ref (b 30)) (C := RX6) (T := TX6) (N := 10) hx hb hts inX6 hown hK hP 0 rfl rfl 8 (by decide) f30 (fun _ h9 => h9) rfl dX6_letterTold_36 ?_
  refine va_getN (D := D) (ci := 5) (v := .ref (b 4)) (C := RX5) (T := TX5) (N := 11) hx hb hts inX5 hown hK hP 6 rfl rfl 2 (by decide) (NW.F hN (a := RX6) (i := 70) (b := "NightSortersModel$State") (n := "who") (d := "[I") (h9 := "NightSortersModel") (by decide +kernel)) (fun _ h9 => h9) rfl dX6_letterTold_39 ?_
  refine lv_iload_n hx hb dX6_letterTold_42 rfl (lv_at hl 1 rfl) ?_
  refine xald hx hb hK hP 8 rfl rfl (j) (rfl) (by omega) (by decide) dX6_letterTold_43 ?_
  refine va_iast hx hb hK hP hD hS 26 1 rfl rfl (vp_lit (by decide)) dX6_letterTold_44 (fun H locs hP hD hS => ?_)
  have hP : va_P D vwCl (wMo cI h b d n q w0 ++ [(tq, .inl (cT, 5, .inl (upd (upd (upd (upd (fun _ => 0) 0 (q 3 j)) 1 (n 1 j)) 2 (n 2 j)) 3 (q 4 j))))]) H := hP
  have hD : va_D A (wMo cI h b d n q w0 ++ [(tq, .inl (cT, 5, .inl (upd (upd (upd (upd (fun _ => 0) 0 (q 3 j)) 1 (n 1 j)) 2 (n 2 j)) 3 (q 4 j))))]) := hD
  refine lv_dup hx hb dX6_letterTold_45 rfl ?_
  refine lv_iconst (v := 4) hx hb dX6_letterTold_46 (by decide) ?_
  refine lv_aload_n hx hb dX6_letterTold_47 rfl (lv_at hl 0 rfl) ?_
  refine va_get (D := D) (ci := 6) (v := .ref (b 30)) (C := RX6) (T := TX6) (N := 10) hx hb hts inX6 hown hK hP 0 rfl rfl 8 (by decide) f30 (fun _ h9 => h9) rfl dX6_letterTold_48 ?_
  refine va_getN (D := D) (ci := 5) (v := .ref (b 5)) (C := RX5) (T := TX5) (N := 11) hx hb hts inX5 hown hK hP 6 rfl rfl 3 (by decide) (NW.F hN (a := RX6) (i := 73) (b := "NightSortersModel$State") (n := "when") (d := "[I") (h9 := "NightSortersModel") (by decide +kernel)) (fun _ h9 => h9) rfl dX6_letterTold_51 ?_
  refine lv_iload_n hx hb dX6_letterTold_54 rfl (lv_at hl 1 rfl) ?_
  refine xald hx hb hK hP 9 rfl rfl (j) (rfl) (by omega) (by decide) dX6_letterTold_55 ?_
  refine va_iast hx hb hK hP hD hS 26 1 rfl rfl (vp_lit (by decide)) dX6_letterTold_56 (fun H locs hP hD hS => ?_)
  have hP : va_P D vwCl (wMo cI h b d n q w0 ++ [(tq, .inl (cT, 5, .inl (upd (upd (upd (upd (upd (fun _ => 0) 0 (q 3 j)) 1 (n 1 j)) 2 (n 2 j)) 3 (q 4 j)) 4 (q 5 j))))]) H := hP
  have hD : va_D A (wMo cI h b d n q w0 ++ [(tq, .inl (cT, 5, .inl (upd (upd (upd (upd (upd (fun _ => 0) 0 (q 3 j)) 1 (n 1 j)) 2 (n 2 j)) 3 (q 4 j)) 4 (q 5 j))))]) := hD
  refine lv_astore_n (lv' := [(3, .ref tq), (0, .ref (h 0)), (1, .int (nI j)), (2, .int (nI w))]) hx hb dX6_letterTold_57 rfl hl (by decide) rfl (fun ls hl => ?_)
  refine lv_aload_n hx hb dX6_letterTold_58 rfl (lv_at hl 0 rfl) ?_
  refine lv_iload_n hx hb dX6_letterTold_59 rfl (lv_at hl 3 rfl) ?_
  refine va_iald hx hb hK hP 26 1 rfl rfl (vi_of hw (by decide)) dX6_letterTold_60 ?_
  rw [show (nI w).toNatClampNeg = w from iv_nI (by omega)]
  have hP := hP.sub (ws' := wMo cI h b d n q w0) [0, 1, 2, 3, 4, 5, 6, 7, 8, 9, 10, 11, 12, 13, 14, 15, 16, 17, 18, 19, 20, 21, 22, 23, 24, 25] rfl
  have hD := hD.sub (ws' := wMo cI h b d n q w0) [0, 1, 2, 3, 4, 5, 6, 7, 8, 9, 10, 11, 12, 13, 14, 15, 16, 17, 18, 19, 20, 21, 22, 23, 24, 25] (by decide) rfl
  exact fin _ _ _ _ _ _ _ _ (by have hw9 : w = 0 ∨ w = 1 ∨ w = 2 ∨ w = 3 ∨ w = 4 := (by omega); rcases hw9 with rfl | rfl | rfl | rfl | rfl <;> rfl) rfl hP hD hS (Nat.le_of_ble_eq_true rfl) (Nat.le_of_ble_eq_true rfl) dX6_letterTold_61

set_option maxHeartbeats 4000000 in
set_option maxRecDepth 100000 in
theorem c_X6_sorterTold (l : Launch) (D : va_G) (cI : ClassId) (h b d : Nat → Nat) (n q w0 : Rc) (s9 : Nat) (hs : s9 < 4) (x : Int32) (ex : x = nI s9) (w : Nat) (hw : w < 7) (y : Int32) (ey : y = nI w) : CI l yX6_sorterTold wsX6_sorterTold ({ frames := 0, cells := 1, slots := 7, locals := 0 } : Room) D cI [.ref (h 0), .int x, .int y] (wMo cI h b d n q w0) (cfR n q s9 w) (wMo cI h b d n q w0) := by
  refine CI.mk (cc := cX6_sorterTold) (maxL := 4) (ret := (some .int)) rfl rfl (by decide) rfl (Nat.le_of_ble_eq_true rfl) ?_
  intro p e s m args below meth c A Q ls hx hb hts hown hml hK hN hA hP hD hS hl fin
  have hown : s.vm.findClass RX6 = some m.cls := hown
  subst ex
  subst ey
  have hl : lv_has ls 4 [(0, .ref (h 0)), (1, .int (nI s9)), (2, .int (nI w))] := hl
  have f22 := hts (.fieldLink RX6 22 "NightSortersModel" "pace" "[I") (by decide +kernel)
  have f30 := hts (.fieldLink RX6 30 "NightSortersModel" "s" "LNightSortersModel$State;") (by decide +kernel)
  have inX5 : ∀ w ∈ wsX50, w ∈ wsX6_sorterTold := by decide +kernel
  have inX6 : ∀ w ∈ wsX60, w ∈ wsX6_sorterTold := by decide +kernel
  refine lv_bipush (v := 7) hx hb dX6_sorterTold_0 (by decide) ?_
  refine va_newa (atype := .int) (ty := .int) (a0 := (7, .inl (fun _ => 0))) (N' := 7) hx hb (hts (.arrayClass .int) (by decide +kernel)) rfl hK hP hD hS hA (fun _ => rfl) (by decide) (by decide) (by decide) (Nat.le_of_ble_eq_true rfl) (Nat.le_of_ble_eq_true rfl) dX6_sorterTold_2 (fun tq cT H hK hP hD hS => ?_)
  have hP : va_P D vwCl (wMo cI h b d n q w0 ++ [(tq, .inl (cT, 7, .inl (fun _ => 0)))]) H := hP
  have hD : va_D A (wMo cI h b d n q w0 ++ [(tq, .inl (cT, 7, .inl (fun _ => 0)))]) := hD
  refine lv_dup hx hb dX6_sorterTold_4 rfl ?_
  refine lv_iconst (v := 0) hx hb dX6_sorterTold_5 (by decide) ?_
  refine lv_aload_n hx hb dX6_sorterTold_6 rfl (lv_at hl 0 rfl) ?_
  refine va_get (D := D) (ci := 6) (v := .ref (h 11)) (C := RX6) (T := TX6) (N := 10) hx hb hts inX6 hown hK hP 0 rfl rfl 7 (by decide) f22 (fun _ h9 => h9) rfl dX6_sorterTold_7 ?_
  refine lv_iload_n hx hb dX6_sorterTold_10 rfl (lv_at hl 1 rfl) ?_
  refine xald hx hb hK hP 5 rfl rfl (s9) (rfl) (by omega) (by decide) dX6_sorterTold_11 ?_
  refine va_iast hx hb hK hP hD hS 26 1 rfl rfl (vp_lit (by decide)) dX6_sorterTold_12 (fun H locs hP hD hS => ?_)
  have hP : va_P D vwCl (wMo cI h b d n q w0 ++ [(tq, .inl (cT, 7, .inl (upd (fun _ => 0) 0 (n 11 s9))))]) H := hP
  have hD : va_D A (wMo cI h b d n q w0 ++ [(tq, .inl (cT, 7, .inl (upd (fun _ => 0) 0 (n 11 s9))))]) := hD
  refine lv_dup hx hb dX6_sorterTold_13 rfl ?_
  refine lv_iconst (v := 1) hx hb dX6_sorterTold_14 (by decide) ?_
  refine lv_aload_n hx hb dX6_sorterTold_15 rfl (lv_at hl 0 rfl) ?_
  refine va_get (D := D) (ci := 6) (v := .ref (b 30)) (C := RX6) (T := TX6) (N := 10) hx hb hts inX6 hown hK hP 0 rfl rfl 8 (by decide) f30 (fun _ h9 => h9) rfl dX6_sorterTold_16 ?_
  refine va_getN (D := D) (ci := 5) (v := .ref (b 12)) (C := RX5) (T := TX5) (N := 11) hx hb hts inX5 hown hK hP 6 rfl rfl 4 (by decide) (NW.F hN (a := RX6) (i := 79) (b := "NightSortersModel$State") (n := "towns") (d := "[I") (h9 := "NightSortersModel") (by decide +kernel)) (fun _ h9 => h9) rfl dX6_sorterTold_19 ?_
  refine lv_iload_n hx hb dX6_sorterTold_22 rfl (lv_at hl 1 rfl) ?_
  refine xald hx hb hK hP 10 rfl rfl (s9) (rfl) (by omega) (by decide) dX6_sorterTold_23 ?_
  refine va_iast hx hb hK hP hD hS 26 1 rfl rfl (vp_lit (by decide)) dX6_sorterTold_24 (fun H locs hP hD hS => ?_)
  have hP : va_P D vwCl (wMo cI h b d n q w0 ++ [(tq, .inl (cT, 7, .inl (upd (upd (fun _ => 0) 0 (n 11 s9)) 1 (q 12 s9))))]) H := hP
  have hD : va_D A (wMo cI h b d n q w0 ++ [(tq, .inl (cT, 7, .inl (upd (upd (fun _ => 0) 0 (n 11 s9)) 1 (q 12 s9))))]) := hD
  refine lv_dup hx hb dX6_sorterTold_25 rfl ?_
  refine lv_iconst (v := 2) hx hb dX6_sorterTold_26 (by decide) ?_
  refine lv_aload_n hx hb dX6_sorterTold_27 rfl (lv_at hl 0 rfl) ?_
  refine va_get (D := D) (ci := 6) (v := .ref (b 30)) (C := RX6) (T := TX6) (N := 10) hx hb hts inX6 hown hK hP 0 rfl rfl 8 (by decide) f30 (fun _ h9 => h9) rfl dX6_sorterTold_28 ?_
  refine va_getN (D := D) (ci := 5) (v := .ref (b 13)) (C := RX5) (T := TX5) (N := 11) hx hb hts inX5 hown hK hP 6 rfl rfl 5 (by decide) (NW.F hN (a := RX6) (i := 88) (b := "NightSortersModel$State") (n := "tired") (d := "[I") (h9 := "NightSortersModel") (by decide +kernel)) (fun _ h9 => h9) rfl dX6_sorterTold_31 ?_
  refine lv_iload_n hx hb dX6_sorterTold_34 rfl (lv_at hl 1 rfl) ?_
  refine xald hx hb hK hP 11 rfl rfl (s9) (rfl) (by omega) (by decide) dX6_sorterTold_35 ?_
  refine va_iast hx hb hK hP hD hS 26 1 rfl rfl (vp_lit (by decide)) dX6_sorterTold_36 (fun H locs hP hD hS => ?_)
  have hP : va_P D vwCl (wMo cI h b d n q w0 ++ [(tq, .inl (cT, 7, .inl (upd (upd (upd (fun _ => 0) 0 (n 11 s9)) 1 (q 12 s9)) 2 (q 13 s9))))]) H := hP
  have hD : va_D A (wMo cI h b d n q w0 ++ [(tq, .inl (cT, 7, .inl (upd (upd (upd (fun _ => 0) 0 (n 11 s9)) 1 (q 12 s9)) 2 (q 13 s9))))]) := hD
  refine lv_dup hx hb dX6_sorterTold_37 rfl ?_
  refine lv_iconst (v := 3) hx hb dX6_sorterTold_38 (by decide) ?_
  refine lv_aload_n hx hb dX6_sorterTold_39 rfl (lv_at hl 0 rfl) ?_
  refine va_get (D := D) (ci := 6) (v := .ref (b 30)) (C := RX6) (T := TX6) (N := 10) hx hb hts inX6 hown hK hP 0 rfl rfl 8 (by decide) f30 (fun _ h9 => h9) rfl dX6_sorterTold_40 ?_
  refine va_getN (D := D) (ci := 5) (v := .ref (b 14)) (C := RX5) (T := TX5) (N := 11) hx hb hts inX5 hown hK hP 6 rfl rfl 6 (by decide) (NW.F hN (a := RX6) (i := 91) (b := "NightSortersModel$State") (n := "tea") (d := "[I") (h9 := "NightSortersModel") (by decide +kernel)) (fun _ h9 => h9) rfl dX6_sorterTold_43 ?_
  refine lv_iload_n hx hb dX6_sorterTold_46 rfl (lv_at hl 1 rfl) ?_
  refine xald hx hb hK hP 12 rfl rfl (s9) (rfl) (by omega) (by decide) dX6_sorterTold_47 ?_
  refine va_iast hx hb hK hP hD hS 26 1 rfl rfl (vp_lit (by decide)) dX6_sorterTold_48 (fun H locs hP hD hS => ?_)
  have hP : va_P D vwCl (wMo cI h b d n q w0 ++ [(tq, .inl (cT, 7, .inl (upd (upd (upd (upd (fun _ => 0) 0 (n 11 s9)) 1 (q 12 s9)) 2 (q 13 s9)) 3 (q 14 s9))))]) H := hP
  have hD : va_D A (wMo cI h b d n q w0 ++ [(tq, .inl (cT, 7, .inl (upd (upd (upd (upd (fun _ => 0) 0 (n 11 s9)) 1 (q 12 s9)) 2 (q 13 s9)) 3 (q 14 s9))))]) := hD
  refine lv_dup hx hb dX6_sorterTold_49 rfl ?_
  refine lv_iconst (v := 4) hx hb dX6_sorterTold_50 (by decide) ?_
  refine lv_aload_n hx hb dX6_sorterTold_51 rfl (lv_at hl 0 rfl) ?_
  refine va_get (D := D) (ci := 6) (v := .ref (b 30)) (C := RX6) (T := TX6) (N := 10) hx hb hts inX6 hown hK hP 0 rfl rfl 8 (by decide) f30 (fun _ h9 => h9) rfl dX6_sorterTold_52 ?_
  refine va_getN (D := D) (ci := 5) (v := .ref (b 15)) (C := RX5) (T := TX5) (N := 11) hx hb hts inX5 hown hK hP 6 rfl rfl 7 (by decide) (NW.F hN (a := RX6) (i := 82) (b := "NightSortersModel$State") (n := "holds") (d := "[I") (h9 := "NightSortersModel") (by decide +kernel)) (fun _ h9 => h9) rfl dX6_sorterTold_55 ?_
  refine lv_iload_n hx hb dX6_sorterTold_58 rfl (lv_at hl 1 rfl) ?_
  refine xald hx hb hK hP 13 rfl rfl (s9) (rfl) (by omega) (by decide) dX6_sorterTold_59 ?_
  refine va_iast hx hb hK hP hD hS 26 1 rfl rfl (vp_lit (by decide)) dX6_sorterTold_60 (fun H locs hP hD hS => ?_)
  have hP : va_P D vwCl (wMo cI h b d n q w0 ++ [(tq, .inl (cT, 7, .inl (upd (upd (upd (upd (upd (fun _ => 0) 0 (n 11 s9)) 1 (q 12 s9)) 2 (q 13 s9)) 3 (q 14 s9)) 4 (q 15 s9))))]) H := hP
  have hD : va_D A (wMo cI h b d n q w0 ++ [(tq, .inl (cT, 7, .inl (upd (upd (upd (upd (upd (fun _ => 0) 0 (n 11 s9)) 1 (q 12 s9)) 2 (q 13 s9)) 3 (q 14 s9)) 4 (q 15 s9))))]) := hD
  refine lv_dup hx hb dX6_sorterTold_61 rfl ?_
  refine lv_iconst (v := 5) hx hb dX6_sorterTold_62 (by decide) ?_
  refine lv_aload_n hx hb dX6_sorterTold_63 rfl (lv_at hl 0 rfl) ?_
  refine va_get (D := D) (ci := 6) (v := .ref (b 30)) (C := RX6) (T := TX6) (N := 10) hx hb hts inX6 hown hK hP 0 rfl rfl 8 (by decide) f30 (fun _ h9 => h9) rfl dX6_sorterTold_64 ?_
  refine va_getN (D := D) (ci := 5) (v := .ref (b 16)) (C := RX5) (T := TX5) (N := 11) hx hb hts inX5 hown hK hP 6 rfl rfl 8 (by decide) (NW.F hN (a := RX6) (i := 104) (b := "NightSortersModel$State") (n := "left") (d := "[I") (h9 := "NightSortersModel") (by decide +kernel)) (fun _ h9 => h9) rfl dX6_sorterTold_67 ?_
  refine lv_iload_n hx hb dX6_sorterTold_70 rfl (lv_at hl 1 rfl) ?_
  refine xald hx hb hK hP 14 rfl rfl (s9) (rfl) (by omega) (by decide) dX6_sorterTold_71 ?_
  refine va_iast hx hb hK hP hD hS 26 1 rfl rfl (vp_lit (by decide)) dX6_sorterTold_72 (fun H locs hP hD hS => ?_)
  have hP : va_P D vwCl (wMo cI h b d n q w0 ++ [(tq, .inl (cT, 7, .inl (upd (upd (upd (upd (upd (upd (fun _ => 0) 0 (n 11 s9)) 1 (q 12 s9)) 2 (q 13 s9)) 3 (q 14 s9)) 4 (q 15 s9)) 5 (q 16 s9))))]) H := hP
  have hD : va_D A (wMo cI h b d n q w0 ++ [(tq, .inl (cT, 7, .inl (upd (upd (upd (upd (upd (upd (fun _ => 0) 0 (n 11 s9)) 1 (q 12 s9)) 2 (q 13 s9)) 3 (q 14 s9)) 4 (q 15 s9)) 5 (q 16 s9))))]) := hD
  refine lv_dup hx hb dX6_sorterTold_73 rfl ?_
  refine lv_bipush (v := 6) hx hb dX6_sorterTold_74 (by decide) ?_
  refine lv_aload_n hx hb dX6_sorterTold_76 rfl (lv_at hl 0 rfl) ?_
  refine va_get (D := D) (ci := 6) (v := .ref (b 30)) (C := RX6) (T := TX6) (N := 10) hx hb hts inX6 hown hK hP 0 rfl rfl 8 (by decide) f30 (fun _ h9 => h9) rfl dX6_sorterTold_77 ?_
  refine va_getN (D := D) (ci := 5) (v := .ref (b 17)) (C := RX5) (T := TX5) (N := 11) hx hb hts inX5 hown hK hP 6 rfl rfl 9 (by decide) (NW.F hN (a := RX6) (i := 107) (b := "NightSortersModel$State") (n := "sorted") (d := "[I") (h9 := "NightSortersModel") (by decide +kernel)) (fun _ h9 => h9) rfl dX6_sorterTold_80 ?_
  refine lv_iload_n hx hb dX6_sorterTold_83 rfl (lv_at hl 1 rfl) ?_
  refine xald hx hb hK hP 15 rfl rfl (s9) (rfl) (by omega) (by decide) dX6_sorterTold_84 ?_
  refine va_iast hx hb hK hP hD hS 26 1 rfl rfl (vp_lit (by decide)) dX6_sorterTold_85 (fun H locs hP hD hS => ?_)
  have hP : va_P D vwCl (wMo cI h b d n q w0 ++ [(tq, .inl (cT, 7, .inl (upd (upd (upd (upd (upd (upd (upd (fun _ => 0) 0 (n 11 s9)) 1 (q 12 s9)) 2 (q 13 s9)) 3 (q 14 s9)) 4 (q 15 s9)) 5 (q 16 s9)) 6 (q 17 s9))))]) H := hP
  have hD : va_D A (wMo cI h b d n q w0 ++ [(tq, .inl (cT, 7, .inl (upd (upd (upd (upd (upd (upd (upd (fun _ => 0) 0 (n 11 s9)) 1 (q 12 s9)) 2 (q 13 s9)) 3 (q 14 s9)) 4 (q 15 s9)) 5 (q 16 s9)) 6 (q 17 s9))))]) := hD
  refine lv_astore_n (lv' := [(3, .ref tq), (0, .ref (h 0)), (1, .int (nI s9)), (2, .int (nI w))]) hx hb dX6_sorterTold_86 rfl hl (by decide) rfl (fun ls hl => ?_)
  refine lv_aload_n hx hb dX6_sorterTold_87 rfl (lv_at hl 0 rfl) ?_
  refine lv_iload_n hx hb dX6_sorterTold_88 rfl (lv_at hl 3 rfl) ?_
  refine va_iald hx hb hK hP 26 1 rfl rfl (vi_of hw (by decide)) dX6_sorterTold_89 ?_
  rw [show (nI w).toNatClampNeg = w from iv_nI (by omega)]
  have hP := hP.sub (ws' := wMo cI h b d n q w0) [0, 1, 2, 3, 4, 5, 6, 7, 8, 9, 10, 11, 12, 13, 14, 15, 16, 17, 18, 19, 20, 21, 22, 23, 24, 25] rfl
  have hD := hD.sub (ws' := wMo cI h b d n q w0) [0, 1, 2, 3, 4, 5, 6, 7, 8, 9, 10, 11, 12, 13, 14, 15, 16, 17, 18, 19, 20, 21, 22, 23, 24, 25] (by decide) rfl
  exact fin _ _ _ _ _ _ _ _ (by have hw9 : w = 0 ∨ w = 1 ∨ w = 2 ∨ w = 3 ∨ w = 4 ∨ w = 5 ∨ w = 6 := (by omega); rcases hw9 with rfl | rfl | rfl | rfl | rfl | rfl | rfl <;> rfl) rfl hP hD hS (Nat.le_of_ble_eq_true rfl) (Nat.le_of_ble_eq_true rfl) dX6_sorterTold_90

set_option maxHeartbeats 4000000 in
set_option maxRecDepth 100000 in
theorem c_X6_letter (l : Launch) (D : va_G) (cI : ClassId) (h b d : Nat → Nat) (n q w0 : Rc) (j : Nat) (hj : j < 60) (x : Int32) (ex : x = nI j) (w : Nat) (hw : w < 5) (y : Int32) (ey : y = nI w) (hr : ¬ nI j < 0 ∧ ¬ (n 0 0 - 1) < nI j) : CI l yX6_letter wsX6_letter ({ frames := 2, cells := 1, slots := 5, locals := 43 } : Room) D cI [.ref (h 0), .int x, .int y] (wMo cI h b d n q w0) (mfR (put n 31 0 0) q j w) (wMo cI h b d (put n 31 0 0) q w0) := by
  refine CI.mk (cc := cX6_letter) (maxL := 3) (ret := (some .int)) rfl rfl (by decide) rfl (Nat.le_of_ble_eq_true rfl) ?_
  intro p e s m args below meth c A Q ls hx hb hts hown hml hK hN hA hP hD hS hl fin
  have hown : s.vm.findClass RX6 = some m.cls := hown
  subst ex
  subst ey
  have hl : lv_has ls 3 [(0, .ref (h 0)), (1, .int (nI j)), (2, .int (nI w))] := hl
  have f37 := hts (.fieldLink RX6 37 "NightSortersModel" "thrown" "I") (by decide +kernel)
  have inX6 : ∀ w ∈ wsX60, w ∈ wsX6_letter := by decide +kernel
  refine lv_aload_n hx hb dX6_letter_0 rfl (lv_at hl 0 rfl) ?_
  refine lv_iconst (v := 0) hx hb dX6_letter_1 (by decide) ?_
  obtain ⟨u1, eu1⟩ : ∃ z0 : Rc, z0 = put n 31 0 0 := ⟨_, rfl⟩
  refine va_put (D := D) (ci := 6) (v := .int 0) (ty := .int) (C := RX6) (T := TX6) (N := 10) hx hb hts inX6 tyX6 tyX6_ok nmX6 hown hK hP hD hS 0 rfl rfl 0 (by decide) f37 (fun _ h9 => h9) rfl (by decide +kernel) rfl rfl (Nat.le_of_ble_eq_true rfl) dX6_letter_2 (fun H locs hP hD hS => ?_)
  have hP : va_P D vwCl (wMo cI h b d u1 q w0) H := by subst eu1; exact hP
  have hD : va_D A (wMo cI h b d u1 q w0) := by subst eu1; exact hD
  refine lv_aload_n hx hb dX6_letter_5 rfl (lv_at hl 0 rfl) ?_
  refine lv_iload_n hx hb dX6_letter_6 rfl (lv_at hl 1 rfl) ?_
  refine ycalli (invV (As := [.int (nI j)]) (rest := []) (rm := ({ frames := 1, cells := 0, slots := 0, locals := 22 } : Room)) ⟨hx, hb, hml, hown, hts⟩ (cwV 1 hts gX6_letter_X6_isLetter rfl rfl rfl (by decide +kernel) ⟨Nat.le_of_ble_eq_true rfl, Nat.le_of_ble_eq_true rfl⟩) (va_recv hK hP (ci := 6) (q0 := 0) rfl rfl) rfl rfl hl.1 (Nat.le_of_ble_eq_true rfl) dX6_letter_7) (c_X6_isLetter l D cI h b d u1 q w0 (nI j)) hK hN hA hP hD hS (W2 := wMo cI h b d u1 q w0) [0, 1, 2, 3, 4, 5, 6, 7, 8, 9, 10, 11, 12, 13, 14, 15, 16, 17, 18, 19, 20, 21, 22, 23, 24, 25] [] [0, 1, 2, 3, 4, 5, 6, 7, 8, 9, 10, 11, 12, 13, 14, 15, 16, 17, 18, 19, 20, 21, 22, 23, 24, 25] rfl rfl rfl (by decide) ⟨Nat.le_of_ble_eq_true rfl, Nat.le_of_ble_eq_true rfl⟩ (fun H locs hP hD hS => ?_)
  refine lv_if_eq (tgt := 31) hx hb dX6_letter_10 (by decide) (fun c2 => ?_) (fun c2 => ?_)
  · exact absurd (show ¬ nI j < 0 ∧ ¬ (u1 0 0 - 1) < nI j from (by (try subst eu1); exact hr)) (b01t c2)
  · skip
    have c2 := b01f c2
    refine lv_iload_n hx hb dX6_letter_13 rfl (lv_at hl 2 rfl) ?_
    refine lv_iconst (v := 0) hx hb dX6_letter_14 (by decide) ?_
    refine lv_iconst (v := 4) hx hb dX6_letter_15 (by decide) ?_
    refine ycalli (invS (As := [.int (nI w), .int 0, .int 4]) (rest := []) (rm := ({ frames := 0, cells := 0, slots := 0, locals := 0 } : Room)) ⟨hx, hb, hml, hown, hts⟩ (va_cwS 3 hts gX6_letter_X6_isIn rfl rfl rfl (by decide +kernel) ⟨Nat.le_of_ble_eq_true rfl, Nat.le_of_ble_eq_true rfl⟩) rfl rfl hl.1 (Nat.le_of_ble_eq_true rfl) dX6_letter_16) (c_X6_isIn l D cI (nI w) (0) (4)) hK hN hA hP hD hS (W2 := wMo cI h b d u1 q w0) [] [0, 1, 2, 3, 4, 5, 6, 7, 8, 9, 10, 11, 12, 13, 14, 15, 16, 17, 18, 19, 20, 21, 22, 23, 24, 25] [0, 1, 2, 3, 4, 5, 6, 7, 8, 9, 10, 11, 12, 13, 14, 15, 16, 17, 18, 19, 20, 21, 22, 23, 24, 25] rfl rfl rfl (by decide) ⟨Nat.le_of_ble_eq_true rfl, Nat.le_of_ble_eq_true rfl⟩ (fun H locs hP hD hS => ?_)
    refine lv_if_eq (tgt := 31) hx hb dX6_letter_19 (by decide) (fun c3 => ?_) (fun c3 => ?_)
    · exact absurd (rng (j := w) (M := 4) rfl (by omega) (by decide)) (b01t c3)
    · skip
      have c3 := b01f c3
      refine lv_aload_n hx hb dX6_letter_22 rfl (lv_at hl 0 rfl) ?_
      refine lv_iload_n hx hb dX6_letter_23 rfl (lv_at hl 1 rfl) ?_
      refine lv_iload_n hx hb dX6_letter_24 rfl (lv_at hl 2 rfl) ?_
      refine ycalli (invV (As := [.int (nI j), .int (nI w)]) (rest := []) (rm := ({ frames := 0, cells := 1, slots := 5, locals := 0 } : Room)) ⟨hx, hb, hml, hown, hts⟩ (cwV 2 hts gX6_letter_X6_letterTold rfl rfl rfl (by decide +kernel) ⟨Nat.le_of_ble_eq_true rfl, Nat.le_of_ble_eq_true rfl⟩) (va_recv hK hP (ci := 6) (q0 := 0) rfl rfl) rfl rfl hl.1 (Nat.le_of_ble_eq_true rfl) dX6_letter_25) (c_X6_letterTold l D cI h b d u1 q w0 j hj (nI j) rfl w hw (nI w) rfl) hK hN hA hP hD hS (W2 := wMo cI h b d u1 q w0) [0, 1, 2, 3, 4, 5, 6, 7, 8, 9, 10, 11, 12, 13, 14, 15, 16, 17, 18, 19, 20, 21, 22, 23, 24, 25] [] [0, 1, 2, 3, 4, 5, 6, 7, 8, 9, 10, 11, 12, 13, 14, 15, 16, 17, 18, 19, 20, 21, 22, 23, 24, 25] rfl rfl rfl (by decide) ⟨Nat.le_of_ble_eq_true rfl, Nat.le_of_ble_eq_true rfl⟩ (fun H locs hP hD hS => ?_)
      refine lv_goto (tgt := 36) hx hb dX6_letter_28 (by decide) ?_
      have h4 : u1 = put n 31 0 0 := (by (try subst eu1); rfl)
      exact fin _ _ _ _ _ _ _ _ (by (try subst eu1); rfl) (congrArg (fun z9 : Rc => wMo cI h b d z9 q w0) h4) hP hD hS (Nat.le_of_ble_eq_true rfl) (Nat.le_of_ble_eq_true rfl) dX6_letter_36

set_option maxHeartbeats 4000000 in
set_option maxRecDepth 100000 in
theorem c_X6_letter_1 (l : Launch) (D : va_G) (cI : ClassId) (h b d : Nat → Nat) (n q w0 : Rc) (x y : Int32) (hno : ¬ ((¬ x < 0 ∧ ¬ (n 0 0 - 1) < x) ∧ (¬ y < 0 ∧ ¬ 4 < y))) : CI l yX6_letter wsX6_letter ({ frames := 2, cells := 1, slots := 5, locals := 43 } : Room) D cI [.ref (h 0), .int x, .int y] (wMo cI h b d n q w0) 0 (wMo cI h b d (put (put n 31 0 0) 31 0 1) q w0) := by
  refine CI.mk (cc := cX6_letter) (maxL := 3) (ret := (some .int)) rfl rfl (by decide) rfl (Nat.le_of_ble_eq_true rfl) ?_
  intro p e s m args below meth c A Q ls hx hb hts hown hml hK hN hA hP hD hS hl fin
  have hown : s.vm.findClass RX6 = some m.cls := hown
  have hl : lv_has ls 3 [(0, .ref (h 0)), (1, .int x), (2, .int y)] := hl
  have f37 := hts (.fieldLink RX6 37 "NightSortersModel" "thrown" "I") (by decide +kernel)
  have inX6 : ∀ w ∈ wsX60, w ∈ wsX6_letter := by decide +kernel
  refine lv_aload_n hx hb dX6_letter_0 rfl (lv_at hl 0 rfl) ?_
  refine lv_iconst (v := 0) hx hb dX6_letter_1 (by decide) ?_
  obtain ⟨u1, eu1⟩ : ∃ z0 : Rc, z0 = put n 31 0 0 := ⟨_, rfl⟩
  refine va_put (D := D) (ci := 6) (v := .int 0) (ty := .int) (C := RX6) (T := TX6) (N := 10) hx hb hts inX6 tyX6 tyX6_ok nmX6 hown hK hP hD hS 0 rfl rfl 0 (by decide) f37 (fun _ h9 => h9) rfl (by decide +kernel) rfl rfl (Nat.le_of_ble_eq_true rfl) dX6_letter_2 (fun H locs hP hD hS => ?_)
  have hP : va_P D vwCl (wMo cI h b d u1 q w0) H := by subst eu1; exact hP
  have hD : va_D A (wMo cI h b d u1 q w0) := by subst eu1; exact hD
  refine lv_aload_n hx hb dX6_letter_5 rfl (lv_at hl 0 rfl) ?_
  refine lv_iload_n hx hb dX6_letter_6 rfl (lv_at hl 1 rfl) ?_
  refine ycalli (invV (As := [.int x]) (rest := []) (rm := ({ frames := 1, cells := 0, slots := 0, locals := 22 } : Room)) ⟨hx, hb, hml, hown, hts⟩ (cwV 1 hts gX6_letter_X6_isLetter rfl rfl rfl (by decide +kernel) ⟨Nat.le_of_ble_eq_true rfl, Nat.le_of_ble_eq_true rfl⟩) (va_recv hK hP (ci := 6) (q0 := 0) rfl rfl) rfl rfl hl.1 (Nat.le_of_ble_eq_true rfl) dX6_letter_7) (c_X6_isLetter l D cI h b d u1 q w0 (x)) hK hN hA hP hD hS (W2 := wMo cI h b d u1 q w0) [0, 1, 2, 3, 4, 5, 6, 7, 8, 9, 10, 11, 12, 13, 14, 15, 16, 17, 18, 19, 20, 21, 22, 23, 24, 25] [] [0, 1, 2, 3, 4, 5, 6, 7, 8, 9, 10, 11, 12, 13, 14, 15, 16, 17, 18, 19, 20, 21, 22, 23, 24, 25] rfl rfl rfl (by decide) ⟨Nat.le_of_ble_eq_true rfl, Nat.le_of_ble_eq_true rfl⟩ (fun H locs hP hD hS => ?_)
  refine lv_if_eq (tgt := 31) hx hb dX6_letter_10 (by decide) (fun c2 => ?_) (fun c2 => ?_)
  · skip
    have c2 := b01t c2
    refine lv_aload_n hx hb dX6_letter_31 rfl (lv_at hl 0 rfl) ?_
    refine lv_iconst (v := 1) hx hb dX6_letter_32 (by decide) ?_
    obtain ⟨u3, eu3⟩ : ∃ z0 : Rc, z0 = put u1 31 0 1 := ⟨_, rfl⟩
    refine ycalli (invV (As := [.int 1]) (rest := []) (rm := ({ frames := 0, cells := 0, slots := 0, locals := 0 } : Room)) ⟨hx, hb, hml, hown, hts⟩ (cwV 1 hts gX6_letter_X6_no rfl rfl rfl (by decide +kernel) ⟨Nat.le_of_ble_eq_true rfl, Nat.le_of_ble_eq_true rfl⟩) (va_recv hK hP (ci := 6) (q0 := 0) rfl rfl) rfl rfl hl.1 (Nat.le_of_ble_eq_true rfl) dX6_letter_33) (c_X6_no l D cI h b d u1 q w0 1) hK hN hA hP hD hS (W2 := wMo cI h b d u3 q w0) [0, 1, 2, 3, 4, 5, 6, 7, 8, 9, 10, 11, 12, 13, 14, 15, 16, 17, 18, 19, 20, 21, 22, 23, 24, 25] [] [0, 1, 2, 3, 4, 5, 6, 7, 8, 9, 10, 11, 12, 13, 14, 15, 16, 17, 18, 19, 20, 21, 22, 23, 24, 25] rfl rfl (by subst eu3; rfl) (by decide) ⟨Nat.le_of_ble_eq_true rfl, Nat.le_of_ble_eq_true rfl⟩ (fun H locs hP hD hS => ?_)
    have h4 : u3 = put (put n 31 0 0) 31 0 1 := (by (try subst eu3); (try subst eu1); rfl)
    exact fin _ _ _ _ _ _ _ _ rfl (congrArg (fun z9 : Rc => wMo cI h b d z9 q w0) h4) hP hD hS (Nat.le_of_ble_eq_true rfl) (Nat.le_of_ble_eq_true rfl) dX6_letter_36
  · skip
    have c2 := b01f c2
    refine lv_iload_n hx hb dX6_letter_13 rfl (lv_at hl 2 rfl) ?_
    refine lv_iconst (v := 0) hx hb dX6_letter_14 (by decide) ?_
    refine lv_iconst (v := 4) hx hb dX6_letter_15 (by decide) ?_
    refine ycalli (invS (As := [.int y, .int 0, .int 4]) (rest := []) (rm := ({ frames := 0, cells := 0, slots := 0, locals := 0 } : Room)) ⟨hx, hb, hml, hown, hts⟩ (va_cwS 3 hts gX6_letter_X6_isIn rfl rfl rfl (by decide +kernel) ⟨Nat.le_of_ble_eq_true rfl, Nat.le_of_ble_eq_true rfl⟩) rfl rfl hl.1 (Nat.le_of_ble_eq_true rfl) dX6_letter_16) (c_X6_isIn l D cI (y) (0) (4)) hK hN hA hP hD hS (W2 := wMo cI h b d u1 q w0) [] [0, 1, 2, 3, 4, 5, 6, 7, 8, 9, 10, 11, 12, 13, 14, 15, 16, 17, 18, 19, 20, 21, 22, 23, 24, 25] [0, 1, 2, 3, 4, 5, 6, 7, 8, 9, 10, 11, 12, 13, 14, 15, 16, 17, 18, 19, 20, 21, 22, 23, 24, 25] rfl rfl rfl (by decide) ⟨Nat.le_of_ble_eq_true rfl, Nat.le_of_ble_eq_true rfl⟩ (fun H locs hP hD hS => ?_)
    refine lv_if_eq (tgt := 31) hx hb dX6_letter_19 (by decide) (fun c5 => ?_) (fun c5 => ?_)
    · skip
      have c5 := b01t c5
      refine lv_aload_n hx hb dX6_letter_31 rfl (lv_at hl 0 rfl) ?_
      refine lv_iconst (v := 1) hx hb dX6_letter_32 (by decide) ?_
      obtain ⟨u6, eu6⟩ : ∃ z0 : Rc, z0 = put u1 31 0 1 := ⟨_, rfl⟩
      refine ycalli (invV (As := [.int 1]) (rest := []) (rm := ({ frames := 0, cells := 0, slots := 0, locals := 0 } : Room)) ⟨hx, hb, hml, hown, hts⟩ (cwV 1 hts gX6_letter_X6_no rfl rfl rfl (by decide +kernel) ⟨Nat.le_of_ble_eq_true rfl, Nat.le_of_ble_eq_true rfl⟩) (va_recv hK hP (ci := 6) (q0 := 0) rfl rfl) rfl rfl hl.1 (Nat.le_of_ble_eq_true rfl) dX6_letter_33) (c_X6_no l D cI h b d u1 q w0 1) hK hN hA hP hD hS (W2 := wMo cI h b d u6 q w0) [0, 1, 2, 3, 4, 5, 6, 7, 8, 9, 10, 11, 12, 13, 14, 15, 16, 17, 18, 19, 20, 21, 22, 23, 24, 25] [] [0, 1, 2, 3, 4, 5, 6, 7, 8, 9, 10, 11, 12, 13, 14, 15, 16, 17, 18, 19, 20, 21, 22, 23, 24, 25] rfl rfl (by subst eu6; rfl) (by decide) ⟨Nat.le_of_ble_eq_true rfl, Nat.le_of_ble_eq_true rfl⟩ (fun H locs hP hD hS => ?_)
      have h7 : u6 = put (put n 31 0 0) 31 0 1 := (by (try subst eu6); (try subst eu1); rfl)
      exact fin _ _ _ _ _ _ _ _ rfl (congrArg (fun z9 : Rc => wMo cI h b d z9 q w0) h7) hP hD hS (Nat.le_of_ble_eq_true rfl) (Nat.le_of_ble_eq_true rfl) dX6_letter_36
    · exact absurd (show (¬ x < 0 ∧ ¬ (n 0 0 - 1) < x) ∧ (¬ y < 0 ∧ ¬ 4 < y) from ⟨(by (try subst eu1); exact c2), b01f c5⟩) hno

set_option maxHeartbeats 4000000 in
set_option maxRecDepth 100000 in
theorem c_X6_sorter (l : Launch) (D : va_G) (cI : ClassId) (h b d : Nat → Nat) (n q w0 : Rc) (s9 : Nat) (hs : s9 < 4) (x : Int32) (ex : x = nI s9) (w : Nat) (hw : w < 7) (y : Int32) (ey : y = nI w) (hr : ¬ nI s9 < 0 ∧ ¬ (n 10 0 - 1) < nI s9) : CI l yX6_sorter wsX6_sorter ({ frames := 2, cells := 1, slots := 7, locals := 43 } : Room) D cI [.ref (h 0), .int x, .int y] (wMo cI h b d n q w0) (cfR (put n 31 0 0) q s9 w) (wMo cI h b d (put n 31 0 0) q w0) := by
  refine CI.mk (cc := cX6_sorter) (maxL := 3) (ret := (some .int)) rfl rfl (by decide) rfl (Nat.le_of_ble_eq_true rfl) ?_
  intro p e s m args below meth c A Q ls hx hb hts hown hml hK hN hA hP hD hS hl fin
  have hown : s.vm.findClass RX6 = some m.cls := hown
  subst ex
  subst ey
  have hl : lv_has ls 3 [(0, .ref (h 0)), (1, .int (nI s9)), (2, .int (nI w))] := hl
  have f37 := hts (.fieldLink RX6 37 "NightSortersModel" "thrown" "I") (by decide +kernel)
  have inX6 : ∀ w ∈ wsX60, w ∈ wsX6_sorter := by decide +kernel
  refine lv_aload_n hx hb dX6_sorter_0 rfl (lv_at hl 0 rfl) ?_
  refine lv_iconst (v := 0) hx hb dX6_sorter_1 (by decide) ?_
  obtain ⟨u1, eu1⟩ : ∃ z0 : Rc, z0 = put n 31 0 0 := ⟨_, rfl⟩
  refine va_put (D := D) (ci := 6) (v := .int 0) (ty := .int) (C := RX6) (T := TX6) (N := 10) hx hb hts inX6 tyX6 tyX6_ok nmX6 hown hK hP hD hS 0 rfl rfl 0 (by decide) f37 (fun _ h9 => h9) rfl (by decide +kernel) rfl rfl (Nat.le_of_ble_eq_true rfl) dX6_sorter_2 (fun H locs hP hD hS => ?_)
  have hP : va_P D vwCl (wMo cI h b d u1 q w0) H := by subst eu1; exact hP
  have hD : va_D A (wMo cI h b d u1 q w0) := by subst eu1; exact hD
  refine lv_aload_n hx hb dX6_sorter_5 rfl (lv_at hl 0 rfl) ?_
  refine lv_iload_n hx hb dX6_sorter_6 rfl (lv_at hl 1 rfl) ?_
  refine ycalli (invV (As := [.int (nI s9)]) (rest := []) (rm := ({ frames := 1, cells := 0, slots := 0, locals := 22 } : Room)) ⟨hx, hb, hml, hown, hts⟩ (cwV 1 hts gX6_sorter_X6_isSorter rfl rfl rfl (by decide +kernel) ⟨Nat.le_of_ble_eq_true rfl, Nat.le_of_ble_eq_true rfl⟩) (va_recv hK hP (ci := 6) (q0 := 0) rfl rfl) rfl rfl hl.1 (Nat.le_of_ble_eq_true rfl) dX6_sorter_7) (c_X6_isSorter l D cI h b d u1 q w0 (nI s9)) hK hN hA hP hD hS (W2 := wMo cI h b d u1 q w0) [0, 1, 2, 3, 4, 5, 6, 7, 8, 9, 10, 11, 12, 13, 14, 15, 16, 17, 18, 19, 20, 21, 22, 23, 24, 25] [] [0, 1, 2, 3, 4, 5, 6, 7, 8, 9, 10, 11, 12, 13, 14, 15, 16, 17, 18, 19, 20, 21, 22, 23, 24, 25] rfl rfl rfl (by decide) ⟨Nat.le_of_ble_eq_true rfl, Nat.le_of_ble_eq_true rfl⟩ (fun H locs hP hD hS => ?_)
  refine lv_if_eq (tgt := 32) hx hb dX6_sorter_10 (by decide) (fun c2 => ?_) (fun c2 => ?_)
  · exact absurd (show ¬ nI s9 < 0 ∧ ¬ (u1 10 0 - 1) < nI s9 from (by (try subst eu1); exact hr)) (b01t c2)
  · skip
    have c2 := b01f c2
    refine lv_iload_n hx hb dX6_sorter_13 rfl (lv_at hl 2 rfl) ?_
    refine lv_iconst (v := 0) hx hb dX6_sorter_14 (by decide) ?_
    refine lv_bipush (v := 6) hx hb dX6_sorter_15 (by decide) ?_
    refine ycalli (invS (As := [.int (nI w), .int 0, .int 6]) (rest := []) (rm := ({ frames := 0, cells := 0, slots := 0, locals := 0 } : Room)) ⟨hx, hb, hml, hown, hts⟩ (va_cwS 3 hts gX6_sorter_X6_isIn rfl rfl rfl (by decide +kernel) ⟨Nat.le_of_ble_eq_true rfl, Nat.le_of_ble_eq_true rfl⟩) rfl rfl hl.1 (Nat.le_of_ble_eq_true rfl) dX6_sorter_17) (c_X6_isIn l D cI (nI w) (0) (6)) hK hN hA hP hD hS (W2 := wMo cI h b d u1 q w0) [] [0, 1, 2, 3, 4, 5, 6, 7, 8, 9, 10, 11, 12, 13, 14, 15, 16, 17, 18, 19, 20, 21, 22, 23, 24, 25] [0, 1, 2, 3, 4, 5, 6, 7, 8, 9, 10, 11, 12, 13, 14, 15, 16, 17, 18, 19, 20, 21, 22, 23, 24, 25] rfl rfl rfl (by decide) ⟨Nat.le_of_ble_eq_true rfl, Nat.le_of_ble_eq_true rfl⟩ (fun H locs hP hD hS => ?_)
    refine lv_if_eq (tgt := 32) hx hb dX6_sorter_20 (by decide) (fun c3 => ?_) (fun c3 => ?_)
    · exact absurd (rng (j := w) (M := 6) rfl (by omega) (by decide)) (b01t c3)
    · skip
      have c3 := b01f c3
      refine lv_aload_n hx hb dX6_sorter_23 rfl (lv_at hl 0 rfl) ?_
      refine lv_iload_n hx hb dX6_sorter_24 rfl (lv_at hl 1 rfl) ?_
      refine lv_iload_n hx hb dX6_sorter_25 rfl (lv_at hl 2 rfl) ?_
      refine ycalli (invV (As := [.int (nI s9), .int (nI w)]) (rest := []) (rm := ({ frames := 0, cells := 1, slots := 7, locals := 0 } : Room)) ⟨hx, hb, hml, hown, hts⟩ (cwV 2 hts gX6_sorter_X6_sorterTold rfl rfl rfl (by decide +kernel) ⟨Nat.le_of_ble_eq_true rfl, Nat.le_of_ble_eq_true rfl⟩) (va_recv hK hP (ci := 6) (q0 := 0) rfl rfl) rfl rfl hl.1 (Nat.le_of_ble_eq_true rfl) dX6_sorter_26) (c_X6_sorterTold l D cI h b d u1 q w0 s9 hs (nI s9) rfl w hw (nI w) rfl) hK hN hA hP hD hS (W2 := wMo cI h b d u1 q w0) [0, 1, 2, 3, 4, 5, 6, 7, 8, 9, 10, 11, 12, 13, 14, 15, 16, 17, 18, 19, 20, 21, 22, 23, 24, 25] [] [0, 1, 2, 3, 4, 5, 6, 7, 8, 9, 10, 11, 12, 13, 14, 15, 16, 17, 18, 19, 20, 21, 22, 23, 24, 25] rfl rfl rfl (by decide) ⟨Nat.le_of_ble_eq_true rfl, Nat.le_of_ble_eq_true rfl⟩ (fun H locs hP hD hS => ?_)
      refine lv_goto (tgt := 37) hx hb dX6_sorter_29 (by decide) ?_
      have h4 : u1 = put n 31 0 0 := (by (try subst eu1); rfl)
      exact fin _ _ _ _ _ _ _ _ (by (try subst eu1); rfl) (congrArg (fun z9 : Rc => wMo cI h b d z9 q w0) h4) hP hD hS (Nat.le_of_ble_eq_true rfl) (Nat.le_of_ble_eq_true rfl) dX6_sorter_37

set_option maxHeartbeats 4000000 in
set_option maxRecDepth 100000 in
theorem c_X6_sorter_1 (l : Launch) (D : va_G) (cI : ClassId) (h b d : Nat → Nat) (n q w0 : Rc) (x y : Int32) (hno : ¬ ((¬ x < 0 ∧ ¬ (n 10 0 - 1) < x) ∧ (¬ y < 0 ∧ ¬ 6 < y))) : CI l yX6_sorter wsX6_sorter ({ frames := 2, cells := 1, slots := 7, locals := 43 } : Room) D cI [.ref (h 0), .int x, .int y] (wMo cI h b d n q w0) 0 (wMo cI h b d (put (put n 31 0 0) 31 0 1) q w0) := by
  refine CI.mk (cc := cX6_sorter) (maxL := 3) (ret := (some .int)) rfl rfl (by decide) rfl (Nat.le_of_ble_eq_true rfl) ?_
  intro p e s m args below meth c A Q ls hx hb hts hown hml hK hN hA hP hD hS hl fin
  have hown : s.vm.findClass RX6 = some m.cls := hown
  have hl : lv_has ls 3 [(0, .ref (h 0)), (1, .int x), (2, .int y)] := hl
  have f37 := hts (.fieldLink RX6 37 "NightSortersModel" "thrown" "I") (by decide +kernel)
  have inX6 : ∀ w ∈ wsX60, w ∈ wsX6_sorter := by decide +kernel
  refine lv_aload_n hx hb dX6_sorter_0 rfl (lv_at hl 0 rfl) ?_
  refine lv_iconst (v := 0) hx hb dX6_sorter_1 (by decide) ?_
  obtain ⟨u1, eu1⟩ : ∃ z0 : Rc, z0 = put n 31 0 0 := ⟨_, rfl⟩
  refine va_put (D := D) (ci := 6) (v := .int 0) (ty := .int) (C := RX6) (T := TX6) (N := 10) hx hb hts inX6 tyX6 tyX6_ok nmX6 hown hK hP hD hS 0 rfl rfl 0 (by decide) f37 (fun _ h9 => h9) rfl (by decide +kernel) rfl rfl (Nat.le_of_ble_eq_true rfl) dX6_sorter_2 (fun H locs hP hD hS => ?_)
  have hP : va_P D vwCl (wMo cI h b d u1 q w0) H := by subst eu1; exact hP
  have hD : va_D A (wMo cI h b d u1 q w0) := by subst eu1; exact hD
  refine lv_aload_n hx hb dX6_sorter_5 rfl (lv_at hl 0 rfl) ?_
  refine lv_iload_n hx hb dX6_sorter_6 rfl (lv_at hl 1 rfl) ?_
  refine ycalli (invV (As := [.int x]) (rest := []) (rm := ({ frames := 1, cells := 0, slots := 0, locals := 22 } : Room)) ⟨hx, hb, hml, hown, hts⟩ (cwV 1 hts gX6_sorter_X6_isSorter rfl rfl rfl (by decide +kernel) ⟨Nat.le_of_ble_eq_true rfl, Nat.le_of_ble_eq_true rfl⟩) (va_recv hK hP (ci := 6) (q0 := 0) rfl rfl) rfl rfl hl.1 (Nat.le_of_ble_eq_true rfl) dX6_sorter_7) (c_X6_isSorter l D cI h b d u1 q w0 (x)) hK hN hA hP hD hS (W2 := wMo cI h b d u1 q w0) [0, 1, 2, 3, 4, 5, 6, 7, 8, 9, 10, 11, 12, 13, 14, 15, 16, 17, 18, 19, 20, 21, 22, 23, 24, 25] [] [0, 1, 2, 3, 4, 5, 6, 7, 8, 9, 10, 11, 12, 13, 14, 15, 16, 17, 18, 19, 20, 21, 22, 23, 24, 25] rfl rfl rfl (by decide) ⟨Nat.le_of_ble_eq_true rfl, Nat.le_of_ble_eq_true rfl⟩ (fun H locs hP hD hS => ?_)
  refine lv_if_eq (tgt := 32) hx hb dX6_sorter_10 (by decide) (fun c2 => ?_) (fun c2 => ?_)
  · skip
    have c2 := b01t c2
    refine lv_aload_n hx hb dX6_sorter_32 rfl (lv_at hl 0 rfl) ?_
    refine lv_iconst (v := 1) hx hb dX6_sorter_33 (by decide) ?_
    obtain ⟨u3, eu3⟩ : ∃ z0 : Rc, z0 = put u1 31 0 1 := ⟨_, rfl⟩
    refine ycalli (invV (As := [.int 1]) (rest := []) (rm := ({ frames := 0, cells := 0, slots := 0, locals := 0 } : Room)) ⟨hx, hb, hml, hown, hts⟩ (cwV 1 hts gX6_sorter_X6_no rfl rfl rfl (by decide +kernel) ⟨Nat.le_of_ble_eq_true rfl, Nat.le_of_ble_eq_true rfl⟩) (va_recv hK hP (ci := 6) (q0 := 0) rfl rfl) rfl rfl hl.1 (Nat.le_of_ble_eq_true rfl) dX6_sorter_34) (c_X6_no l D cI h b d u1 q w0 1) hK hN hA hP hD hS (W2 := wMo cI h b d u3 q w0) [0, 1, 2, 3, 4, 5, 6, 7, 8, 9, 10, 11, 12, 13, 14, 15, 16, 17, 18, 19, 20, 21, 22, 23, 24, 25] [] [0, 1, 2, 3, 4, 5, 6, 7, 8, 9, 10, 11, 12, 13, 14, 15, 16, 17, 18, 19, 20, 21, 22, 23, 24, 25] rfl rfl (by subst eu3; rfl) (by decide) ⟨Nat.le_of_ble_eq_true rfl, Nat.le_of_ble_eq_true rfl⟩ (fun H locs hP hD hS => ?_)
    have h4 : u3 = put (put n 31 0 0) 31 0 1 := (by (try subst eu3); (try subst eu1); rfl)
    exact fin _ _ _ _ _ _ _ _ rfl (congrArg (fun z9 : Rc => wMo cI h b d z9 q w0) h4) hP hD hS (Nat.le_of_ble_eq_true rfl) (Nat.le_of_ble_eq_true rfl) dX6_sorter_37
  · skip
    have c2 := b01f c2
    refine lv_iload_n hx hb dX6_sorter_13 rfl (lv_at hl 2 rfl) ?_
    refine lv_iconst (v := 0) hx hb dX6_sorter_14 (by decide) ?_
    refine lv_bipush (v := 6) hx hb dX6_sorter_15 (by decide) ?_
    refine ycalli (invS (As := [.int y, .int 0, .int 6]) (rest := []) (rm := ({ frames := 0, cells := 0, slots := 0, locals := 0 } : Room)) ⟨hx, hb, hml, hown, hts⟩ (va_cwS 3 hts gX6_sorter_X6_isIn rfl rfl rfl (by decide +kernel) ⟨Nat.le_of_ble_eq_true rfl, Nat.le_of_ble_eq_true rfl⟩) rfl rfl hl.1 (Nat.le_of_ble_eq_true rfl) dX6_sorter_17) (c_X6_isIn l D cI (y) (0) (6)) hK hN hA hP hD hS (W2 := wMo cI h b d u1 q w0) [] [0, 1, 2, 3, 4, 5, 6, 7, 8, 9, 10, 11, 12, 13, 14, 15, 16, 17, 18, 19, 20, 21, 22, 23, 24, 25] [0, 1, 2, 3, 4, 5, 6, 7, 8, 9, 10, 11, 12, 13, 14, 15, 16, 17, 18, 19, 20, 21, 22, 23, 24, 25] rfl rfl rfl (by decide) ⟨Nat.le_of_ble_eq_true rfl, Nat.le_of_ble_eq_true rfl⟩ (fun H locs hP hD hS => ?_)
    refine lv_if_eq (tgt := 32) hx hb dX6_sorter_20 (by decide) (fun c5 => ?_) (fun c5 => ?_)
    · skip
      have c5 := b01t c5
      refine lv_aload_n hx hb dX6_sorter_32 rfl (lv_at hl 0 rfl) ?_
      refine lv_iconst (v := 1) hx hb dX6_sorter_33 (by decide) ?_
      obtain ⟨u6, eu6⟩ : ∃ z0 : Rc, z0 = put u1 31 0 1 := ⟨_, rfl⟩
      refine ycalli (invV (As := [.int 1]) (rest := []) (rm := ({ frames := 0, cells := 0, slots := 0, locals := 0 } : Room)) ⟨hx, hb, hml, hown, hts⟩ (cwV 1 hts gX6_sorter_X6_no rfl rfl rfl (by decide +kernel) ⟨Nat.le_of_ble_eq_true rfl, Nat.le_of_ble_eq_true rfl⟩) (va_recv hK hP (ci := 6) (q0 := 0) rfl rfl) rfl rfl hl.1 (Nat.le_of_ble_eq_true rfl) dX6_sorter_34) (c_X6_no l D cI h b d u1 q w0 1) hK hN hA hP hD hS (W2 := wMo cI h b d u6 q w0) [0, 1, 2, 3, 4, 5, 6, 7, 8, 9, 10, 11, 12, 13, 14, 15, 16, 17, 18, 19, 20, 21, 22, 23, 24, 25] [] [0, 1, 2, 3, 4, 5, 6, 7, 8, 9, 10, 11, 12, 13, 14, 15, 16, 17, 18, 19, 20, 21, 22, 23, 24, 25] rfl rfl (by subst eu6; rfl) (by decide) ⟨Nat.le_of_ble_eq_true rfl, Nat.le_of_ble_eq_true rfl⟩ (fun H locs hP hD hS => ?_)
      have h7 : u6 = put (put n 31 0 0) 31 0 1 := (by (try subst eu6); (try subst eu1); rfl)
      exact fin _ _ _ _ _ _ _ _ rfl (congrArg (fun z9 : Rc => wMo cI h b d z9 q w0) h7) hP hD hS (Nat.le_of_ble_eq_true rfl) (Nat.le_of_ble_eq_true rfl) dX6_sorter_37
    · exact absurd (show (¬ x < 0 ∧ ¬ (n 10 0 - 1) < x) ∧ (¬ y < 0 ∧ ¬ 6 < y) from ⟨(by (try subst eu1); exact c2), b01f c5⟩) hno

set_option maxHeartbeats 4000000 in
set_option maxRecDepth 100000 in
theorem c_X6_pass (l : Launch) (D : va_G) (cI : ClassId) (h b d : Nat → Nat) (n q w0 : Rc) (okn : Ok n) (okq : Ok q) (hJ : JR (iv (n 0 0)) (iv (n 10 0)) q) (k9 : Nat) (hk1 : 1 ≤ k9) (hk9 : k9 ≤ 300) (x : Int32) (ex : x = nI k9) : CI l yX6_pass wsX6_pass ({ frames := 5, cells := 0, slots := 0, locals := 149 } : Room) D cI [.ref (h 0), .int x] (wMo cI h b d n q w0) (sumR (put n 31 0 0) q k9) (wMo cI h b d (put n 31 0 0) (psN (put n 31 0 0) k9 q) w0) := by
  refine CI.mk (cc := cX6_pass) (maxL := 2) (ret := (some .int)) rfl rfl (by decide) rfl (Nat.le_of_ble_eq_true rfl) ?_
  intro p e s m args below meth c A Q ls hx hb hts hown hml hK hN hA hP hD hS hl fin
  have hown : s.vm.findClass RX6 = some m.cls := hown
  subst ex
  have hl : lv_has ls 2 [(0, .ref (h 0)), (1, .int (nI k9))] := hl
  have f30 := hts (.fieldLink RX6 30 "NightSortersModel" "s" "LNightSortersModel$State;") (by decide +kernel)
  have f37 := hts (.fieldLink RX6 37 "NightSortersModel" "thrown" "I") (by decide +kernel)
  have inX6 : ∀ w ∈ wsX60, w ∈ wsX6_pass := by decide +kernel
  refine lv_aload_n hx hb dX6_pass_0 rfl (lv_at hl 0 rfl) ?_
  refine lv_iconst (v := 0) hx hb dX6_pass_1 (by decide) ?_
  obtain ⟨u1, eu1⟩ : ∃ z0 : Rc, z0 = put n 31 0 0 := ⟨_, rfl⟩
  refine va_put (D := D) (ci := 6) (v := .int 0) (ty := .int) (C := RX6) (T := TX6) (N := 10) hx hb hts inX6 tyX6 tyX6_ok nmX6 hown hK hP hD hS 0 rfl rfl 0 (by decide) f37 (fun _ h9 => h9) rfl (by decide +kernel) rfl rfl (Nat.le_of_ble_eq_true rfl) dX6_pass_2 (fun H locs hP hD hS => ?_)
  have hP : va_P D vwCl (wMo cI h b d u1 q w0) H := by subst eu1; exact hP
  have hD : va_D A (wMo cI h b d u1 q w0) := by subst eu1; exact hD
  have okn1 : Ok u1 := (by (try subst eu1); exact Ok.ptt okn trivial)
  have hJ1 : JR (iv (u1 0 0)) (iv (u1 10 0)) q := (by (try subst eu1); exact hJ)
  refine lv_iload_n hx hb dX6_pass_5 rfl (lv_at hl 1 rfl) ?_
  refine lv_iconst (v := 1) hx hb dX6_pass_6 (by decide) ?_
  refine lv_sipush (v := 300) hx hb dX6_pass_7 (by decide) ?_
  refine ycalli (invS (As := [.int (nI k9), .int 1, .int 300]) (rest := []) (rm := ({ frames := 0, cells := 0, slots := 0, locals := 0 } : Room)) ⟨hx, hb, hml, hown, hts⟩ (va_cwS 3 hts gX6_pass_X6_isIn rfl rfl rfl (by decide +kernel) ⟨Nat.le_of_ble_eq_true rfl, Nat.le_of_ble_eq_true rfl⟩) rfl rfl hl.1 (Nat.le_of_ble_eq_true rfl) dX6_pass_10) (c_X6_isIn l D cI (nI k9) (1) (300)) hK hN hA hP hD hS (W2 := wMo cI h b d u1 q w0) [] [0, 1, 2, 3, 4, 5, 6, 7, 8, 9, 10, 11, 12, 13, 14, 15, 16, 17, 18, 19, 20, 21, 22, 23, 24, 25] [0, 1, 2, 3, 4, 5, 6, 7, 8, 9, 10, 11, 12, 13, 14, 15, 16, 17, 18, 19, 20, 21, 22, 23, 24, 25] rfl rfl rfl (by decide) ⟨Nat.le_of_ble_eq_true rfl, Nat.le_of_ble_eq_true rfl⟩ (fun H locs hP hD hS => ?_)
  refine lv_if_eq (tgt := 27) hx hb dX6_pass_13 (by decide) (fun c2 => ?_) (fun c2 => ?_)
  · exact absurd (rng1 (j := k9) (L := 1) (M := 300) rfl (show (300 : Int32) = nI 300 from rfl) hk1 hk9 (by decide)) (b01t c2)
  · skip
    have c2 := b01f c2
    refine lv_aload_n hx hb dX6_pass_16 rfl (lv_at hl 0 rfl) ?_
    refine va_get (D := D) (ci := 6) (v := .ref (b 30)) (C := RX6) (T := TX6) (N := 10) hx hb hts inX6 hown hK hP 0 rfl rfl 8 (by decide) f30 (fun _ h9 => h9) rfl dX6_pass_17 ?_
    refine lv_iload_n hx hb dX6_pass_20 rfl (lv_at hl 1 rfl) ?_
    obtain ⟨u3, eu3⟩ : ∃ z0 : Rc, z0 = psN u1 k9 q := ⟨_, rfl⟩
    refine ycalli (invV (As := [.int (nI k9)]) (rest := []) (rm := ({ frames := 4, cells := 0, slots := 0, locals := 126 } : Room)) ⟨hx, hb, hml, hown, hts⟩ (cwV 1 hts gX6_pass_X5_pass_ rfl rfl rfl (by decide +kernel) ⟨Nat.le_of_ble_eq_true rfl, Nat.le_of_ble_eq_true rfl⟩) (va_recv hK hP (ci := 5) (q0 := 6) rfl rfl) rfl rfl hl.1 (Nat.le_of_ble_eq_true rfl) dX6_pass_21) (c_X5_pass_ l D cI h b (b 30) (d 30) u1 q okn1 okq hJ1 k9 hk9 (nI k9) rfl) hK hN hA hP hD hS (W2 := wMo cI h b d u1 u3 w0) [6, 7, 8, 9, 10, 11, 12, 13, 14, 15, 0, 1, 2, 3, 4, 5] [16, 17, 18, 19, 20, 21, 22, 23, 24, 25] [20, 21, 22, 23, 24, 25, 10, 11, 12, 13, 14, 15, 16, 17, 18, 19, 0, 1, 2, 3, 4, 5, 6, 7, 8, 9] rfl rfl (by subst eu3; rfl) (by decide) ⟨Nat.le_of_ble_eq_true rfl, Nat.le_of_ble_eq_true rfl⟩ (fun H locs hP hD hS => ?_)
    refine lv_goto (tgt := 32) hx hb dX6_pass_24 (by decide) ?_
    have h4 : u1 = put n 31 0 0 := (by (try subst eu3); (try subst eu1); rfl)
    have h5 : u3 = psN (put n 31 0 0) k9 q := (by (try subst eu3); (try subst eu1); rfl)
    exact fin _ _ _ _ _ _ _ _ (by (try subst eu3); (try subst eu1); rfl) ((congrArg (fun z9 : Rc => wMo cI h b d z9 u3 w0) h4).trans (congrArg (fun z9 : Rc => wMo cI h b d (put n 31 0 0) z9 w0) h5)) hP hD hS (Nat.le_of_ble_eq_true rfl) (Nat.le_of_ble_eq_true rfl) dX6_pass_32

set_option maxHeartbeats 4000000 in
set_option maxRecDepth 100000 in
theorem c_X6_pass_1 (l : Launch) (D : va_G) (cI : ClassId) (h b d : Nat → Nat) (n q w0 : Rc) (x : Int32) (hno : ¬ (¬ x < 1 ∧ ¬ 300 < x)) : CI l yX6_pass wsX6_pass ({ frames := 5, cells := 0, slots := 0, locals := 149 } : Room) D cI [.ref (h 0), .int x] (wMo cI h b d n q w0) 0 (wMo cI h b d (put (put n 31 0 0) 31 0 1) q w0) := by
  refine CI.mk (cc := cX6_pass) (maxL := 2) (ret := (some .int)) rfl rfl (by decide) rfl (Nat.le_of_ble_eq_true rfl) ?_
  intro p e s m args below meth c A Q ls hx hb hts hown hml hK hN hA hP hD hS hl fin
  have hown : s.vm.findClass RX6 = some m.cls := hown
  have hl : lv_has ls 2 [(0, .ref (h 0)), (1, .int x)] := hl
  have f37 := hts (.fieldLink RX6 37 "NightSortersModel" "thrown" "I") (by decide +kernel)
  have inX6 : ∀ w ∈ wsX60, w ∈ wsX6_pass := by decide +kernel
  refine lv_aload_n hx hb dX6_pass_0 rfl (lv_at hl 0 rfl) ?_
  refine lv_iconst (v := 0) hx hb dX6_pass_1 (by decide) ?_
  obtain ⟨u1, eu1⟩ : ∃ z0 : Rc, z0 = put n 31 0 0 := ⟨_, rfl⟩
  refine va_put (D := D) (ci := 6) (v := .int 0) (ty := .int) (C := RX6) (T := TX6) (N := 10) hx hb hts inX6 tyX6 tyX6_ok nmX6 hown hK hP hD hS 0 rfl rfl 0 (by decide) f37 (fun _ h9 => h9) rfl (by decide +kernel) rfl rfl (Nat.le_of_ble_eq_true rfl) dX6_pass_2 (fun H locs hP hD hS => ?_)
  have hP : va_P D vwCl (wMo cI h b d u1 q w0) H := by subst eu1; exact hP
  have hD : va_D A (wMo cI h b d u1 q w0) := by subst eu1; exact hD
  refine lv_iload_n hx hb dX6_pass_5 rfl (lv_at hl 1 rfl) ?_
  refine lv_iconst (v := 1) hx hb dX6_pass_6 (by decide) ?_
  refine lv_sipush (v := 300) hx hb dX6_pass_7 (by decide) ?_
  refine ycalli (invS (As := [.int x, .int 1, .int 300]) (rest := []) (rm := ({ frames := 0, cells := 0, slots := 0, locals := 0 } : Room)) ⟨hx, hb, hml, hown, hts⟩ (va_cwS 3 hts gX6_pass_X6_isIn rfl rfl rfl (by decide +kernel) ⟨Nat.le_of_ble_eq_true rfl, Nat.le_of_ble_eq_true rfl⟩) rfl rfl hl.1 (Nat.le_of_ble_eq_true rfl) dX6_pass_10) (c_X6_isIn l D cI (x) (1) (300)) hK hN hA hP hD hS (W2 := wMo cI h b d u1 q w0) [] [0, 1, 2, 3, 4, 5, 6, 7, 8, 9, 10, 11, 12, 13, 14, 15, 16, 17, 18, 19, 20, 21, 22, 23, 24, 25] [0, 1, 2, 3, 4, 5, 6, 7, 8, 9, 10, 11, 12, 13, 14, 15, 16, 17, 18, 19, 20, 21, 22, 23, 24, 25] rfl rfl rfl (by decide) ⟨Nat.le_of_ble_eq_true rfl, Nat.le_of_ble_eq_true rfl⟩ (fun H locs hP hD hS => ?_)
  refine lv_if_eq (tgt := 27) hx hb dX6_pass_13 (by decide) (fun c2 => ?_) (fun c2 => ?_)
  · skip
    have c2 := b01t c2
    refine lv_aload_n hx hb dX6_pass_27 rfl (lv_at hl 0 rfl) ?_
    refine lv_iconst (v := 1) hx hb dX6_pass_28 (by decide) ?_
    obtain ⟨u3, eu3⟩ : ∃ z0 : Rc, z0 = put u1 31 0 1 := ⟨_, rfl⟩
    refine ycalli (invV (As := [.int 1]) (rest := []) (rm := ({ frames := 0, cells := 0, slots := 0, locals := 0 } : Room)) ⟨hx, hb, hml, hown, hts⟩ (cwV 1 hts gX6_pass_X6_no rfl rfl rfl (by decide +kernel) ⟨Nat.le_of_ble_eq_true rfl, Nat.le_of_ble_eq_true rfl⟩) (va_recv hK hP (ci := 6) (q0 := 0) rfl rfl) rfl rfl hl.1 (Nat.le_of_ble_eq_true rfl) dX6_pass_29) (c_X6_no l D cI h b d u1 q w0 1) hK hN hA hP hD hS (W2 := wMo cI h b d u3 q w0) [0, 1, 2, 3, 4, 5, 6, 7, 8, 9, 10, 11, 12, 13, 14, 15, 16, 17, 18, 19, 20, 21, 22, 23, 24, 25] [] [0, 1, 2, 3, 4, 5, 6, 7, 8, 9, 10, 11, 12, 13, 14, 15, 16, 17, 18, 19, 20, 21, 22, 23, 24, 25] rfl rfl (by subst eu3; rfl) (by decide) ⟨Nat.le_of_ble_eq_true rfl, Nat.le_of_ble_eq_true rfl⟩ (fun H locs hP hD hS => ?_)
    have h4 : u3 = put (put n 31 0 0) 31 0 1 := (by (try subst eu3); (try subst eu1); rfl)
    exact fin _ _ _ _ _ _ _ _ rfl (congrArg (fun z9 : Rc => wMo cI h b d z9 q w0) h4) hP hD hS (Nat.le_of_ble_eq_true rfl) (Nat.le_of_ble_eq_true rfl) dX6_pass_32
  · exact absurd (b01f c2) hno

set_option maxHeartbeats 4000000 in
set_option maxRecDepth 100000 in
theorem c_X6_arrives (l : Launch) (D : va_G) (cI : ClassId) (h b d : Nat → Nat) (n q w0 : Rc) (okn : Ok n) (okq : Ok q) (hJ : JR (iv (n 0 0)) (iv (n 10 0)) q) (j : Nat) (hj : j < 60) (x : Int32) (ex : x = nI j) (hr : ¬ nI j < 0 ∧ ¬ (n 0 0 - 1) < nI j) : CIE l yX6_arrives wsX6_arrives ({ frames := 4, cells := 0, slots := 0, locals := 126 } : Room) D cI [.ref (h 0), .int x] (wMo cI h b d n q w0) (arrR (put n 31 0 0) j 301 0 q) (fun v9 => wMo cI h b d (put n 31 0 0) q v9) := by
  refine CIE.mk (cc := cX6_arrives) (maxL := 3) (ret := (some .int)) rfl rfl (by decide) rfl (Nat.le_of_ble_eq_true rfl) ?_
  intro p e s m args below meth c A Q ls hx hb hts hown hml hK hN hA hP hD hS hl fin
  have hown : s.vm.findClass RX6 = some m.cls := hown
  subst ex
  have hl : lv_has ls 3 [(0, .ref (h 0)), (1, .int (nI j))] := hl
  have f30 := hts (.fieldLink RX6 30 "NightSortersModel" "s" "LNightSortersModel$State;") (by decide +kernel)
  have f34 := hts (.fieldLink RX6 34 "NightSortersModel" "ahead" "LNightSortersModel$State;") (by decide +kernel)
  have f37 := hts (.fieldLink RX6 37 "NightSortersModel" "thrown" "I") (by decide +kernel)
  have inX5 : ∀ w ∈ wsX50, w ∈ wsX6_arrives := by decide +kernel
  have inX6 : ∀ w ∈ wsX60, w ∈ wsX6_arrives := by decide +kernel
  refine lv_aload_n hx hb dX6_arrives_0 rfl (lv_at hl 0 rfl) ?_
  refine lv_iconst (v := 0) hx hb dX6_arrives_1 (by decide) ?_
  obtain ⟨u1, eu1⟩ : ∃ z0 : Rc, z0 = put n 31 0 0 := ⟨_, rfl⟩
  refine va_put (D := D) (ci := 6) (v := .int 0) (ty := .int) (C := RX6) (T := TX6) (N := 10) hx hb hts inX6 tyX6 tyX6_ok nmX6 hown hK hP hD hS 0 rfl rfl 0 (by decide) f37 (fun _ h9 => h9) rfl (by decide +kernel) rfl rfl (Nat.le_of_ble_eq_true rfl) dX6_arrives_2 (fun H locs hP hD hS => ?_)
  have hP : va_P D vwCl (wMo cI h b d u1 q w0) H := by subst eu1; exact hP
  have hD : va_D A (wMo cI h b d u1 q w0) := by subst eu1; exact hD
  have okn1 : Ok u1 := (by (try subst eu1); exact Ok.ptt okn trivial)
  have hJ1 : JR (iv (u1 0 0)) (iv (u1 10 0)) q := (by (try subst eu1); exact hJ)
  refine lv_aload_n hx hb dX6_arrives_5 rfl (lv_at hl 0 rfl) ?_
  refine lv_iload_n hx hb dX6_arrives_6 rfl (lv_at hl 1 rfl) ?_
  refine ycalli (invV (As := [.int (nI j)]) (rest := []) (rm := ({ frames := 1, cells := 0, slots := 0, locals := 22 } : Room)) ⟨hx, hb, hml, hown, hts⟩ (cwV 1 hts gX6_arrives_X6_isLetter rfl rfl rfl (by decide +kernel) ⟨Nat.le_of_ble_eq_true rfl, Nat.le_of_ble_eq_true rfl⟩) (va_recv hK hP (ci := 6) (q0 := 0) rfl rfl) rfl rfl hl.1 (Nat.le_of_ble_eq_true rfl) dX6_arrives_7) (c_X6_isLetter l D cI h b d u1 q w0 (nI j)) hK hN hA hP hD hS (W2 := wMo cI h b d u1 q w0) [0, 1, 2, 3, 4, 5, 6, 7, 8, 9, 10, 11, 12, 13, 14, 15, 16, 17, 18, 19, 20, 21, 22, 23, 24, 25] [] [0, 1, 2, 3, 4, 5, 6, 7, 8, 9, 10, 11, 12, 13, 14, 15, 16, 17, 18, 19, 20, 21, 22, 23, 24, 25] rfl rfl rfl (by decide) ⟨Nat.le_of_ble_eq_true rfl, Nat.le_of_ble_eq_true rfl⟩ (fun H locs hP hD hS => ?_)
  refine lv_if_ne (tgt := 19) hx hb dX6_arrives_10 (by decide) (fun c2 => ?_) (fun c2 => ?_)
  · skip
    have c2 := b01f c2
    refine lv_aload_n hx hb dX6_arrives_19 rfl (lv_at hl 0 rfl) ?_
    refine va_get (D := D) (ci := 6) (v := .ref (d 30)) (C := RX6) (T := TX6) (N := 10) hx hb hts inX6 hown hK hP 0 rfl rfl 9 (by decide) f34 (fun _ h9 => h9) rfl dX6_arrives_20 ?_
    refine lv_aload_n hx hb dX6_arrives_23 rfl (lv_at hl 0 rfl) ?_
    refine va_get (D := D) (ci := 6) (v := .ref (b 30)) (C := RX6) (T := TX6) (N := 10) hx hb hts inX6 hown hK hP 0 rfl rfl 8 (by decide) f30 (fun _ h9 => h9) rfl dX6_arrives_24 ?_
    obtain ⟨u3, eu3⟩ : ∃ z0 : Rc, z0 = q := ⟨_, rfl⟩
    refine ycallv (invV (As := [.ref (b 30)]) (rest := []) (rm := ({ frames := 2, cells := 0, slots := 0, locals := 82 } : Room)) ⟨hx, hb, hml, hown, hts⟩ (cwV 1 hts gX6_arrives_X5_become rfl rfl rfl (by decide +kernel) ⟨Nat.le_of_ble_eq_true rfl, Nat.le_of_ble_eq_true rfl⟩) (va_recv hK hP (ci := 5) (q0 := 16) rfl rfl) rfl rfl hl.1 (Nat.le_of_ble_eq_true rfl) dX6_arrives_27) (c_X5_become l D cI h d b w0 q) hK hN hA hP hD hS (W2 := wMo cI h b d u1 q u3) [16, 17, 18, 19, 20, 21, 22, 23, 24, 25, 6, 7, 8, 9, 10, 11, 12, 13, 14, 15] [0, 1, 2, 3, 4, 5] [0, 1, 2, 3, 4, 5, 16, 17, 18, 19, 20, 21, 22, 23, 24, 25, 6, 7, 8, 9, 10, 11, 12, 13, 14, 15] rfl rfl (by subst eu3; rfl) (by decide) ⟨Nat.le_of_ble_eq_true rfl, Nat.le_of_ble_eq_true rfl⟩ (fun H locs hP hD hS => ?_)
    rw [eu3] at hP hD
    refine lv_iconst (v := 0) hx hb dX6_arrives_30 (by decide) ?_
    refine lv_istore_n (lv' := [(2, .int 0), (0, .ref (h 0)), (1, .int (nI j))]) hx hb dX6_arrives_31 rfl hl (by decide) rfl (fun ls hl => ?_)
    have K32 : ∀ (n32 i32 : Nat), 0 ≤ i32 → i32 ≤ 301 → 301 < i32 + n32 → (arrR u1 j 301 0 q = arrR u1 j (301 - i32) i32 (psN u1 i32 q)) → ∀ (H : Heap) (locs : List Loc), va_P D vwCl (wMo cI h b d u1 q (psN u1 i32 q)) H → va_D A (wMo cI h b d u1 q (psN u1 i32 q)) → va_S A s.heap H locs → ∀ (ls : Array Slot), lv_has ls 3 [(2, .int (nI i32)), (0, .ref (h 0)), (1, .int (nI j))] → W p l e ({ frames := 4, cells := 0, slots := 0, locals := 126 } : Room) s m args below meth c H locs (0 + 0 + 0) (0 + 0 + 0) Q (F0 m 32 ls []) := by
      intro n32
      induction n32 with
      | zero => intro i32 hlo32 hi32 hn32; exact absurd hn32 (by omega)
      | succ n32 ih32 =>
        intro i32 hlo32 hi32 hn32 hv H locs hP hD hS ls hl
        obtain ⟨u4, eu4⟩ : ∃ z : Rc, z = psN u1 i32 q := ⟨_, rfl⟩
        rw [← eu4] at hP hD
        have okw : Ok u4 ∧ JR (iv (u1 0 0)) (iv (u1 10 0)) u4 := by rw [eu4]; exact psN_j okn1 ⟨okq, hJ1⟩ _
        refine lv_iload_n hx hb dX6_arrives_32 rfl (lv_at hl 0 rfl) ?_
        refine lv_sipush (v := 300) hx hb dX6_arrives_33 (by decide) ?_
        refine lv_icmp_gt (tgt := 68) hx hb dX6_arrives_36 (by decide) (fun c5 => ?_) (fun c5 => ?_)
        · skip
          have hie : i32 = 301 := lp_gt c5 (by omega)
          refine lv_iconst (v := (-1)) hx hb dX6_arrives_68 (by decide) ?_
          have h6 : u1 = put n 31 0 0 := (by (try subst eu4); (try subst eu1); rfl)
          exact fin u4 _ _ _ _ _ _ _ _ (by rw [show arrR (put n 31 0 0) j 301 0 q = arrR u1 j 301 0 q from (by (try subst eu4); (try subst eu1); rfl), hv, hie]; rfl) (congrArg (fun z9 : Rc => wMo cI h b d z9 q u4) h6) hP hD hS (Nat.le_of_ble_eq_true rfl) (Nat.le_of_ble_eq_true rfl) dX6_arrives_69
        · skip
          have hlt32 : i32 < 301 := by have := Int32.not_lt.mp c5; have h9 := lp_ge this (by omega); omega
          refine lv_aload_n hx hb dX6_arrives_39 rfl (lv_at hl 1 rfl) ?_
          refine va_get (D := D) (ci := 6) (v := .ref (d 30)) (C := RX6) (T := TX6) (N := 10) hx hb hts inX6 hown hK hP 0 rfl rfl 9 (by decide) f34 (fun _ h9 => h9) rfl dX6_arrives_40 ?_
          refine va_getN (D := D) (ci := 5) (v := .ref (d 3)) (C := RX5) (T := TX5) (N := 11) hx hb hts inX5 hown hK hP 16 rfl rfl 1 (by decide) (NW.F hN (a := RX6) (i := 94) (b := "NightSortersModel$State") (n := "where") (d := "[I") (h9 := "NightSortersModel") (by decide +kernel)) (fun _ h9 => h9) rfl dX6_arrives_43 ?_
          refine lv_iload_n hx hb dX6_arrives_46 rfl (lv_at hl 2 rfl) ?_
          refine xald hx hb hK hP 17 rfl rfl (j) (rfl) (by omega) (by decide) dX6_arrives_47 ?_
          refine lv_iconst (v := 4) hx hb dX6_arrives_48 (by decide) ?_
          refine lv_icmp_ne (tgt := 54) hx hb dX6_arrives_49 (by decide) (fun c7 => ?_) (fun c7 => ?_)
          · skip
            refine lv_aload_n hx hb dX6_arrives_54 rfl (lv_at hl 1 rfl) ?_
            refine va_get (D := D) (ci := 6) (v := .ref (d 30)) (C := RX6) (T := TX6) (N := 10) hx hb hts inX6 hown hK hP 0 rfl rfl 9 (by decide) f34 (fun _ h9 => h9) rfl dX6_arrives_55 ?_
            obtain ⟨u8, eu8⟩ : ∃ z0 : Rc, z0 = psR u1 u4 := ⟨_, rfl⟩
            refine ycalli (invV (As := []) (rest := []) (rm := ({ frames := 3, cells := 0, slots := 0, locals := 104 } : Room)) ⟨hx, hb, hml, hown, hts⟩ (cwV 0 hts gX6_arrives_X5_pass rfl rfl rfl (by decide +kernel) ⟨Nat.le_of_ble_eq_true rfl, Nat.le_of_ble_eq_true rfl⟩) (va_recv hK hP (ci := 5) (q0 := 16) rfl rfl) rfl rfl hl.1 (Nat.le_of_ble_eq_true rfl) dX6_arrives_58) (c_X5_pass l D cI h d (b 30) (d 30) u1 u4 okn1 okw.1 okw.2) hK hN hA hP hD hS (W2 := wMo cI h b d u1 q u8) [16, 17, 18, 19, 20, 21, 22, 23, 24, 25, 0, 1, 2, 3, 4, 5] [6, 7, 8, 9, 10, 11, 12, 13, 14, 15] [20, 21, 22, 23, 24, 25, 0, 1, 2, 3, 4, 5, 6, 7, 8, 9, 10, 11, 12, 13, 14, 15, 16, 17, 18, 19] rfl rfl (by subst eu8; rfl) (by decide) ⟨Nat.le_of_ble_eq_true rfl, Nat.le_of_ble_eq_true rfl⟩ (fun H locs hP hD hS => ?_)
            refine lv_pop hx hb dX6_arrives_61 rfl ?_
            refine lv_iinc (v := nI (i32 + 1)) (lv' := [(2, .int (nI (i32 + 1))), (0, .ref (h 0)), (1, .int (nI j))]) hx hb dX6_arrives_62 hl (k := 0) rfl (nI_inc _) (by decide) rfl (fun ls hl => ?_)
            refine lv_goto (tgt := 32) hx hb dX6_arrives_65 (by decide) ?_
            have h9 : u8 = psN u1 (i32 + 1) q := by rw [psN_s, ← eu4]; (try subst eu8); rfl
            rw [h9] at hP hD
            exact ih32 (i32 + 1) (by omega) (by omega) (by omega) (hv.trans (arrR_s hlt32 (by rw [← eu4]; exact c7))) H locs hP hD hS ls (lv_sub hl [0, 1, 2] rfl)
          · skip
            refine lv_iload_n hx hb dX6_arrives_52 rfl (lv_at hl 0 rfl) ?_
            have h10 : u1 = put n 31 0 0 := (by (try subst eu4); (try subst eu1); rfl)
            exact fin u4 _ _ _ _ _ _ _ _ (by rw [show arrR (put n 31 0 0) j 301 0 q = arrR u1 j 301 0 q from (by (try subst eu4); (try subst eu1); rfl), hv, ← eu4]; exact (arrR_4 hlt32 c7).symm) (congrArg (fun z9 : Rc => wMo cI h b d z9 q u4) h10) hP hD hS (Nat.le_of_ble_eq_true rfl) (Nat.le_of_ble_eq_true rfl) dX6_arrives_53
    exact K32 (301 + 1) 0 (Nat.le_refl _) (by omega) (by omega) (rfl) _ _ hP hD hS ls (lv_sub hl [0, 1, 2] rfl)
  · exact absurd (show ¬ nI j < 0 ∧ ¬ (u1 0 0 - 1) < nI j from (by (try subst eu1); exact hr)) (b01t c2)

set_option maxHeartbeats 4000000 in
set_option maxRecDepth 100000 in
theorem c_X6_arrives_1 (l : Launch) (D : va_G) (cI : ClassId) (h b d : Nat → Nat) (n q w0 : Rc) (x : Int32) (hno : ¬ (¬ x < 0 ∧ ¬ (n 0 0 - 1) < x)) : CI l yX6_arrives wsX6_arrives ({ frames := 4, cells := 0, slots := 0, locals := 126 } : Room) D cI [.ref (h 0), .int x] (wMo cI h b d n q w0) 0 (wMo cI h b d (put (put n 31 0 0) 31 0 1) q w0) := by
  refine CI.mk (cc := cX6_arrives) (maxL := 3) (ret := (some .int)) rfl rfl (by decide) rfl (Nat.le_of_ble_eq_true rfl) ?_
  intro p e s m args below meth c A Q ls hx hb hts hown hml hK hN hA hP hD hS hl fin
  have hown : s.vm.findClass RX6 = some m.cls := hown
  have hl : lv_has ls 3 [(0, .ref (h 0)), (1, .int x)] := hl
  have f37 := hts (.fieldLink RX6 37 "NightSortersModel" "thrown" "I") (by decide +kernel)
  have inX6 : ∀ w ∈ wsX60, w ∈ wsX6_arrives := by decide +kernel
  refine lv_aload_n hx hb dX6_arrives_0 rfl (lv_at hl 0 rfl) ?_
  refine lv_iconst (v := 0) hx hb dX6_arrives_1 (by decide) ?_
  obtain ⟨u1, eu1⟩ : ∃ z0 : Rc, z0 = put n 31 0 0 := ⟨_, rfl⟩
  refine va_put (D := D) (ci := 6) (v := .int 0) (ty := .int) (C := RX6) (T := TX6) (N := 10) hx hb hts inX6 tyX6 tyX6_ok nmX6 hown hK hP hD hS 0 rfl rfl 0 (by decide) f37 (fun _ h9 => h9) rfl (by decide +kernel) rfl rfl (Nat.le_of_ble_eq_true rfl) dX6_arrives_2 (fun H locs hP hD hS => ?_)
  have hP : va_P D vwCl (wMo cI h b d u1 q w0) H := by subst eu1; exact hP
  have hD : va_D A (wMo cI h b d u1 q w0) := by subst eu1; exact hD
  refine lv_aload_n hx hb dX6_arrives_5 rfl (lv_at hl 0 rfl) ?_
  refine lv_iload_n hx hb dX6_arrives_6 rfl (lv_at hl 1 rfl) ?_
  refine ycalli (invV (As := [.int x]) (rest := []) (rm := ({ frames := 1, cells := 0, slots := 0, locals := 22 } : Room)) ⟨hx, hb, hml, hown, hts⟩ (cwV 1 hts gX6_arrives_X6_isLetter rfl rfl rfl (by decide +kernel) ⟨Nat.le_of_ble_eq_true rfl, Nat.le_of_ble_eq_true rfl⟩) (va_recv hK hP (ci := 6) (q0 := 0) rfl rfl) rfl rfl hl.1 (Nat.le_of_ble_eq_true rfl) dX6_arrives_7) (c_X6_isLetter l D cI h b d u1 q w0 (x)) hK hN hA hP hD hS (W2 := wMo cI h b d u1 q w0) [0, 1, 2, 3, 4, 5, 6, 7, 8, 9, 10, 11, 12, 13, 14, 15, 16, 17, 18, 19, 20, 21, 22, 23, 24, 25] [] [0, 1, 2, 3, 4, 5, 6, 7, 8, 9, 10, 11, 12, 13, 14, 15, 16, 17, 18, 19, 20, 21, 22, 23, 24, 25] rfl rfl rfl (by decide) ⟨Nat.le_of_ble_eq_true rfl, Nat.le_of_ble_eq_true rfl⟩ (fun H locs hP hD hS => ?_)
  refine lv_if_ne (tgt := 19) hx hb dX6_arrives_10 (by decide) (fun c2 => ?_) (fun c2 => ?_)
  · exact absurd (show ¬ x < 0 ∧ ¬ (n 0 0 - 1) < x from (by (try subst eu1); exact b01f c2)) hno
  · skip
    have c2 := b01t c2
    refine lv_aload_n hx hb dX6_arrives_13 rfl (lv_at hl 0 rfl) ?_
    refine lv_iconst (v := 1) hx hb dX6_arrives_14 (by decide) ?_
    obtain ⟨u3, eu3⟩ : ∃ z0 : Rc, z0 = put u1 31 0 1 := ⟨_, rfl⟩
    refine ycalli (invV (As := [.int 1]) (rest := []) (rm := ({ frames := 0, cells := 0, slots := 0, locals := 0 } : Room)) ⟨hx, hb, hml, hown, hts⟩ (cwV 1 hts gX6_arrives_X6_no rfl rfl rfl (by decide +kernel) ⟨Nat.le_of_ble_eq_true rfl, Nat.le_of_ble_eq_true rfl⟩) (va_recv hK hP (ci := 6) (q0 := 0) rfl rfl) rfl rfl hl.1 (Nat.le_of_ble_eq_true rfl) dX6_arrives_15) (c_X6_no l D cI h b d u1 q w0 1) hK hN hA hP hD hS (W2 := wMo cI h b d u3 q w0) [0, 1, 2, 3, 4, 5, 6, 7, 8, 9, 10, 11, 12, 13, 14, 15, 16, 17, 18, 19, 20, 21, 22, 23, 24, 25] [] [0, 1, 2, 3, 4, 5, 6, 7, 8, 9, 10, 11, 12, 13, 14, 15, 16, 17, 18, 19, 20, 21, 22, 23, 24, 25] rfl rfl (by subst eu3; rfl) (by decide) ⟨Nat.le_of_ble_eq_true rfl, Nat.le_of_ble_eq_true rfl⟩ (fun H locs hP hD hS => ?_)
    have h4 : u3 = put (put n 31 0 0) 31 0 1 := (by (try subst eu3); (try subst eu1); rfl)
    exact fin _ _ _ _ _ _ _ _ rfl (congrArg (fun z9 : Rc => wMo cI h b d z9 q w0) h4) hP hD hS (Nat.le_of_ble_eq_true rfl) (Nat.le_of_ble_eq_true rfl) dX6_arrives_18

set_option maxHeartbeats 4000000 in
set_option maxRecDepth 100000 in
theorem c_X6_foresee (l : Launch) (D : va_G) (cI : ClassId) (h b d : Nat → Nat) (n q w0 : Rc) (okn : Ok n) (okq : Ok q) (hJ : JR (iv (n 0 0)) (iv (n 10 0)) q) (k9 : Nat) (hk1 : 1 ≤ k9) (hk9 : k9 ≤ 300) (x : Int32) (ex : x = nI k9) (y : Int32) (h38 : ¬ y < 3 ∧ ¬ 8 < y) : CIE l yX6_foresee wsX6_foresee ({ frames := 5, cells := 0, slots := 0, locals := 149 } : Room) D cI [.ref (h 0), .int x, .int y] (wMo cI h b d n q w0) (areR (put n 31 0 0) (psN (put n 31 0 0) k9 q) (y - 3)) (fun v9 => wMo cI h b d (put n 31 0 0) q v9) := by
  refine CIE.mk (cc := cX6_foresee) (maxL := 3) (ret := (some .int)) rfl rfl (by decide) rfl (Nat.le_of_ble_eq_true rfl) ?_
  intro p e s m args below meth c A Q ls hx hb hts hown hml hK hN hA hP hD hS hl fin
  have hown : s.vm.findClass RX6 = some m.cls := hown
  subst ex
  have hl : lv_has ls 3 [(0, .ref (h 0)), (1, .int (nI k9)), (2, .int y)] := hl
  have f30 := hts (.fieldLink RX6 30 "NightSortersModel" "s" "LNightSortersModel$State;") (by decide +kernel)
  have f34 := hts (.fieldLink RX6 34 "NightSortersModel" "ahead" "LNightSortersModel$State;") (by decide +kernel)
  have f37 := hts (.fieldLink RX6 37 "NightSortersModel" "thrown" "I") (by decide +kernel)
  have inX6 : ∀ w ∈ wsX60, w ∈ wsX6_foresee := by decide +kernel
  refine lv_aload_n hx hb dX6_foresee_0 rfl (lv_at hl 0 rfl) ?_
  refine lv_iconst (v := 0) hx hb dX6_foresee_1 (by decide) ?_
  obtain ⟨u1, eu1⟩ : ∃ z0 : Rc, z0 = put n 31 0 0 := ⟨_, rfl⟩
  refine va_put (D := D) (ci := 6) (v := .int 0) (ty := .int) (C := RX6) (T := TX6) (N := 10) hx hb hts inX6 tyX6 tyX6_ok nmX6 hown hK hP hD hS 0 rfl rfl 0 (by decide) f37 (fun _ h9 => h9) rfl (by decide +kernel) rfl rfl (Nat.le_of_ble_eq_true rfl) dX6_foresee_2 (fun H locs hP hD hS => ?_)
  have hP : va_P D vwCl (wMo cI h b d u1 q w0) H := by subst eu1; exact hP
  have hD : va_D A (wMo cI h b d u1 q w0) := by subst eu1; exact hD
  have okn1 : Ok u1 := (by (try subst eu1); exact Ok.ptt okn trivial)
  have hJ1 : JR (iv (u1 0 0)) (iv (u1 10 0)) q := (by (try subst eu1); exact hJ)
  refine lv_iload_n hx hb dX6_foresee_5 rfl (lv_at hl 1 rfl) ?_
  refine lv_iconst (v := 1) hx hb dX6_foresee_6 (by decide) ?_
  refine lv_sipush (v := 300) hx hb dX6_foresee_7 (by decide) ?_
  refine ycalli (invS (As := [.int (nI k9), .int 1, .int 300]) (rest := []) (rm := ({ frames := 0, cells := 0, slots := 0, locals := 0 } : Room)) ⟨hx, hb, hml, hown, hts⟩ (va_cwS 3 hts gX6_foresee_X6_isIn rfl rfl rfl (by decide +kernel) ⟨Nat.le_of_ble_eq_true rfl, Nat.le_of_ble_eq_true rfl⟩) rfl rfl hl.1 (Nat.le_of_ble_eq_true rfl) dX6_foresee_10) (c_X6_isIn l D cI (nI k9) (1) (300)) hK hN hA hP hD hS (W2 := wMo cI h b d u1 q w0) [] [0, 1, 2, 3, 4, 5, 6, 7, 8, 9, 10, 11, 12, 13, 14, 15, 16, 17, 18, 19, 20, 21, 22, 23, 24, 25] [0, 1, 2, 3, 4, 5, 6, 7, 8, 9, 10, 11, 12, 13, 14, 15, 16, 17, 18, 19, 20, 21, 22, 23, 24, 25] rfl rfl rfl (by decide) ⟨Nat.le_of_ble_eq_true rfl, Nat.le_of_ble_eq_true rfl⟩ (fun H locs hP hD hS => ?_)
  refine lv_if_ne (tgt := 22) hx hb dX6_foresee_13 (by decide) (fun c2 => ?_) (fun c2 => ?_)
  · skip
    have c2 := b01f c2
    refine lv_iload_n hx hb dX6_foresee_22 rfl (lv_at hl 2 rfl) ?_
    refine lv_iconst (v := 3) hx hb dX6_foresee_23 (by decide) ?_
    refine lv_bipush (v := 8) hx hb dX6_foresee_24 (by decide) ?_
    refine ycalli (invS (As := [.int y, .int 3, .int 8]) (rest := []) (rm := ({ frames := 0, cells := 0, slots := 0, locals := 0 } : Room)) ⟨hx, hb, hml, hown, hts⟩ (va_cwS 3 hts gX6_foresee_X6_isIn rfl rfl rfl (by decide +kernel) ⟨Nat.le_of_ble_eq_true rfl, Nat.le_of_ble_eq_true rfl⟩) rfl rfl hl.1 (Nat.le_of_ble_eq_true rfl) dX6_foresee_26) (c_X6_isIn l D cI (y) (3) (8)) hK hN hA hP hD hS (W2 := wMo cI h b d u1 q w0) [] [0, 1, 2, 3, 4, 5, 6, 7, 8, 9, 10, 11, 12, 13, 14, 15, 16, 17, 18, 19, 20, 21, 22, 23, 24, 25] [0, 1, 2, 3, 4, 5, 6, 7, 8, 9, 10, 11, 12, 13, 14, 15, 16, 17, 18, 19, 20, 21, 22, 23, 24, 25] rfl rfl rfl (by decide) ⟨Nat.le_of_ble_eq_true rfl, Nat.le_of_ble_eq_true rfl⟩ (fun H locs hP hD hS => ?_)
    refine lv_if_ne (tgt := 38) hx hb dX6_foresee_29 (by decide) (fun c3 => ?_) (fun c3 => ?_)
    · skip
      have c3 := b01f c3
      refine lv_aload_n hx hb dX6_foresee_38 rfl (lv_at hl 0 rfl) ?_
      refine va_get (D := D) (ci := 6) (v := .ref (d 30)) (C := RX6) (T := TX6) (N := 10) hx hb hts inX6 hown hK hP 0 rfl rfl 9 (by decide) f34 (fun _ h9 => h9) rfl dX6_foresee_39 ?_
      refine lv_aload_n hx hb dX6_foresee_42 rfl (lv_at hl 0 rfl) ?_
      refine va_get (D := D) (ci := 6) (v := .ref (b 30)) (C := RX6) (T := TX6) (N := 10) hx hb hts inX6 hown hK hP 0 rfl rfl 8 (by decide) f30 (fun _ h9 => h9) rfl dX6_foresee_43 ?_
      obtain ⟨u4, eu4⟩ : ∃ z0 : Rc, z0 = q := ⟨_, rfl⟩
      refine ycallv (invV (As := [.ref (b 30)]) (rest := []) (rm := ({ frames := 2, cells := 0, slots := 0, locals := 82 } : Room)) ⟨hx, hb, hml, hown, hts⟩ (cwV 1 hts gX6_foresee_X5_become rfl rfl rfl (by decide +kernel) ⟨Nat.le_of_ble_eq_true rfl, Nat.le_of_ble_eq_true rfl⟩) (va_recv hK hP (ci := 5) (q0 := 16) rfl rfl) rfl rfl hl.1 (Nat.le_of_ble_eq_true rfl) dX6_foresee_46) (c_X5_become l D cI h d b w0 q) hK hN hA hP hD hS (W2 := wMo cI h b d u1 q u4) [16, 17, 18, 19, 20, 21, 22, 23, 24, 25, 6, 7, 8, 9, 10, 11, 12, 13, 14, 15] [0, 1, 2, 3, 4, 5] [0, 1, 2, 3, 4, 5, 16, 17, 18, 19, 20, 21, 22, 23, 24, 25, 6, 7, 8, 9, 10, 11, 12, 13, 14, 15] rfl rfl (by subst eu4; rfl) (by decide) ⟨Nat.le_of_ble_eq_true rfl, Nat.le_of_ble_eq_true rfl⟩ (fun H locs hP hD hS => ?_)
      rw [eu4] at hP hD
      have okw : Ok q := okq
      have hJw : JR (iv (u1 0 0)) (iv (u1 10 0)) q := hJ1
      refine lv_aload_n hx hb dX6_foresee_49 rfl (lv_at hl 0 rfl) ?_
      refine va_get (D := D) (ci := 6) (v := .ref (d 30)) (C := RX6) (T := TX6) (N := 10) hx hb hts inX6 hown hK hP 0 rfl rfl 9 (by decide) f34 (fun _ h9 => h9) rfl dX6_foresee_50 ?_
      refine lv_iload_n hx hb dX6_foresee_53 rfl (lv_at hl 1 rfl) ?_
      obtain ⟨u5, eu5⟩ : ∃ z0 : Rc, z0 = psN u1 k9 q := ⟨_, rfl⟩
      refine ycalli (invV (As := [.int (nI k9)]) (rest := []) (rm := ({ frames := 4, cells := 0, slots := 0, locals := 126 } : Room)) ⟨hx, hb, hml, hown, hts⟩ (cwV 1 hts gX6_foresee_X5_pass_ rfl rfl rfl (by decide +kernel) ⟨Nat.le_of_ble_eq_true rfl, Nat.le_of_ble_eq_true rfl⟩) (va_recv hK hP (ci := 5) (q0 := 16) rfl rfl) rfl rfl hl.1 (Nat.le_of_ble_eq_true rfl) dX6_foresee_54) (c_X5_pass_ l D cI h d (b 30) (d 30) u1 q okn1 okw hJw k9 hk9 (nI k9) rfl) hK hN hA hP hD hS (W2 := wMo cI h b d u1 q u5) [16, 17, 18, 19, 20, 21, 22, 23, 24, 25, 0, 1, 2, 3, 4, 5] [6, 7, 8, 9, 10, 11, 12, 13, 14, 15] [20, 21, 22, 23, 24, 25, 0, 1, 2, 3, 4, 5, 6, 7, 8, 9, 10, 11, 12, 13, 14, 15, 16, 17, 18, 19] rfl rfl (by subst eu5; rfl) (by decide) ⟨Nat.le_of_ble_eq_true rfl, Nat.le_of_ble_eq_true rfl⟩ (fun H locs hP hD hS => ?_)
      refine lv_pop hx hb dX6_foresee_57 rfl ?_
      refine lv_aload_n hx hb dX6_foresee_58 rfl (lv_at hl 0 rfl) ?_
      refine va_get (D := D) (ci := 6) (v := .ref (d 30)) (C := RX6) (T := TX6) (N := 10) hx hb hts inX6 hown hK hP 0 rfl rfl 9 (by decide) f34 (fun _ h9 => h9) rfl dX6_foresee_59 ?_
      refine lv_iload_n hx hb dX6_foresee_62 rfl (lv_at hl 2 rfl) ?_
      refine lv_iconst (v := 3) hx hb dX6_foresee_63 (by decide) ?_
      refine lv_isub hx hb dX6_foresee_64 ?_
      refine ycalli (invV (As := [.int (y - 3)]) (rest := []) (rm := ({ frames := 0, cells := 0, slots := 0, locals := 0 } : Room)) ⟨hx, hb, hml, hown, hts⟩ (cwV 1 hts gX6_foresee_X5_are rfl rfl rfl (by decide +kernel) ⟨Nat.le_of_ble_eq_true rfl, Nat.le_of_ble_eq_true rfl⟩) (va_recv hK hP (ci := 5) (q0 := 16) rfl rfl) rfl rfl hl.1 (Nat.le_of_ble_eq_true rfl) dX6_foresee_65) (c_X5_are l D cI h d (b 30) (d 30) u1 u5 okn1 (y - 3)) hK hN hA hP hD hS (W2 := wMo cI h b d u1 q u5) [16, 17, 18, 19, 20, 21, 22, 23, 24, 25, 0, 1, 2, 3, 4, 5] [6, 7, 8, 9, 10, 11, 12, 13, 14, 15] [20, 21, 22, 23, 24, 25, 0, 1, 2, 3, 4, 5, 6, 7, 8, 9, 10, 11, 12, 13, 14, 15, 16, 17, 18, 19] rfl rfl rfl (by decide) ⟨Nat.le_of_ble_eq_true rfl, Nat.le_of_ble_eq_true rfl⟩ (fun H locs hP hD hS => ?_)
      have h6 : u1 = put n 31 0 0 := (by (try subst eu5); (try subst eu1); rfl)
      exact fin u5 _ _ _ _ _ _ _ _ (by (try subst eu5); (try subst eu1); rfl) (congrArg (fun z9 : Rc => wMo cI h b d z9 q u5) h6) hP hD hS (Nat.le_of_ble_eq_true rfl) (Nat.le_of_ble_eq_true rfl) dX6_foresee_68
    · exact absurd h38 (b01t c3)
  · exact absurd (rng1 (j := k9) (L := 1) (M := 300) rfl (show (300 : Int32) = nI 300 from rfl) hk1 hk9 (by decide)) (b01t c2)

set_option maxHeartbeats 4000000 in
set_option maxRecDepth 100000 in
theorem c_X6_foresee_1 (l : Launch) (D : va_G) (cI : ClassId) (h b d : Nat → Nat) (n q w0 : Rc) (x y : Int32) (hno : ¬ (¬ x < 1 ∧ ¬ 300 < x)) : CI l yX6_foresee wsX6_foresee ({ frames := 5, cells := 0, slots := 0, locals := 149 } : Room) D cI [.ref (h 0), .int x, .int y] (wMo cI h b d n q w0) 0 (wMo cI h b d (put (put n 31 0 0) 31 0 1) q w0) := by
  refine CI.mk (cc := cX6_foresee) (maxL := 3) (ret := (some .int)) rfl rfl (by decide) rfl (Nat.le_of_ble_eq_true rfl) ?_
  intro p e s m args below meth c A Q ls hx hb hts hown hml hK hN hA hP hD hS hl fin
  have hown : s.vm.findClass RX6 = some m.cls := hown
  have hl : lv_has ls 3 [(0, .ref (h 0)), (1, .int x), (2, .int y)] := hl
  have f37 := hts (.fieldLink RX6 37 "NightSortersModel" "thrown" "I") (by decide +kernel)
  have inX6 : ∀ w ∈ wsX60, w ∈ wsX6_foresee := by decide +kernel
  refine lv_aload_n hx hb dX6_foresee_0 rfl (lv_at hl 0 rfl) ?_
  refine lv_iconst (v := 0) hx hb dX6_foresee_1 (by decide) ?_
  obtain ⟨u1, eu1⟩ : ∃ z0 : Rc, z0 = put n 31 0 0 := ⟨_, rfl⟩
  refine va_put (D := D) (ci := 6) (v := .int 0) (ty := .int) (C := RX6) (T := TX6) (N := 10) hx hb hts inX6 tyX6 tyX6_ok nmX6 hown hK hP hD hS 0 rfl rfl 0 (by decide) f37 (fun _ h9 => h9) rfl (by decide +kernel) rfl rfl (Nat.le_of_ble_eq_true rfl) dX6_foresee_2 (fun H locs hP hD hS => ?_)
  have hP : va_P D vwCl (wMo cI h b d u1 q w0) H := by subst eu1; exact hP
  have hD : va_D A (wMo cI h b d u1 q w0) := by subst eu1; exact hD
  refine lv_iload_n hx hb dX6_foresee_5 rfl (lv_at hl 1 rfl) ?_
  refine lv_iconst (v := 1) hx hb dX6_foresee_6 (by decide) ?_
  refine lv_sipush (v := 300) hx hb dX6_foresee_7 (by decide) ?_
  refine ycalli (invS (As := [.int x, .int 1, .int 300]) (rest := []) (rm := ({ frames := 0, cells := 0, slots := 0, locals := 0 } : Room)) ⟨hx, hb, hml, hown, hts⟩ (va_cwS 3 hts gX6_foresee_X6_isIn rfl rfl rfl (by decide +kernel) ⟨Nat.le_of_ble_eq_true rfl, Nat.le_of_ble_eq_true rfl⟩) rfl rfl hl.1 (Nat.le_of_ble_eq_true rfl) dX6_foresee_10) (c_X6_isIn l D cI (x) (1) (300)) hK hN hA hP hD hS (W2 := wMo cI h b d u1 q w0) [] [0, 1, 2, 3, 4, 5, 6, 7, 8, 9, 10, 11, 12, 13, 14, 15, 16, 17, 18, 19, 20, 21, 22, 23, 24, 25] [0, 1, 2, 3, 4, 5, 6, 7, 8, 9, 10, 11, 12, 13, 14, 15, 16, 17, 18, 19, 20, 21, 22, 23, 24, 25] rfl rfl rfl (by decide) ⟨Nat.le_of_ble_eq_true rfl, Nat.le_of_ble_eq_true rfl⟩ (fun H locs hP hD hS => ?_)
  refine lv_if_ne (tgt := 22) hx hb dX6_foresee_13 (by decide) (fun c2 => ?_) (fun c2 => ?_)
  · exact absurd (b01f c2) hno
  · skip
    have c2 := b01t c2
    refine lv_aload_n hx hb dX6_foresee_16 rfl (lv_at hl 0 rfl) ?_
    refine lv_iconst (v := 1) hx hb dX6_foresee_17 (by decide) ?_
    obtain ⟨u3, eu3⟩ : ∃ z0 : Rc, z0 = put u1 31 0 1 := ⟨_, rfl⟩
    refine ycalli (invV (As := [.int 1]) (rest := []) (rm := ({ frames := 0, cells := 0, slots := 0, locals := 0 } : Room)) ⟨hx, hb, hml, hown, hts⟩ (cwV 1 hts gX6_foresee_X6_no rfl rfl rfl (by decide +kernel) ⟨Nat.le_of_ble_eq_true rfl, Nat.le_of_ble_eq_true rfl⟩) (va_recv hK hP (ci := 6) (q0 := 0) rfl rfl) rfl rfl hl.1 (Nat.le_of_ble_eq_true rfl) dX6_foresee_18) (c_X6_no l D cI h b d u1 q w0 1) hK hN hA hP hD hS (W2 := wMo cI h b d u3 q w0) [0, 1, 2, 3, 4, 5, 6, 7, 8, 9, 10, 11, 12, 13, 14, 15, 16, 17, 18, 19, 20, 21, 22, 23, 24, 25] [] [0, 1, 2, 3, 4, 5, 6, 7, 8, 9, 10, 11, 12, 13, 14, 15, 16, 17, 18, 19, 20, 21, 22, 23, 24, 25] rfl rfl (by subst eu3; rfl) (by decide) ⟨Nat.le_of_ble_eq_true rfl, Nat.le_of_ble_eq_true rfl⟩ (fun H locs hP hD hS => ?_)
    have h4 : u3 = put (put n 31 0 0) 31 0 1 := (by (try subst eu3); (try subst eu1); rfl)
    exact fin _ _ _ _ _ _ _ _ rfl (congrArg (fun z9 : Rc => wMo cI h b d z9 q w0) h4) hP hD hS (Nat.le_of_ble_eq_true rfl) (Nat.le_of_ble_eq_true rfl) dX6_foresee_21

set_option maxHeartbeats 4000000 in
set_option maxRecDepth 100000 in
theorem c_X6_foresee_2 (l : Launch) (D : va_G) (cI : ClassId) (h b d : Nat → Nat) (n q w0 : Rc) (k9 : Nat) (hk1 : 1 ≤ k9) (hk9 : k9 ≤ 300) (x : Int32) (ex : x = nI k9) (y : Int32) (hno : ¬ (¬ y < 3 ∧ ¬ 8 < y)) : CI l yX6_foresee wsX6_foresee ({ frames := 5, cells := 0, slots := 0, locals := 149 } : Room) D cI [.ref (h 0), .int x, .int y] (wMo cI h b d n q w0) 0 (wMo cI h b d (put (put n 31 0 0) 31 0 2) q w0) := by
  refine CI.mk (cc := cX6_foresee) (maxL := 3) (ret := (some .int)) rfl rfl (by decide) rfl (Nat.le_of_ble_eq_true rfl) ?_
  intro p e s m args below meth c A Q ls hx hb hts hown hml hK hN hA hP hD hS hl fin
  have hown : s.vm.findClass RX6 = some m.cls := hown
  subst ex
  have hl : lv_has ls 3 [(0, .ref (h 0)), (1, .int (nI k9)), (2, .int y)] := hl
  have f37 := hts (.fieldLink RX6 37 "NightSortersModel" "thrown" "I") (by decide +kernel)
  have inX6 : ∀ w ∈ wsX60, w ∈ wsX6_foresee := by decide +kernel
  refine lv_aload_n hx hb dX6_foresee_0 rfl (lv_at hl 0 rfl) ?_
  refine lv_iconst (v := 0) hx hb dX6_foresee_1 (by decide) ?_
  obtain ⟨u1, eu1⟩ : ∃ z0 : Rc, z0 = put n 31 0 0 := ⟨_, rfl⟩
  refine va_put (D := D) (ci := 6) (v := .int 0) (ty := .int) (C := RX6) (T := TX6) (N := 10) hx hb hts inX6 tyX6 tyX6_ok nmX6 hown hK hP hD hS 0 rfl rfl 0 (by decide) f37 (fun _ h9 => h9) rfl (by decide +kernel) rfl rfl (Nat.le_of_ble_eq_true rfl) dX6_foresee_2 (fun H locs hP hD hS => ?_)
  have hP : va_P D vwCl (wMo cI h b d u1 q w0) H := by subst eu1; exact hP
  have hD : va_D A (wMo cI h b d u1 q w0) := by subst eu1; exact hD
  refine lv_iload_n hx hb dX6_foresee_5 rfl (lv_at hl 1 rfl) ?_
  refine lv_iconst (v := 1) hx hb dX6_foresee_6 (by decide) ?_
  refine lv_sipush (v := 300) hx hb dX6_foresee_7 (by decide) ?_
  refine ycalli (invS (As := [.int (nI k9), .int 1, .int 300]) (rest := []) (rm := ({ frames := 0, cells := 0, slots := 0, locals := 0 } : Room)) ⟨hx, hb, hml, hown, hts⟩ (va_cwS 3 hts gX6_foresee_X6_isIn rfl rfl rfl (by decide +kernel) ⟨Nat.le_of_ble_eq_true rfl, Nat.le_of_ble_eq_true rfl⟩) rfl rfl hl.1 (Nat.le_of_ble_eq_true rfl) dX6_foresee_10) (c_X6_isIn l D cI (nI k9) (1) (300)) hK hN hA hP hD hS (W2 := wMo cI h b d u1 q w0) [] [0, 1, 2, 3, 4, 5, 6, 7, 8, 9, 10, 11, 12, 13, 14, 15, 16, 17, 18, 19, 20, 21, 22, 23, 24, 25] [0, 1, 2, 3, 4, 5, 6, 7, 8, 9, 10, 11, 12, 13, 14, 15, 16, 17, 18, 19, 20, 21, 22, 23, 24, 25] rfl rfl rfl (by decide) ⟨Nat.le_of_ble_eq_true rfl, Nat.le_of_ble_eq_true rfl⟩ (fun H locs hP hD hS => ?_)
  refine lv_if_ne (tgt := 22) hx hb dX6_foresee_13 (by decide) (fun c2 => ?_) (fun c2 => ?_)
  · skip
    have c2 := b01f c2
    refine lv_iload_n hx hb dX6_foresee_22 rfl (lv_at hl 2 rfl) ?_
    refine lv_iconst (v := 3) hx hb dX6_foresee_23 (by decide) ?_
    refine lv_bipush (v := 8) hx hb dX6_foresee_24 (by decide) ?_
    refine ycalli (invS (As := [.int y, .int 3, .int 8]) (rest := []) (rm := ({ frames := 0, cells := 0, slots := 0, locals := 0 } : Room)) ⟨hx, hb, hml, hown, hts⟩ (va_cwS 3 hts gX6_foresee_X6_isIn rfl rfl rfl (by decide +kernel) ⟨Nat.le_of_ble_eq_true rfl, Nat.le_of_ble_eq_true rfl⟩) rfl rfl hl.1 (Nat.le_of_ble_eq_true rfl) dX6_foresee_26) (c_X6_isIn l D cI (y) (3) (8)) hK hN hA hP hD hS (W2 := wMo cI h b d u1 q w0) [] [0, 1, 2, 3, 4, 5, 6, 7, 8, 9, 10, 11, 12, 13, 14, 15, 16, 17, 18, 19, 20, 21, 22, 23, 24, 25] [0, 1, 2, 3, 4, 5, 6, 7, 8, 9, 10, 11, 12, 13, 14, 15, 16, 17, 18, 19, 20, 21, 22, 23, 24, 25] rfl rfl rfl (by decide) ⟨Nat.le_of_ble_eq_true rfl, Nat.le_of_ble_eq_true rfl⟩ (fun H locs hP hD hS => ?_)
    refine lv_if_ne (tgt := 38) hx hb dX6_foresee_29 (by decide) (fun c3 => ?_) (fun c3 => ?_)
    · exact absurd (b01f c3) hno
    · skip
      have c3 := b01t c3
      refine lv_aload_n hx hb dX6_foresee_32 rfl (lv_at hl 0 rfl) ?_
      refine lv_iconst (v := 2) hx hb dX6_foresee_33 (by decide) ?_
      obtain ⟨u4, eu4⟩ : ∃ z0 : Rc, z0 = put u1 31 0 2 := ⟨_, rfl⟩
      refine ycalli (invV (As := [.int 2]) (rest := []) (rm := ({ frames := 0, cells := 0, slots := 0, locals := 0 } : Room)) ⟨hx, hb, hml, hown, hts⟩ (cwV 1 hts gX6_foresee_X6_no rfl rfl rfl (by decide +kernel) ⟨Nat.le_of_ble_eq_true rfl, Nat.le_of_ble_eq_true rfl⟩) (va_recv hK hP (ci := 6) (q0 := 0) rfl rfl) rfl rfl hl.1 (Nat.le_of_ble_eq_true rfl) dX6_foresee_34) (c_X6_no l D cI h b d u1 q w0 2) hK hN hA hP hD hS (W2 := wMo cI h b d u4 q w0) [0, 1, 2, 3, 4, 5, 6, 7, 8, 9, 10, 11, 12, 13, 14, 15, 16, 17, 18, 19, 20, 21, 22, 23, 24, 25] [] [0, 1, 2, 3, 4, 5, 6, 7, 8, 9, 10, 11, 12, 13, 14, 15, 16, 17, 18, 19, 20, 21, 22, 23, 24, 25] rfl rfl (by subst eu4; rfl) (by decide) ⟨Nat.le_of_ble_eq_true rfl, Nat.le_of_ble_eq_true rfl⟩ (fun H locs hP hD hS => ?_)
      have h5 : u4 = put (put n 31 0 0) 31 0 2 := (by (try subst eu4); (try subst eu1); rfl)
      exact fin _ _ _ _ _ _ _ _ rfl (congrArg (fun z9 : Rc => wMo cI h b d z9 q w0) h5) hP hD hS (Nat.le_of_ble_eq_true rfl) (Nat.le_of_ble_eq_true rfl) dX6_foresee_37
  · exact absurd (rng1 (j := k9) (L := 1) (M := 300) rfl (show (300 : Int32) = nI 300 from rfl) hk1 hk9 (by decide)) (b01t c2)
