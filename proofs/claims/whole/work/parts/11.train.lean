set_option maxHeartbeats 4000000 in
set_option maxRecDepth 100000 in
theorem c_X3_takeLetter (l : Launch) (D : va_G) (cI : ClassId) (g a : Nat → Nat) (r u : Rc) (ok : Ok u) (s9 : Nat) (hs : s9 < 4) (x : Int32) (ex : x = nI s9) : CV l yX3_takeLetter wsX3_takeLetter ({ frames := 2, cells := 0, slots := 0, locals := 45 } : Room) D cI [.ref (a 30), .int x] (wTr cI g a r u) (wTr cI g a r (tkF s9 u)) := by
  refine CV.mk (cc := cX3_takeLetter) (maxL := 3) (by decide) rfl (Nat.le_of_ble_eq_true rfl) ?_
  intro p e s m args below meth c A Q ls hx hb hts hown hml hK hN hA hP hD hS hl fin
  have hown : s.vm.findClass RX3 = some m.cls := hown
  subst ex
  have hl : lv_has ls 3 [(0, .ref (a 30)), (1, .int (nI s9))] := hl
  have f12 := hts (.fieldLink RX3 12 "NightSorters$Train" "mail" "LNightSorters$Mail;") (by decide +kernel)
  have f21 := hts (.fieldLink RX3 21 "NightSorters$Train" "crew" "LNightSorters$Crew;") (by decide +kernel)
  have f72 := hts (.fieldLink RX3 72 "NightSorters$Crew" "towns" "[I") (by decide +kernel)
  have inX0 : ∀ w ∈ wsX00, w ∈ wsX3_takeLetter := by decide +kernel
  have inX3 : ∀ w ∈ wsX30, w ∈ wsX3_takeLetter := by decide +kernel
  refine lv_aload_n hx hb dX3_takeLetter_0 rfl (lv_at hl 0 rfl) ?_
  refine va_get (D := D) (ci := 3) (v := .ref (a 0)) (C := RX3) (T := TX3) (N := 4) hx hb hts inX3 hown hK hP 0 rfl rfl 1 (by decide) f12 (fun _ h9 => h9) rfl dX3_takeLetter_1 ?_
  refine lv_aload_n hx hb dX3_takeLetter_4 rfl (lv_at hl 0 rfl) ?_
  refine va_get (D := D) (ci := 3) (v := .ref (a 10)) (C := RX3) (T := TX3) (N := 4) hx hb hts inX3 hown hK hP 0 rfl rfl 2 (by decide) f21 (fun _ h9 => h9) rfl dX3_takeLetter_5 ?_
  refine va_get (D := D) (ci := 0) (v := .ref (a 12)) (C := RX0) (T := TX0) (N := 8) hx hb hts inX0 hown hK hP 9 rfl rfl 2 (by decide) f72 (fun _ h9 => h9) rfl dX3_takeLetter_8 ?_
  refine lv_iload_n hx hb dX3_takeLetter_11 rfl (lv_at hl 1 rfl) ?_
  refine xald hx hb hK hP 11 rfl rfl (s9) (rfl) (by omega) (by decide) dX3_takeLetter_12 ?_
  refine ycalli (invV (As := [.int (u 12 s9)]) (rest := []) (rm := ({ frames := 1, cells := 0, slots := 0, locals := 21 } : Room)) ⟨hx, hb, hml, hown, hts⟩ (cwV 1 hts gX3_takeLetter_X2_firstOnTable rfl rfl rfl (by decide +kernel) ⟨Nat.le_of_ble_eq_true rfl, Nat.le_of_ble_eq_true rfl⟩) (va_recv hK hP (ci := 2) (q0 := 1) rfl rfl) rfl rfl hl.1 (Nat.le_of_ble_eq_true rfl) dX3_takeLetter_13) (c_X2_firstOnTable l D cI a u ok (u 12 s9)) hK hN hA hP hD hS (W2 := wTr cI g a r u) [1, 2, 3, 4, 5, 6, 7, 8] [0, 9, 10, 11, 12, 13, 14, 15, 16, 17, 18, 19] [0, 12, 13, 14, 15, 16, 17, 18, 19, 1, 2, 3, 4, 5, 6, 7, 8, 9, 10, 11] rfl rfl rfl (by decide) ⟨Nat.le_of_ble_eq_true rfl, Nat.le_of_ble_eq_true rfl⟩ (fun H locs hP hD hS => ?_)
  refine lv_istore_n (lv' := [(2, .int (firstF u (u 12 s9))), (0, .ref (a 30)), (1, .int (nI s9))]) hx hb dX3_takeLetter_16 rfl hl (by decide) rfl (fun ls hl => ?_)
  refine lv_iload_n hx hb dX3_takeLetter_17 rfl (lv_at hl 0 rfl) ?_
  refine lv_iconst (v := (-1)) hx hb dX3_takeLetter_18 (by decide) ?_
  refine lv_icmp_eq (tgt := 40) hx hb dX3_takeLetter_19 (by decide) (fun c1 => ?_) (fun c1 => ?_)
  · skip
    have h2 : u = tkF s9 u := (by  simp only [tkF, c1, ↓reduceIte, not_false_eq_true, not_true_eq_false, and_true, true_and, and_false, false_and, or_true, true_or, or_false, false_or, and_self, or_self])
    exact fin _ _ _ _ _ _ _ (congrArg (fun z9 : Rc => wTr cI g a r z9) h2) hP hD hS (Nat.le_of_ble_eq_true rfl) (Nat.le_of_ble_eq_true rfl) dX3_takeLetter_40
  · skip
    refine lv_aload_n hx hb dX3_takeLetter_22 rfl (lv_at hl 1 rfl) ?_
    refine va_get (D := D) (ci := 3) (v := .ref (a 0)) (C := RX3) (T := TX3) (N := 4) hx hb hts inX3 hown hK hP 0 rfl rfl 1 (by decide) f12 (fun _ h9 => h9) rfl dX3_takeLetter_23 ?_
    refine lv_iload_n hx hb dX3_takeLetter_26 rfl (lv_at hl 0 rfl) ?_
    refine lv_iload_n hx hb dX3_takeLetter_27 rfl (lv_at hl 2 rfl) ?_
    obtain ⟨u3, eu3⟩ : ∃ z0 : Rc, z0 = mvH u (iv (firstF u (u 12 s9))) (nI s9) := ⟨_, rfl⟩
    refine ycallv (invV (As := [.int (firstF u (u 12 s9)), .int (nI s9)]) (rest := []) (rm := ({ frames := 1, cells := 0, slots := 0, locals := 23 } : Room)) ⟨hx, hb, hml, hown, hts⟩ (cwV 2 hts gX3_takeLetter_X2_moveToHands rfl rfl rfl (by decide +kernel) ⟨Nat.le_of_ble_eq_true rfl, Nat.le_of_ble_eq_true rfl⟩) (va_recv hK hP (ci := 2) (q0 := 1) rfl rfl) rfl rfl hl.1 (Nat.le_of_ble_eq_true rfl) dX3_takeLetter_28) (c_X2_moveToHands l D cI a u ok (iv (firstF u (u 12 s9))) (vi_lt (firstF_in ok c1)) (firstF u (u 12 s9)) (vi_eq (firstF_in ok c1) (by decide)) (nI s9)) hK hN hA hP hD hS (W2 := wTr cI g a r u3) [1, 2, 3, 4, 5, 6, 7, 8] [0, 9, 10, 11, 12, 13, 14, 15, 16, 17, 18, 19] [0, 12, 13, 14, 15, 16, 17, 18, 19, 1, 2, 3, 4, 5, 6, 7, 8, 9, 10, 11] rfl rfl (by rw [eu3, mvH_cp]; rfl) (by decide) ⟨Nat.le_of_ble_eq_true rfl, Nat.le_of_ble_eq_true rfl⟩ (fun H locs hP hD hS => ?_)
    refine lv_aload_n hx hb dX3_takeLetter_31 rfl (lv_at hl 1 rfl) ?_
    refine va_get (D := D) (ci := 3) (v := .ref (a 10)) (C := RX3) (T := TX3) (N := 4) hx hb hts inX3 hown hK hP 0 rfl rfl 2 (by decide) f21 (fun _ h9 => h9) rfl dX3_takeLetter_32 ?_
    refine lv_iload_n hx hb dX3_takeLetter_35 rfl (lv_at hl 2 rfl) ?_
    refine lv_iload_n hx hb dX3_takeLetter_36 rfl (lv_at hl 0 rfl) ?_
    obtain ⟨u4, eu4⟩ : ∃ z0 : Rc, z0 = takeF u3 s9 (firstF u (u 12 s9)) := ⟨_, rfl⟩
    refine ycallv (invV (As := [.int (nI s9), .int (firstF u (u 12 s9))]) (rest := []) (rm := ({ frames := 1, cells := 0, slots := 0, locals := 22 } : Room)) ⟨hx, hb, hml, hown, hts⟩ (cwV 2 hts gX3_takeLetter_X0_takeUp rfl rfl rfl (by decide +kernel) ⟨Nat.le_of_ble_eq_true rfl, Nat.le_of_ble_eq_true rfl⟩) (va_recv hK hP (ci := 0) (q0 := 9) rfl rfl) rfl rfl hl.1 (Nat.le_of_ble_eq_true rfl) dX3_takeLetter_37) (c_X0_takeUp l D cI a u3 s9 hs (nI s9) rfl (firstF u (u 12 s9))) hK hN hA hP hD hS (W2 := wTr cI g a r u4) [9, 10, 11, 12, 13, 14, 15, 16] [0, 1, 2, 3, 4, 5, 6, 7, 8, 17, 18, 19] [0, 1, 2, 3, 4, 5, 6, 7, 8, 12, 13, 14, 15, 16, 17, 18, 19, 9, 10, 11] rfl rfl (by subst eu4; rfl) (by decide) ⟨Nat.le_of_ble_eq_true rfl, Nat.le_of_ble_eq_true rfl⟩ (fun H locs hP hD hS => ?_)
    have h5 : u4 = tkF s9 u := (by (try subst eu4); (try subst eu3); simp only [tkF, c1, ↓reduceIte, not_false_eq_true, not_true_eq_false, and_true, true_and, and_false, false_and, or_true, true_or, or_false, false_or, and_self, or_self])
    exact fin _ _ _ _ _ _ _ (congrArg (fun z9 : Rc => wTr cI g a r z9) h5) hP hD hS (Nat.le_of_ble_eq_true rfl) (Nat.le_of_ble_eq_true rfl) dX3_takeLetter_40
set_option maxHeartbeats 4000000 in
set_option maxRecDepth 100000 in
theorem c_X3_putLetter (l : Launch) (D : va_G) (cI : ClassId) (g a : Nat → Nat) (r u : Rc) (ok : Ok u) (s9 : Nat) (hs : s9 < 4) (x : Int32) (ex : x = nI s9) (h : ¬ u 15 s9 = -1) : CV l yX3_putLetter wsX3_putLetter ({ frames := 1, cells := 0, slots := 0, locals := 23 } : Room) D cI [.ref (a 30), .int x] (wTr cI g a r u) (wTr cI g a r (putF s9 u)) := by
  refine CV.mk (cc := cX3_putLetter) (maxL := 3) (by decide) rfl (Nat.le_of_ble_eq_true rfl) ?_
  intro p e s m args below meth c A Q ls hx hb hts hown hml hK hN hA hP hD hS hl fin
  have hown : s.vm.findClass RX3 = some m.cls := hown
  subst ex
  have hl : lv_has ls 3 [(0, .ref (a 30)), (1, .int (nI s9))] := hl
  have f12 := hts (.fieldLink RX3 12 "NightSorters$Train" "mail" "LNightSorters$Mail;") (by decide +kernel)
  have f21 := hts (.fieldLink RX3 21 "NightSorters$Train" "crew" "LNightSorters$Crew;") (by decide +kernel)
  have f46 := hts (.fieldLink RX3 46 "NightSorters$Crew" "held" "[I") (by decide +kernel)
  have f91 := hts (.fieldLink RX3 91 "NightSorters$Mail" "inHole" "[I") (by decide +kernel)
  have f94 := hts (.fieldLink RX3 94 "NightSorters$Mail" "town" "[I") (by decide +kernel)
  have f100 := hts (.fieldLink RX3 100 "NightSorters$Crew" "sorted" "[I") (by decide +kernel)
  have f103 := hts (.fieldLink RX3 103 "NightSorters$Crew" "tired" "[I") (by decide +kernel)
  have inX0 : ∀ w ∈ wsX00, w ∈ wsX3_putLetter := by decide +kernel
  have inX2 : ∀ w ∈ wsX20, w ∈ wsX3_putLetter := by decide +kernel
  have inX3 : ∀ w ∈ wsX30, w ∈ wsX3_putLetter := by decide +kernel
  refine lv_aload_n hx hb dX3_putLetter_0 rfl (lv_at hl 0 rfl) ?_
  refine va_get (D := D) (ci := 3) (v := .ref (a 10)) (C := RX3) (T := TX3) (N := 4) hx hb hts inX3 hown hK hP 0 rfl rfl 2 (by decide) f21 (fun _ h9 => h9) rfl dX3_putLetter_1 ?_
  refine va_get (D := D) (ci := 0) (v := .ref (a 15)) (C := RX0) (T := TX0) (N := 8) hx hb hts inX0 hown hK hP 9 rfl rfl 5 (by decide) f46 (fun _ h9 => h9) rfl dX3_putLetter_4 ?_
  refine lv_iload_n hx hb dX3_putLetter_7 rfl (lv_at hl 1 rfl) ?_
  refine xald hx hb hK hP 14 rfl rfl (s9) (rfl) (by omega) (by decide) dX3_putLetter_8 ?_
  refine lv_istore_n (lv' := [(2, .int (u 15 s9)), (0, .ref (a 30)), (1, .int (nI s9))]) hx hb dX3_putLetter_9 rfl hl (by decide) rfl (fun ls hl => ?_)
  refine lv_aload_n hx hb dX3_putLetter_10 rfl (lv_at hl 1 rfl) ?_
  refine va_get (D := D) (ci := 3) (v := .ref (a 0)) (C := RX3) (T := TX3) (N := 4) hx hb hts inX3 hown hK hP 0 rfl rfl 1 (by decide) f12 (fun _ h9 => h9) rfl dX3_putLetter_11 ?_
  refine va_get (D := D) (ci := 2) (v := .ref (a 7)) (C := RX2) (T := TX2) (N := 8) hx hb hts inX2 hown hK hP 1 rfl rfl 7 (by decide) f91 (fun _ h9 => h9) rfl dX3_putLetter_14 ?_
  refine lv_aload_n hx hb dX3_putLetter_17 rfl (lv_at hl 1 rfl) ?_
  refine va_get (D := D) (ci := 3) (v := .ref (a 0)) (C := RX3) (T := TX3) (N := 4) hx hb hts inX3 hown hK hP 0 rfl rfl 1 (by decide) f12 (fun _ h9 => h9) rfl dX3_putLetter_18 ?_
  refine va_get (D := D) (ci := 2) (v := .ref (a 1)) (C := RX2) (T := TX2) (N := 8) hx hb hts inX2 hown hK hP 1 rfl rfl 1 (by decide) f94 (fun _ h9 => h9) rfl dX3_putLetter_21 ?_
  refine lv_iload_n hx hb dX3_putLetter_24 rfl (lv_at hl 0 rfl) ?_
  refine xald hx hb hK hP 2 rfl rfl (iv (u 15 s9)) (vi_eq (ok.held h) (by decide)) (vi_lt (ok.held h)) (by decide) dX3_putLetter_25 ?_
  refine xald hx hb hK hP 8 rfl rfl (iv (u 1 (iv (u 15 s9)))) (vi_eq (n := 16) ((by  exact ok 1 (iv (u 15 s9)))) (by decide)) (vi_lt ((by  exact ok 1 (iv (u 15 s9))))) (by decide) dX3_putLetter_26 ?_
  refine lv_bipush (v := 8) hx hb dX3_putLetter_27 (by decide) ?_
  refine lv_icmp_ge (tgt := 57) hx hb dX3_putLetter_29 (by decide) (fun c1 => ?_) (fun c1 => ?_)
  · skip
    refine lv_aload_n hx hb dX3_putLetter_57 rfl (lv_at hl 1 rfl) ?_
    refine va_get (D := D) (ci := 3) (v := .ref (a 0)) (C := RX3) (T := TX3) (N := 4) hx hb hts inX3 hown hK hP 0 rfl rfl 1 (by decide) f12 (fun _ h9 => h9) rfl dX3_putLetter_58 ?_
    refine lv_iload_n hx hb dX3_putLetter_61 rfl (lv_at hl 0 rfl) ?_
    refine lv_iconst (v := 1) hx hb dX3_putLetter_62 (by decide) ?_
    obtain ⟨u2, eu2⟩ : ∃ z0 : Rc, z0 = mvF u (iv (u 15 s9)) 1 := ⟨_, rfl⟩
    refine ycallv (invV (As := [.int (u 15 s9), .int 1]) (rest := []) (rm := ({ frames := 0, cells := 0, slots := 0, locals := 0 } : Room)) ⟨hx, hb, hml, hown, hts⟩ (cwV 2 hts gX3_putLetter_X2_move rfl rfl rfl (by decide +kernel) ⟨Nat.le_of_ble_eq_true rfl, Nat.le_of_ble_eq_true rfl⟩) (va_recv hK hP (ci := 2) (q0 := 1) rfl rfl) rfl rfl hl.1 (Nat.le_of_ble_eq_true rfl) dX3_putLetter_63) (c_X2_move l D cI a u ok (iv (u 15 s9)) (vi_lt (ok.held h)) (u 15 s9) (vi_eq (ok.held h) (by decide)) 1 (vp_lit (by decide))) hK hN hA hP hD hS (W2 := wTr cI g a r u2) [1, 2, 3, 4, 5, 6, 7, 8] [0, 9, 10, 11, 12, 13, 14, 15, 16, 17, 18, 19] [0, 12, 13, 14, 15, 16, 17, 18, 19, 1, 2, 3, 4, 5, 6, 7, 8, 9, 10, 11] rfl rfl (by rw [eu2, mvF_cp]; rfl) (by decide) ⟨Nat.le_of_ble_eq_true rfl, Nat.le_of_ble_eq_true rfl⟩ (fun H locs hP hD hS => ?_)
    refine lv_aload_n hx hb dX3_putLetter_66 rfl (lv_at hl 1 rfl) ?_
    refine va_get (D := D) (ci := 3) (v := .ref (a 10)) (C := RX3) (T := TX3) (N := 4) hx hb hts inX3 hown hK hP 0 rfl rfl 2 (by decide) f21 (fun _ h9 => h9) rfl dX3_putLetter_67 ?_
    refine va_get (D := D) (ci := 0) (v := .ref (a 13)) (C := RX0) (T := TX0) (N := 8) hx hb hts inX0 hown hK hP 9 rfl rfl 3 (by decide) f103 (fun _ h9 => h9) rfl dX3_putLetter_70 ?_
    refine lv_iload_n hx hb dX3_putLetter_73 rfl (lv_at hl 2 rfl) ?_
    refine lv_dup2_11 hx hb dX3_putLetter_74 rfl rfl ?_
    refine xald hx hb hK hP 12 rfl rfl (s9) (rfl) (by omega) (by decide) dX3_putLetter_75 ?_
    refine lv_iconst (v := 1) hx hb dX3_putLetter_76 (by decide) ?_
    refine lv_iadd hx hb dX3_putLetter_77 ?_
    obtain ⟨u3, eu3⟩ : ∃ z0 : Rc, z0 = put u2 13 s9 ((u2 13 s9) + 1) := ⟨_, rfl⟩
    refine xast hx hb hK hP hD hS 12 rfl rfl (s9) (rfl) (by omega) (by decide) (wTr cI g a r u3) (by subst eu3; rfl) dX3_putLetter_78 (fun H locs hP hD hS => ?_)
    refine lv_aload_n hx hb dX3_putLetter_79 rfl (lv_at hl 1 rfl) ?_
    refine va_get (D := D) (ci := 3) (v := .ref (a 10)) (C := RX3) (T := TX3) (N := 4) hx hb hts inX3 hown hK hP 0 rfl rfl 2 (by decide) f21 (fun _ h9 => h9) rfl dX3_putLetter_80 ?_
    refine lv_iload_n hx hb dX3_putLetter_83 rfl (lv_at hl 2 rfl) ?_
    obtain ⟨u4, eu4⟩ : ∃ z0 : Rc, z0 = freeF u3 s9 := ⟨_, rfl⟩
    refine ycallv (invV (As := [.int (nI s9)]) (rest := []) (rm := ({ frames := 0, cells := 0, slots := 0, locals := 0 } : Room)) ⟨hx, hb, hml, hown, hts⟩ (cwV 1 hts gX3_putLetter_X0_freeHands rfl rfl rfl (by decide +kernel) ⟨Nat.le_of_ble_eq_true rfl, Nat.le_of_ble_eq_true rfl⟩) (va_recv hK hP (ci := 0) (q0 := 9) rfl rfl) rfl rfl hl.1 (Nat.le_of_ble_eq_true rfl) dX3_putLetter_84) (c_X0_freeHands l D cI a u3 s9 hs (nI s9) rfl) hK hN hA hP hD hS (W2 := wTr cI g a r u4) [9, 10, 11, 12, 13, 14, 15, 16] [0, 1, 2, 3, 4, 5, 6, 7, 8, 17, 18, 19] [0, 1, 2, 3, 4, 5, 6, 7, 8, 12, 13, 14, 15, 16, 17, 18, 19, 9, 10, 11] rfl rfl (by subst eu4; rfl) (by decide) ⟨Nat.le_of_ble_eq_true rfl, Nat.le_of_ble_eq_true rfl⟩ (fun H locs hP hD hS => ?_)
    have h5 : u4 = putF s9 u := (by (try subst eu4); (try subst eu3); (try subst eu2); simp only [putF, putA, addB, tirB, c1, ↓reduceIte, not_false_eq_true, not_true_eq_false, and_true, true_and, and_false, false_and, or_true, true_or, or_false, false_or, and_self, or_self])
    exact fin _ _ _ _ _ _ _ (congrArg (fun z9 : Rc => wTr cI g a r z9) h5) hP hD hS (Nat.le_of_ble_eq_true rfl) (Nat.le_of_ble_eq_true rfl) dX3_putLetter_87
  · skip
    refine lv_aload_n hx hb dX3_putLetter_32 rfl (lv_at hl 1 rfl) ?_
    refine va_get (D := D) (ci := 3) (v := .ref (a 0)) (C := RX3) (T := TX3) (N := 4) hx hb hts inX3 hown hK hP 0 rfl rfl 1 (by decide) f12 (fun _ h9 => h9) rfl dX3_putLetter_33 ?_
    refine lv_iload_n hx hb dX3_putLetter_36 rfl (lv_at hl 0 rfl) ?_
    refine lv_iconst (v := 3) hx hb dX3_putLetter_37 (by decide) ?_
    obtain ⟨u6, eu6⟩ : ∃ z0 : Rc, z0 = mvF u (iv (u 15 s9)) 3 := ⟨_, rfl⟩
    refine ycallv (invV (As := [.int (u 15 s9), .int 3]) (rest := []) (rm := ({ frames := 0, cells := 0, slots := 0, locals := 0 } : Room)) ⟨hx, hb, hml, hown, hts⟩ (cwV 2 hts gX3_putLetter_X2_move rfl rfl rfl (by decide +kernel) ⟨Nat.le_of_ble_eq_true rfl, Nat.le_of_ble_eq_true rfl⟩) (va_recv hK hP (ci := 2) (q0 := 1) rfl rfl) rfl rfl hl.1 (Nat.le_of_ble_eq_true rfl) dX3_putLetter_38) (c_X2_move l D cI a u ok (iv (u 15 s9)) (vi_lt (ok.held h)) (u 15 s9) (vi_eq (ok.held h) (by decide)) 3 (vp_lit (by decide))) hK hN hA hP hD hS (W2 := wTr cI g a r u6) [1, 2, 3, 4, 5, 6, 7, 8] [0, 9, 10, 11, 12, 13, 14, 15, 16, 17, 18, 19] [0, 12, 13, 14, 15, 16, 17, 18, 19, 1, 2, 3, 4, 5, 6, 7, 8, 9, 10, 11] rfl rfl (by rw [eu6, mvF_cp]; rfl) (by decide) ⟨Nat.le_of_ble_eq_true rfl, Nat.le_of_ble_eq_true rfl⟩ (fun H locs hP hD hS => ?_)
    refine lv_aload_n hx hb dX3_putLetter_41 rfl (lv_at hl 1 rfl) ?_
    refine va_get (D := D) (ci := 3) (v := .ref (a 10)) (C := RX3) (T := TX3) (N := 4) hx hb hts inX3 hown hK hP 0 rfl rfl 2 (by decide) f21 (fun _ h9 => h9) rfl dX3_putLetter_42 ?_
    refine va_get (D := D) (ci := 0) (v := .ref (a 17)) (C := RX0) (T := TX0) (N := 8) hx hb hts inX0 hown hK hP 9 rfl rfl 7 (by decide) f100 (fun _ h9 => h9) rfl dX3_putLetter_45 ?_
    refine lv_iload_n hx hb dX3_putLetter_48 rfl (lv_at hl 2 rfl) ?_
    refine lv_dup2_11 hx hb dX3_putLetter_49 rfl rfl ?_
    refine xald hx hb hK hP 16 rfl rfl (s9) (rfl) (by omega) (by decide) dX3_putLetter_50 ?_
    refine lv_iconst (v := 1) hx hb dX3_putLetter_51 (by decide) ?_
    refine lv_iadd hx hb dX3_putLetter_52 ?_
    obtain ⟨u7, eu7⟩ : ∃ z0 : Rc, z0 = put u6 17 s9 ((u6 17 s9) + 1) := ⟨_, rfl⟩
    refine xast hx hb hK hP hD hS 16 rfl rfl (s9) (rfl) (by omega) (by decide) (wTr cI g a r u7) (by subst eu7; rfl) dX3_putLetter_53 (fun H locs hP hD hS => ?_)
    refine lv_goto (tgt := 66) hx hb dX3_putLetter_54 (by decide) ?_
    refine lv_aload_n hx hb dX3_putLetter_66 rfl (lv_at hl 1 rfl) ?_
    refine va_get (D := D) (ci := 3) (v := .ref (a 10)) (C := RX3) (T := TX3) (N := 4) hx hb hts inX3 hown hK hP 0 rfl rfl 2 (by decide) f21 (fun _ h9 => h9) rfl dX3_putLetter_67 ?_
    refine va_get (D := D) (ci := 0) (v := .ref (a 13)) (C := RX0) (T := TX0) (N := 8) hx hb hts inX0 hown hK hP 9 rfl rfl 3 (by decide) f103 (fun _ h9 => h9) rfl dX3_putLetter_70 ?_
    refine lv_iload_n hx hb dX3_putLetter_73 rfl (lv_at hl 2 rfl) ?_
    refine lv_dup2_11 hx hb dX3_putLetter_74 rfl rfl ?_
    refine xald hx hb hK hP 12 rfl rfl (s9) (rfl) (by omega) (by decide) dX3_putLetter_75 ?_
    refine lv_iconst (v := 1) hx hb dX3_putLetter_76 (by decide) ?_
    refine lv_iadd hx hb dX3_putLetter_77 ?_
    obtain ⟨u8, eu8⟩ : ∃ z0 : Rc, z0 = put u7 13 s9 ((u7 13 s9) + 1) := ⟨_, rfl⟩
    refine xast hx hb hK hP hD hS 12 rfl rfl (s9) (rfl) (by omega) (by decide) (wTr cI g a r u8) (by subst eu8; rfl) dX3_putLetter_78 (fun H locs hP hD hS => ?_)
    refine lv_aload_n hx hb dX3_putLetter_79 rfl (lv_at hl 1 rfl) ?_
    refine va_get (D := D) (ci := 3) (v := .ref (a 10)) (C := RX3) (T := TX3) (N := 4) hx hb hts inX3 hown hK hP 0 rfl rfl 2 (by decide) f21 (fun _ h9 => h9) rfl dX3_putLetter_80 ?_
    refine lv_iload_n hx hb dX3_putLetter_83 rfl (lv_at hl 2 rfl) ?_
    obtain ⟨u9, eu9⟩ : ∃ z0 : Rc, z0 = freeF u8 s9 := ⟨_, rfl⟩
    refine ycallv (invV (As := [.int (nI s9)]) (rest := []) (rm := ({ frames := 0, cells := 0, slots := 0, locals := 0 } : Room)) ⟨hx, hb, hml, hown, hts⟩ (cwV 1 hts gX3_putLetter_X0_freeHands rfl rfl rfl (by decide +kernel) ⟨Nat.le_of_ble_eq_true rfl, Nat.le_of_ble_eq_true rfl⟩) (va_recv hK hP (ci := 0) (q0 := 9) rfl rfl) rfl rfl hl.1 (Nat.le_of_ble_eq_true rfl) dX3_putLetter_84) (c_X0_freeHands l D cI a u8 s9 hs (nI s9) rfl) hK hN hA hP hD hS (W2 := wTr cI g a r u9) [9, 10, 11, 12, 13, 14, 15, 16] [0, 1, 2, 3, 4, 5, 6, 7, 8, 17, 18, 19] [0, 1, 2, 3, 4, 5, 6, 7, 8, 12, 13, 14, 15, 16, 17, 18, 19, 9, 10, 11] rfl rfl (by subst eu9; rfl) (by decide) ⟨Nat.le_of_ble_eq_true rfl, Nat.le_of_ble_eq_true rfl⟩ (fun H locs hP hD hS => ?_)
    have h10 : u9 = putF s9 u := (by (try subst eu9); (try subst eu8); (try subst eu7); (try subst eu6); simp only [putF, putA, addB, tirB, c1, ↓reduceIte, not_false_eq_true, not_true_eq_false, and_true, true_and, and_false, false_and, or_true, true_or, or_false, false_or, and_self, or_self])
    exact fin _ _ _ _ _ _ _ (congrArg (fun z9 : Rc => wTr cI g a r z9) h10) hP hD hS (Nat.le_of_ble_eq_true rfl) (Nat.le_of_ble_eq_true rfl) dX3_putLetter_87
set_option maxHeartbeats 4000000 in
set_option maxRecDepth 100000 in
theorem c_X3_workOn (l : Launch) (D : va_G) (cI : ClassId) (g a : Nat → Nat) (r u : Rc) (ok : Ok u) (s9 : Nat) (hs : s9 < 4) (x : Int32) (ex : x = nI s9) (h : ¬ u 15 s9 = -1) : CV l yX3_workOn wsX3_workOn ({ frames := 2, cells := 0, slots := 0, locals := 45 } : Room) D cI [.ref (a 30), .int x] (wTr cI g a r u) (wTr cI g a r (wkF s9 u)) := by
  refine CV.mk (cc := cX3_workOn) (maxL := 2) (by decide) rfl (Nat.le_of_ble_eq_true rfl) ?_
  intro p e s m args below meth c A Q ls hx hb hts hown hml hK hN hA hP hD hS hl fin
  have hown : s.vm.findClass RX3 = some m.cls := hown
  subst ex
  have hl : lv_has ls 2 [(0, .ref (a 30)), (1, .int (nI s9))] := hl
  have f21 := hts (.fieldLink RX3 21 "NightSorters$Train" "crew" "LNightSorters$Crew;") (by decide +kernel)
  have f85 := hts (.fieldLink RX3 85 "NightSorters$Crew" "minutesLeft" "[I") (by decide +kernel)
  have inX0 : ∀ w ∈ wsX00, w ∈ wsX3_workOn := by decide +kernel
  have inX3 : ∀ w ∈ wsX30, w ∈ wsX3_workOn := by decide +kernel
  refine lv_aload_n hx hb dX3_workOn_0 rfl (lv_at hl 0 rfl) ?_
  refine va_get (D := D) (ci := 3) (v := .ref (a 10)) (C := RX3) (T := TX3) (N := 4) hx hb hts inX3 hown hK hP 0 rfl rfl 2 (by decide) f21 (fun _ h9 => h9) rfl dX3_workOn_1 ?_
  refine va_get (D := D) (ci := 0) (v := .ref (a 16)) (C := RX0) (T := TX0) (N := 8) hx hb hts inX0 hown hK hP 9 rfl rfl 6 (by decide) f85 (fun _ h9 => h9) rfl dX3_workOn_4 ?_
  refine lv_iload_n hx hb dX3_workOn_7 rfl (lv_at hl 1 rfl) ?_
  refine lv_dup2_11 hx hb dX3_workOn_8 rfl rfl ?_
  refine xald hx hb hK hP 15 rfl rfl (s9) (rfl) (by omega) (by decide) dX3_workOn_9 ?_
  refine lv_iconst (v := 1) hx hb dX3_workOn_10 (by decide) ?_
  refine lv_isub hx hb dX3_workOn_11 ?_
  obtain ⟨u1, eu1⟩ : ∃ z0 : Rc, z0 = put u 16 s9 ((u 16 s9) - 1) := ⟨_, rfl⟩
  refine xast hx hb hK hP hD hS 15 rfl rfl (s9) (rfl) (by omega) (by decide) (wTr cI g a r u1) (by subst eu1; rfl) dX3_workOn_12 (fun H locs hP hD hS => ?_)
  refine lv_aload_n hx hb dX3_workOn_13 rfl (lv_at hl 0 rfl) ?_
  refine va_get (D := D) (ci := 3) (v := .ref (a 10)) (C := RX3) (T := TX3) (N := 4) hx hb hts inX3 hown hK hP 0 rfl rfl 2 (by decide) f21 (fun _ h9 => h9) rfl dX3_workOn_14 ?_
  refine va_get (D := D) (ci := 0) (v := .ref (a 16)) (C := RX0) (T := TX0) (N := 8) hx hb hts inX0 hown hK hP 9 rfl rfl 6 (by decide) f85 (fun _ h9 => h9) rfl dX3_workOn_17 ?_
  refine lv_iload_n hx hb dX3_workOn_20 rfl (lv_at hl 1 rfl) ?_
  refine xald hx hb hK hP 15 rfl rfl (s9) (rfl) (by omega) (by decide) dX3_workOn_21 ?_
  refine lv_if_gt (tgt := 30) hx hb dX3_workOn_22 (by decide) (fun c2 => ?_) (fun c2 => ?_)
  · skip
    have cq : ¬ u1 16 s9 ≤ 0 := Int32.not_le.mpr c2
    have h3 : u1 = wkF s9 u := (by (try subst eu1); unfold wkF decB; first | rw [opt_t cq] | rw [opt_f cq])
    exact fin _ _ _ _ _ _ _ (congrArg (fun z9 : Rc => wTr cI g a r z9) h3) hP hD hS (Nat.le_of_ble_eq_true rfl) (Nat.le_of_ble_eq_true rfl) dX3_workOn_30
  · skip
    have cq : u1 16 s9 ≤ 0 := Int32.not_lt.mp c2
    have h15 : ¬ u1 15 s9 = -1 := (by (try subst eu1); exact h)
    have ok1 : Ok u1 := (by (try subst eu1); exact (decB_pr (s := s9)).ok ok)
    refine lv_aload_n hx hb dX3_workOn_25 rfl (lv_at hl 0 rfl) ?_
    refine lv_iload_n hx hb dX3_workOn_26 rfl (lv_at hl 1 rfl) ?_
    obtain ⟨u4, eu4⟩ : ∃ z0 : Rc, z0 = putF s9 u1 := ⟨_, rfl⟩
    refine ycallv (invV (As := [.int (nI s9)]) (rest := []) (rm := ({ frames := 1, cells := 0, slots := 0, locals := 23 } : Room)) ⟨hx, hb, hml, hown, hts⟩ (cwV 1 hts gX3_workOn_X3_putLetter rfl rfl rfl (by decide +kernel) ⟨Nat.le_of_ble_eq_true rfl, Nat.le_of_ble_eq_true rfl⟩) (va_recv hK hP (ci := 3) (q0 := 0) rfl rfl) rfl rfl hl.1 (Nat.le_of_ble_eq_true rfl) dX3_workOn_27) (c_X3_putLetter l D cI g a r u1 ok1 s9 hs (nI s9) rfl h15) hK hN hA hP hD hS (W2 := wTr cI g a r u4) [0, 1, 2, 3, 4, 5, 6, 7, 8, 9, 10, 11, 12, 13, 14, 15, 16, 17, 18, 19] [] [0, 1, 2, 3, 4, 5, 6, 7, 8, 9, 10, 11, 12, 13, 14, 15, 16, 17, 18, 19] rfl rfl (by subst eu4; rfl) (by decide) ⟨Nat.le_of_ble_eq_true rfl, Nat.le_of_ble_eq_true rfl⟩ (fun H locs hP hD hS => ?_)
    have h5 : u4 = wkF s9 u := (by (try subst eu4); (try subst eu1); unfold wkF decB; first | rw [opt_t cq] | rw [opt_f cq])
    exact fin _ _ _ _ _ _ _ (congrArg (fun z9 : Rc => wTr cI g a r z9) h5) hP hD hS (Nat.le_of_ble_eq_true rfl) (Nat.le_of_ble_eq_true rfl) dX3_workOn_30
set_option maxHeartbeats 4000000 in
set_option maxRecDepth 100000 in
theorem c_X3_hookIn (l : Launch) (D : va_G) (cI : ClassId) (g a : Nat → Nat) (r u : Rc) (ok : Ok u) (j : Nat) (hj : j < 60) (x : Int32) (ex : x = nI j) (y : Int32) : CV l yX3_hookIn wsX3_hookIn ({ frames := 2, cells := 0, slots := 0, locals := 46 } : Room) D cI [.ref (a 30), .int x, .int y] (wTr cI g a r u) (wTr cI g a r (hinF y j u)) := by
  refine CV.mk (cc := cX3_hookIn) (maxL := 3) (by decide) rfl (Nat.le_of_ble_eq_true rfl) ?_
  intro p e s m args below meth c A Q ls hx hb hts hown hml hK hN hA hP hD hS hl fin
  have hown : s.vm.findClass RX3 = some m.cls := hown
  subst ex
  have hl : lv_has ls 3 [(0, .ref (a 30)), (1, .int (nI j)), (2, .int y)] := hl
  have f12 := hts (.fieldLink RX3 12 "NightSorters$Train" "mail" "LNightSorters$Mail;") (by decide +kernel)
  have f25 := hts (.fieldLink RX3 25 "NightSorters$Train" "minute" "I") (by decide +kernel)
  have f94 := hts (.fieldLink RX3 94 "NightSorters$Mail" "town" "[I") (by decide +kernel)
  have inX2 : ∀ w ∈ wsX20, w ∈ wsX3_hookIn := by decide +kernel
  have inX3 : ∀ w ∈ wsX30, w ∈ wsX3_hookIn := by decide +kernel
  refine lv_aload_n hx hb dX3_hookIn_0 rfl (lv_at hl 0 rfl) ?_
  refine va_get (D := D) (ci := 3) (v := .ref (a 0)) (C := RX3) (T := TX3) (N := 4) hx hb hts inX3 hown hK hP 0 rfl rfl 1 (by decide) f12 (fun _ h9 => h9) rfl dX3_hookIn_1 ?_
  refine va_get (D := D) (ci := 2) (v := .ref (a 1)) (C := RX2) (T := TX2) (N := 8) hx hb hts inX2 hown hK hP 1 rfl rfl 1 (by decide) f94 (fun _ h9 => h9) rfl dX3_hookIn_4 ?_
  refine lv_iload_n hx hb dX3_hookIn_7 rfl (lv_at hl 1 rfl) ?_
  refine xald hx hb hK hP 2 rfl rfl (j) (rfl) (by omega) (by decide) dX3_hookIn_8 ?_
  refine ycalli (invSN (As := [.int (u 1 j)]) (rest := []) (rm := ({ frames := 0, cells := 0, slots := 0, locals := 0 } : Room)) ⟨hx, hb, hml, hown, hts⟩ ⟨va_cnB 1 hts gX3_hookIn_X4_stationOf_n117 rfl rfl rfl (NW.M hN (a := RX3) (i := 117) (x := yX4_stationOf) (h9 := "NightSorters") (by decide +kernel)) (hts (.initialized RX4) (by decide +kernel)) (by decide +kernel) ⟨Nat.le_of_ble_eq_true rfl, Nat.le_of_ble_eq_true rfl⟩, (hts (.static yX4_stationOf) (by decide +kernel)), trivial⟩ rfl rfl hl.1 (Nat.le_of_ble_eq_true rfl) dX3_hookIn_9) (c_X4_stationOf l D cI (u 1 j)) hK hN hA hP hD hS (W2 := wTr cI g a r u) [] [0, 1, 2, 3, 4, 5, 6, 7, 8, 9, 10, 11, 12, 13, 14, 15, 16, 17, 18, 19] [0, 1, 2, 3, 4, 5, 6, 7, 8, 9, 10, 11, 12, 13, 14, 15, 16, 17, 18, 19] rfl rfl rfl (by decide) ⟨Nat.le_of_ble_eq_true rfl, Nat.le_of_ble_eq_true rfl⟩ (fun H locs hP hD hS => ?_)
  refine lv_iload_n hx hb dX3_hookIn_12 rfl (lv_at hl 2 rfl) ?_
  refine lv_icmp_gt (tgt := 32) hx hb dX3_hookIn_13 (by decide) (fun c1 => ?_) (fun c1 => ?_)
  · skip
    refine lv_aload_n hx hb dX3_hookIn_32 rfl (lv_at hl 0 rfl) ?_
    refine va_get (D := D) (ci := 3) (v := .ref (a 0)) (C := RX3) (T := TX3) (N := 4) hx hb hts inX3 hown hK hP 0 rfl rfl 1 (by decide) f12 (fun _ h9 => h9) rfl dX3_hookIn_33 ?_
    refine lv_iload_n hx hb dX3_hookIn_36 rfl (lv_at hl 1 rfl) ?_
    refine lv_iconst (v := 1) hx hb dX3_hookIn_37 (by decide) ?_
    obtain ⟨u2, eu2⟩ : ∃ z0 : Rc, z0 = mvF u j 1 := ⟨_, rfl⟩
    refine ycallv (invV (As := [.int (nI j), .int 1]) (rest := []) (rm := ({ frames := 0, cells := 0, slots := 0, locals := 0 } : Room)) ⟨hx, hb, hml, hown, hts⟩ (cwV 2 hts gX3_hookIn_X2_move rfl rfl rfl (by decide +kernel) ⟨Nat.le_of_ble_eq_true rfl, Nat.le_of_ble_eq_true rfl⟩) (va_recv hK hP (ci := 2) (q0 := 1) rfl rfl) rfl rfl hl.1 (Nat.le_of_ble_eq_true rfl) dX3_hookIn_38) (c_X2_move l D cI a u ok j hj (nI j) rfl 1 (vp_lit (by decide))) hK hN hA hP hD hS (W2 := wTr cI g a r u2) [1, 2, 3, 4, 5, 6, 7, 8] [0, 9, 10, 11, 12, 13, 14, 15, 16, 17, 18, 19] [0, 12, 13, 14, 15, 16, 17, 18, 19, 1, 2, 3, 4, 5, 6, 7, 8, 9, 10, 11] rfl rfl (by rw [eu2, mvF_cp]; rfl) (by decide) ⟨Nat.le_of_ble_eq_true rfl, Nat.le_of_ble_eq_true rfl⟩ (fun H locs hP hD hS => ?_)
    have h3 : u2 = hinF y j u := (by (try subst eu2); unfold hinF endM; first | rw [if_neg (Int32.not_le.mpr c1)] | rw [if_pos (Int32.not_lt.mp c1)])
    exact fin _ _ _ _ _ _ _ (congrArg (fun z9 : Rc => wTr cI g a r z9) h3) hP hD hS (Nat.le_of_ble_eq_true rfl) (Nat.le_of_ble_eq_true rfl) dX3_hookIn_41
  · skip
    refine lv_aload_n hx hb dX3_hookIn_16 rfl (lv_at hl 0 rfl) ?_
    refine va_get (D := D) (ci := 3) (v := .ref (a 0)) (C := RX3) (T := TX3) (N := 4) hx hb hts inX3 hown hK hP 0 rfl rfl 1 (by decide) f12 (fun _ h9 => h9) rfl dX3_hookIn_17 ?_
    refine lv_iload_n hx hb dX3_hookIn_20 rfl (lv_at hl 1 rfl) ?_
    refine lv_iconst (v := 5) hx hb dX3_hookIn_21 (by decide) ?_
    refine lv_aload_n hx hb dX3_hookIn_22 rfl (lv_at hl 0 rfl) ?_
    refine va_get (D := D) (ci := 3) (v := .int (u 30 0)) (C := RX3) (T := TX3) (N := 4) hx hb hts inX3 hown hK hP 0 rfl rfl 3 (by decide) f25 (fun _ h9 => h9) rfl dX3_hookIn_23 ?_
    obtain ⟨u4, eu4⟩ : ∃ z0 : Rc, z0 = endF u j 5 (u 30 0) := ⟨_, rfl⟩
    refine ycallv (invV (As := [.int (nI j), .int 5, .int (u 30 0)]) (rest := []) (rm := ({ frames := 1, cells := 0, slots := 0, locals := 23 } : Room)) ⟨hx, hb, hml, hown, hts⟩ (cwV 3 hts gX3_hookIn_X2_end rfl rfl rfl (by decide +kernel) ⟨Nat.le_of_ble_eq_true rfl, Nat.le_of_ble_eq_true rfl⟩) (va_recv hK hP (ci := 2) (q0 := 1) rfl rfl) rfl rfl hl.1 (Nat.le_of_ble_eq_true rfl) dX3_hookIn_26) (c_X2_end l D cI a u ok j hj (nI j) rfl 5 (vp_lit (by decide)) (u 30 0)) hK hN hA hP hD hS (W2 := wTr cI g a r u4) [1, 2, 3, 4, 5, 6, 7, 8] [0, 9, 10, 11, 12, 13, 14, 15, 16, 17, 18, 19] [0, 12, 13, 14, 15, 16, 17, 18, 19, 1, 2, 3, 4, 5, 6, 7, 8, 9, 10, 11] rfl rfl (by rw [eu4, endF_cp]; rfl) (by decide) ⟨Nat.le_of_ble_eq_true rfl, Nat.le_of_ble_eq_true rfl⟩ (fun H locs hP hD hS => ?_)
    refine lv_goto (tgt := 41) hx hb dX3_hookIn_29 (by decide) ?_
    have h5 : u4 = hinF y j u := (by (try subst eu4); unfold hinF endM; first | rw [if_neg (Int32.not_le.mpr c1)] | rw [if_pos (Int32.not_lt.mp c1)])
    exact fin _ _ _ _ _ _ _ (congrArg (fun z9 : Rc => wTr cI g a r z9) h5) hP hD hS (Nat.le_of_ble_eq_true rfl) (Nat.le_of_ble_eq_true rfl) dX3_hookIn_41
set_option maxHeartbeats 4000000 in
set_option maxRecDepth 100000 in
theorem c_X3_hookOut (l : Launch) (D : va_G) (cI : ClassId) (g a : Nat → Nat) (r u : Rc) (ok : Ok u) (j : Nat) (hj : j < 60) (x : Int32) (ex : x = nI j) : CV l yX3_hookOut wsX3_hookOut ({ frames := 2, cells := 0, slots := 0, locals := 46 } : Room) D cI [.ref (a 30), .int x] (wTr cI g a r u) (wTr cI g a r (houtF j u)) := by
  refine CV.mk (cc := cX3_hookOut) (maxL := 4) (by decide) rfl (Nat.le_of_ble_eq_true rfl) ?_
  intro p e s m args below meth c A Q ls hx hb hts hown hml hK hN hA hP hD hS hl fin
  have hown : s.vm.findClass RX3 = some m.cls := hown
  subst ex
  have hl : lv_has ls 4 [(0, .ref (a 30)), (1, .int (nI j))] := hl
  have f12 := hts (.fieldLink RX3 12 "NightSorters$Train" "mail" "LNightSorters$Mail;") (by decide +kernel)
  have f21 := hts (.fieldLink RX3 21 "NightSorters$Train" "crew" "LNightSorters$Crew;") (by decide +kernel)
  have f25 := hts (.fieldLink RX3 25 "NightSorters$Train" "minute" "I") (by decide +kernel)
  have f127 := hts (.fieldLink RX3 127 "NightSorters$Mail" "place" "[I") (by decide +kernel)
  have f130 := hts (.fieldLink RX3 130 "NightSorters$Mail" "holder" "[I") (by decide +kernel)
  have inX2 : ∀ w ∈ wsX20, w ∈ wsX3_hookOut := by decide +kernel
  have inX3 : ∀ w ∈ wsX30, w ∈ wsX3_hookOut := by decide +kernel
  refine lv_aload_n hx hb dX3_hookOut_0 rfl (lv_at hl 0 rfl) ?_
  refine va_get (D := D) (ci := 3) (v := .ref (a 0)) (C := RX3) (T := TX3) (N := 4) hx hb hts inX3 hown hK hP 0 rfl rfl 1 (by decide) f12 (fun _ h9 => h9) rfl dX3_hookOut_1 ?_
  refine va_get (D := D) (ci := 2) (v := .ref (a 3)) (C := RX2) (T := TX2) (N := 8) hx hb hts inX2 hown hK hP 1 rfl rfl 3 (by decide) f127 (fun _ h9 => h9) rfl dX3_hookOut_4 ?_
  refine lv_iload_n hx hb dX3_hookOut_7 rfl (lv_at hl 1 rfl) ?_
  refine xald hx hb hK hP 4 rfl rfl (j) (rfl) (by omega) (by decide) dX3_hookOut_8 ?_
  refine lv_istore_n (lv' := [(2, .int (u 3 j)), (0, .ref (a 30)), (1, .int (nI j))]) hx hb dX3_hookOut_9 rfl hl (by decide) rfl (fun ls hl => ?_)
  refine lv_iload_n hx hb dX3_hookOut_10 rfl (lv_at hl 0 rfl) ?_
  refine lv_iconst (v := 3) hx hb dX3_hookOut_11 (by decide) ?_
  refine lv_icmp_ne (tgt := 31) hx hb dX3_hookOut_12 (by decide) (fun c1 => ?_) (fun c1 => ?_)
  · skip
    refine lv_iload_n hx hb dX3_hookOut_31 rfl (lv_at hl 0 rfl) ?_
    refine lv_iconst (v := 1) hx hb dX3_hookOut_32 (by decide) ?_
    refine lv_icmp_eq (tgt := 41) hx hb dX3_hookOut_33 (by decide) (fun c2 => ?_) (fun c2 => ?_)
    · skip
      refine lv_aload_n hx hb dX3_hookOut_41 rfl (lv_at hl 1 rfl) ?_
      refine va_get (D := D) (ci := 3) (v := .ref (a 0)) (C := RX3) (T := TX3) (N := 4) hx hb hts inX3 hown hK hP 0 rfl rfl 1 (by decide) f12 (fun _ h9 => h9) rfl dX3_hookOut_42 ?_
      refine va_get (D := D) (ci := 2) (v := .ref (a 4)) (C := RX2) (T := TX2) (N := 8) hx hb hts inX2 hown hK hP 1 rfl rfl 4 (by decide) f130 (fun _ h9 => h9) rfl dX3_hookOut_45 ?_
      refine lv_iload_n hx hb dX3_hookOut_48 rfl (lv_at hl 2 rfl) ?_
      refine xald hx hb hK hP 5 rfl rfl (j) (rfl) (by omega) (by decide) dX3_hookOut_49 ?_
      refine lv_istore_n (lv' := [(3, .int (u 4 j)), (2, .int (u 3 j)), (0, .ref (a 30)), (1, .int (nI j))]) hx hb dX3_hookOut_50 rfl hl (by decide) rfl (fun ls hl => ?_)
      refine lv_iload_n hx hb dX3_hookOut_51 rfl (lv_at hl 0 rfl) ?_
      refine lv_iconst (v := (-1)) hx hb dX3_hookOut_52 (by decide) ?_
      refine lv_icmp_eq (tgt := 64) hx hb dX3_hookOut_53 (by decide) (fun c3 => ?_) (fun c3 => ?_)
      · skip
        refine lv_aload_n hx hb dX3_hookOut_64 rfl (lv_at hl 2 rfl) ?_
        refine va_get (D := D) (ci := 3) (v := .ref (a 0)) (C := RX3) (T := TX3) (N := 4) hx hb hts inX3 hown hK hP 0 rfl rfl 1 (by decide) f12 (fun _ h9 => h9) rfl dX3_hookOut_65 ?_
        refine lv_iload_n hx hb dX3_hookOut_68 rfl (lv_at hl 3 rfl) ?_
        refine lv_iconst (v := 5) hx hb dX3_hookOut_69 (by decide) ?_
        refine lv_aload_n hx hb dX3_hookOut_70 rfl (lv_at hl 2 rfl) ?_
        refine va_get (D := D) (ci := 3) (v := .int (u 30 0)) (C := RX3) (T := TX3) (N := 4) hx hb hts inX3 hown hK hP 0 rfl rfl 3 (by decide) f25 (fun _ h9 => h9) rfl dX3_hookOut_71 ?_
        obtain ⟨u4, eu4⟩ : ∃ z0 : Rc, z0 = endF u j 5 (u 30 0) := ⟨_, rfl⟩
        refine ycallv (invV (As := [.int (nI j), .int 5, .int (u 30 0)]) (rest := []) (rm := ({ frames := 1, cells := 0, slots := 0, locals := 23 } : Room)) ⟨hx, hb, hml, hown, hts⟩ (cwV 3 hts gX3_hookOut_X2_end rfl rfl rfl (by decide +kernel) ⟨Nat.le_of_ble_eq_true rfl, Nat.le_of_ble_eq_true rfl⟩) (va_recv hK hP (ci := 2) (q0 := 1) rfl rfl) rfl rfl hl.1 (Nat.le_of_ble_eq_true rfl) dX3_hookOut_74) (c_X2_end l D cI a u ok j hj (nI j) rfl 5 (vp_lit (by decide)) (u 30 0)) hK hN hA hP hD hS (W2 := wTr cI g a r u4) [1, 2, 3, 4, 5, 6, 7, 8] [0, 9, 10, 11, 12, 13, 14, 15, 16, 17, 18, 19] [0, 12, 13, 14, 15, 16, 17, 18, 19, 1, 2, 3, 4, 5, 6, 7, 8, 9, 10, 11] rfl rfl (by rw [eu4, endF_cp]; rfl) (by decide) ⟨Nat.le_of_ble_eq_true rfl, Nat.le_of_ble_eq_true rfl⟩ (fun H locs hP hD hS => ?_)
        have h5 : u4 = houtF j u := (by (try subst eu4); unfold houtF; first | (rw [if_pos c1]; rfl) | (rw [if_neg c1, if_pos (Or.inl c2), opt_f (fun h => h c3)]; rfl) | (rw [if_neg c1, if_pos (Or.inl c2), opt_t c3]; rfl) | (rw [if_neg c1, if_pos (Or.inr c3), opt_f (fun h => h hnone)]; rfl) | (rw [if_neg c1, if_pos (Or.inr c3), opt_t hnone]; rfl) | rw [if_neg c1, if_neg (fun h => h.elim c2 c3)])
        exact fin _ _ _ _ _ _ _ (congrArg (fun z9 : Rc => wTr cI g a r z9) h5) hP hD hS (Nat.le_of_ble_eq_true rfl) (Nat.le_of_ble_eq_true rfl) dX3_hookOut_77
      · skip
        refine lv_aload_n hx hb dX3_hookOut_56 rfl (lv_at hl 2 rfl) ?_
        refine va_get (D := D) (ci := 3) (v := .ref (a 10)) (C := RX3) (T := TX3) (N := 4) hx hb hts inX3 hown hK hP 0 rfl rfl 2 (by decide) f21 (fun _ h9 => h9) rfl dX3_hookOut_57 ?_
        refine lv_iload_n hx hb dX3_hookOut_60 rfl (lv_at hl 0 rfl) ?_
        obtain ⟨u6, eu6⟩ : ∃ z0 : Rc, z0 = freeF u (iv (u 4 j)) := ⟨_, rfl⟩
        refine ycallv (invV (As := [.int (u 4 j)]) (rest := []) (rm := ({ frames := 0, cells := 0, slots := 0, locals := 0 } : Room)) ⟨hx, hb, hml, hown, hts⟩ (cwV 1 hts gX3_hookOut_X0_freeHands rfl rfl rfl (by decide +kernel) ⟨Nat.le_of_ble_eq_true rfl, Nat.le_of_ble_eq_true rfl⟩) (va_recv hK hP (ci := 0) (q0 := 9) rfl rfl) rfl rfl hl.1 (Nat.le_of_ble_eq_true rfl) dX3_hookOut_61) (c_X0_freeHands l D cI a u (iv (u 4 j)) (vi_lt (ok.hold c3)) (u 4 j) (vi_eq (ok.hold c3) (by decide))) hK hN hA hP hD hS (W2 := wTr cI g a r u6) [9, 10, 11, 12, 13, 14, 15, 16] [0, 1, 2, 3, 4, 5, 6, 7, 8, 17, 18, 19] [0, 1, 2, 3, 4, 5, 6, 7, 8, 12, 13, 14, 15, 16, 17, 18, 19, 9, 10, 11] rfl rfl (by subst eu6; rfl) (by decide) ⟨Nat.le_of_ble_eq_true rfl, Nat.le_of_ble_eq_true rfl⟩ (fun H locs hP hD hS => ?_)
        have okf : Ok u6 := (by (try subst eu6); exact (free_pr (s := iv (u 4 j))).ok ok)
        refine lv_aload_n hx hb dX3_hookOut_64 rfl (lv_at hl 2 rfl) ?_
        refine va_get (D := D) (ci := 3) (v := .ref (a 0)) (C := RX3) (T := TX3) (N := 4) hx hb hts inX3 hown hK hP 0 rfl rfl 1 (by decide) f12 (fun _ h9 => h9) rfl dX3_hookOut_65 ?_
        refine lv_iload_n hx hb dX3_hookOut_68 rfl (lv_at hl 3 rfl) ?_
        refine lv_iconst (v := 5) hx hb dX3_hookOut_69 (by decide) ?_
        refine lv_aload_n hx hb dX3_hookOut_70 rfl (lv_at hl 2 rfl) ?_
        refine va_get (D := D) (ci := 3) (v := .int (u6 30 0)) (C := RX3) (T := TX3) (N := 4) hx hb hts inX3 hown hK hP 0 rfl rfl 3 (by decide) f25 (fun _ h9 => h9) rfl dX3_hookOut_71 ?_
        obtain ⟨u7, eu7⟩ : ∃ z0 : Rc, z0 = endF u6 j 5 (u6 30 0) := ⟨_, rfl⟩
        refine ycallv (invV (As := [.int (nI j), .int 5, .int (u6 30 0)]) (rest := []) (rm := ({ frames := 1, cells := 0, slots := 0, locals := 23 } : Room)) ⟨hx, hb, hml, hown, hts⟩ (cwV 3 hts gX3_hookOut_X2_end rfl rfl rfl (by decide +kernel) ⟨Nat.le_of_ble_eq_true rfl, Nat.le_of_ble_eq_true rfl⟩) (va_recv hK hP (ci := 2) (q0 := 1) rfl rfl) rfl rfl hl.1 (Nat.le_of_ble_eq_true rfl) dX3_hookOut_74) (c_X2_end l D cI a u6 okf j hj (nI j) rfl 5 (vp_lit (by decide)) (u6 30 0)) hK hN hA hP hD hS (W2 := wTr cI g a r u7) [1, 2, 3, 4, 5, 6, 7, 8] [0, 9, 10, 11, 12, 13, 14, 15, 16, 17, 18, 19] [0, 12, 13, 14, 15, 16, 17, 18, 19, 1, 2, 3, 4, 5, 6, 7, 8, 9, 10, 11] rfl rfl (by rw [eu7, endF_cp]; rfl) (by decide) ⟨Nat.le_of_ble_eq_true rfl, Nat.le_of_ble_eq_true rfl⟩ (fun H locs hP hD hS => ?_)
        have h8 : u7 = houtF j u := (by (try subst eu7); (try subst eu6); unfold houtF; first | (rw [if_pos c1]; rfl) | (rw [if_neg c1, if_pos (Or.inl c2), opt_f (fun h => h c3)]; rfl) | (rw [if_neg c1, if_pos (Or.inl c2), opt_t c3]; rfl) | (rw [if_neg c1, if_pos (Or.inr c3), opt_f (fun h => h hnone)]; rfl) | (rw [if_neg c1, if_pos (Or.inr c3), opt_t hnone]; rfl) | rw [if_neg c1, if_neg (fun h => h.elim c2 c3)])
        exact fin _ _ _ _ _ _ _ (congrArg (fun z9 : Rc => wTr cI g a r z9) h8) hP hD hS (Nat.le_of_ble_eq_true rfl) (Nat.le_of_ble_eq_true rfl) dX3_hookOut_77
    · skip
      refine lv_iload_n hx hb dX3_hookOut_36 rfl (lv_at hl 0 rfl) ?_
      refine lv_iconst (v := 2) hx hb dX3_hookOut_37 (by decide) ?_
      refine lv_icmp_ne (tgt := 77) hx hb dX3_hookOut_38 (by decide) (fun c9 => ?_) (fun c9 => ?_)
      · skip
        have h10 : u = houtF j u := (by  unfold houtF; first | (rw [if_pos c1]; rfl) | (rw [if_neg c1, if_pos (Or.inl c2), opt_f (fun h => h c9)]; rfl) | (rw [if_neg c1, if_pos (Or.inl c2), opt_t c9]; rfl) | (rw [if_neg c1, if_pos (Or.inr c9), opt_f (fun h => h hnone)]; rfl) | (rw [if_neg c1, if_pos (Or.inr c9), opt_t hnone]; rfl) | rw [if_neg c1, if_neg (fun h => h.elim c2 c9)])
        exact fin _ _ _ _ _ _ _ (congrArg (fun z9 : Rc => wTr cI g a r z9) h10) hP hD hS (Nat.le_of_ble_eq_true rfl) (Nat.le_of_ble_eq_true rfl) dX3_hookOut_77
      · skip
        refine lv_aload_n hx hb dX3_hookOut_41 rfl (lv_at hl 1 rfl) ?_
        refine va_get (D := D) (ci := 3) (v := .ref (a 0)) (C := RX3) (T := TX3) (N := 4) hx hb hts inX3 hown hK hP 0 rfl rfl 1 (by decide) f12 (fun _ h9 => h9) rfl dX3_hookOut_42 ?_
        refine va_get (D := D) (ci := 2) (v := .ref (a 4)) (C := RX2) (T := TX2) (N := 8) hx hb hts inX2 hown hK hP 1 rfl rfl 4 (by decide) f130 (fun _ h9 => h9) rfl dX3_hookOut_45 ?_
        refine lv_iload_n hx hb dX3_hookOut_48 rfl (lv_at hl 2 rfl) ?_
        refine xald hx hb hK hP 5 rfl rfl (j) (rfl) (by omega) (by decide) dX3_hookOut_49 ?_
        refine lv_istore_n (lv' := [(3, .int (u 4 j)), (2, .int (u 3 j)), (0, .ref (a 30)), (1, .int (nI j))]) hx hb dX3_hookOut_50 rfl hl (by decide) rfl (fun ls hl => ?_)
        refine lv_iload_n hx hb dX3_hookOut_51 rfl (lv_at hl 0 rfl) ?_
        refine lv_iconst (v := (-1)) hx hb dX3_hookOut_52 (by decide) ?_
        refine lv_icmp_eq (tgt := 64) hx hb dX3_hookOut_53 (by decide) (fun c11 => ?_) (fun c11 => ?_)
        · skip
          refine lv_aload_n hx hb dX3_hookOut_64 rfl (lv_at hl 2 rfl) ?_
          refine va_get (D := D) (ci := 3) (v := .ref (a 0)) (C := RX3) (T := TX3) (N := 4) hx hb hts inX3 hown hK hP 0 rfl rfl 1 (by decide) f12 (fun _ h9 => h9) rfl dX3_hookOut_65 ?_
          refine lv_iload_n hx hb dX3_hookOut_68 rfl (lv_at hl 3 rfl) ?_
          refine lv_iconst (v := 5) hx hb dX3_hookOut_69 (by decide) ?_
          refine lv_aload_n hx hb dX3_hookOut_70 rfl (lv_at hl 2 rfl) ?_
          refine va_get (D := D) (ci := 3) (v := .int (u 30 0)) (C := RX3) (T := TX3) (N := 4) hx hb hts inX3 hown hK hP 0 rfl rfl 3 (by decide) f25 (fun _ h9 => h9) rfl dX3_hookOut_71 ?_
          obtain ⟨u12, eu12⟩ : ∃ z0 : Rc, z0 = endF u j 5 (u 30 0) := ⟨_, rfl⟩
          refine ycallv (invV (As := [.int (nI j), .int 5, .int (u 30 0)]) (rest := []) (rm := ({ frames := 1, cells := 0, slots := 0, locals := 23 } : Room)) ⟨hx, hb, hml, hown, hts⟩ (cwV 3 hts gX3_hookOut_X2_end rfl rfl rfl (by decide +kernel) ⟨Nat.le_of_ble_eq_true rfl, Nat.le_of_ble_eq_true rfl⟩) (va_recv hK hP (ci := 2) (q0 := 1) rfl rfl) rfl rfl hl.1 (Nat.le_of_ble_eq_true rfl) dX3_hookOut_74) (c_X2_end l D cI a u ok j hj (nI j) rfl 5 (vp_lit (by decide)) (u 30 0)) hK hN hA hP hD hS (W2 := wTr cI g a r u12) [1, 2, 3, 4, 5, 6, 7, 8] [0, 9, 10, 11, 12, 13, 14, 15, 16, 17, 18, 19] [0, 12, 13, 14, 15, 16, 17, 18, 19, 1, 2, 3, 4, 5, 6, 7, 8, 9, 10, 11] rfl rfl (by rw [eu12, endF_cp]; rfl) (by decide) ⟨Nat.le_of_ble_eq_true rfl, Nat.le_of_ble_eq_true rfl⟩ (fun H locs hP hD hS => ?_)
          have h13 : u12 = houtF j u := (by (try subst eu12); unfold houtF; first | (rw [if_pos c1]; rfl) | (rw [if_neg c1, if_pos (Or.inl c2), opt_f (fun h => h c9)]; rfl) | (rw [if_neg c1, if_pos (Or.inl c2), opt_t c9]; rfl) | (rw [if_neg c1, if_pos (Or.inr c9), opt_f (fun h => h c11)]; rfl) | (rw [if_neg c1, if_pos (Or.inr c9), opt_t c11]; rfl) | rw [if_neg c1, if_neg (fun h => h.elim c2 c9)])
          exact fin _ _ _ _ _ _ _ (congrArg (fun z9 : Rc => wTr cI g a r z9) h13) hP hD hS (Nat.le_of_ble_eq_true rfl) (Nat.le_of_ble_eq_true rfl) dX3_hookOut_77
        · skip
          refine lv_aload_n hx hb dX3_hookOut_56 rfl (lv_at hl 2 rfl) ?_
          refine va_get (D := D) (ci := 3) (v := .ref (a 10)) (C := RX3) (T := TX3) (N := 4) hx hb hts inX3 hown hK hP 0 rfl rfl 2 (by decide) f21 (fun _ h9 => h9) rfl dX3_hookOut_57 ?_
          refine lv_iload_n hx hb dX3_hookOut_60 rfl (lv_at hl 0 rfl) ?_
          obtain ⟨u14, eu14⟩ : ∃ z0 : Rc, z0 = freeF u (iv (u 4 j)) := ⟨_, rfl⟩
          refine ycallv (invV (As := [.int (u 4 j)]) (rest := []) (rm := ({ frames := 0, cells := 0, slots := 0, locals := 0 } : Room)) ⟨hx, hb, hml, hown, hts⟩ (cwV 1 hts gX3_hookOut_X0_freeHands rfl rfl rfl (by decide +kernel) ⟨Nat.le_of_ble_eq_true rfl, Nat.le_of_ble_eq_true rfl⟩) (va_recv hK hP (ci := 0) (q0 := 9) rfl rfl) rfl rfl hl.1 (Nat.le_of_ble_eq_true rfl) dX3_hookOut_61) (c_X0_freeHands l D cI a u (iv (u 4 j)) (vi_lt (ok.hold c11)) (u 4 j) (vi_eq (ok.hold c11) (by decide))) hK hN hA hP hD hS (W2 := wTr cI g a r u14) [9, 10, 11, 12, 13, 14, 15, 16] [0, 1, 2, 3, 4, 5, 6, 7, 8, 17, 18, 19] [0, 1, 2, 3, 4, 5, 6, 7, 8, 12, 13, 14, 15, 16, 17, 18, 19, 9, 10, 11] rfl rfl (by subst eu14; rfl) (by decide) ⟨Nat.le_of_ble_eq_true rfl, Nat.le_of_ble_eq_true rfl⟩ (fun H locs hP hD hS => ?_)
          have okf : Ok u14 := (by (try subst eu14); exact (free_pr (s := iv (u 4 j))).ok ok)
          refine lv_aload_n hx hb dX3_hookOut_64 rfl (lv_at hl 2 rfl) ?_
          refine va_get (D := D) (ci := 3) (v := .ref (a 0)) (C := RX3) (T := TX3) (N := 4) hx hb hts inX3 hown hK hP 0 rfl rfl 1 (by decide) f12 (fun _ h9 => h9) rfl dX3_hookOut_65 ?_
          refine lv_iload_n hx hb dX3_hookOut_68 rfl (lv_at hl 3 rfl) ?_
          refine lv_iconst (v := 5) hx hb dX3_hookOut_69 (by decide) ?_
          refine lv_aload_n hx hb dX3_hookOut_70 rfl (lv_at hl 2 rfl) ?_
          refine va_get (D := D) (ci := 3) (v := .int (u14 30 0)) (C := RX3) (T := TX3) (N := 4) hx hb hts inX3 hown hK hP 0 rfl rfl 3 (by decide) f25 (fun _ h9 => h9) rfl dX3_hookOut_71 ?_
          obtain ⟨u15, eu15⟩ : ∃ z0 : Rc, z0 = endF u14 j 5 (u14 30 0) := ⟨_, rfl⟩
          refine ycallv (invV (As := [.int (nI j), .int 5, .int (u14 30 0)]) (rest := []) (rm := ({ frames := 1, cells := 0, slots := 0, locals := 23 } : Room)) ⟨hx, hb, hml, hown, hts⟩ (cwV 3 hts gX3_hookOut_X2_end rfl rfl rfl (by decide +kernel) ⟨Nat.le_of_ble_eq_true rfl, Nat.le_of_ble_eq_true rfl⟩) (va_recv hK hP (ci := 2) (q0 := 1) rfl rfl) rfl rfl hl.1 (Nat.le_of_ble_eq_true rfl) dX3_hookOut_74) (c_X2_end l D cI a u14 okf j hj (nI j) rfl 5 (vp_lit (by decide)) (u14 30 0)) hK hN hA hP hD hS (W2 := wTr cI g a r u15) [1, 2, 3, 4, 5, 6, 7, 8] [0, 9, 10, 11, 12, 13, 14, 15, 16, 17, 18, 19] [0, 12, 13, 14, 15, 16, 17, 18, 19, 1, 2, 3, 4, 5, 6, 7, 8, 9, 10, 11] rfl rfl (by rw [eu15, endF_cp]; rfl) (by decide) ⟨Nat.le_of_ble_eq_true rfl, Nat.le_of_ble_eq_true rfl⟩ (fun H locs hP hD hS => ?_)
          have h16 : u15 = houtF j u := (by (try subst eu15); (try subst eu14); unfold houtF; first | (rw [if_pos c1]; rfl) | (rw [if_neg c1, if_pos (Or.inl c2), opt_f (fun h => h c9)]; rfl) | (rw [if_neg c1, if_pos (Or.inl c2), opt_t c9]; rfl) | (rw [if_neg c1, if_pos (Or.inr c9), opt_f (fun h => h c11)]; rfl) | (rw [if_neg c1, if_pos (Or.inr c9), opt_t c11]; rfl) | rw [if_neg c1, if_neg (fun h => h.elim c2 c9)])
          exact fin _ _ _ _ _ _ _ (congrArg (fun z9 : Rc => wTr cI g a r z9) h16) hP hD hS (Nat.le_of_ble_eq_true rfl) (Nat.le_of_ble_eq_true rfl) dX3_hookOut_77
  · skip
    refine lv_aload_n hx hb dX3_hookOut_15 rfl (lv_at hl 1 rfl) ?_
    refine va_get (D := D) (ci := 3) (v := .ref (a 0)) (C := RX3) (T := TX3) (N := 4) hx hb hts inX3 hown hK hP 0 rfl rfl 1 (by decide) f12 (fun _ h9 => h9) rfl dX3_hookOut_16 ?_
    refine lv_iload_n hx hb dX3_hookOut_19 rfl (lv_at hl 2 rfl) ?_
    refine lv_iconst (v := 4) hx hb dX3_hookOut_20 (by decide) ?_
    refine lv_aload_n hx hb dX3_hookOut_21 rfl (lv_at hl 1 rfl) ?_
    refine va_get (D := D) (ci := 3) (v := .int (u 30 0)) (C := RX3) (T := TX3) (N := 4) hx hb hts inX3 hown hK hP 0 rfl rfl 3 (by decide) f25 (fun _ h9 => h9) rfl dX3_hookOut_22 ?_
    obtain ⟨u17, eu17⟩ : ∃ z0 : Rc, z0 = endF u j 4 (u 30 0) := ⟨_, rfl⟩
    refine ycallv (invV (As := [.int (nI j), .int 4, .int (u 30 0)]) (rest := []) (rm := ({ frames := 1, cells := 0, slots := 0, locals := 23 } : Room)) ⟨hx, hb, hml, hown, hts⟩ (cwV 3 hts gX3_hookOut_X2_end rfl rfl rfl (by decide +kernel) ⟨Nat.le_of_ble_eq_true rfl, Nat.le_of_ble_eq_true rfl⟩) (va_recv hK hP (ci := 2) (q0 := 1) rfl rfl) rfl rfl hl.1 (Nat.le_of_ble_eq_true rfl) dX3_hookOut_25) (c_X2_end l D cI a u ok j hj (nI j) rfl 4 (vp_lit (by decide)) (u 30 0)) hK hN hA hP hD hS (W2 := wTr cI g a r u17) [1, 2, 3, 4, 5, 6, 7, 8] [0, 9, 10, 11, 12, 13, 14, 15, 16, 17, 18, 19] [0, 12, 13, 14, 15, 16, 17, 18, 19, 1, 2, 3, 4, 5, 6, 7, 8, 9, 10, 11] rfl rfl (by rw [eu17, endF_cp]; rfl) (by decide) ⟨Nat.le_of_ble_eq_true rfl, Nat.le_of_ble_eq_true rfl⟩ (fun H locs hP hD hS => ?_)
    refine lv_goto (tgt := 77) hx hb dX3_hookOut_28 (by decide) ?_
    have h18 : u17 = houtF j u := (by (try subst eu17); unfold houtF; first | (rw [if_pos c1]; rfl) | (rw [if_neg c1, if_pos (Or.inl hnone), opt_f (fun h => h hnone)]; rfl) | (rw [if_neg c1, if_pos (Or.inl hnone), opt_t hnone]; rfl) | (rw [if_neg c1, if_pos (Or.inr hnone), opt_f (fun h => h hnone)]; rfl) | (rw [if_neg c1, if_pos (Or.inr hnone), opt_t hnone]; rfl) | rw [if_neg c1, if_neg (fun h => h.elim hnone hnone)])
    exact fin _ _ _ _ _ _ _ (congrArg (fun z9 : Rc => wTr cI g a r z9) h18) hP hD hS (Nat.le_of_ble_eq_true rfl) (Nat.le_of_ble_eq_true rfl) dX3_hookOut_77
set_option maxHeartbeats 4000000 in
set_option maxRecDepth 100000 in
theorem c_X3_serve (l : Launch) (D : va_G) (cI : ClassId) (g a : Nat → Nat) (r u : Rc) (ok : Ok u) (x : Int32) : CV l yX3_serve wsX3_serve ({ frames := 3, cells := 0, slots := 0, locals := 69 } : Room) D cI [.ref (a 30), .int x] (wTr cI g a r u) (wTr cI g a r (srvF x u)) := by
  refine CV.mk (cc := cX3_serve) (maxL := 3) (by decide) rfl (Nat.le_of_ble_eq_true rfl) ?_
  intro p e s m args below meth c A Q ls hx hb hts hown hml hK hN hA hP hD hS hl fin
  have hown : s.vm.findClass RX3 = some m.cls := hown
  have hn60 := ok.n60
  have hl : lv_has ls 3 [(0, .ref (a 30)), (1, .int x)] := hl
  have f12 := hts (.fieldLink RX3 12 "NightSorters$Train" "mail" "LNightSorters$Mail;") (by decide +kernel)
  have f94 := hts (.fieldLink RX3 94 "NightSorters$Mail" "town" "[I") (by decide +kernel)
  have f109 := hts (.fieldLink RX3 109 "NightSorters$Mail" "size" "I") (by decide +kernel)
  have inX2 : ∀ w ∈ wsX20, w ∈ wsX3_serve := by decide +kernel
  have inX3 : ∀ w ∈ wsX30, w ∈ wsX3_serve := by decide +kernel
  refine lv_iconst (v := 0) hx hb dX3_serve_0 (by decide) ?_
  refine lv_istore_n (lv' := [(2, .int 0), (0, .ref (a 30)), (1, .int x)]) hx hb dX3_serve_1 rfl hl (by decide) rfl (fun ls hl => ?_)
  have K2 : ∀ (n2 i2 : Nat), 0 ≤ i2 → i2 ≤ iv (u 0 0) → iv (u 0 0) < i2 + n2 → ∀ (H : Heap) (locs : List Loc), va_P D vwCl (wTr cI g a r (itN (srvB x) i2 u)) H → va_D A (wTr cI g a r (itN (srvB x) i2 u)) → va_S A s.heap H locs → ∀ (ls : Array Slot), lv_has ls 3 [(2, .int (nI i2)), (0, .ref (a 30)), (1, .int x)] → W p l e ({ frames := 3, cells := 0, slots := 0, locals := 69 } : Room) s m args below meth c H locs (0) (0) Q (F0 m 2 ls []) := by
    intro n2
    induction n2 with
    | zero => intro i2 hlo2 hi2 hn2; exact absurd hn2 (by omega)
    | succ n2 ih2 =>
      intro i2 hlo2 hi2 hn2 H locs hP hD hS ls hl
      obtain ⟨u1, eu1⟩ : ∃ z : Rc, z = itN (srvB x) i2 u := ⟨_, rfl⟩
      rw [← eu1] at hP hD
      have hp : Pr u u1 := by rw [eu1]; exact Pr.it (fun _ _ => srvB_pr) _
      have hb0 := hp.n ok
      have ok2 : Ok u1 := hp.ok ok
      refine lv_iload_n hx hb dX3_serve_2 rfl (lv_at hl 0 rfl) ?_
      refine lv_aload_n hx hb dX3_serve_3 rfl (lv_at hl 1 rfl) ?_
      refine va_get (D := D) (ci := 3) (v := .ref (a 0)) (C := RX3) (T := TX3) (N := 4) hx hb hts inX3 hown hK hP 0 rfl rfl 1 (by decide) f12 (fun _ h9 => h9) rfl dX3_serve_4 ?_
      refine va_get (D := D) (ci := 2) (v := .int (u1 0 0)) (C := RX2) (T := TX2) (N := 8) hx hb hts inX2 hown hK hP 1 rfl rfl 0 (by decide) f109 (fun _ h9 => h9) rfl dX3_serve_7 ?_
      refine lv_icmp_ge (tgt := 61) hx hb dX3_serve_10 (by decide) (fun c2 => ?_) (fun c2 => ?_)
      · skip
        have hie := lp_out hb0 (by omega) hi2 c2
        have h3 : u1 = srvF x u := (by rw [eu1, hie]; rfl)
        exact fin _ _ _ _ _ _ _ (congrArg (fun z9 : Rc => wTr cI g a r z9) h3) hP hD hS (Nat.le_of_ble_eq_true rfl) (Nat.le_of_ble_eq_true rfl) dX3_serve_61
      · skip
        have hlt := lp_in hb0 (by omega) hi2 c2
        refine lv_aload_n hx hb dX3_serve_13 rfl (lv_at hl 1 rfl) ?_
        refine va_get (D := D) (ci := 3) (v := .ref (a 0)) (C := RX3) (T := TX3) (N := 4) hx hb hts inX3 hown hK hP 0 rfl rfl 1 (by decide) f12 (fun _ h9 => h9) rfl dX3_serve_14 ?_
        refine lv_iload_n hx hb dX3_serve_17 rfl (lv_at hl 0 rfl) ?_
        refine lv_iload_n hx hb dX3_serve_18 rfl (lv_at hl 2 rfl) ?_
        refine ycalli (invV (As := [.int (nI i2), .int x]) (rest := []) (rm := ({ frames := 0, cells := 0, slots := 0, locals := 0 } : Room)) ⟨hx, hb, hml, hown, hts⟩ (cwV 2 hts gX3_serve_X2_isInBag rfl rfl rfl (by decide +kernel) ⟨Nat.le_of_ble_eq_true rfl, Nat.le_of_ble_eq_true rfl⟩) (va_recv hK hP (ci := 2) (q0 := 1) rfl rfl) rfl rfl hl.1 (Nat.le_of_ble_eq_true rfl) dX3_serve_19) (c_X2_isInBag l D cI a u1 i2 (by omega) (nI i2) rfl x) hK hN hA hP hD hS (W2 := wTr cI g a r u1) [1, 2, 3, 4, 5, 6, 7, 8] [0, 9, 10, 11, 12, 13, 14, 15, 16, 17, 18, 19] [0, 12, 13, 14, 15, 16, 17, 18, 19, 1, 2, 3, 4, 5, 6, 7, 8, 9, 10, 11] rfl rfl rfl (by decide) ⟨Nat.le_of_ble_eq_true rfl, Nat.le_of_ble_eq_true rfl⟩ (fun H locs hP hD hS => ?_)
        refine lv_if_eq (tgt := 34) hx hb dX3_serve_22 (by decide) (fun c4 => ?_) (fun c4 => ?_)
        · skip
          have c4 := b01t c4
          refine lv_aload_n hx hb dX3_serve_34 rfl (lv_at hl 1 rfl) ?_
          refine va_get (D := D) (ci := 3) (v := .ref (a 0)) (C := RX3) (T := TX3) (N := 4) hx hb hts inX3 hown hK hP 0 rfl rfl 1 (by decide) f12 (fun _ h9 => h9) rfl dX3_serve_35 ?_
          refine va_get (D := D) (ci := 2) (v := .ref (a 1)) (C := RX2) (T := TX2) (N := 8) hx hb hts inX2 hown hK hP 1 rfl rfl 1 (by decide) f94 (fun _ h9 => h9) rfl dX3_serve_38 ?_
          refine lv_iload_n hx hb dX3_serve_41 rfl (lv_at hl 0 rfl) ?_
          refine xald hx hb hK hP 2 rfl rfl (i2) (rfl) (by omega) (by decide) dX3_serve_42 ?_
          refine ycalli (invSN (As := [.int (u1 1 i2)]) (rest := []) (rm := ({ frames := 0, cells := 0, slots := 0, locals := 0 } : Room)) ⟨hx, hb, hml, hown, hts⟩ ⟨va_cnB 1 hts gX3_serve_X4_stationOf_n117 rfl rfl rfl (NW.M hN (a := RX3) (i := 117) (x := yX4_stationOf) (h9 := "NightSorters") (by decide +kernel)) (hts (.initialized RX4) (by decide +kernel)) (by decide +kernel) ⟨Nat.le_of_ble_eq_true rfl, Nat.le_of_ble_eq_true rfl⟩, (hts (.static yX4_stationOf) (by decide +kernel)), trivial⟩ rfl rfl hl.1 (Nat.le_of_ble_eq_true rfl) dX3_serve_43) (c_X4_stationOf l D cI (u1 1 i2)) hK hN hA hP hD hS (W2 := wTr cI g a r u1) [] [0, 1, 2, 3, 4, 5, 6, 7, 8, 9, 10, 11, 12, 13, 14, 15, 16, 17, 18, 19] [0, 1, 2, 3, 4, 5, 6, 7, 8, 9, 10, 11, 12, 13, 14, 15, 16, 17, 18, 19] rfl rfl rfl (by decide) ⟨Nat.le_of_ble_eq_true rfl, Nat.le_of_ble_eq_true rfl⟩ (fun H locs hP hD hS => ?_)
          refine lv_iload_n hx hb dX3_serve_46 rfl (lv_at hl 2 rfl) ?_
          refine lv_icmp_ne (tgt := 55) hx hb dX3_serve_47 (by decide) (fun c5 => ?_) (fun c5 => ?_)
          · skip
            refine lv_iinc (v := nI (i2 + 1)) (lv' := [(2, .int (nI (i2 + 1))), (0, .ref (a 30)), (1, .int x)]) hx hb dX3_serve_55 hl (k := 0) rfl (nI_inc _) (by decide) rfl (fun ls hl => ?_)
            refine lv_goto (tgt := 2) hx hb dX3_serve_58 (by decide) ?_
            have h6 : u1 = itN (srvB x) (i2 + 1) u := by rw [itN_s, ← eu1];  unfold srvB; first | rw [if_pos c4] | rw [if_neg c4, if_pos c5] | rw [if_neg c4, if_neg c5]
            rw [h6] at hP hD
            exact ih2 (i2 + 1) (by omega) (by omega) (by omega) H locs hP hD hS ls (lv_sub hl [0, 1, 2] rfl)
          · skip
            refine lv_aload_n hx hb dX3_serve_50 rfl (lv_at hl 1 rfl) ?_
            refine lv_iload_n hx hb dX3_serve_51 rfl (lv_at hl 0 rfl) ?_
            obtain ⟨u7, eu7⟩ : ∃ z0 : Rc, z0 = houtF i2 u1 := ⟨_, rfl⟩
            refine ycallv (invV (As := [.int (nI i2)]) (rest := []) (rm := ({ frames := 2, cells := 0, slots := 0, locals := 46 } : Room)) ⟨hx, hb, hml, hown, hts⟩ (cwV 1 hts gX3_serve_X3_hookOut rfl rfl rfl (by decide +kernel) ⟨Nat.le_of_ble_eq_true rfl, Nat.le_of_ble_eq_true rfl⟩) (va_recv hK hP (ci := 3) (q0 := 0) rfl rfl) rfl rfl hl.1 (Nat.le_of_ble_eq_true rfl) dX3_serve_52) (c_X3_hookOut l D cI g a r u1 ok2 i2 (by omega) (nI i2) rfl) hK hN hA hP hD hS (W2 := wTr cI g a r u7) [0, 1, 2, 3, 4, 5, 6, 7, 8, 9, 10, 11, 12, 13, 14, 15, 16, 17, 18, 19] [] [0, 1, 2, 3, 4, 5, 6, 7, 8, 9, 10, 11, 12, 13, 14, 15, 16, 17, 18, 19] rfl rfl (by subst eu7; rfl) (by decide) ⟨Nat.le_of_ble_eq_true rfl, Nat.le_of_ble_eq_true rfl⟩ (fun H locs hP hD hS => ?_)
            refine lv_iinc (v := nI (i2 + 1)) (lv' := [(2, .int (nI (i2 + 1))), (0, .ref (a 30)), (1, .int x)]) hx hb dX3_serve_55 hl (k := 0) rfl (nI_inc _) (by decide) rfl (fun ls hl => ?_)
            refine lv_goto (tgt := 2) hx hb dX3_serve_58 (by decide) ?_
            have h8 : u7 = itN (srvB x) (i2 + 1) u := by rw [itN_s, ← eu1]; (try subst eu7); unfold srvB; first | rw [if_pos c4] | rw [if_neg c4, if_pos c5] | rw [if_neg c4, if_neg c5]
            rw [h8] at hP hD
            exact ih2 (i2 + 1) (by omega) (by omega) (by omega) H locs hP hD hS ls (lv_sub hl [0, 1, 2] rfl)
        · skip
          have c4 := b01f c4
          refine lv_aload_n hx hb dX3_serve_25 rfl (lv_at hl 1 rfl) ?_
          refine lv_iload_n hx hb dX3_serve_26 rfl (lv_at hl 0 rfl) ?_
          refine lv_iload_n hx hb dX3_serve_27 rfl (lv_at hl 2 rfl) ?_
          obtain ⟨u9, eu9⟩ : ∃ z0 : Rc, z0 = hinF x i2 u1 := ⟨_, rfl⟩
          refine ycallv (invV (As := [.int (nI i2), .int x]) (rest := []) (rm := ({ frames := 2, cells := 0, slots := 0, locals := 46 } : Room)) ⟨hx, hb, hml, hown, hts⟩ (cwV 2 hts gX3_serve_X3_hookIn rfl rfl rfl (by decide +kernel) ⟨Nat.le_of_ble_eq_true rfl, Nat.le_of_ble_eq_true rfl⟩) (va_recv hK hP (ci := 3) (q0 := 0) rfl rfl) rfl rfl hl.1 (Nat.le_of_ble_eq_true rfl) dX3_serve_28) (c_X3_hookIn l D cI g a r u1 ok2 i2 (by omega) (nI i2) rfl x) hK hN hA hP hD hS (W2 := wTr cI g a r u9) [0, 1, 2, 3, 4, 5, 6, 7, 8, 9, 10, 11, 12, 13, 14, 15, 16, 17, 18, 19] [] [0, 1, 2, 3, 4, 5, 6, 7, 8, 9, 10, 11, 12, 13, 14, 15, 16, 17, 18, 19] rfl rfl (by subst eu9; rfl) (by decide) ⟨Nat.le_of_ble_eq_true rfl, Nat.le_of_ble_eq_true rfl⟩ (fun H locs hP hD hS => ?_)
          refine lv_goto (tgt := 55) hx hb dX3_serve_31 (by decide) ?_
          refine lv_iinc (v := nI (i2 + 1)) (lv' := [(2, .int (nI (i2 + 1))), (0, .ref (a 30)), (1, .int x)]) hx hb dX3_serve_55 hl (k := 0) rfl (nI_inc _) (by decide) rfl (fun ls hl => ?_)
          refine lv_goto (tgt := 2) hx hb dX3_serve_58 (by decide) ?_
          have h10 : u9 = itN (srvB x) (i2 + 1) u := by rw [itN_s, ← eu1]; (try subst eu9); unfold srvB; first | rw [if_pos c4] | rw [if_neg c4, if_pos hnone] | rw [if_neg c4, if_neg hnone]
          rw [h10] at hP hD
          exact ih2 (i2 + 1) (by omega) (by omega) (by omega) H locs hP hD hS ls (lv_sub hl [0, 1, 2] rfl)
  exact K2 (iv (u 0 0) + 1) 0 (Nat.le_refl _) (by omega) (by omega) _ _ hP hD hS ls (lv_sub hl [0, 1, 2] rfl)
set_option maxHeartbeats 4000000 in
set_option maxRecDepth 100000 in
theorem c_X3_shake (l : Launch) (D : va_G) (cI : ClassId) (g a : Nat → Nat) (r u : Rc) (ok : Ok u) (x : Int32) : CV l yX3_shake wsX3_shake ({ frames := 2, cells := 0, slots := 0, locals := 45 } : Room) D cI [.ref (a 30), .int x] (wTr cI g a r u) (wTr cI g a r (shkF x u)) := by
  refine CV.mk (cc := cX3_shake) (maxL := 2) (by decide) rfl (Nat.le_of_ble_eq_true rfl) ?_
  intro p e s m args below meth c A Q ls hx hb hts hown hml hK hN hA hP hD hS hl fin
  have hown : s.vm.findClass RX3 = some m.cls := hown
  have hl : lv_has ls 2 [(0, .ref (a 30)), (1, .int x)] := hl
  have f12 := hts (.fieldLink RX3 12 "NightSorters$Train" "mail" "LNightSorters$Mail;") (by decide +kernel)
  have f21 := hts (.fieldLink RX3 21 "NightSorters$Train" "crew" "LNightSorters$Crew;") (by decide +kernel)
  have inX3 : ∀ w ∈ wsX30, w ∈ wsX3_shake := by decide +kernel
  refine lv_iload_n hx hb dX3_shake_0 rfl (lv_at hl 1 rfl) ?_
  refine lv_iconst (v := 1) hx hb dX3_shake_1 (by decide) ?_
  refine lv_icmp_lt (tgt := 12) hx hb dX3_shake_2 (by decide) (fun c1 => ?_) (fun c1 => ?_)
  · skip
    refine lv_iload_n hx hb dX3_shake_12 rfl (lv_at hl 1 rfl) ?_
    refine lv_iconst (v := 2) hx hb dX3_shake_13 (by decide) ?_
    refine lv_icmp_lt (tgt := 31) hx hb dX3_shake_14 (by decide) (fun c2 => ?_) (fun c2 => ?_)
    · skip
      refine lv_iload_n hx hb dX3_shake_31 rfl (lv_at hl 1 rfl) ?_
      refine lv_iconst (v := 3) hx hb dX3_shake_32 (by decide) ?_
      refine lv_icmp_lt (tgt := 44) hx hb dX3_shake_33 (by decide) (fun c3 => ?_) (fun c3 => ?_)
      · skip
        have h4 : u = shkF x u := (by  simp only [shkF, opt, c1, c2, c3, ↓reduceIte, not_false_eq_true, not_true_eq_false, and_true, true_and, and_false, false_and, or_true, true_or, or_false, false_or, and_self, or_self])
        exact fin _ _ _ _ _ _ _ (congrArg (fun z9 : Rc => wTr cI g a r z9) h4) hP hD hS (Nat.le_of_ble_eq_true rfl) (Nat.le_of_ble_eq_true rfl) dX3_shake_44
      · skip
        refine lv_aload_n hx hb dX3_shake_36 rfl (lv_at hl 0 rfl) ?_
        refine va_get (D := D) (ci := 3) (v := .ref (a 10)) (C := RX3) (T := TX3) (N := 4) hx hb hts inX3 hown hK hP 0 rfl rfl 2 (by decide) f21 (fun _ h9 => h9) rfl dX3_shake_37 ?_
        refine lv_iconst (v := 3) hx hb dX3_shake_40 (by decide) ?_
        obtain ⟨u5, eu5⟩ : ∃ z0 : Rc, z0 = tireF 3 u := ⟨_, rfl⟩
        refine ycallv (invV (As := [.int 3]) (rest := []) (rm := ({ frames := 0, cells := 0, slots := 0, locals := 0 } : Room)) ⟨hx, hb, hml, hown, hts⟩ (cwV 1 hts gX3_shake_X0_tireAll rfl rfl rfl (by decide +kernel) ⟨Nat.le_of_ble_eq_true rfl, Nat.le_of_ble_eq_true rfl⟩) (va_recv hK hP (ci := 0) (q0 := 9) rfl rfl) rfl rfl hl.1 (Nat.le_of_ble_eq_true rfl) dX3_shake_41) (c_X0_tireAll l D cI a u ok 3) hK hN hA hP hD hS (W2 := wTr cI g a r u5) [9, 10, 11, 12, 13, 14, 15, 16] [0, 1, 2, 3, 4, 5, 6, 7, 8, 17, 18, 19] [0, 1, 2, 3, 4, 5, 6, 7, 8, 12, 13, 14, 15, 16, 17, 18, 19, 9, 10, 11] rfl rfl (by rw [eu5, tireF_cp]; rfl) (by decide) ⟨Nat.le_of_ble_eq_true rfl, Nat.le_of_ble_eq_true rfl⟩ (fun H locs hP hD hS => ?_)
        have h6 : u5 = shkF x u := (by (try subst eu5); simp only [shkF, opt, c1, c2, c3, ↓reduceIte, not_false_eq_true, not_true_eq_false, and_true, true_and, and_false, false_and, or_true, true_or, or_false, false_or, and_self, or_self])
        exact fin _ _ _ _ _ _ _ (congrArg (fun z9 : Rc => wTr cI g a r z9) h6) hP hD hS (Nat.le_of_ble_eq_true rfl) (Nat.le_of_ble_eq_true rfl) dX3_shake_44
    · skip
      refine lv_aload_n hx hb dX3_shake_17 rfl (lv_at hl 0 rfl) ?_
      refine va_get (D := D) (ci := 3) (v := .ref (a 0)) (C := RX3) (T := TX3) (N := 4) hx hb hts inX3 hown hK hP 0 rfl rfl 1 (by decide) f12 (fun _ h9 => h9) rfl dX3_shake_18 ?_
      refine lv_aload_n hx hb dX3_shake_21 rfl (lv_at hl 0 rfl) ?_
      refine va_get (D := D) (ci := 3) (v := .ref (a 0)) (C := RX3) (T := TX3) (N := 4) hx hb hts inX3 hown hK hP 0 rfl rfl 1 (by decide) f12 (fun _ h9 => h9) rfl dX3_shake_22 ?_
      refine ycalli (invV (As := []) (rest := [.ref (a 0)]) (rm := ({ frames := 0, cells := 0, slots := 0, locals := 0 } : Room)) ⟨hx, hb, hml, hown, hts⟩ (cwV 0 hts gX3_shake_X2_fullestHole rfl rfl rfl (by decide +kernel) ⟨Nat.le_of_ble_eq_true rfl, Nat.le_of_ble_eq_true rfl⟩) (va_recv hK hP (ci := 2) (q0 := 1) rfl rfl) rfl rfl hl.1 (Nat.le_of_ble_eq_true rfl) dX3_shake_25) (c_X2_fullestHole l D cI a u) hK hN hA hP hD hS (W2 := wTr cI g a r u) [1, 2, 3, 4, 5, 6, 7, 8] [0, 9, 10, 11, 12, 13, 14, 15, 16, 17, 18, 19] [0, 12, 13, 14, 15, 16, 17, 18, 19, 1, 2, 3, 4, 5, 6, 7, 8, 9, 10, 11] rfl rfl rfl (by decide) ⟨Nat.le_of_ble_eq_true rfl, Nat.le_of_ble_eq_true rfl⟩ (fun H locs hP hD hS => ?_)
      obtain ⟨u7, eu7⟩ : ∃ z0 : Rc, z0 = spillF (nI (fullN (u 7) 15)) u := ⟨_, rfl⟩
      refine ycallv (invV (As := [.int (nI (fullN (u 7) 15))]) (rest := []) (rm := ({ frames := 1, cells := 0, slots := 0, locals := 23 } : Room)) ⟨hx, hb, hml, hown, hts⟩ (cwV 1 hts gX3_shake_X2_spillHole rfl rfl rfl (by decide +kernel) ⟨Nat.le_of_ble_eq_true rfl, Nat.le_of_ble_eq_true rfl⟩) (va_recv hK hP (ci := 2) (q0 := 1) rfl rfl) rfl rfl hl.1 (Nat.le_of_ble_eq_true rfl) dX3_shake_28) (c_X2_spillHole l D cI a u ok (nI (fullN (u 7) 15))) hK hN hA hP hD hS (W2 := wTr cI g a r u7) [1, 2, 3, 4, 5, 6, 7, 8] [0, 9, 10, 11, 12, 13, 14, 15, 16, 17, 18, 19] [0, 12, 13, 14, 15, 16, 17, 18, 19, 1, 2, 3, 4, 5, 6, 7, 8, 9, 10, 11] rfl rfl (by rw [eu7, spillF_cp]; rfl) (by decide) ⟨Nat.le_of_ble_eq_true rfl, Nat.le_of_ble_eq_true rfl⟩ (fun H locs hP hD hS => ?_)
      have okb : Ok u7 := (by (try subst eu7); exact spillF_pr.ok ok)
      refine lv_iload_n hx hb dX3_shake_31 rfl (lv_at hl 1 rfl) ?_
      refine lv_iconst (v := 3) hx hb dX3_shake_32 (by decide) ?_
      refine lv_icmp_lt (tgt := 44) hx hb dX3_shake_33 (by decide) (fun c8 => ?_) (fun c8 => ?_)
      · skip
        have h9 : u7 = shkF x u := (by (try subst eu7); simp only [shkF, opt, c1, c2, c8, ↓reduceIte, not_false_eq_true, not_true_eq_false, and_true, true_and, and_false, false_and, or_true, true_or, or_false, false_or, and_self, or_self])
        exact fin _ _ _ _ _ _ _ (congrArg (fun z9 : Rc => wTr cI g a r z9) h9) hP hD hS (Nat.le_of_ble_eq_true rfl) (Nat.le_of_ble_eq_true rfl) dX3_shake_44
      · skip
        refine lv_aload_n hx hb dX3_shake_36 rfl (lv_at hl 0 rfl) ?_
        refine va_get (D := D) (ci := 3) (v := .ref (a 10)) (C := RX3) (T := TX3) (N := 4) hx hb hts inX3 hown hK hP 0 rfl rfl 2 (by decide) f21 (fun _ h9 => h9) rfl dX3_shake_37 ?_
        refine lv_iconst (v := 3) hx hb dX3_shake_40 (by decide) ?_
        obtain ⟨u10, eu10⟩ : ∃ z0 : Rc, z0 = tireF 3 u7 := ⟨_, rfl⟩
        refine ycallv (invV (As := [.int 3]) (rest := []) (rm := ({ frames := 0, cells := 0, slots := 0, locals := 0 } : Room)) ⟨hx, hb, hml, hown, hts⟩ (cwV 1 hts gX3_shake_X0_tireAll rfl rfl rfl (by decide +kernel) ⟨Nat.le_of_ble_eq_true rfl, Nat.le_of_ble_eq_true rfl⟩) (va_recv hK hP (ci := 0) (q0 := 9) rfl rfl) rfl rfl hl.1 (Nat.le_of_ble_eq_true rfl) dX3_shake_41) (c_X0_tireAll l D cI a u7 okb 3) hK hN hA hP hD hS (W2 := wTr cI g a r u10) [9, 10, 11, 12, 13, 14, 15, 16] [0, 1, 2, 3, 4, 5, 6, 7, 8, 17, 18, 19] [0, 1, 2, 3, 4, 5, 6, 7, 8, 12, 13, 14, 15, 16, 17, 18, 19, 9, 10, 11] rfl rfl (by rw [eu10, tireF_cp]; rfl) (by decide) ⟨Nat.le_of_ble_eq_true rfl, Nat.le_of_ble_eq_true rfl⟩ (fun H locs hP hD hS => ?_)
        have h11 : u10 = shkF x u := (by (try subst eu10); (try subst eu7); simp only [shkF, opt, c1, c2, c8, ↓reduceIte, not_false_eq_true, not_true_eq_false, and_true, true_and, and_false, false_and, or_true, true_or, or_false, false_or, and_self, or_self])
        exact fin _ _ _ _ _ _ _ (congrArg (fun z9 : Rc => wTr cI g a r z9) h11) hP hD hS (Nat.le_of_ble_eq_true rfl) (Nat.le_of_ble_eq_true rfl) dX3_shake_44
  · skip
    refine lv_aload_n hx hb dX3_shake_5 rfl (lv_at hl 0 rfl) ?_
    refine va_get (D := D) (ci := 3) (v := .ref (a 10)) (C := RX3) (T := TX3) (N := 4) hx hb hts inX3 hown hK hP 0 rfl rfl 2 (by decide) f21 (fun _ h9 => h9) rfl dX3_shake_6 ?_
    obtain ⟨u12, eu12⟩ : ∃ z0 : Rc, z0 = spTeaF u := ⟨_, rfl⟩
    refine ycallv (invV (As := []) (rest := []) (rm := ({ frames := 0, cells := 0, slots := 0, locals := 0 } : Room)) ⟨hx, hb, hml, hown, hts⟩ (cwV 0 hts gX3_shake_X0_spillTea rfl rfl rfl (by decide +kernel) ⟨Nat.le_of_ble_eq_true rfl, Nat.le_of_ble_eq_true rfl⟩) (va_recv hK hP (ci := 0) (q0 := 9) rfl rfl) rfl rfl hl.1 (Nat.le_of_ble_eq_true rfl) dX3_shake_9) (c_X0_spillTea l D cI a u ok) hK hN hA hP hD hS (W2 := wTr cI g a r u12) [9, 10, 11, 12, 13, 14, 15, 16] [0, 1, 2, 3, 4, 5, 6, 7, 8, 17, 18, 19] [0, 1, 2, 3, 4, 5, 6, 7, 8, 12, 13, 14, 15, 16, 17, 18, 19, 9, 10, 11] rfl rfl (by rw [eu12, spTeaF_cp]; rfl) (by decide) ⟨Nat.le_of_ble_eq_true rfl, Nat.le_of_ble_eq_true rfl⟩ (fun H locs hP hD hS => ?_)
    have oka : Ok u12 := (by (try subst eu12); exact spTea_pr.ok ok)
    refine lv_iload_n hx hb dX3_shake_12 rfl (lv_at hl 1 rfl) ?_
    refine lv_iconst (v := 2) hx hb dX3_shake_13 (by decide) ?_
    refine lv_icmp_lt (tgt := 31) hx hb dX3_shake_14 (by decide) (fun c13 => ?_) (fun c13 => ?_)
    · skip
      refine lv_iload_n hx hb dX3_shake_31 rfl (lv_at hl 1 rfl) ?_
      refine lv_iconst (v := 3) hx hb dX3_shake_32 (by decide) ?_
      refine lv_icmp_lt (tgt := 44) hx hb dX3_shake_33 (by decide) (fun c14 => ?_) (fun c14 => ?_)
      · skip
        have h15 : u12 = shkF x u := (by (try subst eu12); simp only [shkF, opt, c1, c13, c14, ↓reduceIte, not_false_eq_true, not_true_eq_false, and_true, true_and, and_false, false_and, or_true, true_or, or_false, false_or, and_self, or_self])
        exact fin _ _ _ _ _ _ _ (congrArg (fun z9 : Rc => wTr cI g a r z9) h15) hP hD hS (Nat.le_of_ble_eq_true rfl) (Nat.le_of_ble_eq_true rfl) dX3_shake_44
      · skip
        refine lv_aload_n hx hb dX3_shake_36 rfl (lv_at hl 0 rfl) ?_
        refine va_get (D := D) (ci := 3) (v := .ref (a 10)) (C := RX3) (T := TX3) (N := 4) hx hb hts inX3 hown hK hP 0 rfl rfl 2 (by decide) f21 (fun _ h9 => h9) rfl dX3_shake_37 ?_
        refine lv_iconst (v := 3) hx hb dX3_shake_40 (by decide) ?_
        obtain ⟨u16, eu16⟩ : ∃ z0 : Rc, z0 = tireF 3 u12 := ⟨_, rfl⟩
        refine ycallv (invV (As := [.int 3]) (rest := []) (rm := ({ frames := 0, cells := 0, slots := 0, locals := 0 } : Room)) ⟨hx, hb, hml, hown, hts⟩ (cwV 1 hts gX3_shake_X0_tireAll rfl rfl rfl (by decide +kernel) ⟨Nat.le_of_ble_eq_true rfl, Nat.le_of_ble_eq_true rfl⟩) (va_recv hK hP (ci := 0) (q0 := 9) rfl rfl) rfl rfl hl.1 (Nat.le_of_ble_eq_true rfl) dX3_shake_41) (c_X0_tireAll l D cI a u12 oka 3) hK hN hA hP hD hS (W2 := wTr cI g a r u16) [9, 10, 11, 12, 13, 14, 15, 16] [0, 1, 2, 3, 4, 5, 6, 7, 8, 17, 18, 19] [0, 1, 2, 3, 4, 5, 6, 7, 8, 12, 13, 14, 15, 16, 17, 18, 19, 9, 10, 11] rfl rfl (by rw [eu16, tireF_cp]; rfl) (by decide) ⟨Nat.le_of_ble_eq_true rfl, Nat.le_of_ble_eq_true rfl⟩ (fun H locs hP hD hS => ?_)
        have h17 : u16 = shkF x u := (by (try subst eu16); (try subst eu12); simp only [shkF, opt, c1, c13, c14, ↓reduceIte, not_false_eq_true, not_true_eq_false, and_true, true_and, and_false, false_and, or_true, true_or, or_false, false_or, and_self, or_self])
        exact fin _ _ _ _ _ _ _ (congrArg (fun z9 : Rc => wTr cI g a r z9) h17) hP hD hS (Nat.le_of_ble_eq_true rfl) (Nat.le_of_ble_eq_true rfl) dX3_shake_44
    · skip
      refine lv_aload_n hx hb dX3_shake_17 rfl (lv_at hl 0 rfl) ?_
      refine va_get (D := D) (ci := 3) (v := .ref (a 0)) (C := RX3) (T := TX3) (N := 4) hx hb hts inX3 hown hK hP 0 rfl rfl 1 (by decide) f12 (fun _ h9 => h9) rfl dX3_shake_18 ?_
      refine lv_aload_n hx hb dX3_shake_21 rfl (lv_at hl 0 rfl) ?_
      refine va_get (D := D) (ci := 3) (v := .ref (a 0)) (C := RX3) (T := TX3) (N := 4) hx hb hts inX3 hown hK hP 0 rfl rfl 1 (by decide) f12 (fun _ h9 => h9) rfl dX3_shake_22 ?_
      refine ycalli (invV (As := []) (rest := [.ref (a 0)]) (rm := ({ frames := 0, cells := 0, slots := 0, locals := 0 } : Room)) ⟨hx, hb, hml, hown, hts⟩ (cwV 0 hts gX3_shake_X2_fullestHole rfl rfl rfl (by decide +kernel) ⟨Nat.le_of_ble_eq_true rfl, Nat.le_of_ble_eq_true rfl⟩) (va_recv hK hP (ci := 2) (q0 := 1) rfl rfl) rfl rfl hl.1 (Nat.le_of_ble_eq_true rfl) dX3_shake_25) (c_X2_fullestHole l D cI a u12) hK hN hA hP hD hS (W2 := wTr cI g a r u12) [1, 2, 3, 4, 5, 6, 7, 8] [0, 9, 10, 11, 12, 13, 14, 15, 16, 17, 18, 19] [0, 12, 13, 14, 15, 16, 17, 18, 19, 1, 2, 3, 4, 5, 6, 7, 8, 9, 10, 11] rfl rfl rfl (by decide) ⟨Nat.le_of_ble_eq_true rfl, Nat.le_of_ble_eq_true rfl⟩ (fun H locs hP hD hS => ?_)
      obtain ⟨u18, eu18⟩ : ∃ z0 : Rc, z0 = spillF (nI (fullN (u12 7) 15)) u12 := ⟨_, rfl⟩
      refine ycallv (invV (As := [.int (nI (fullN (u12 7) 15))]) (rest := []) (rm := ({ frames := 1, cells := 0, slots := 0, locals := 23 } : Room)) ⟨hx, hb, hml, hown, hts⟩ (cwV 1 hts gX3_shake_X2_spillHole rfl rfl rfl (by decide +kernel) ⟨Nat.le_of_ble_eq_true rfl, Nat.le_of_ble_eq_true rfl⟩) (va_recv hK hP (ci := 2) (q0 := 1) rfl rfl) rfl rfl hl.1 (Nat.le_of_ble_eq_true rfl) dX3_shake_28) (c_X2_spillHole l D cI a u12 oka (nI (fullN (u12 7) 15))) hK hN hA hP hD hS (W2 := wTr cI g a r u18) [1, 2, 3, 4, 5, 6, 7, 8] [0, 9, 10, 11, 12, 13, 14, 15, 16, 17, 18, 19] [0, 12, 13, 14, 15, 16, 17, 18, 19, 1, 2, 3, 4, 5, 6, 7, 8, 9, 10, 11] rfl rfl (by rw [eu18, spillF_cp]; rfl) (by decide) ⟨Nat.le_of_ble_eq_true rfl, Nat.le_of_ble_eq_true rfl⟩ (fun H locs hP hD hS => ?_)
      have okb : Ok u18 := (by (try subst eu18); exact spillF_pr.ok oka)
      refine lv_iload_n hx hb dX3_shake_31 rfl (lv_at hl 1 rfl) ?_
      refine lv_iconst (v := 3) hx hb dX3_shake_32 (by decide) ?_
      refine lv_icmp_lt (tgt := 44) hx hb dX3_shake_33 (by decide) (fun c19 => ?_) (fun c19 => ?_)
      · skip
        have h20 : u18 = shkF x u := (by (try subst eu18); (try subst eu12); simp only [shkF, opt, c1, c13, c19, ↓reduceIte, not_false_eq_true, not_true_eq_false, and_true, true_and, and_false, false_and, or_true, true_or, or_false, false_or, and_self, or_self])
        exact fin _ _ _ _ _ _ _ (congrArg (fun z9 : Rc => wTr cI g a r z9) h20) hP hD hS (Nat.le_of_ble_eq_true rfl) (Nat.le_of_ble_eq_true rfl) dX3_shake_44
      · skip
        refine lv_aload_n hx hb dX3_shake_36 rfl (lv_at hl 0 rfl) ?_
        refine va_get (D := D) (ci := 3) (v := .ref (a 10)) (C := RX3) (T := TX3) (N := 4) hx hb hts inX3 hown hK hP 0 rfl rfl 2 (by decide) f21 (fun _ h9 => h9) rfl dX3_shake_37 ?_
        refine lv_iconst (v := 3) hx hb dX3_shake_40 (by decide) ?_
        obtain ⟨u21, eu21⟩ : ∃ z0 : Rc, z0 = tireF 3 u18 := ⟨_, rfl⟩
        refine ycallv (invV (As := [.int 3]) (rest := []) (rm := ({ frames := 0, cells := 0, slots := 0, locals := 0 } : Room)) ⟨hx, hb, hml, hown, hts⟩ (cwV 1 hts gX3_shake_X0_tireAll rfl rfl rfl (by decide +kernel) ⟨Nat.le_of_ble_eq_true rfl, Nat.le_of_ble_eq_true rfl⟩) (va_recv hK hP (ci := 0) (q0 := 9) rfl rfl) rfl rfl hl.1 (Nat.le_of_ble_eq_true rfl) dX3_shake_41) (c_X0_tireAll l D cI a u18 okb 3) hK hN hA hP hD hS (W2 := wTr cI g a r u21) [9, 10, 11, 12, 13, 14, 15, 16] [0, 1, 2, 3, 4, 5, 6, 7, 8, 17, 18, 19] [0, 1, 2, 3, 4, 5, 6, 7, 8, 12, 13, 14, 15, 16, 17, 18, 19, 9, 10, 11] rfl rfl (by rw [eu21, tireF_cp]; rfl) (by decide) ⟨Nat.le_of_ble_eq_true rfl, Nat.le_of_ble_eq_true rfl⟩ (fun H locs hP hD hS => ?_)
        have h22 : u21 = shkF x u := (by (try subst eu21); (try subst eu18); (try subst eu12); simp only [shkF, opt, c1, c13, c19, ↓reduceIte, not_false_eq_true, not_true_eq_false, and_true, true_and, and_false, false_and, or_true, true_or, or_false, false_or, and_self, or_self])
        exact fin _ _ _ _ _ _ _ (congrArg (fun z9 : Rc => wTr cI g a r z9) h22) hP hD hS (Nat.le_of_ble_eq_true rfl) (Nat.le_of_ble_eq_true rfl) dX3_shake_44
set_option maxHeartbeats 4000000 in
set_option maxRecDepth 100000 in
theorem c_X3_runMinute (l : Launch) (D : va_G) (cI : ClassId) (g a : Nat → Nat) (r u : Rc) (ok : Ok u) : CV l yX3_runMinute wsX3_runMinute ({ frames := 4, cells := 0, slots := 0, locals := 91 } : Room) D cI [.ref (a 30)] (wTr cI g a r u) (wTr cI g a r (minF r u)) := by
  refine CV.mk (cc := cX3_runMinute) (maxL := 3) (by decide) rfl (Nat.le_of_ble_eq_true rfl) ?_
  intro p e s m args below meth c A Q ls hx hb hts hown hml hK hN hA hP hD hS hl fin
  have hown : s.vm.findClass RX3 = some m.cls := hown
  have hk4 := ok.k4
  have hl : lv_has ls 3 [(0, .ref (a 30))] := hl
  have f21 := hts (.fieldLink RX3 21 "NightSorters$Train" "crew" "LNightSorters$Crew;") (by decide +kernel)
  have f25 := hts (.fieldLink RX3 25 "NightSorters$Train" "minute" "I") (by decide +kernel)
  have f29 := hts (.fieldLink RX3 29 "NightSorters$Train" "line" "LNightSorters$Line;") (by decide +kernel)
  have f43 := hts (.fieldLink RX3 43 "NightSorters$Crew" "size" "I") (by decide +kernel)
  have f46 := hts (.fieldLink RX3 46 "NightSorters$Crew" "held" "[I") (by decide +kernel)
  have f66 := hts (.fieldLink RX3 66 "NightSorters$Line" "jolts" "[I") (by decide +kernel)
  have inX0 : ∀ w ∈ wsX00, w ∈ wsX3_runMinute := by decide +kernel
  have inX1 : ∀ w ∈ wsX10, w ∈ wsX3_runMinute := by decide +kernel
  have inX3 : ∀ w ∈ wsX30, w ∈ wsX3_runMinute := by decide +kernel
  refine lv_iconst (v := 0) hx hb dX3_runMinute_0 (by decide) ?_
  refine lv_istore_n (lv' := [(1, .int 0), (0, .ref (a 30))]) hx hb dX3_runMinute_1 rfl hl (by decide) rfl (fun ls hl => ?_)
  have K2 : ∀ (n2 i2 : Nat), 0 ≤ i2 → i2 ≤ iv (u 10 0) → iv (u 10 0) < i2 + n2 → ∀ (H : Heap) (locs : List Loc), va_P D vwCl (wTr cI g a r (itN sorB i2 u)) H → va_D A (wTr cI g a r (itN sorB i2 u)) → va_S A s.heap H locs → ∀ (ls : Array Slot), lv_has ls 3 [(1, .int (nI i2)), (0, .ref (a 30))] → W p l e ({ frames := 4, cells := 0, slots := 0, locals := 91 } : Room) s m args below meth c H locs (0) (0) Q (F0 m 2 ls []) := by
    intro n2
    induction n2 with
    | zero => intro i2 hlo2 hi2 hn2; exact absurd hn2 (by omega)
    | succ n2 ih2 =>
      intro i2 hlo2 hi2 hn2 H locs hP hD hS ls hl
      obtain ⟨u1, eu1⟩ : ∃ z : Rc, z = itN sorB i2 u := ⟨_, rfl⟩
      rw [← eu1] at hP hD
      have hp : Pr u u1 := by rw [eu1]; exact sors_pr (by omega)
      have hb0 := hp.k ok
      have ok2 : Ok u1 := hp.ok ok
      refine lv_iload_n hx hb dX3_runMinute_2 rfl (lv_at hl 0 rfl) ?_
      refine lv_aload_n hx hb dX3_runMinute_3 rfl (lv_at hl 1 rfl) ?_
      refine va_get (D := D) (ci := 3) (v := .ref (a 10)) (C := RX3) (T := TX3) (N := 4) hx hb hts inX3 hown hK hP 0 rfl rfl 2 (by decide) f21 (fun _ h9 => h9) rfl dX3_runMinute_4 ?_
      refine va_get (D := D) (ci := 0) (v := .int (u1 10 0)) (C := RX0) (T := TX0) (N := 8) hx hb hts inX0 hown hK hP 9 rfl rfl 0 (by decide) f43 (fun _ h9 => h9) rfl dX3_runMinute_7 ?_
      refine lv_icmp_ge (tgt := 55) hx hb dX3_runMinute_10 (by decide) (fun c2 => ?_) (fun c2 => ?_)
      · skip
        have hie := lp_out hb0 (by omega) hi2 c2
        subst hie
        refine lv_aload_n hx hb dX3_runMinute_55 rfl (lv_at hl 1 rfl) ?_
        refine va_get (D := D) (ci := 3) (v := .ref (g 0)) (C := RX3) (T := TX3) (N := 4) hx hb hts inX3 hown hK hP 0 rfl rfl 0 (by decide) f29 (fun _ h9 => h9) rfl dX3_runMinute_56 ?_
        refine lv_aload_n hx hb dX3_runMinute_59 rfl (lv_at hl 1 rfl) ?_
        refine va_get (D := D) (ci := 3) (v := .int (u1 30 0)) (C := RX3) (T := TX3) (N := 4) hx hb hts inX3 hown hK hP 0 rfl rfl 3 (by decide) f25 (fun _ h9 => h9) rfl dX3_runMinute_60 ?_
        refine ycalli (invV (As := [.int (u1 30 0)]) (rest := []) (rm := ({ frames := 0, cells := 0, slots := 0, locals := 0 } : Room)) ⟨hx, hb, hml, hown, hts⟩ (cwV 1 hts gX3_runMinute_X1_passedIn rfl rfl rfl (by decide +kernel) ⟨Nat.le_of_ble_eq_true rfl, Nat.le_of_ble_eq_true rfl⟩) (va_recv hK hP (ci := 1) (q0 := 17) rfl rfl) rfl rfl hl.1 (Nat.le_of_ble_eq_true rfl) dX3_runMinute_63) (c_X1_passedIn l D cI g r (u1 30 0)) hK hN hA hP hD hS (W2 := wTr cI g a r u1) [17, 18, 19] [0, 1, 2, 3, 4, 5, 6, 7, 8, 9, 10, 11, 12, 13, 14, 15, 16] [0, 1, 2, 3, 4, 5, 6, 7, 8, 9, 10, 11, 12, 13, 14, 15, 16, 17, 18, 19] rfl rfl rfl (by decide) ⟨Nat.le_of_ble_eq_true rfl, Nat.le_of_ble_eq_true rfl⟩ (fun H locs hP hD hS => ?_)
        refine lv_istore_n (lv' := [(1, .int (psdF r (u1 30 0))), (0, .ref (a 30))]) hx hb dX3_runMinute_66 rfl hl (by decide) rfl (fun ls hl => ?_)
        refine lv_iload_n hx hb dX3_runMinute_67 rfl (lv_at hl 0 rfl) ?_
        refine lv_iconst (v := (-1)) hx hb dX3_runMinute_68 (by decide) ?_
        refine lv_icmp_eq (tgt := 77) hx hb dX3_runMinute_69 (by decide) (fun c3 => ?_) (fun c3 => ?_)
        · skip
          refine lv_aload_n hx hb dX3_runMinute_77 rfl (lv_at hl 1 rfl) ?_
          refine va_get (D := D) (ci := 3) (v := .ref (g 0)) (C := RX3) (T := TX3) (N := 4) hx hb hts inX3 hown hK hP 0 rfl rfl 0 (by decide) f29 (fun _ h9 => h9) rfl dX3_runMinute_78 ?_
          refine lv_aload_n hx hb dX3_runMinute_81 rfl (lv_at hl 1 rfl) ?_
          refine va_get (D := D) (ci := 3) (v := .int (u1 30 0)) (C := RX3) (T := TX3) (N := 4) hx hb hts inX3 hown hK hP 0 rfl rfl 3 (by decide) f25 (fun _ h9 => h9) rfl dX3_runMinute_82 ?_
          refine lv_iconst (v := 5) hx hb dX3_runMinute_85 (by decide) ?_
          refine lv_isub hx hb dX3_runMinute_86 ?_
          refine ycalli (invV (As := [.int ((u1 30 0) - 5)]) (rest := []) (rm := ({ frames := 0, cells := 0, slots := 0, locals := 0 } : Room)) ⟨hx, hb, hml, hown, hts⟩ (cwV 1 hts gX3_runMinute_X1_passedIn rfl rfl rfl (by decide +kernel) ⟨Nat.le_of_ble_eq_true rfl, Nat.le_of_ble_eq_true rfl⟩) (va_recv hK hP (ci := 1) (q0 := 17) rfl rfl) rfl rfl hl.1 (Nat.le_of_ble_eq_true rfl) dX3_runMinute_87) (c_X1_passedIn l D cI g r (u1 30 0 - 5)) hK hN hA hP hD hS (W2 := wTr cI g a r u1) [17, 18, 19] [0, 1, 2, 3, 4, 5, 6, 7, 8, 9, 10, 11, 12, 13, 14, 15, 16] [0, 1, 2, 3, 4, 5, 6, 7, 8, 9, 10, 11, 12, 13, 14, 15, 16, 17, 18, 19] rfl rfl rfl (by decide) ⟨Nat.le_of_ble_eq_true rfl, Nat.le_of_ble_eq_true rfl⟩ (fun H locs hP hD hS => ?_)
          refine lv_istore_n (lv' := [(2, .int (psdF r (u1 30 0 - 5))), (1, .int (psdF r (u1 30 0))), (0, .ref (a 30))]) hx hb dX3_runMinute_90 rfl hl (by decide) rfl (fun ls hl => ?_)
          refine lv_iload_n hx hb dX3_runMinute_91 rfl (lv_at hl 0 rfl) ?_
          refine lv_iconst (v := (-1)) hx hb dX3_runMinute_92 (by decide) ?_
          refine lv_icmp_eq (tgt := 109) hx hb dX3_runMinute_93 (by decide) (fun c4 => ?_) (fun c4 => ?_)
          · skip
            refine lv_aload_n hx hb dX3_runMinute_109 rfl (lv_at hl 2 rfl) ?_
            refine lv_dup hx hb dX3_runMinute_110 rfl ?_
            refine va_get (D := D) (ci := 3) (v := .int (u1 30 0)) (C := RX3) (T := TX3) (N := 4) hx hb hts inX3 hown hK hP 0 rfl rfl 3 (by decide) f25 (fun _ h9 => h9) rfl dX3_runMinute_111 ?_
            refine lv_iconst (v := 1) hx hb dX3_runMinute_114 (by decide) ?_
            refine lv_iadd hx hb dX3_runMinute_115 ?_
            obtain ⟨u5, eu5⟩ : ∃ z0 : Rc, z0 = put u1 30 0 ((u1 30 0) + 1) := ⟨_, rfl⟩
            refine va_put (D := D) (ci := 3) (v := .int ((u1 30 0) + 1)) (ty := .int) (C := RX3) (T := TX3) (N := 4) hx hb hts inX3 tyX3 tyX3_ok nmX3 hown hK hP hD hS 0 rfl rfl 3 (by decide) f25 (fun _ h9 => h9) rfl (by decide +kernel) rfl rfl (Nat.le_of_ble_eq_true rfl) dX3_runMinute_116 (fun H locs hP hD hS => ?_)
            have hP : va_P D vwCl (wTr cI g a r u5) H := by subst eu5; exact hP
            have hD : va_D A (wTr cI g a r u5) := by subst eu5; exact hD
            have h6 : u5 = minF r u := (by (try subst eu5); (try subst eu1); simp only [minF, opt, incS, c2, c3, c4, ↓reduceIte, not_false_eq_true, not_true_eq_false, and_true, true_and, and_false, false_and, or_true, true_or, or_false, false_or, and_self, or_self])
            exact fin _ _ _ _ _ _ _ (congrArg (fun z9 : Rc => wTr cI g a r z9) h6) hP hD hS (Nat.le_of_ble_eq_true rfl) (Nat.le_of_ble_eq_true rfl) dX3_runMinute_119
          · skip
            refine lv_aload_n hx hb dX3_runMinute_96 rfl (lv_at hl 2 rfl) ?_
            refine lv_aload_n hx hb dX3_runMinute_97 rfl (lv_at hl 2 rfl) ?_
            refine va_get (D := D) (ci := 3) (v := .ref (g 0)) (C := RX3) (T := TX3) (N := 4) hx hb hts inX3 hown hK hP 0 rfl rfl 0 (by decide) f29 (fun _ h9 => h9) rfl dX3_runMinute_98 ?_
            refine va_get (D := D) (ci := 1) (v := .ref (g 21)) (C := RX1) (T := TX1) (N := 2) hx hb hts inX1 hown hK hP 17 rfl rfl 1 (by decide) f66 (fun _ h9 => h9) rfl dX3_runMinute_101 ?_
            refine lv_iload_n hx hb dX3_runMinute_104 rfl (lv_at hl 0 rfl) ?_
            refine xald hx hb hK hP 19 rfl rfl (iv (psdF r (u1 30 0 - 5))) (vi_eq (psd_in c4) (by decide)) (vi_lt (psd_in c4)) (by decide) dX3_runMinute_105 ?_
            obtain ⟨u7, eu7⟩ : ∃ z0 : Rc, z0 = shkF (r 21 (iv (psdF r (u1 30 0 - 5)))) u1 := ⟨_, rfl⟩
            refine ycallv (invV (As := [.int (r 21 (iv (psdF r (u1 30 0 - 5))))]) (rest := []) (rm := ({ frames := 2, cells := 0, slots := 0, locals := 45 } : Room)) ⟨hx, hb, hml, hown, hts⟩ (cwV 1 hts gX3_runMinute_X3_shake rfl rfl rfl (by decide +kernel) ⟨Nat.le_of_ble_eq_true rfl, Nat.le_of_ble_eq_true rfl⟩) (va_recv hK hP (ci := 3) (q0 := 0) rfl rfl) rfl rfl hl.1 (Nat.le_of_ble_eq_true rfl) dX3_runMinute_106) (c_X3_shake l D cI g a r u1 ok2 (r 21 (iv (psdF r (u1 30 0 - 5))))) hK hN hA hP hD hS (W2 := wTr cI g a r u7) [0, 1, 2, 3, 4, 5, 6, 7, 8, 9, 10, 11, 12, 13, 14, 15, 16, 17, 18, 19] [] [0, 1, 2, 3, 4, 5, 6, 7, 8, 9, 10, 11, 12, 13, 14, 15, 16, 17, 18, 19] rfl rfl (by subst eu7; rfl) (by decide) ⟨Nat.le_of_ble_eq_true rfl, Nat.le_of_ble_eq_true rfl⟩ (fun H locs hP hD hS => ?_)
            refine lv_aload_n hx hb dX3_runMinute_109 rfl (lv_at hl 2 rfl) ?_
            refine lv_dup hx hb dX3_runMinute_110 rfl ?_
            refine va_get (D := D) (ci := 3) (v := .int (u7 30 0)) (C := RX3) (T := TX3) (N := 4) hx hb hts inX3 hown hK hP 0 rfl rfl 3 (by decide) f25 (fun _ h9 => h9) rfl dX3_runMinute_111 ?_
            refine lv_iconst (v := 1) hx hb dX3_runMinute_114 (by decide) ?_
            refine lv_iadd hx hb dX3_runMinute_115 ?_
            obtain ⟨u8, eu8⟩ : ∃ z0 : Rc, z0 = put u7 30 0 ((u7 30 0) + 1) := ⟨_, rfl⟩
            refine va_put (D := D) (ci := 3) (v := .int ((u7 30 0) + 1)) (ty := .int) (C := RX3) (T := TX3) (N := 4) hx hb hts inX3 tyX3 tyX3_ok nmX3 hown hK hP hD hS 0 rfl rfl 3 (by decide) f25 (fun _ h9 => h9) rfl (by decide +kernel) rfl rfl (Nat.le_of_ble_eq_true rfl) dX3_runMinute_116 (fun H locs hP hD hS => ?_)
            have hP : va_P D vwCl (wTr cI g a r u8) H := by subst eu8; exact hP
            have hD : va_D A (wTr cI g a r u8) := by subst eu8; exact hD
            have h9 : u8 = minF r u := (by (try subst eu8); (try subst eu7); (try subst eu1); simp only [minF, opt, incS, c2, c3, c4, ↓reduceIte, not_false_eq_true, not_true_eq_false, and_true, true_and, and_false, false_and, or_true, true_or, or_false, false_or, and_self, or_self])
            exact fin _ _ _ _ _ _ _ (congrArg (fun z9 : Rc => wTr cI g a r z9) h9) hP hD hS (Nat.le_of_ble_eq_true rfl) (Nat.le_of_ble_eq_true rfl) dX3_runMinute_119
        · skip
          refine lv_aload_n hx hb dX3_runMinute_72 rfl (lv_at hl 1 rfl) ?_
          refine lv_iload_n hx hb dX3_runMinute_73 rfl (lv_at hl 0 rfl) ?_
          obtain ⟨u10, eu10⟩ : ∃ z0 : Rc, z0 = srvF (psdF r (u1 30 0)) u1 := ⟨_, rfl⟩
          refine ycallv (invV (As := [.int (psdF r (u1 30 0))]) (rest := []) (rm := ({ frames := 3, cells := 0, slots := 0, locals := 69 } : Room)) ⟨hx, hb, hml, hown, hts⟩ (cwV 1 hts gX3_runMinute_X3_serve rfl rfl rfl (by decide +kernel) ⟨Nat.le_of_ble_eq_true rfl, Nat.le_of_ble_eq_true rfl⟩) (va_recv hK hP (ci := 3) (q0 := 0) rfl rfl) rfl rfl hl.1 (Nat.le_of_ble_eq_true rfl) dX3_runMinute_74) (c_X3_serve l D cI g a r u1 ok2 (psdF r (u1 30 0))) hK hN hA hP hD hS (W2 := wTr cI g a r u10) [0, 1, 2, 3, 4, 5, 6, 7, 8, 9, 10, 11, 12, 13, 14, 15, 16, 17, 18, 19] [] [0, 1, 2, 3, 4, 5, 6, 7, 8, 9, 10, 11, 12, 13, 14, 15, 16, 17, 18, 19] rfl rfl (by subst eu10; rfl) (by decide) ⟨Nat.le_of_ble_eq_true rfl, Nat.le_of_ble_eq_true rfl⟩ (fun H locs hP hD hS => ?_)
          have oks : Ok u10 := (by (try subst eu10); exact srvF_pr.ok ok2)
          refine lv_aload_n hx hb dX3_runMinute_77 rfl (lv_at hl 1 rfl) ?_
          refine va_get (D := D) (ci := 3) (v := .ref (g 0)) (C := RX3) (T := TX3) (N := 4) hx hb hts inX3 hown hK hP 0 rfl rfl 0 (by decide) f29 (fun _ h9 => h9) rfl dX3_runMinute_78 ?_
          refine lv_aload_n hx hb dX3_runMinute_81 rfl (lv_at hl 1 rfl) ?_
          refine va_get (D := D) (ci := 3) (v := .int (u10 30 0)) (C := RX3) (T := TX3) (N := 4) hx hb hts inX3 hown hK hP 0 rfl rfl 3 (by decide) f25 (fun _ h9 => h9) rfl dX3_runMinute_82 ?_
          refine lv_iconst (v := 5) hx hb dX3_runMinute_85 (by decide) ?_
          refine lv_isub hx hb dX3_runMinute_86 ?_
          refine ycalli (invV (As := [.int ((u10 30 0) - 5)]) (rest := []) (rm := ({ frames := 0, cells := 0, slots := 0, locals := 0 } : Room)) ⟨hx, hb, hml, hown, hts⟩ (cwV 1 hts gX3_runMinute_X1_passedIn rfl rfl rfl (by decide +kernel) ⟨Nat.le_of_ble_eq_true rfl, Nat.le_of_ble_eq_true rfl⟩) (va_recv hK hP (ci := 1) (q0 := 17) rfl rfl) rfl rfl hl.1 (Nat.le_of_ble_eq_true rfl) dX3_runMinute_87) (c_X1_passedIn l D cI g r (u10 30 0 - 5)) hK hN hA hP hD hS (W2 := wTr cI g a r u10) [17, 18, 19] [0, 1, 2, 3, 4, 5, 6, 7, 8, 9, 10, 11, 12, 13, 14, 15, 16] [0, 1, 2, 3, 4, 5, 6, 7, 8, 9, 10, 11, 12, 13, 14, 15, 16, 17, 18, 19] rfl rfl rfl (by decide) ⟨Nat.le_of_ble_eq_true rfl, Nat.le_of_ble_eq_true rfl⟩ (fun H locs hP hD hS => ?_)
          refine lv_istore_n (lv' := [(2, .int (psdF r (u10 30 0 - 5))), (1, .int (psdF r (u1 30 0))), (0, .ref (a 30))]) hx hb dX3_runMinute_90 rfl hl (by decide) rfl (fun ls hl => ?_)
          refine lv_iload_n hx hb dX3_runMinute_91 rfl (lv_at hl 0 rfl) ?_
          refine lv_iconst (v := (-1)) hx hb dX3_runMinute_92 (by decide) ?_
          refine lv_icmp_eq (tgt := 109) hx hb dX3_runMinute_93 (by decide) (fun c11 => ?_) (fun c11 => ?_)
          · skip
            refine lv_aload_n hx hb dX3_runMinute_109 rfl (lv_at hl 2 rfl) ?_
            refine lv_dup hx hb dX3_runMinute_110 rfl ?_
            refine va_get (D := D) (ci := 3) (v := .int (u10 30 0)) (C := RX3) (T := TX3) (N := 4) hx hb hts inX3 hown hK hP 0 rfl rfl 3 (by decide) f25 (fun _ h9 => h9) rfl dX3_runMinute_111 ?_
            refine lv_iconst (v := 1) hx hb dX3_runMinute_114 (by decide) ?_
            refine lv_iadd hx hb dX3_runMinute_115 ?_
            obtain ⟨u12, eu12⟩ : ∃ z0 : Rc, z0 = put u10 30 0 ((u10 30 0) + 1) := ⟨_, rfl⟩
            refine va_put (D := D) (ci := 3) (v := .int ((u10 30 0) + 1)) (ty := .int) (C := RX3) (T := TX3) (N := 4) hx hb hts inX3 tyX3 tyX3_ok nmX3 hown hK hP hD hS 0 rfl rfl 3 (by decide) f25 (fun _ h9 => h9) rfl (by decide +kernel) rfl rfl (Nat.le_of_ble_eq_true rfl) dX3_runMinute_116 (fun H locs hP hD hS => ?_)
            have hP : va_P D vwCl (wTr cI g a r u12) H := by subst eu12; exact hP
            have hD : va_D A (wTr cI g a r u12) := by subst eu12; exact hD
            have h13 : u12 = minF r u := (by (try subst eu12); (try subst eu10); (try subst eu1); simp only [minF, opt, incS, c2, c3, c11, ↓reduceIte, not_false_eq_true, not_true_eq_false, and_true, true_and, and_false, false_and, or_true, true_or, or_false, false_or, and_self, or_self])
            exact fin _ _ _ _ _ _ _ (congrArg (fun z9 : Rc => wTr cI g a r z9) h13) hP hD hS (Nat.le_of_ble_eq_true rfl) (Nat.le_of_ble_eq_true rfl) dX3_runMinute_119
          · skip
            refine lv_aload_n hx hb dX3_runMinute_96 rfl (lv_at hl 2 rfl) ?_
            refine lv_aload_n hx hb dX3_runMinute_97 rfl (lv_at hl 2 rfl) ?_
            refine va_get (D := D) (ci := 3) (v := .ref (g 0)) (C := RX3) (T := TX3) (N := 4) hx hb hts inX3 hown hK hP 0 rfl rfl 0 (by decide) f29 (fun _ h9 => h9) rfl dX3_runMinute_98 ?_
            refine va_get (D := D) (ci := 1) (v := .ref (g 21)) (C := RX1) (T := TX1) (N := 2) hx hb hts inX1 hown hK hP 17 rfl rfl 1 (by decide) f66 (fun _ h9 => h9) rfl dX3_runMinute_101 ?_
            refine lv_iload_n hx hb dX3_runMinute_104 rfl (lv_at hl 0 rfl) ?_
            refine xald hx hb hK hP 19 rfl rfl (iv (psdF r (u10 30 0 - 5))) (vi_eq (psd_in c11) (by decide)) (vi_lt (psd_in c11)) (by decide) dX3_runMinute_105 ?_
            obtain ⟨u14, eu14⟩ : ∃ z0 : Rc, z0 = shkF (r 21 (iv (psdF r (u10 30 0 - 5)))) u10 := ⟨_, rfl⟩
            refine ycallv (invV (As := [.int (r 21 (iv (psdF r (u10 30 0 - 5))))]) (rest := []) (rm := ({ frames := 2, cells := 0, slots := 0, locals := 45 } : Room)) ⟨hx, hb, hml, hown, hts⟩ (cwV 1 hts gX3_runMinute_X3_shake rfl rfl rfl (by decide +kernel) ⟨Nat.le_of_ble_eq_true rfl, Nat.le_of_ble_eq_true rfl⟩) (va_recv hK hP (ci := 3) (q0 := 0) rfl rfl) rfl rfl hl.1 (Nat.le_of_ble_eq_true rfl) dX3_runMinute_106) (c_X3_shake l D cI g a r u10 oks (r 21 (iv (psdF r (u10 30 0 - 5))))) hK hN hA hP hD hS (W2 := wTr cI g a r u14) [0, 1, 2, 3, 4, 5, 6, 7, 8, 9, 10, 11, 12, 13, 14, 15, 16, 17, 18, 19] [] [0, 1, 2, 3, 4, 5, 6, 7, 8, 9, 10, 11, 12, 13, 14, 15, 16, 17, 18, 19] rfl rfl (by subst eu14; rfl) (by decide) ⟨Nat.le_of_ble_eq_true rfl, Nat.le_of_ble_eq_true rfl⟩ (fun H locs hP hD hS => ?_)
            refine lv_aload_n hx hb dX3_runMinute_109 rfl (lv_at hl 2 rfl) ?_
            refine lv_dup hx hb dX3_runMinute_110 rfl ?_
            refine va_get (D := D) (ci := 3) (v := .int (u14 30 0)) (C := RX3) (T := TX3) (N := 4) hx hb hts inX3 hown hK hP 0 rfl rfl 3 (by decide) f25 (fun _ h9 => h9) rfl dX3_runMinute_111 ?_
            refine lv_iconst (v := 1) hx hb dX3_runMinute_114 (by decide) ?_
            refine lv_iadd hx hb dX3_runMinute_115 ?_
            obtain ⟨u15, eu15⟩ : ∃ z0 : Rc, z0 = put u14 30 0 ((u14 30 0) + 1) := ⟨_, rfl⟩
            refine va_put (D := D) (ci := 3) (v := .int ((u14 30 0) + 1)) (ty := .int) (C := RX3) (T := TX3) (N := 4) hx hb hts inX3 tyX3 tyX3_ok nmX3 hown hK hP hD hS 0 rfl rfl 3 (by decide) f25 (fun _ h9 => h9) rfl (by decide +kernel) rfl rfl (Nat.le_of_ble_eq_true rfl) dX3_runMinute_116 (fun H locs hP hD hS => ?_)
            have hP : va_P D vwCl (wTr cI g a r u15) H := by subst eu15; exact hP
            have hD : va_D A (wTr cI g a r u15) := by subst eu15; exact hD
            have h16 : u15 = minF r u := (by (try subst eu15); (try subst eu14); (try subst eu10); (try subst eu1); simp only [minF, opt, incS, c2, c3, c11, ↓reduceIte, not_false_eq_true, not_true_eq_false, and_true, true_and, and_false, false_and, or_true, true_or, or_false, false_or, and_self, or_self])
            exact fin _ _ _ _ _ _ _ (congrArg (fun z9 : Rc => wTr cI g a r z9) h16) hP hD hS (Nat.le_of_ble_eq_true rfl) (Nat.le_of_ble_eq_true rfl) dX3_runMinute_119
      · skip
        have hlt := lp_in hb0 (by omega) hi2 c2
        refine lv_aload_n hx hb dX3_runMinute_13 rfl (lv_at hl 1 rfl) ?_
        refine va_get (D := D) (ci := 3) (v := .ref (a 10)) (C := RX3) (T := TX3) (N := 4) hx hb hts inX3 hown hK hP 0 rfl rfl 2 (by decide) f21 (fun _ h9 => h9) rfl dX3_runMinute_14 ?_
        refine va_get (D := D) (ci := 0) (v := .ref (a 15)) (C := RX0) (T := TX0) (N := 8) hx hb hts inX0 hown hK hP 9 rfl rfl 5 (by decide) f46 (fun _ h9 => h9) rfl dX3_runMinute_17 ?_
        refine lv_iload_n hx hb dX3_runMinute_20 rfl (lv_at hl 0 rfl) ?_
        refine xald hx hb hK hP 14 rfl rfl (i2) (rfl) (by omega) (by decide) dX3_runMinute_21 ?_
        refine lv_iconst (v := (-1)) hx hb dX3_runMinute_22 (by decide) ?_
        refine lv_icmp_ne (tgt := 31) hx hb dX3_runMinute_23 (by decide) (fun c17 => ?_) (fun c17 => ?_)
        · skip
          refine lv_aload_n hx hb dX3_runMinute_31 rfl (lv_at hl 1 rfl) ?_
          refine va_get (D := D) (ci := 3) (v := .ref (a 10)) (C := RX3) (T := TX3) (N := 4) hx hb hts inX3 hown hK hP 0 rfl rfl 2 (by decide) f21 (fun _ h9 => h9) rfl dX3_runMinute_32 ?_
          refine va_get (D := D) (ci := 0) (v := .ref (a 15)) (C := RX0) (T := TX0) (N := 8) hx hb hts inX0 hown hK hP 9 rfl rfl 5 (by decide) f46 (fun _ h9 => h9) rfl dX3_runMinute_35 ?_
          refine lv_iload_n hx hb dX3_runMinute_38 rfl (lv_at hl 0 rfl) ?_
          refine xald hx hb hK hP 14 rfl rfl (i2) (rfl) (by omega) (by decide) dX3_runMinute_39 ?_
          refine lv_iconst (v := (-1)) hx hb dX3_runMinute_40 (by decide) ?_
          refine lv_icmp_eq (tgt := 49) hx hb dX3_runMinute_41 (by decide) (fun c18 => ?_) (fun c18 => ?_)
          · skip
            refine lv_iinc (v := nI (i2 + 1)) (lv' := [(1, .int (nI (i2 + 1))), (0, .ref (a 30))]) hx hb dX3_runMinute_49 hl (k := 0) rfl (nI_inc _) (by decide) rfl (fun ls hl => ?_)
            refine lv_goto (tgt := 2) hx hb dX3_runMinute_52 (by decide) ?_
            have h19 : u1 = itN sorB (i2 + 1) u := by first | exact absurd c18 c17 | (rw [itN_s, ← eu1];  unfold sorB; first | rw [opt_f (p := fun w => w 15 i2 = -1) c17, opt_t (p := fun w => ¬ w 15 i2 = -1) c18] | rw [opt_t (p := fun w => w 15 i2 = -1) c17, opt_f (p := fun w => ¬ w 15 i2 = -1) (fun h => h c18)] | rw [opt_t (p := fun w => w 15 i2 = -1) c17, opt_t (p := fun w => ¬ w 15 i2 = -1) c18])
            rw [h19] at hP hD
            exact ih2 (i2 + 1) (by omega) (by omega) (by omega) H locs hP hD hS ls (lv_sub hl [0, 1] rfl)
          · skip
            refine lv_aload_n hx hb dX3_runMinute_44 rfl (lv_at hl 1 rfl) ?_
            refine lv_iload_n hx hb dX3_runMinute_45 rfl (lv_at hl 0 rfl) ?_
            obtain ⟨u20, eu20⟩ : ∃ z0 : Rc, z0 = wkF i2 u1 := ⟨_, rfl⟩
            refine ycallv (invV (As := [.int (nI i2)]) (rest := []) (rm := ({ frames := 2, cells := 0, slots := 0, locals := 45 } : Room)) ⟨hx, hb, hml, hown, hts⟩ (cwV 1 hts gX3_runMinute_X3_workOn rfl rfl rfl (by decide +kernel) ⟨Nat.le_of_ble_eq_true rfl, Nat.le_of_ble_eq_true rfl⟩) (va_recv hK hP (ci := 3) (q0 := 0) rfl rfl) rfl rfl hl.1 (Nat.le_of_ble_eq_true rfl) dX3_runMinute_46) (c_X3_workOn l D cI g a r u1 ok2 i2 (by omega) (nI i2) rfl c18) hK hN hA hP hD hS (W2 := wTr cI g a r u20) [0, 1, 2, 3, 4, 5, 6, 7, 8, 9, 10, 11, 12, 13, 14, 15, 16, 17, 18, 19] [] [0, 1, 2, 3, 4, 5, 6, 7, 8, 9, 10, 11, 12, 13, 14, 15, 16, 17, 18, 19] rfl rfl (by subst eu20; rfl) (by decide) ⟨Nat.le_of_ble_eq_true rfl, Nat.le_of_ble_eq_true rfl⟩ (fun H locs hP hD hS => ?_)
            refine lv_iinc (v := nI (i2 + 1)) (lv' := [(1, .int (nI (i2 + 1))), (0, .ref (a 30))]) hx hb dX3_runMinute_49 hl (k := 0) rfl (nI_inc _) (by decide) rfl (fun ls hl => ?_)
            refine lv_goto (tgt := 2) hx hb dX3_runMinute_52 (by decide) ?_
            have h21 : u20 = itN sorB (i2 + 1) u := by first | exact absurd c18 c17 | (rw [itN_s, ← eu1]; (try subst eu20); unfold sorB; first | rw [opt_f (p := fun w => w 15 i2 = -1) c17, opt_t (p := fun w => ¬ w 15 i2 = -1) c18] | rw [opt_t (p := fun w => w 15 i2 = -1) c17, opt_f (p := fun w => ¬ w 15 i2 = -1) (fun h => h c18)] | rw [opt_t (p := fun w => w 15 i2 = -1) c17, opt_t (p := fun w => ¬ w 15 i2 = -1) c18])
            rw [h21] at hP hD
            exact ih2 (i2 + 1) (by omega) (by omega) (by omega) H locs hP hD hS ls (lv_sub hl [0, 1] rfl)
        · skip
          refine lv_aload_n hx hb dX3_runMinute_26 rfl (lv_at hl 1 rfl) ?_
          refine lv_iload_n hx hb dX3_runMinute_27 rfl (lv_at hl 0 rfl) ?_
          obtain ⟨u22, eu22⟩ : ∃ z0 : Rc, z0 = tkF i2 u1 := ⟨_, rfl⟩
          refine ycallv (invV (As := [.int (nI i2)]) (rest := []) (rm := ({ frames := 2, cells := 0, slots := 0, locals := 45 } : Room)) ⟨hx, hb, hml, hown, hts⟩ (cwV 1 hts gX3_runMinute_X3_takeLetter rfl rfl rfl (by decide +kernel) ⟨Nat.le_of_ble_eq_true rfl, Nat.le_of_ble_eq_true rfl⟩) (va_recv hK hP (ci := 3) (q0 := 0) rfl rfl) rfl rfl hl.1 (Nat.le_of_ble_eq_true rfl) dX3_runMinute_28) (c_X3_takeLetter l D cI g a r u1 ok2 i2 (by omega) (nI i2) rfl) hK hN hA hP hD hS (W2 := wTr cI g a r u22) [0, 1, 2, 3, 4, 5, 6, 7, 8, 9, 10, 11, 12, 13, 14, 15, 16, 17, 18, 19] [] [0, 1, 2, 3, 4, 5, 6, 7, 8, 9, 10, 11, 12, 13, 14, 15, 16, 17, 18, 19] rfl rfl (by subst eu22; rfl) (by decide) ⟨Nat.le_of_ble_eq_true rfl, Nat.le_of_ble_eq_true rfl⟩ (fun H locs hP hD hS => ?_)
          have okt : Ok u22 := (by (try subst eu22); exact (tkF_pr (by omega)).ok ok2)
          refine lv_aload_n hx hb dX3_runMinute_31 rfl (lv_at hl 1 rfl) ?_
          refine va_get (D := D) (ci := 3) (v := .ref (a 10)) (C := RX3) (T := TX3) (N := 4) hx hb hts inX3 hown hK hP 0 rfl rfl 2 (by decide) f21 (fun _ h9 => h9) rfl dX3_runMinute_32 ?_
          refine va_get (D := D) (ci := 0) (v := .ref (a 15)) (C := RX0) (T := TX0) (N := 8) hx hb hts inX0 hown hK hP 9 rfl rfl 5 (by decide) f46 (fun _ h9 => h9) rfl dX3_runMinute_35 ?_
          refine lv_iload_n hx hb dX3_runMinute_38 rfl (lv_at hl 0 rfl) ?_
          refine xald hx hb hK hP 14 rfl rfl (i2) (rfl) (by omega) (by decide) dX3_runMinute_39 ?_
          refine lv_iconst (v := (-1)) hx hb dX3_runMinute_40 (by decide) ?_
          refine lv_icmp_eq (tgt := 49) hx hb dX3_runMinute_41 (by decide) (fun c23 => ?_) (fun c23 => ?_)
          · skip
            refine lv_iinc (v := nI (i2 + 1)) (lv' := [(1, .int (nI (i2 + 1))), (0, .ref (a 30))]) hx hb dX3_runMinute_49 hl (k := 0) rfl (nI_inc _) (by decide) rfl (fun ls hl => ?_)
            refine lv_goto (tgt := 2) hx hb dX3_runMinute_52 (by decide) ?_
            have h24 : u22 = itN sorB (i2 + 1) u := by first | exact absurd c23 c17 | (rw [itN_s, ← eu1]; (try subst eu22); unfold sorB; first | rw [opt_f (p := fun w => w 15 i2 = -1) c17, opt_t (p := fun w => ¬ w 15 i2 = -1) c23] | rw [opt_t (p := fun w => w 15 i2 = -1) c17, opt_f (p := fun w => ¬ w 15 i2 = -1) (fun h => h c23)] | rw [opt_t (p := fun w => w 15 i2 = -1) c17, opt_t (p := fun w => ¬ w 15 i2 = -1) c23])
            rw [h24] at hP hD
            exact ih2 (i2 + 1) (by omega) (by omega) (by omega) H locs hP hD hS ls (lv_sub hl [0, 1] rfl)
          · skip
            refine lv_aload_n hx hb dX3_runMinute_44 rfl (lv_at hl 1 rfl) ?_
            refine lv_iload_n hx hb dX3_runMinute_45 rfl (lv_at hl 0 rfl) ?_
            obtain ⟨u25, eu25⟩ : ∃ z0 : Rc, z0 = wkF i2 u22 := ⟨_, rfl⟩
            refine ycallv (invV (As := [.int (nI i2)]) (rest := []) (rm := ({ frames := 2, cells := 0, slots := 0, locals := 45 } : Room)) ⟨hx, hb, hml, hown, hts⟩ (cwV 1 hts gX3_runMinute_X3_workOn rfl rfl rfl (by decide +kernel) ⟨Nat.le_of_ble_eq_true rfl, Nat.le_of_ble_eq_true rfl⟩) (va_recv hK hP (ci := 3) (q0 := 0) rfl rfl) rfl rfl hl.1 (Nat.le_of_ble_eq_true rfl) dX3_runMinute_46) (c_X3_workOn l D cI g a r u22 okt i2 (by omega) (nI i2) rfl c23) hK hN hA hP hD hS (W2 := wTr cI g a r u25) [0, 1, 2, 3, 4, 5, 6, 7, 8, 9, 10, 11, 12, 13, 14, 15, 16, 17, 18, 19] [] [0, 1, 2, 3, 4, 5, 6, 7, 8, 9, 10, 11, 12, 13, 14, 15, 16, 17, 18, 19] rfl rfl (by subst eu25; rfl) (by decide) ⟨Nat.le_of_ble_eq_true rfl, Nat.le_of_ble_eq_true rfl⟩ (fun H locs hP hD hS => ?_)
            refine lv_iinc (v := nI (i2 + 1)) (lv' := [(1, .int (nI (i2 + 1))), (0, .ref (a 30))]) hx hb dX3_runMinute_49 hl (k := 0) rfl (nI_inc _) (by decide) rfl (fun ls hl => ?_)
            refine lv_goto (tgt := 2) hx hb dX3_runMinute_52 (by decide) ?_
            have h26 : u25 = itN sorB (i2 + 1) u := by first | exact absurd c23 c17 | (rw [itN_s, ← eu1]; (try subst eu25); (try subst eu22); unfold sorB; first | rw [opt_f (p := fun w => w 15 i2 = -1) c17, opt_t (p := fun w => ¬ w 15 i2 = -1) c23] | rw [opt_t (p := fun w => w 15 i2 = -1) c17, opt_f (p := fun w => ¬ w 15 i2 = -1) (fun h => h c23)] | rw [opt_t (p := fun w => w 15 i2 = -1) c17, opt_t (p := fun w => ¬ w 15 i2 = -1) c23])
            rw [h26] at hP hD
            exact ih2 (i2 + 1) (by omega) (by omega) (by omega) H locs hP hD hS ls (lv_sub hl [0, 1] rfl)
  exact K2 (iv (u 10 0) + 1) 0 (Nat.le_refl _) (by omega) (by omega) _ _ hP hD hS ls (lv_sub hl [0, 1] rfl)
set_option maxHeartbeats 4000000 in
set_option maxRecDepth 100000 in
theorem c_X3_run (l : Launch) (D : va_G) (cI : ClassId) (g a : Nat → Nat) (r u : Rc) (ok : Ok u) (k : Nat) (hk : k ≤ 300) (x : Int32) (ex : x = nI k) : CV l yX3_run wsX3_run ({ frames := 5, cells := 0, slots := 0, locals := 113 } : Room) D cI [.ref (a 30), .int x] (wTr cI g a r u) (wTr cI g a r (runF r k u)) := by
  refine CV.mk (cc := cX3_run) (maxL := 3) (by decide) rfl (Nat.le_of_ble_eq_true rfl) ?_
  intro p e s m args below meth c A Q ls hx hb hts hown hml hK hN hA hP hD hS hl fin
  have hown : s.vm.findClass RX3 = some m.cls := hown
  subst ex
  have hl : lv_has ls 3 [(0, .ref (a 30)), (1, .int (nI k))] := hl
  refine lv_iconst (v := 0) hx hb dX3_run_0 (by decide) ?_
  refine lv_istore_n (lv' := [(2, .int 0), (0, .ref (a 30)), (1, .int (nI k))]) hx hb dX3_run_1 rfl hl (by decide) rfl (fun ls hl => ?_)
  have K2 : ∀ (n2 i2 : Nat), 0 ≤ i2 → i2 ≤ k → k < i2 + n2 → ∀ (H : Heap) (locs : List Loc), va_P D vwCl (wTr cI g a r (itN (fun _ w => minF r w) i2 u)) H → va_D A (wTr cI g a r (itN (fun _ w => minF r w) i2 u)) → va_S A s.heap H locs → ∀ (ls : Array Slot), lv_has ls 3 [(2, .int (nI i2)), (0, .ref (a 30)), (1, .int (nI k))] → W p l e ({ frames := 5, cells := 0, slots := 0, locals := 113 } : Room) s m args below meth c H locs (0) (0) Q (F0 m 2 ls []) := by
    intro n2
    induction n2 with
    | zero => intro i2 hlo2 hi2 hn2; exact absurd hn2 (by omega)
    | succ n2 ih2 =>
      intro i2 hlo2 hi2 hn2 H locs hP hD hS ls hl
      obtain ⟨u1, eu1⟩ : ∃ z : Rc, z = itN (fun _ w => minF r w) i2 u := ⟨_, rfl⟩
      rw [← eu1] at hP hD
      have hp : Pr u u1 := by rw [eu1]; exact Pr.it (fun _ _ => minF_pr) _
      have ok2 : Ok u1 := hp.ok ok
      refine lv_iload_n hx hb dX3_run_2 rfl (lv_at hl 0 rfl) ?_
      refine lv_iload_n hx hb dX3_run_3 rfl (lv_at hl 2 rfl) ?_
      refine lv_icmp_ge (tgt := 17) hx hb dX3_run_4 (by decide) (fun c2 => ?_) (fun c2 => ?_)
      · skip
        have hie := lp_out (show nI k = nI k from rfl) (by omega) hi2 c2
        have h3 : u1 = runF r k u := (by rw [eu1, hie]; rfl)
        exact fin _ _ _ _ _ _ _ (congrArg (fun z9 : Rc => wTr cI g a r z9) h3) hP hD hS (Nat.le_of_ble_eq_true rfl) (Nat.le_of_ble_eq_true rfl) dX3_run_17
      · skip
        have hlt := lp_in (show nI k = nI k from rfl) (by omega) hi2 c2
        refine lv_aload_n hx hb dX3_run_7 rfl (lv_at hl 1 rfl) ?_
        obtain ⟨u4, eu4⟩ : ∃ z0 : Rc, z0 = minF r u1 := ⟨_, rfl⟩
        refine ycallv (invV (As := []) (rest := []) (rm := ({ frames := 4, cells := 0, slots := 0, locals := 91 } : Room)) ⟨hx, hb, hml, hown, hts⟩ (cwV 0 hts gX3_run_X3_runMinute rfl rfl rfl (by decide +kernel) ⟨Nat.le_of_ble_eq_true rfl, Nat.le_of_ble_eq_true rfl⟩) (va_recv hK hP (ci := 3) (q0 := 0) rfl rfl) rfl rfl hl.1 (Nat.le_of_ble_eq_true rfl) dX3_run_8) (c_X3_runMinute l D cI g a r u1 ok2) hK hN hA hP hD hS (W2 := wTr cI g a r u4) [0, 1, 2, 3, 4, 5, 6, 7, 8, 9, 10, 11, 12, 13, 14, 15, 16, 17, 18, 19] [] [0, 1, 2, 3, 4, 5, 6, 7, 8, 9, 10, 11, 12, 13, 14, 15, 16, 17, 18, 19] rfl rfl (by subst eu4; rfl) (by decide) ⟨Nat.le_of_ble_eq_true rfl, Nat.le_of_ble_eq_true rfl⟩ (fun H locs hP hD hS => ?_)
        refine lv_iinc (v := nI (i2 + 1)) (lv' := [(2, .int (nI (i2 + 1))), (0, .ref (a 30)), (1, .int (nI k))]) hx hb dX3_run_11 hl (k := 0) rfl (nI_inc _) (by decide) rfl (fun ls hl => ?_)
        refine lv_goto (tgt := 2) hx hb dX3_run_14 (by decide) ?_
        have h5 : u4 = itN (fun _ w => minF r w) (i2 + 1) u := by rw [itN_s, ← eu1]; (try subst eu4); simp only [c2, ↓reduceIte, not_false_eq_true, not_true_eq_false, and_true, true_and, and_false, false_and, or_true, true_or, or_false, false_or, and_self, or_self]
        rw [h5] at hP hD
        exact ih2 (i2 + 1) (by omega) (by omega) (by omega) H locs hP hD hS ls (lv_sub hl [0, 1, 2] rfl)
  exact K2 (k + 1) 0 (Nat.le_refl _) (by omega) (by omega) _ _ hP hD hS ls (lv_sub hl [0, 1, 2] rfl)
set_option maxHeartbeats 4000000 in
set_option maxRecDepth 100000 in
theorem c_X3_copyFrom (l : Launch) (D : va_G) (cI : ClassId) (g a b : Nat → Nat) (u v : Rc) : CV l yX3_copyFrom wsX3_copyFrom ({ frames := 2, cells := 0, slots := 0, locals := 81 } : Room) D cI [.ref (a 30), .ref (b 30)] (wTr2 cI g a b u v) (wTr2 cI g a b v v) := by
  refine CV.mk (cc := cX3_copyFrom) (maxL := 2) (by decide) rfl (Nat.le_of_ble_eq_true rfl) ?_
  intro p e s m args below meth c A Q ls hx hb hts hown hml hK hN hA hP hD hS hl fin
  have hown : s.vm.findClass RX3 = some m.cls := hown
  have hl : lv_has ls 2 [(0, .ref (a 30)), (1, .ref (b 30))] := hl
  have f12 := hts (.fieldLink RX3 12 "NightSorters$Train" "mail" "LNightSorters$Mail;") (by decide +kernel)
  have f21 := hts (.fieldLink RX3 21 "NightSorters$Train" "crew" "LNightSorters$Crew;") (by decide +kernel)
  have f25 := hts (.fieldLink RX3 25 "NightSorters$Train" "minute" "I") (by decide +kernel)
  have inX3 : ∀ w ∈ wsX30, w ∈ wsX3_copyFrom := by decide +kernel
  refine lv_aload_n hx hb dX3_copyFrom_0 rfl (lv_at hl 0 rfl) ?_
  refine lv_aload_n hx hb dX3_copyFrom_1 rfl (lv_at hl 1 rfl) ?_
  refine va_get (D := D) (ci := 3) (v := .int (v 30 0)) (C := RX3) (T := TX3) (N := 4) hx hb hts inX3 hown hK hP 17 rfl rfl 3 (by decide) f25 (fun _ h9 => h9) rfl dX3_copyFrom_2 ?_
  obtain ⟨u1, eu1⟩ : ∃ z0 : Rc, z0 = put u 30 0 (v 30 0) := ⟨_, rfl⟩
  refine va_put (D := D) (ci := 3) (v := .int (v 30 0)) (ty := .int) (C := RX3) (T := TX3) (N := 4) hx hb hts inX3 tyX3 tyX3_ok nmX3 hown hK hP hD hS 0 rfl rfl 3 (by decide) f25 (fun _ h9 => h9) rfl (by decide +kernel) rfl rfl (Nat.le_of_ble_eq_true rfl) dX3_copyFrom_5 (fun H locs hP hD hS => ?_)
  have hP : va_P D vwCl (wTr2 cI g a b u1 v) H := by subst eu1; exact hP
  have hD : va_D A (wTr2 cI g a b u1 v) := by subst eu1; exact hD
  refine lv_aload_n hx hb dX3_copyFrom_8 rfl (lv_at hl 0 rfl) ?_
  refine va_get (D := D) (ci := 3) (v := .ref (a 0)) (C := RX3) (T := TX3) (N := 4) hx hb hts inX3 hown hK hP 0 rfl rfl 1 (by decide) f12 (fun _ h9 => h9) rfl dX3_copyFrom_9 ?_
  refine lv_aload_n hx hb dX3_copyFrom_12 rfl (lv_at hl 1 rfl) ?_
  refine va_get (D := D) (ci := 3) (v := .ref (b 0)) (C := RX3) (T := TX3) (N := 4) hx hb hts inX3 hown hK hP 17 rfl rfl 1 (by decide) f12 (fun _ h9 => h9) rfl dX3_copyFrom_13 ?_
  obtain ⟨u2, eu2⟩ : ∃ z0 : Rc, z0 = cpM u1 v := ⟨_, rfl⟩
  refine ycallv (invV (As := [.ref (b 0)]) (rest := []) (rm := ({ frames := 1, cells := 0, slots := 0, locals := 60 } : Room)) ⟨hx, hb, hml, hown, hts⟩ (cwV 1 hts gX3_copyFrom_X2_copyFrom rfl rfl rfl (by decide +kernel) ⟨Nat.le_of_ble_eq_true rfl, Nat.le_of_ble_eq_true rfl⟩) (va_recv hK hP (ci := 2) (q0 := 1) rfl rfl) rfl rfl hl.1 (Nat.le_of_ble_eq_true rfl) dX3_copyFrom_16) (c_X2_copyFrom l D cI a b u1 v) hK hN hA hP hD hS (W2 := wTr2 cI g a b u2 v) [1, 2, 3, 4, 5, 6, 7, 8, 18, 19, 20, 21, 22, 23, 24, 25] [0, 9, 10, 11, 12, 13, 14, 15, 16, 17, 26, 27, 28, 29, 30, 31, 32, 33] [0, 18, 19, 20, 21, 22, 23, 24, 25, 1, 2, 3, 4, 5, 6, 7, 8, 9, 26, 27, 28, 29, 30, 31, 32, 33, 10, 11, 12, 13, 14, 15, 16, 17] rfl rfl (by subst eu2; rfl) (by decide) ⟨Nat.le_of_ble_eq_true rfl, Nat.le_of_ble_eq_true rfl⟩ (fun H locs hP hD hS => ?_)
  refine lv_aload_n hx hb dX3_copyFrom_19 rfl (lv_at hl 0 rfl) ?_
  refine va_get (D := D) (ci := 3) (v := .ref (a 10)) (C := RX3) (T := TX3) (N := 4) hx hb hts inX3 hown hK hP 0 rfl rfl 2 (by decide) f21 (fun _ h9 => h9) rfl dX3_copyFrom_20 ?_
  refine lv_aload_n hx hb dX3_copyFrom_23 rfl (lv_at hl 1 rfl) ?_
  refine va_get (D := D) (ci := 3) (v := .ref (b 10)) (C := RX3) (T := TX3) (N := 4) hx hb hts inX3 hown hK hP 17 rfl rfl 2 (by decide) f21 (fun _ h9 => h9) rfl dX3_copyFrom_24 ?_
  obtain ⟨u3, eu3⟩ : ∃ z0 : Rc, z0 = cpC u2 v := ⟨_, rfl⟩
  refine ycallv (invV (As := [.ref (b 10)]) (rest := []) (rm := ({ frames := 1, cells := 0, slots := 0, locals := 60 } : Room)) ⟨hx, hb, hml, hown, hts⟩ (cwV 1 hts gX3_copyFrom_X0_copyFrom rfl rfl rfl (by decide +kernel) ⟨Nat.le_of_ble_eq_true rfl, Nat.le_of_ble_eq_true rfl⟩) (va_recv hK hP (ci := 0) (q0 := 9) rfl rfl) rfl rfl hl.1 (Nat.le_of_ble_eq_true rfl) dX3_copyFrom_27) (c_X0_copyFrom l D cI a b u2 v) hK hN hA hP hD hS (W2 := wTr2 cI g a b u3 v) [9, 10, 11, 12, 13, 14, 15, 16, 26, 27, 28, 29, 30, 31, 32, 33] [0, 1, 2, 3, 4, 5, 6, 7, 8, 17, 18, 19, 20, 21, 22, 23, 24, 25] [0, 1, 2, 3, 4, 5, 6, 7, 8, 18, 19, 20, 21, 22, 23, 24, 25, 9, 10, 11, 12, 13, 14, 15, 16, 17, 26, 27, 28, 29, 30, 31, 32, 33] rfl rfl (by subst eu3; rfl) (by decide) ⟨Nat.le_of_ble_eq_true rfl, Nat.le_of_ble_eq_true rfl⟩ (fun H locs hP hD hS => ?_)
  exact fin _ _ _ _ _ _ _ (by (try subst eu3); (try subst eu2); (try subst eu1); rfl) hP hD hS (Nat.le_of_ble_eq_true rfl) (Nat.le_of_ble_eq_true rfl) dX3_copyFrom_30
