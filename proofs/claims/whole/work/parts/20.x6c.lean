/-! the reference's advise and digest -/
theorem adR_0 {n q : Rc} {s k : Nat} : advR n q s k 0 = (sumR n q k, -1) := rfl
theorem adR_n {n q : Rc} {s k t : Nat} (c : ¬ (advR n q s k t).1 < sumR n (put q 12 s (q 12 s ||| ((1 : Int32) <<< (nI t &&& 31)))) k) : advR n q s k (t + 1) = advR n q s k t := by
  rw [advR, if_pos (Int32.not_lt.mp c)]
theorem adR_y {n q : Rc} {s k t : Nat} (c : (advR n q s k t).1 < sumR n (put q 12 s (q 12 s ||| ((1 : Int32) <<< (nI t &&& 31)))) k) : advR n q s k (t + 1) = (sumR n (put q 12 s (q 12 s ||| ((1 : Int32) <<< (nI t &&& 31)))) k, nI t) := by
  rw [advR, if_neg (Int32.not_le.mpr c)]
def cntR1 (n q : Rc) (i : Nat) : Int32 := cntR n q (nI i)
def stR1 (n q : Rc) (s i : Nat) : Int32 := stR n q s (nI i)
def hoR1 (n q : Rc) (i : Nat) : Int32 := holeR n q (nI i)
def dgR1 (n q : Rc) : Int64 := dg (cntR1 n q) 10 1049
def dgR2 (n q : Rc) : Int64 := dg2 (stR1 n q) 3 8 (dgR1 n q)
def dgR3 (n q : Rc) : Int64 := dg (hoR1 n q) 16 (dgR2 n q)
def dgR4 (n q : Rc) : Int64 := dg2 (cfR n q) 7 (iv (n 10 0)) (dgR3 n q)
def dgR5 (n q : Rc) : Int64 := dg2 (mfR n q) 5 (iv (n 0 0)) (dgR4 n q)
set_option maxHeartbeats 4000000 in
set_option maxRecDepth 100000 in
theorem c_X6_advise (l : Launch) (D : va_G) (cI : ClassId) (h b d : Nat → Nat) (n q w0 : Rc) (okn : Ok n) (okq : Ok q) (hJ : JR (iv (n 0 0)) (iv (n 10 0)) q) (s9 : Nat) (hs : s9 < 4) (x : Int32) (ex : x = nI s9) (hr : ¬ nI s9 < 0 ∧ ¬ (n 10 0 - 1) < nI s9) (k9 : Nat) (hk1 : 1 ≤ k9) (hk9 : k9 ≤ 120) (y : Int32) (ey : y = nI k9) : CIE l yX6_advise wsX6_advise ({ frames := 5, cells := 0, slots := 0, locals := 149 } : Room) D cI [.ref (h 0), .int x, .int y] (wMo cI h b d n q w0) ((advR (put n 31 0 0) q s9 k9 16).2) (fun v9 => wMo cI h b d (put n 31 0 0) q v9) := by
  refine CIE.mk (cc := cX6_advise) (maxL := 7) (ret := (some .int)) rfl rfl (by decide) rfl (Nat.le_of_ble_eq_true rfl) ?_
  intro p e s m args below meth c A Q ls hx hb hts hown hml hK hN hA hP hD hS hl fin
  have hown : s.vm.findClass RX6 = some m.cls := hown
  subst ex
  subst ey
  have hl : lv_has ls 7 [(0, .ref (h 0)), (1, .int (nI s9)), (2, .int (nI k9))] := hl
  have f30 := hts (.fieldLink RX6 30 "NightSortersModel" "s" "LNightSortersModel$State;") (by decide +kernel)
  have f34 := hts (.fieldLink RX6 34 "NightSortersModel" "ahead" "LNightSortersModel$State;") (by decide +kernel)
  have f37 := hts (.fieldLink RX6 37 "NightSortersModel" "thrown" "I") (by decide +kernel)
  have inX5 : ∀ w ∈ wsX50, w ∈ wsX6_advise := by decide +kernel
  have inX6 : ∀ w ∈ wsX60, w ∈ wsX6_advise := by decide +kernel
  refine lv_aload_n hx hb dX6_advise_0 rfl (lv_at hl 0 rfl) ?_
  refine lv_iconst (v := 0) hx hb dX6_advise_1 (by decide) ?_
  obtain ⟨u1, eu1⟩ : ∃ z0 : Rc, z0 = put n 31 0 0 := ⟨_, rfl⟩
  refine va_put (D := D) (ci := 6) (v := .int 0) (ty := .int) (C := RX6) (T := TX6) (N := 10) hx hb hts inX6 tyX6 tyX6_ok nmX6 hown hK hP hD hS 0 rfl rfl 0 (by decide) f37 (fun _ h9 => h9) rfl (by decide +kernel) rfl rfl (Nat.le_of_ble_eq_true rfl) dX6_advise_2 (fun H locs hP hD hS => ?_)
  have hP : va_P D vwCl (wMo cI h b d u1 q w0) H := by subst eu1; exact hP
  have hD : va_D A (wMo cI h b d u1 q w0) := by subst eu1; exact hD
  have okn1 : Ok u1 := (by (try subst eu1); exact Ok.ptt okn trivial)
  have hJ1 : JR (iv (u1 0 0)) (iv (u1 10 0)) q := (by (try subst eu1); exact hJ)
  refine lv_aload_n hx hb dX6_advise_5 rfl (lv_at hl 0 rfl) ?_
  refine lv_iload_n hx hb dX6_advise_6 rfl (lv_at hl 1 rfl) ?_
  refine ycalli (invV (As := [.int (nI s9)]) (rest := []) (rm := ({ frames := 1, cells := 0, slots := 0, locals := 22 } : Room)) ⟨hx, hb, hml, hown, hts⟩ (cwV 1 hts gX6_advise_X6_isSorter rfl rfl rfl (by decide +kernel) ⟨Nat.le_of_ble_eq_true rfl, Nat.le_of_ble_eq_true rfl⟩) (va_recv hK hP (ci := 6) (q0 := 0) rfl rfl) rfl rfl hl.1 (Nat.le_of_ble_eq_true rfl) dX6_advise_7) (c_X6_isSorter l D cI h b d u1 q w0 (nI s9)) hK hN hA hP hD hS (W2 := wMo cI h b d u1 q w0) [0, 1, 2, 3, 4, 5, 6, 7, 8, 9, 10, 11, 12, 13, 14, 15, 16, 17, 18, 19, 20, 21, 22, 23, 24, 25] [] [0, 1, 2, 3, 4, 5, 6, 7, 8, 9, 10, 11, 12, 13, 14, 15, 16, 17, 18, 19, 20, 21, 22, 23, 24, 25] rfl rfl rfl (by decide) ⟨Nat.le_of_ble_eq_true rfl, Nat.le_of_ble_eq_true rfl⟩ (fun H locs hP hD hS => ?_)
  refine lv_if_ne (tgt := 19) hx hb dX6_advise_10 (by decide) (fun c2 => ?_) (fun c2 => ?_)
  · skip
    have c2 := b01f c2
    refine lv_iload_n hx hb dX6_advise_19 rfl (lv_at hl 2 rfl) ?_
    refine lv_iconst (v := 1) hx hb dX6_advise_20 (by decide) ?_
    refine lv_bipush (v := 120) hx hb dX6_advise_21 (by decide) ?_
    refine ycalli (invS (As := [.int (nI k9), .int 1, .int 120]) (rest := []) (rm := ({ frames := 0, cells := 0, slots := 0, locals := 0 } : Room)) ⟨hx, hb, hml, hown, hts⟩ (va_cwS 3 hts gX6_advise_X6_isIn rfl rfl rfl (by decide +kernel) ⟨Nat.le_of_ble_eq_true rfl, Nat.le_of_ble_eq_true rfl⟩) rfl rfl hl.1 (Nat.le_of_ble_eq_true rfl) dX6_advise_23) (c_X6_isIn l D cI (nI k9) (1) (120)) hK hN hA hP hD hS (W2 := wMo cI h b d u1 q w0) [] [0, 1, 2, 3, 4, 5, 6, 7, 8, 9, 10, 11, 12, 13, 14, 15, 16, 17, 18, 19, 20, 21, 22, 23, 24, 25] [0, 1, 2, 3, 4, 5, 6, 7, 8, 9, 10, 11, 12, 13, 14, 15, 16, 17, 18, 19, 20, 21, 22, 23, 24, 25] rfl rfl rfl (by decide) ⟨Nat.le_of_ble_eq_true rfl, Nat.le_of_ble_eq_true rfl⟩ (fun H locs hP hD hS => ?_)
    refine lv_if_ne (tgt := 35) hx hb dX6_advise_26 (by decide) (fun c3 => ?_) (fun c3 => ?_)
    · skip
      have c3 := b01f c3
      refine lv_aload_n hx hb dX6_advise_35 rfl (lv_at hl 0 rfl) ?_
      refine va_get (D := D) (ci := 6) (v := .ref (d 30)) (C := RX6) (T := TX6) (N := 10) hx hb hts inX6 hown hK hP 0 rfl rfl 9 (by decide) f34 (fun _ h9 => h9) rfl dX6_advise_36 ?_
      refine lv_aload_n hx hb dX6_advise_39 rfl (lv_at hl 0 rfl) ?_
      refine va_get (D := D) (ci := 6) (v := .ref (b 30)) (C := RX6) (T := TX6) (N := 10) hx hb hts inX6 hown hK hP 0 rfl rfl 8 (by decide) f30 (fun _ h9 => h9) rfl dX6_advise_40 ?_
      obtain ⟨u4, eu4⟩ : ∃ z0 : Rc, z0 = q := ⟨_, rfl⟩
      refine ycallv (invV (As := [.ref (b 30)]) (rest := []) (rm := ({ frames := 2, cells := 0, slots := 0, locals := 82 } : Room)) ⟨hx, hb, hml, hown, hts⟩ (cwV 1 hts gX6_advise_X5_become rfl rfl rfl (by decide +kernel) ⟨Nat.le_of_ble_eq_true rfl, Nat.le_of_ble_eq_true rfl⟩) (va_recv hK hP (ci := 5) (q0 := 16) rfl rfl) rfl rfl hl.1 (Nat.le_of_ble_eq_true rfl) dX6_advise_43) (c_X5_become l D cI h d b w0 q) hK hN hA hP hD hS (W2 := wMo cI h b d u1 q u4) [16, 17, 18, 19, 20, 21, 22, 23, 24, 25, 6, 7, 8, 9, 10, 11, 12, 13, 14, 15] [0, 1, 2, 3, 4, 5] [0, 1, 2, 3, 4, 5, 16, 17, 18, 19, 20, 21, 22, 23, 24, 25, 6, 7, 8, 9, 10, 11, 12, 13, 14, 15] rfl rfl (by subst eu4; rfl) (by decide) ⟨Nat.le_of_ble_eq_true rfl, Nat.le_of_ble_eq_true rfl⟩ (fun H locs hP hD hS => ?_)
      rw [eu4] at hP hD
      have okw : Ok q := okq
      have hJw : JR (iv (u1 0 0)) (iv (u1 10 0)) q := hJ1
      refine lv_aload_n hx hb dX6_advise_46 rfl (lv_at hl 0 rfl) ?_
      refine va_get (D := D) (ci := 6) (v := .ref (d 30)) (C := RX6) (T := TX6) (N := 10) hx hb hts inX6 hown hK hP 0 rfl rfl 9 (by decide) f34 (fun _ h9 => h9) rfl dX6_advise_47 ?_
      refine lv_iload_n hx hb dX6_advise_50 rfl (lv_at hl 2 rfl) ?_
      obtain ⟨u5, eu5⟩ : ∃ z0 : Rc, z0 = psN u1 k9 q := ⟨_, rfl⟩
      refine ycalli (invV (As := [.int (nI k9)]) (rest := []) (rm := ({ frames := 4, cells := 0, slots := 0, locals := 126 } : Room)) ⟨hx, hb, hml, hown, hts⟩ (cwV 1 hts gX6_advise_X5_pass_ rfl rfl rfl (by decide +kernel) ⟨Nat.le_of_ble_eq_true rfl, Nat.le_of_ble_eq_true rfl⟩) (va_recv hK hP (ci := 5) (q0 := 16) rfl rfl) rfl rfl hl.1 (Nat.le_of_ble_eq_true rfl) dX6_advise_51) (c_X5_pass_ l D cI h d (b 30) (d 30) u1 q okn1 okw hJw k9 (by omega) (nI k9) rfl) hK hN hA hP hD hS (W2 := wMo cI h b d u1 q u5) [16, 17, 18, 19, 20, 21, 22, 23, 24, 25, 0, 1, 2, 3, 4, 5] [6, 7, 8, 9, 10, 11, 12, 13, 14, 15] [20, 21, 22, 23, 24, 25, 0, 1, 2, 3, 4, 5, 6, 7, 8, 9, 10, 11, 12, 13, 14, 15, 16, 17, 18, 19] rfl rfl (by subst eu5; rfl) (by decide) ⟨Nat.le_of_ble_eq_true rfl, Nat.le_of_ble_eq_true rfl⟩ (fun H locs hP hD hS => ?_)
      refine lv_istore_n (lv' := [(3, .int (sumR u1 q k9)), (0, .ref (h 0)), (1, .int (nI s9)), (2, .int (nI k9))]) hx hb dX6_advise_54 rfl hl (by decide) rfl (fun ls hl => ?_)
      refine lv_iconst (v := (-1)) hx hb dX6_advise_55 (by decide) ?_
      refine lv_istore (lv' := [(4, .int (-1)), (3, .int (sumR u1 q k9)), (0, .ref (h 0)), (1, .int (nI s9)), (2, .int (nI k9))]) hx hb dX6_advise_56 hl (by decide) rfl (fun ls hl => ?_)
      refine lv_iconst (v := 0) hx hb dX6_advise_58 (by decide) ?_
      refine lv_istore (lv' := [(5, .int 0), (4, .int (-1)), (3, .int (sumR u1 q k9)), (0, .ref (h 0)), (1, .int (nI s9)), (2, .int (nI k9))]) hx hb dX6_advise_59 hl (by decide) rfl (fun ls hl => ?_)
      have K61 : ∀ (n61 i61 : Nat), 0 ≤ i61 → i61 ≤ 16 → 16 < i61 + n61 → ∀ (v6 : Rc), ∀ (H : Heap) (locs : List Loc), va_P D vwCl (wMo cI h b d u1 q v6) H → va_D A (wMo cI h b d u1 q v6) → va_S A s.heap H locs → ∀ (ls : Array Slot), lv_has ls 7 [(5, .int (nI i61)), (4, .int ((advR u1 q s9 k9 i61).2)), (3, .int ((advR u1 q s9 k9 i61).1)), (0, .ref (h 0)), (1, .int (nI s9)), (2, .int (nI k9))] → W p l e ({ frames := 5, cells := 0, slots := 0, locals := 149 } : Room) s m args below meth c H locs (0 + 0 + 0 + 0 + 0) (0 + 0 + 0 + 0 + 0) Q (F0 m 61 ls []) := by
        intro n61
        induction n61 with
        | zero => intro i61 hlo61 hi61 hn61; exact absurd hn61 (by omega)
        | succ n61 ih61 =>
          intro i61 hlo61 hi61 hn61 v6 H locs hP hD hS ls hl
          refine lv_iload hx hb dX6_advise_61 (lv_at hl 0 rfl) ?_
          refine lv_bipush (v := 16) hx hb dX6_advise_63 (by decide) ?_
          refine lv_icmp_ge (tgt := 127) hx hb dX6_advise_65 (by decide) (fun c7 => ?_) (fun c7 => ?_)
          · skip
            have hie : 16 = i61 := (show i61 = 16 from lp_out (show (16 : Int32) = nI 16 from rfl) (by decide) hi61 c7).symm
            subst hie
            refine lv_iload hx hb dX6_advise_127 (lv_at hl 1 rfl) ?_
            have h8 : u1 = put n 31 0 0 := (by (try subst eu5); (try subst eu1); rfl)
            exact fin v6 _ _ _ _ _ _ _ _ (by (try subst eu5); (try subst eu1); rfl) (congrArg (fun z9 : Rc => wMo cI h b d z9 q v6) h8) hP hD hS (Nat.le_of_ble_eq_true rfl) (Nat.le_of_ble_eq_true rfl) dX6_advise_129
          · skip
            have hlt := lp_in (show (16 : Int32) = nI 16 from rfl) (by decide) hi61 c7
            refine lv_aload_n hx hb dX6_advise_68 rfl (lv_at hl 3 rfl) ?_
            refine va_get (D := D) (ci := 6) (v := .ref (d 30)) (C := RX6) (T := TX6) (N := 10) hx hb hts inX6 hown hK hP 0 rfl rfl 9 (by decide) f34 (fun _ h9 => h9) rfl dX6_advise_69 ?_
            refine lv_aload_n hx hb dX6_advise_72 rfl (lv_at hl 3 rfl) ?_
            refine va_get (D := D) (ci := 6) (v := .ref (b 30)) (C := RX6) (T := TX6) (N := 10) hx hb hts inX6 hown hK hP 0 rfl rfl 8 (by decide) f30 (fun _ h9 => h9) rfl dX6_advise_73 ?_
            obtain ⟨u9, eu9⟩ : ∃ z0 : Rc, z0 = q := ⟨_, rfl⟩
            refine ycallv (invV (As := [.ref (b 30)]) (rest := []) (rm := ({ frames := 2, cells := 0, slots := 0, locals := 82 } : Room)) ⟨hx, hb, hml, hown, hts⟩ (cwV 1 hts gX6_advise_X5_become rfl rfl rfl (by decide +kernel) ⟨Nat.le_of_ble_eq_true rfl, Nat.le_of_ble_eq_true rfl⟩) (va_recv hK hP (ci := 5) (q0 := 16) rfl rfl) rfl rfl hl.1 (Nat.le_of_ble_eq_true rfl) dX6_advise_76) (c_X5_become l D cI h d b v6 q) hK hN hA hP hD hS (W2 := wMo cI h b d u1 q u9) [16, 17, 18, 19, 20, 21, 22, 23, 24, 25, 6, 7, 8, 9, 10, 11, 12, 13, 14, 15] [0, 1, 2, 3, 4, 5] [0, 1, 2, 3, 4, 5, 16, 17, 18, 19, 20, 21, 22, 23, 24, 25, 6, 7, 8, 9, 10, 11, 12, 13, 14, 15] rfl rfl (by subst eu9; rfl) (by decide) ⟨Nat.le_of_ble_eq_true rfl, Nat.le_of_ble_eq_true rfl⟩ (fun H locs hP hD hS => ?_)
            rw [eu9] at hP hD
            refine lv_aload_n hx hb dX6_advise_79 rfl (lv_at hl 3 rfl) ?_
            refine va_get (D := D) (ci := 6) (v := .ref (d 30)) (C := RX6) (T := TX6) (N := 10) hx hb hts inX6 hown hK hP 0 rfl rfl 9 (by decide) f34 (fun _ h9 => h9) rfl dX6_advise_80 ?_
            refine va_getN (D := D) (ci := 5) (v := .ref (d 12)) (C := RX5) (T := TX5) (N := 11) hx hb hts inX5 hown hK hP 16 rfl rfl 4 (by decide) (NW.F hN (a := RX6) (i := 79) (b := "NightSortersModel$State") (n := "towns") (d := "[I") (h9 := "NightSortersModel") (by decide +kernel)) (fun _ h9 => h9) rfl dX6_advise_83 ?_
            refine lv_iload_n hx hb dX6_advise_86 rfl (lv_at hl 4 rfl) ?_
            refine lv_dup2_11 hx hb dX6_advise_87 rfl rfl ?_
            refine xald hx hb hK hP 20 rfl rfl (s9) (rfl) (by omega) (by decide) dX6_advise_88 ?_
            refine lv_iconst (v := 1) hx hb dX6_advise_89 (by decide) ?_
            refine lv_iload hx hb dX6_advise_90 (lv_at hl 0 rfl) ?_
            refine lv_ishl hx hb dX6_advise_92 ?_
            refine lv_ior hx hb dX6_advise_93 ?_
            obtain ⟨u10, eu10⟩ : ∃ z0 : Rc, z0 = put q 12 s9 ((q 12 s9) ||| (1 <<< ((nI i61) &&& 31))) := ⟨_, rfl⟩
            refine xast hx hb hK hP hD hS 20 rfl rfl (s9) (rfl) (by omega) (by decide) (wMo cI h b d u1 q u10) (by subst eu10; rfl) dX6_advise_94 (fun H locs hP hD hS => ?_)
            have okw : Ok u10 := (by (try subst eu10); (try subst eu5); (try subst eu1); exact Ok.ptt (f := 12) okq trivial)
            have hJw : JR (iv (u1 0 0)) (iv (u1 10 0)) u10 := (by (try subst eu10); (try subst eu5); (try subst eu1); exact JR.p (f := 12) hJ1 (by decide) (by decide) (by decide))
            refine lv_aload_n hx hb dX6_advise_95 rfl (lv_at hl 3 rfl) ?_
            refine va_get (D := D) (ci := 6) (v := .ref (d 30)) (C := RX6) (T := TX6) (N := 10) hx hb hts inX6 hown hK hP 0 rfl rfl 9 (by decide) f34 (fun _ h9 => h9) rfl dX6_advise_96 ?_
            refine lv_iload_n hx hb dX6_advise_99 rfl (lv_at hl 5 rfl) ?_
            obtain ⟨u11, eu11⟩ : ∃ z0 : Rc, z0 = psN u1 k9 u10 := ⟨_, rfl⟩
            refine ycalli (invV (As := [.int (nI k9)]) (rest := []) (rm := ({ frames := 4, cells := 0, slots := 0, locals := 126 } : Room)) ⟨hx, hb, hml, hown, hts⟩ (cwV 1 hts gX6_advise_X5_pass_ rfl rfl rfl (by decide +kernel) ⟨Nat.le_of_ble_eq_true rfl, Nat.le_of_ble_eq_true rfl⟩) (va_recv hK hP (ci := 5) (q0 := 16) rfl rfl) rfl rfl hl.1 (Nat.le_of_ble_eq_true rfl) dX6_advise_100) (c_X5_pass_ l D cI h d (b 30) (d 30) u1 u10 okn1 okw hJw k9 (by omega) (nI k9) rfl) hK hN hA hP hD hS (W2 := wMo cI h b d u1 q u11) [16, 17, 18, 19, 20, 21, 22, 23, 24, 25, 0, 1, 2, 3, 4, 5] [6, 7, 8, 9, 10, 11, 12, 13, 14, 15] [20, 21, 22, 23, 24, 25, 0, 1, 2, 3, 4, 5, 6, 7, 8, 9, 10, 11, 12, 13, 14, 15, 16, 17, 18, 19] rfl rfl (by subst eu11; rfl) (by decide) ⟨Nat.le_of_ble_eq_true rfl, Nat.le_of_ble_eq_true rfl⟩ (fun H locs hP hD hS => ?_)
            refine lv_istore (lv' := [(6, .int (sumR u1 u10 k9)), (5, .int (nI i61)), (4, .int ((advR u1 q s9 k9 i61).2)), (3, .int ((advR u1 q s9 k9 i61).1)), (0, .ref (h 0)), (1, .int (nI s9)), (2, .int (nI k9))]) hx hb dX6_advise_103 hl (by decide) rfl (fun ls hl => ?_)
            refine lv_iload hx hb dX6_advise_105 (lv_at hl 0 rfl) ?_
            refine lv_iload_n hx hb dX6_advise_107 rfl (lv_at hl 3 rfl) ?_
            refine lv_icmp_gt (tgt := 114) hx hb dX6_advise_108 (by decide) (fun c12 => ?_) (fun c12 => ?_)
            · skip
              refine lv_iload hx hb dX6_advise_114 (lv_at hl 0 rfl) ?_
              refine lv_istore_n (lv' := [(3, .int (sumR u1 u10 k9)), (6, .int (sumR u1 u10 k9)), (5, .int (nI i61)), (4, .int ((advR u1 q s9 k9 i61).2)), (0, .ref (h 0)), (1, .int (nI s9)), (2, .int (nI k9))]) hx hb dX6_advise_116 rfl hl (by decide) rfl (fun ls hl => ?_)
              refine lv_iload hx hb dX6_advise_117 (lv_at hl 2 rfl) ?_
              refine lv_istore (lv' := [(4, .int (nI i61)), (3, .int (sumR u1 u10 k9)), (6, .int (sumR u1 u10 k9)), (5, .int (nI i61)), (0, .ref (h 0)), (1, .int (nI s9)), (2, .int (nI k9))]) hx hb dX6_advise_119 hl (by decide) rfl (fun ls hl => ?_)
              refine lv_iinc (v := nI (i61 + 1)) (lv' := [(5, .int (nI (i61 + 1))), (4, .int (nI i61)), (3, .int (sumR u1 u10 k9)), (6, .int (sumR u1 u10 k9)), (0, .ref (h 0)), (1, .int (nI s9)), (2, .int (nI k9))]) hx hb dX6_advise_121 hl (k := 3) rfl (nI_inc _) (by decide) rfl (fun ls hl => ?_)
              refine lv_goto (tgt := 61) hx hb dX6_advise_124 (by decide) ?_
              exact ih61 (i61 + 1) (by omega) (by omega) (by omega) u11 H locs hP hD hS ls (lv_sub hl [0, 1, 2, 4, 5, 6] (by (try subst eu11); (try subst eu10); (try subst eu5); (try subst eu1); first | (rw [adR_n c12]; rfl) | (rw [adR_y c12]; rfl)))
            · skip
              refine lv_goto (tgt := 121) hx hb dX6_advise_111 (by decide) ?_
              refine lv_iinc (v := nI (i61 + 1)) (lv' := [(5, .int (nI (i61 + 1))), (6, .int (sumR u1 u10 k9)), (4, .int ((advR u1 q s9 k9 i61).2)), (3, .int ((advR u1 q s9 k9 i61).1)), (0, .ref (h 0)), (1, .int (nI s9)), (2, .int (nI k9))]) hx hb dX6_advise_121 hl (k := 1) rfl (nI_inc _) (by decide) rfl (fun ls hl => ?_)
              refine lv_goto (tgt := 61) hx hb dX6_advise_124 (by decide) ?_
              exact ih61 (i61 + 1) (by omega) (by omega) (by omega) u11 H locs hP hD hS ls (lv_sub hl [0, 2, 3, 4, 5, 6] (by (try subst eu11); (try subst eu10); (try subst eu5); (try subst eu1); first | (rw [adR_n c12]; rfl) | (rw [adR_y c12]; rfl)))
      exact K61 (16 + 1) 0 (Nat.le_refl _) (by omega) (by omega) u5 _ _ hP hD hS ls (by rw [adR_0]; exact lv_sub hl [0, 1, 2, 3, 4, 5] rfl)
    · exact absurd (rng1 (j := k9) (L := 1) (M := 120) rfl (show (120 : Int32) = nI 120 from rfl) hk1 hk9 (by decide)) (b01t c3)
  · exact absurd (show ¬ nI s9 < 0 ∧ ¬ (u1 10 0 - 1) < nI s9 from (by (try subst eu1); exact hr)) (b01t c2)

set_option maxHeartbeats 4000000 in
set_option maxRecDepth 100000 in
theorem c_X6_advise_1 (l : Launch) (D : va_G) (cI : ClassId) (h b d : Nat → Nat) (n q w0 : Rc) (x y : Int32) (hno : ¬ (¬ x < 0 ∧ ¬ (n 10 0 - 1) < x)) : CI l yX6_advise wsX6_advise ({ frames := 5, cells := 0, slots := 0, locals := 149 } : Room) D cI [.ref (h 0), .int x, .int y] (wMo cI h b d n q w0) 0 (wMo cI h b d (put (put n 31 0 0) 31 0 1) q w0) := by
  refine CI.mk (cc := cX6_advise) (maxL := 7) (ret := (some .int)) rfl rfl (by decide) rfl (Nat.le_of_ble_eq_true rfl) ?_
  intro p e s m args below meth c A Q ls hx hb hts hown hml hK hN hA hP hD hS hl fin
  have hown : s.vm.findClass RX6 = some m.cls := hown
  have hl : lv_has ls 7 [(0, .ref (h 0)), (1, .int x), (2, .int y)] := hl
  have f37 := hts (.fieldLink RX6 37 "NightSortersModel" "thrown" "I") (by decide +kernel)
  have inX6 : ∀ w ∈ wsX60, w ∈ wsX6_advise := by decide +kernel
  refine lv_aload_n hx hb dX6_advise_0 rfl (lv_at hl 0 rfl) ?_
  refine lv_iconst (v := 0) hx hb dX6_advise_1 (by decide) ?_
  obtain ⟨u1, eu1⟩ : ∃ z0 : Rc, z0 = put n 31 0 0 := ⟨_, rfl⟩
  refine va_put (D := D) (ci := 6) (v := .int 0) (ty := .int) (C := RX6) (T := TX6) (N := 10) hx hb hts inX6 tyX6 tyX6_ok nmX6 hown hK hP hD hS 0 rfl rfl 0 (by decide) f37 (fun _ h9 => h9) rfl (by decide +kernel) rfl rfl (Nat.le_of_ble_eq_true rfl) dX6_advise_2 (fun H locs hP hD hS => ?_)
  have hP : va_P D vwCl (wMo cI h b d u1 q w0) H := by subst eu1; exact hP
  have hD : va_D A (wMo cI h b d u1 q w0) := by subst eu1; exact hD
  refine lv_aload_n hx hb dX6_advise_5 rfl (lv_at hl 0 rfl) ?_
  refine lv_iload_n hx hb dX6_advise_6 rfl (lv_at hl 1 rfl) ?_
  refine ycalli (invV (As := [.int x]) (rest := []) (rm := ({ frames := 1, cells := 0, slots := 0, locals := 22 } : Room)) ⟨hx, hb, hml, hown, hts⟩ (cwV 1 hts gX6_advise_X6_isSorter rfl rfl rfl (by decide +kernel) ⟨Nat.le_of_ble_eq_true rfl, Nat.le_of_ble_eq_true rfl⟩) (va_recv hK hP (ci := 6) (q0 := 0) rfl rfl) rfl rfl hl.1 (Nat.le_of_ble_eq_true rfl) dX6_advise_7) (c_X6_isSorter l D cI h b d u1 q w0 (x)) hK hN hA hP hD hS (W2 := wMo cI h b d u1 q w0) [0, 1, 2, 3, 4, 5, 6, 7, 8, 9, 10, 11, 12, 13, 14, 15, 16, 17, 18, 19, 20, 21, 22, 23, 24, 25] [] [0, 1, 2, 3, 4, 5, 6, 7, 8, 9, 10, 11, 12, 13, 14, 15, 16, 17, 18, 19, 20, 21, 22, 23, 24, 25] rfl rfl rfl (by decide) ⟨Nat.le_of_ble_eq_true rfl, Nat.le_of_ble_eq_true rfl⟩ (fun H locs hP hD hS => ?_)
  refine lv_if_ne (tgt := 19) hx hb dX6_advise_10 (by decide) (fun c2 => ?_) (fun c2 => ?_)
  · exact absurd (show ¬ x < 0 ∧ ¬ (n 10 0 - 1) < x from (by (try subst eu1); exact b01f c2)) hno
  · skip
    have c2 := b01t c2
    refine lv_aload_n hx hb dX6_advise_13 rfl (lv_at hl 0 rfl) ?_
    refine lv_iconst (v := 1) hx hb dX6_advise_14 (by decide) ?_
    obtain ⟨u3, eu3⟩ : ∃ z0 : Rc, z0 = put u1 31 0 1 := ⟨_, rfl⟩
    refine ycalli (invV (As := [.int 1]) (rest := []) (rm := ({ frames := 0, cells := 0, slots := 0, locals := 0 } : Room)) ⟨hx, hb, hml, hown, hts⟩ (cwV 1 hts gX6_advise_X6_no rfl rfl rfl (by decide +kernel) ⟨Nat.le_of_ble_eq_true rfl, Nat.le_of_ble_eq_true rfl⟩) (va_recv hK hP (ci := 6) (q0 := 0) rfl rfl) rfl rfl hl.1 (Nat.le_of_ble_eq_true rfl) dX6_advise_15) (c_X6_no l D cI h b d u1 q w0 1) hK hN hA hP hD hS (W2 := wMo cI h b d u3 q w0) [0, 1, 2, 3, 4, 5, 6, 7, 8, 9, 10, 11, 12, 13, 14, 15, 16, 17, 18, 19, 20, 21, 22, 23, 24, 25] [] [0, 1, 2, 3, 4, 5, 6, 7, 8, 9, 10, 11, 12, 13, 14, 15, 16, 17, 18, 19, 20, 21, 22, 23, 24, 25] rfl rfl (by subst eu3; rfl) (by decide) ⟨Nat.le_of_ble_eq_true rfl, Nat.le_of_ble_eq_true rfl⟩ (fun H locs hP hD hS => ?_)
    have h4 : u3 = put (put n 31 0 0) 31 0 1 := (by (try subst eu3); (try subst eu1); rfl)
    exact fin _ _ _ _ _ _ _ _ rfl (congrArg (fun z9 : Rc => wMo cI h b d z9 q w0) h4) hP hD hS (Nat.le_of_ble_eq_true rfl) (Nat.le_of_ble_eq_true rfl) dX6_advise_18

set_option maxHeartbeats 4000000 in
set_option maxRecDepth 100000 in
theorem c_X6_advise_2 (l : Launch) (D : va_G) (cI : ClassId) (h b d : Nat → Nat) (n q w0 : Rc) (s9 : Nat) (hs : s9 < 4) (x : Int32) (ex : x = nI s9) (hr : ¬ nI s9 < 0 ∧ ¬ (n 10 0 - 1) < nI s9) (y : Int32) (hno : ¬ (¬ y < 1 ∧ ¬ 120 < y)) : CI l yX6_advise wsX6_advise ({ frames := 5, cells := 0, slots := 0, locals := 149 } : Room) D cI [.ref (h 0), .int x, .int y] (wMo cI h b d n q w0) 0 (wMo cI h b d (put (put n 31 0 0) 31 0 2) q w0) := by
  refine CI.mk (cc := cX6_advise) (maxL := 7) (ret := (some .int)) rfl rfl (by decide) rfl (Nat.le_of_ble_eq_true rfl) ?_
  intro p e s m args below meth c A Q ls hx hb hts hown hml hK hN hA hP hD hS hl fin
  have hown : s.vm.findClass RX6 = some m.cls := hown
  subst ex
  have hl : lv_has ls 7 [(0, .ref (h 0)), (1, .int (nI s9)), (2, .int y)] := hl
  have f37 := hts (.fieldLink RX6 37 "NightSortersModel" "thrown" "I") (by decide +kernel)
  have inX6 : ∀ w ∈ wsX60, w ∈ wsX6_advise := by decide +kernel
  refine lv_aload_n hx hb dX6_advise_0 rfl (lv_at hl 0 rfl) ?_
  refine lv_iconst (v := 0) hx hb dX6_advise_1 (by decide) ?_
  obtain ⟨u1, eu1⟩ : ∃ z0 : Rc, z0 = put n 31 0 0 := ⟨_, rfl⟩
  refine va_put (D := D) (ci := 6) (v := .int 0) (ty := .int) (C := RX6) (T := TX6) (N := 10) hx hb hts inX6 tyX6 tyX6_ok nmX6 hown hK hP hD hS 0 rfl rfl 0 (by decide) f37 (fun _ h9 => h9) rfl (by decide +kernel) rfl rfl (Nat.le_of_ble_eq_true rfl) dX6_advise_2 (fun H locs hP hD hS => ?_)
  have hP : va_P D vwCl (wMo cI h b d u1 q w0) H := by subst eu1; exact hP
  have hD : va_D A (wMo cI h b d u1 q w0) := by subst eu1; exact hD
  refine lv_aload_n hx hb dX6_advise_5 rfl (lv_at hl 0 rfl) ?_
  refine lv_iload_n hx hb dX6_advise_6 rfl (lv_at hl 1 rfl) ?_
  refine ycalli (invV (As := [.int (nI s9)]) (rest := []) (rm := ({ frames := 1, cells := 0, slots := 0, locals := 22 } : Room)) ⟨hx, hb, hml, hown, hts⟩ (cwV 1 hts gX6_advise_X6_isSorter rfl rfl rfl (by decide +kernel) ⟨Nat.le_of_ble_eq_true rfl, Nat.le_of_ble_eq_true rfl⟩) (va_recv hK hP (ci := 6) (q0 := 0) rfl rfl) rfl rfl hl.1 (Nat.le_of_ble_eq_true rfl) dX6_advise_7) (c_X6_isSorter l D cI h b d u1 q w0 (nI s9)) hK hN hA hP hD hS (W2 := wMo cI h b d u1 q w0) [0, 1, 2, 3, 4, 5, 6, 7, 8, 9, 10, 11, 12, 13, 14, 15, 16, 17, 18, 19, 20, 21, 22, 23, 24, 25] [] [0, 1, 2, 3, 4, 5, 6, 7, 8, 9, 10, 11, 12, 13, 14, 15, 16, 17, 18, 19, 20, 21, 22, 23, 24, 25] rfl rfl rfl (by decide) ⟨Nat.le_of_ble_eq_true rfl, Nat.le_of_ble_eq_true rfl⟩ (fun H locs hP hD hS => ?_)
  refine lv_if_ne (tgt := 19) hx hb dX6_advise_10 (by decide) (fun c2 => ?_) (fun c2 => ?_)
  · skip
    have c2 := b01f c2
    refine lv_iload_n hx hb dX6_advise_19 rfl (lv_at hl 2 rfl) ?_
    refine lv_iconst (v := 1) hx hb dX6_advise_20 (by decide) ?_
    refine lv_bipush (v := 120) hx hb dX6_advise_21 (by decide) ?_
    refine ycalli (invS (As := [.int y, .int 1, .int 120]) (rest := []) (rm := ({ frames := 0, cells := 0, slots := 0, locals := 0 } : Room)) ⟨hx, hb, hml, hown, hts⟩ (va_cwS 3 hts gX6_advise_X6_isIn rfl rfl rfl (by decide +kernel) ⟨Nat.le_of_ble_eq_true rfl, Nat.le_of_ble_eq_true rfl⟩) rfl rfl hl.1 (Nat.le_of_ble_eq_true rfl) dX6_advise_23) (c_X6_isIn l D cI (y) (1) (120)) hK hN hA hP hD hS (W2 := wMo cI h b d u1 q w0) [] [0, 1, 2, 3, 4, 5, 6, 7, 8, 9, 10, 11, 12, 13, 14, 15, 16, 17, 18, 19, 20, 21, 22, 23, 24, 25] [0, 1, 2, 3, 4, 5, 6, 7, 8, 9, 10, 11, 12, 13, 14, 15, 16, 17, 18, 19, 20, 21, 22, 23, 24, 25] rfl rfl rfl (by decide) ⟨Nat.le_of_ble_eq_true rfl, Nat.le_of_ble_eq_true rfl⟩ (fun H locs hP hD hS => ?_)
    refine lv_if_ne (tgt := 35) hx hb dX6_advise_26 (by decide) (fun c3 => ?_) (fun c3 => ?_)
    · exact absurd (b01f c3) hno
    · skip
      have c3 := b01t c3
      refine lv_aload_n hx hb dX6_advise_29 rfl (lv_at hl 0 rfl) ?_
      refine lv_iconst (v := 2) hx hb dX6_advise_30 (by decide) ?_
      obtain ⟨u4, eu4⟩ : ∃ z0 : Rc, z0 = put u1 31 0 2 := ⟨_, rfl⟩
      refine ycalli (invV (As := [.int 2]) (rest := []) (rm := ({ frames := 0, cells := 0, slots := 0, locals := 0 } : Room)) ⟨hx, hb, hml, hown, hts⟩ (cwV 1 hts gX6_advise_X6_no rfl rfl rfl (by decide +kernel) ⟨Nat.le_of_ble_eq_true rfl, Nat.le_of_ble_eq_true rfl⟩) (va_recv hK hP (ci := 6) (q0 := 0) rfl rfl) rfl rfl hl.1 (Nat.le_of_ble_eq_true rfl) dX6_advise_31) (c_X6_no l D cI h b d u1 q w0 2) hK hN hA hP hD hS (W2 := wMo cI h b d u4 q w0) [0, 1, 2, 3, 4, 5, 6, 7, 8, 9, 10, 11, 12, 13, 14, 15, 16, 17, 18, 19, 20, 21, 22, 23, 24, 25] [] [0, 1, 2, 3, 4, 5, 6, 7, 8, 9, 10, 11, 12, 13, 14, 15, 16, 17, 18, 19, 20, 21, 22, 23, 24, 25] rfl rfl (by subst eu4; rfl) (by decide) ⟨Nat.le_of_ble_eq_true rfl, Nat.le_of_ble_eq_true rfl⟩ (fun H locs hP hD hS => ?_)
      have h5 : u4 = put (put n 31 0 0) 31 0 2 := (by (try subst eu4); (try subst eu1); rfl)
      exact fin _ _ _ _ _ _ _ _ rfl (congrArg (fun z9 : Rc => wMo cI h b d z9 q w0) h5) hP hD hS (Nat.le_of_ble_eq_true rfl) (Nat.le_of_ble_eq_true rfl) dX6_advise_34
  · exact absurd (show ¬ nI s9 < 0 ∧ ¬ (u1 10 0 - 1) < nI s9 from (by (try subst eu1); exact hr)) (b01t c2)

set_option maxHeartbeats 4000000 in
set_option maxRecDepth 100000 in
theorem c_X6_digest (l : Launch) (D : va_G) (cI : ClassId) (h b d : Nat → Nat) (n q w0 : Rc) (okn : Ok n) : CL l yX6_digest wsX6_digest ({ frames := 3, cells := 328, slots := 1696, locals := 64 } : Room) D cI [.ref (h 0)] (wMo cI h b d n q w0) (dgR5 (put n 31 0 0) q) (wMo cI h b d (put n 31 0 0) q w0) := by
  refine CL.mk (cc := cX6_digest) (maxL := 5) (by decide) rfl (Nat.le_of_ble_eq_true rfl) ?_
  intro p e s m args below meth c A Q ls hx hb hts hown hml hK hN hA hP hD hS hl fin
  have hown : s.vm.findClass RX6 = some m.cls := hown
  have okn1 : Ok (put n 31 0 0) := Ok.ptt okn trivial
  have hn60 := okn1.n60
  have hk4 := okn1.k4
  have hl : lv_has ls 5 [(0, .ref (h 0))] := hl
  have f30 := hts (.fieldLink RX6 30 "NightSortersModel" "s" "LNightSortersModel$State;") (by decide +kernel)
  have f37 := hts (.fieldLink RX6 37 "NightSortersModel" "thrown" "I") (by decide +kernel)
  have f46 := hts (.fieldLink RX6 46 "NightSortersModel" "letters" "I") (by decide +kernel)
  have f49 := hts (.fieldLink RX6 49 "NightSortersModel" "sorters" "I") (by decide +kernel)
  have inX6 : ∀ w ∈ wsX60, w ∈ wsX6_digest := by decide +kernel
  have CUT157 : ∀ (H : Heap) (locs : List Loc) (ls : Array Slot), va_P D vwCl (wMo cI h b d (put n 31 0 0) q w0) H → va_D A (wMo cI h b d (put n 31 0 0) q w0) → va_S A s.heap H locs → lv_has ls 5 [(1, .long (dgR4 (put n 31 0 0) q)), (0, .ref (h 0))] → W p l e ({ frames := 3, cells := 328, slots := 1696, locals := 64 } : Room) s m args below meth c H locs (28) (196) Q (F0 m 157 ls []) := by
    intro H locs ls hP hD hS hl
    refine lv_iconst (v := 0) hx hb dX6_digest_157 (by decide) ?_
    refine lv_istore_n (lv' := [(3, .int 0), (1, .long (dgR4 (put n 31 0 0) q)), (0, .ref (h 0))]) hx hb dX6_digest_158 rfl hl (by decide) rfl (fun ls hl => ?_)
    have K159 : ∀ (n159 i159 : Nat), 0 ≤ i159 → i159 ≤ iv ((put n 31 0 0) 0 0) → iv ((put n 31 0 0) 0 0) < i159 + n159 → ∀ (H : Heap) (locs : List Loc), va_P D vwCl (wMo cI h b d (put n 31 0 0) q w0) H → va_D A (wMo cI h b d (put n 31 0 0) q w0) → va_S A s.heap H locs → ∀ (ls : Array Slot), lv_has ls 5 [(3, .int (nI i159)), (1, .long (dg2 (mfR (put n 31 0 0) q) 5 i159 (dgR4 (put n 31 0 0) q))), (0, .ref (h 0))] → W p l e ({ frames := 3, cells := 328, slots := 1696, locals := 64 } : Room) s m args below meth c H locs (28 + 5 * i159) (196 + 25 * i159) Q (F0 m 159 ls []) := by
      intro n159
      induction n159 with
      | zero => intro i159 hlo159 hi159 hn159; exact absurd hn159 (by omega)
      | succ n159 ih159 =>
        intro i159 hlo159 hi159 hn159 H locs hP hD hS ls hl
        refine lv_iload_n hx hb dX6_digest_159 rfl (lv_at hl 0 rfl) ?_
        refine lv_aload_n hx hb dX6_digest_160 rfl (lv_at hl 2 rfl) ?_
        refine va_get (D := D) (ci := 6) (v := .int ((put n 31 0 0) 0 0)) (C := RX6) (T := TX6) (N := 10) hx hb hts inX6 hown hK hP 0 rfl rfl 3 (by decide) f46 (fun _ h9 => h9) rfl dX6_digest_161 ?_
        refine lv_icmp_ge (tgt := 203) hx hb dX6_digest_164 (by decide) (fun c1 => ?_) (fun c1 => ?_)
        · skip
          have hie : iv ((put n 31 0 0) 0 0) = i159 := (show i159 = iv ((put n 31 0 0) 0 0) from lp_out okn1.n (by omega) hi159 c1).symm
          subst hie
          refine lv_lload_n hx hb dX6_digest_203 rfl (lv_at hl 1 rfl) ?_
          refine W.widen (k := 328) (n := 1696) (by (try dsimp only); omega) (by (try dsimp only); omega) ?_
          exact fin _ _ _ _ _ _ _ _ (by rfl) rfl hP hD hS (Nat.le_of_ble_eq_true rfl) (Nat.le_of_ble_eq_true rfl) dX6_digest_204
        · skip
          have hlt159 := lp_in okn1.n (by omega) hi159 c1
          refine lv_iconst (v := 0) hx hb dX6_digest_167 (by decide) ?_
          refine lv_istore (lv' := [(4, .int 0), (3, .int (nI i159)), (1, .long (dg2 (mfR (put n 31 0 0) q) 5 i159 (dgR4 (put n 31 0 0) q))), (0, .ref (h 0))]) hx hb dX6_digest_168 hl (by decide) rfl (fun ls hl => ?_)
          have K170 : ∀ (n170 i170 : Nat), 0 ≤ i170 → i170 ≤ 5 → 5 < i170 + n170 → ∀ (H : Heap) (locs : List Loc), va_P D vwCl (wMo cI h b d (put n 31 0 0) q w0) H → va_D A (wMo cI h b d (put n 31 0 0) q w0) → va_S A s.heap H locs → ∀ (ls : Array Slot), lv_has ls 5 [(4, .int (nI i170)), (3, .int (nI i159)), (1, .long (dg (mfR (put n 31 0 0) q i159) i170 (dg2 (mfR (put n 31 0 0) q) 5 i159 (dgR4 (put n 31 0 0) q)))), (0, .ref (h 0))] → W p l e ({ frames := 3, cells := 328, slots := 1696, locals := 64 } : Room) s m args below meth c H locs (28 + 5 * i159 + i170) (196 + 25 * i159 + 5 * i170) Q (F0 m 170 ls []) := by
            intro n170
            induction n170 with
            | zero => intro i170 hlo170 hi170 hn170; exact absurd hn170 (by omega)
            | succ n170 ih170 =>
              intro i170 hlo170 hi170 hn170 H locs hP hD hS ls hl
              refine lv_iload hx hb dX6_digest_170 (lv_at hl 0 rfl) ?_
              refine lv_iconst (v := 5) hx hb dX6_digest_172 (by decide) ?_
              refine lv_icmp_ge (tgt := 197) hx hb dX6_digest_173 (by decide) (fun c2 => ?_) (fun c2 => ?_)
              · skip
                have hie : 5 = i170 := (show i170 = 5 from lp_out (show (5 : Int32) = nI 5 from rfl) (by decide) hi170 c2).symm
                subst hie
                refine lv_iinc (v := nI (i159 + 1)) (lv' := [(3, .int (nI (i159 + 1))), (4, .int (nI 5)), (1, .long (dg (mfR (put n 31 0 0) q i159) 5 (dg2 (mfR (put n 31 0 0) q) 5 i159 (dgR4 (put n 31 0 0) q)))), (0, .ref (h 0))]) hx hb dX6_digest_197 hl (k := 1) rfl (nI_inc _) (by decide) rfl (fun ls hl => ?_)
                refine lv_goto (tgt := 159) hx hb dX6_digest_200 (by decide) ?_
                refine W.widen (k := 28 + 5 * (i159 + 1)) (n := 196 + 25 * (i159 + 1)) (by (try dsimp only); omega) (by (try dsimp only); omega) ?_
                exact ih159 (i159 + 1) (by omega) (by omega) (by omega) H locs hP hD hS ls (by rw [dg2_s]; exact lv_sub hl [0, 2, 3] rfl)
              · skip
                have hlt170 := lp_in (show (5 : Int32) = nI 5 from rfl) (by decide) hi170 c2
                refine lv_lload_n hx hb dX6_digest_176 rfl (lv_at hl 2 rfl) ?_
                refine lv_ldc2 hx hb hown (hts (.constantLong RX6 137 (31)) (by decide +kernel)) dX6_digest_177 ?_
                refine lv_lmul hx hb dX6_digest_180 ?_
                refine lv_aload_n hx hb dX6_digest_181 rfl (lv_at hl 3 rfl) ?_
                refine lv_iload_n hx hb dX6_digest_182 rfl (lv_at hl 1 rfl) ?_
                refine lv_iload hx hb dX6_digest_183 (lv_at hl 0 rfl) ?_
                refine ycalli (invV (As := [.int (nI i159), .int (nI i170)]) (rest := [.long ((dg (mfR (put n 31 0 0) q i159) i170 (dg2 (mfR (put n 31 0 0) q) 5 i159 (dgR4 (put n 31 0 0) q))) * 31)]) (rm := ({ frames := 0, cells := 1, slots := 5, locals := 0 } : Room)) ⟨hx, hb, hml, hown, hts⟩ (cwV 2 hts gX6_digest_X6_letterTold rfl rfl rfl (by decide +kernel) ⟨Nat.le_of_ble_eq_true rfl, Nat.le_of_ble_eq_true rfl⟩) (va_recv hK hP (ci := 6) (q0 := 0) rfl rfl) rfl rfl hl.1 (Nat.le_of_ble_eq_true rfl) dX6_digest_185) (c_X6_letterTold l D cI h b d (put n 31 0 0) q w0 i159 (by omega) (nI i159) rfl i170 hlt170 (nI i170) rfl) hK hN hA hP hD hS (W2 := wMo cI h b d (put n 31 0 0) q w0) [0, 1, 2, 3, 4, 5, 6, 7, 8, 9, 10, 11, 12, 13, 14, 15, 16, 17, 18, 19, 20, 21, 22, 23, 24, 25] [] [0, 1, 2, 3, 4, 5, 6, 7, 8, 9, 10, 11, 12, 13, 14, 15, 16, 17, 18, 19, 20, 21, 22, 23, 24, 25] rfl rfl rfl (by decide) ⟨(by show 28 + 5 * i159 + i170 + 1 ≤ 328; omega), (by show 196 + 25 * i159 + 5 * i170 + 5 ≤ 1696; omega)⟩ (fun H locs hP hD hS => ?_)
                refine lv_i2l hx hb dX6_digest_188 rfl ?_
                refine lv_ladd hx hb dX6_digest_189 ?_
                refine lv_lstore_n (lv' := [(1, .long (((dg (mfR (put n 31 0 0) q i159) i170 (dg2 (mfR (put n 31 0 0) q) 5 i159 (dgR4 (put n 31 0 0) q))) * 31) + ((mfR (put n 31 0 0) q i159 i170).toInt64))), (4, .int (nI i170)), (3, .int (nI i159)), (0, .ref (h 0))]) hx hb dX6_digest_190 rfl hl (by decide) rfl (fun ls hl => ?_)
                refine lv_iinc (v := nI (i170 + 1)) (lv' := [(4, .int (nI (i170 + 1))), (1, .long (((dg (mfR (put n 31 0 0) q i159) i170 (dg2 (mfR (put n 31 0 0) q) 5 i159 (dgR4 (put n 31 0 0) q))) * 31) + ((mfR (put n 31 0 0) q i159 i170).toInt64))), (3, .int (nI i159)), (0, .ref (h 0))]) hx hb dX6_digest_191 hl (k := 1) rfl (nI_inc _) (by decide) rfl (fun ls hl => ?_)
                refine lv_goto (tgt := 170) hx hb dX6_digest_194 (by decide) ?_
                refine W.widen (k := 28 + 5 * i159 + (i170 + 1)) (n := 196 + 25 * i159 + 5 * (i170 + 1)) (by (try dsimp only); omega) (by (try dsimp only); omega) ?_
                exact ih170 (i170 + 1) (by omega) (by omega) (by omega) H locs hP hD hS ls (by rw [dg_s]; exact lv_sub hl [0, 2, 1, 3] rfl)
          refine W.widen (k := 28 + 5 * i159 + 0) (n := 196 + 25 * i159 + 5 * 0) (by (try dsimp only); omega) (by (try dsimp only); omega) ?_
          exact K170 (5 + 1) 0 (Nat.le_refl _) (by omega) (by omega) _ _ hP hD hS ls (by rw [dg_0]; exact lv_sub hl [0, 1, 2, 3] rfl)
    refine W.widen (k := 28 + 5 * 0) (n := 196 + 25 * 0) (by (try dsimp only); omega) (by (try dsimp only); omega) ?_
    exact K159 (iv ((put n 31 0 0) 0 0) + 1) 0 (Nat.le_refl _) (by omega) (by omega) _ _ hP hD hS ls (by rw [dg2_0]; exact lv_sub hl [0, 1, 2] rfl)
  have CUT110 : ∀ (H : Heap) (locs : List Loc) (ls : Array Slot), va_P D vwCl (wMo cI h b d (put n 31 0 0) q w0) H → va_D A (wMo cI h b d (put n 31 0 0) q w0) → va_S A s.heap H locs → lv_has ls 5 [(1, .long (dgR3 (put n 31 0 0) q)), (0, .ref (h 0))] → W p l e ({ frames := 3, cells := 328, slots := 1696, locals := 64 } : Room) s m args below meth c H locs (0) (0) Q (F0 m 110 ls []) := by
    intro H locs ls hP hD hS hl
    refine lv_iconst (v := 0) hx hb dX6_digest_110 (by decide) ?_
    refine lv_istore_n (lv' := [(3, .int 0), (1, .long (dgR3 (put n 31 0 0) q)), (0, .ref (h 0))]) hx hb dX6_digest_111 rfl hl (by decide) rfl (fun ls hl => ?_)
    have K112 : ∀ (n112 i112 : Nat), 0 ≤ i112 → i112 ≤ iv ((put n 31 0 0) 10 0) → iv ((put n 31 0 0) 10 0) < i112 + n112 → ∀ (H : Heap) (locs : List Loc), va_P D vwCl (wMo cI h b d (put n 31 0 0) q w0) H → va_D A (wMo cI h b d (put n 31 0 0) q w0) → va_S A s.heap H locs → ∀ (ls : Array Slot), lv_has ls 5 [(3, .int (nI i112)), (1, .long (dg2 (cfR (put n 31 0 0) q) 7 i112 (dgR3 (put n 31 0 0) q))), (0, .ref (h 0))] → W p l e ({ frames := 3, cells := 328, slots := 1696, locals := 64 } : Room) s m args below meth c H locs (0 + 7 * i112) (0 + 49 * i112) Q (F0 m 112 ls []) := by
      intro n112
      induction n112 with
      | zero => intro i112 hlo112 hi112 hn112; exact absurd hn112 (by omega)
      | succ n112 ih112 =>
        intro i112 hlo112 hi112 hn112 H locs hP hD hS ls hl
        refine lv_iload_n hx hb dX6_digest_112 rfl (lv_at hl 0 rfl) ?_
        refine lv_aload_n hx hb dX6_digest_113 rfl (lv_at hl 2 rfl) ?_
        refine va_get (D := D) (ci := 6) (v := .int ((put n 31 0 0) 10 0)) (C := RX6) (T := TX6) (N := 10) hx hb hts inX6 hown hK hP 0 rfl rfl 6 (by decide) f49 (fun _ h9 => h9) rfl dX6_digest_114 ?_
        refine lv_icmp_ge (tgt := 157) hx hb dX6_digest_117 (by decide) (fun c3 => ?_) (fun c3 => ?_)
        · skip
          have hie : iv ((put n 31 0 0) 10 0) = i112 := (show i112 = iv ((put n 31 0 0) 10 0) from lp_out okn1.k (by omega) hi112 c3).symm
          subst hie
          refine W.widen (k := 28) (n := 196) (by (try dsimp only); omega) (by (try dsimp only); omega) ?_
          exact CUT157 _ _ _ hP hD hS (lv_sub hl [1, 2] rfl)
        · skip
          have hlt112 := lp_in okn1.k (by omega) hi112 c3
          refine lv_iconst (v := 0) hx hb dX6_digest_120 (by decide) ?_
          refine lv_istore (lv' := [(4, .int 0), (3, .int (nI i112)), (1, .long (dg2 (cfR (put n 31 0 0) q) 7 i112 (dgR3 (put n 31 0 0) q))), (0, .ref (h 0))]) hx hb dX6_digest_121 hl (by decide) rfl (fun ls hl => ?_)
          have K123 : ∀ (n123 i123 : Nat), 0 ≤ i123 → i123 ≤ 7 → 7 < i123 + n123 → ∀ (H : Heap) (locs : List Loc), va_P D vwCl (wMo cI h b d (put n 31 0 0) q w0) H → va_D A (wMo cI h b d (put n 31 0 0) q w0) → va_S A s.heap H locs → ∀ (ls : Array Slot), lv_has ls 5 [(4, .int (nI i123)), (3, .int (nI i112)), (1, .long (dg (cfR (put n 31 0 0) q i112) i123 (dg2 (cfR (put n 31 0 0) q) 7 i112 (dgR3 (put n 31 0 0) q)))), (0, .ref (h 0))] → W p l e ({ frames := 3, cells := 328, slots := 1696, locals := 64 } : Room) s m args below meth c H locs (0 + 7 * i112 + i123) (0 + 49 * i112 + 7 * i123) Q (F0 m 123 ls []) := by
            intro n123
            induction n123 with
            | zero => intro i123 hlo123 hi123 hn123; exact absurd hn123 (by omega)
            | succ n123 ih123 =>
              intro i123 hlo123 hi123 hn123 H locs hP hD hS ls hl
              refine lv_iload hx hb dX6_digest_123 (lv_at hl 0 rfl) ?_
              refine lv_bipush (v := 7) hx hb dX6_digest_125 (by decide) ?_
              refine lv_icmp_ge (tgt := 151) hx hb dX6_digest_127 (by decide) (fun c4 => ?_) (fun c4 => ?_)
              · skip
                have hie : 7 = i123 := (show i123 = 7 from lp_out (show (7 : Int32) = nI 7 from rfl) (by decide) hi123 c4).symm
                subst hie
                refine lv_iinc (v := nI (i112 + 1)) (lv' := [(3, .int (nI (i112 + 1))), (4, .int (nI 7)), (1, .long (dg (cfR (put n 31 0 0) q i112) 7 (dg2 (cfR (put n 31 0 0) q) 7 i112 (dgR3 (put n 31 0 0) q)))), (0, .ref (h 0))]) hx hb dX6_digest_151 hl (k := 1) rfl (nI_inc _) (by decide) rfl (fun ls hl => ?_)
                refine lv_goto (tgt := 112) hx hb dX6_digest_154 (by decide) ?_
                refine W.widen (k := 0 + 7 * (i112 + 1)) (n := 0 + 49 * (i112 + 1)) (by (try dsimp only); omega) (by (try dsimp only); omega) ?_
                exact ih112 (i112 + 1) (by omega) (by omega) (by omega) H locs hP hD hS ls (by rw [dg2_s]; exact lv_sub hl [0, 2, 3] rfl)
              · skip
                have hlt123 := lp_in (show (7 : Int32) = nI 7 from rfl) (by decide) hi123 c4
                refine lv_lload_n hx hb dX6_digest_130 rfl (lv_at hl 2 rfl) ?_
                refine lv_ldc2 hx hb hown (hts (.constantLong RX6 137 (31)) (by decide +kernel)) dX6_digest_131 ?_
                refine lv_lmul hx hb dX6_digest_134 ?_
                refine lv_aload_n hx hb dX6_digest_135 rfl (lv_at hl 3 rfl) ?_
                refine lv_iload_n hx hb dX6_digest_136 rfl (lv_at hl 1 rfl) ?_
                refine lv_iload hx hb dX6_digest_137 (lv_at hl 0 rfl) ?_
                refine ycalli (invV (As := [.int (nI i112), .int (nI i123)]) (rest := [.long ((dg (cfR (put n 31 0 0) q i112) i123 (dg2 (cfR (put n 31 0 0) q) 7 i112 (dgR3 (put n 31 0 0) q))) * 31)]) (rm := ({ frames := 0, cells := 1, slots := 7, locals := 0 } : Room)) ⟨hx, hb, hml, hown, hts⟩ (cwV 2 hts gX6_digest_X6_sorterTold rfl rfl rfl (by decide +kernel) ⟨Nat.le_of_ble_eq_true rfl, Nat.le_of_ble_eq_true rfl⟩) (va_recv hK hP (ci := 6) (q0 := 0) rfl rfl) rfl rfl hl.1 (Nat.le_of_ble_eq_true rfl) dX6_digest_139) (c_X6_sorterTold l D cI h b d (put n 31 0 0) q w0 i112 (by omega) (nI i112) rfl i123 hlt123 (nI i123) rfl) hK hN hA hP hD hS (W2 := wMo cI h b d (put n 31 0 0) q w0) [0, 1, 2, 3, 4, 5, 6, 7, 8, 9, 10, 11, 12, 13, 14, 15, 16, 17, 18, 19, 20, 21, 22, 23, 24, 25] [] [0, 1, 2, 3, 4, 5, 6, 7, 8, 9, 10, 11, 12, 13, 14, 15, 16, 17, 18, 19, 20, 21, 22, 23, 24, 25] rfl rfl rfl (by decide) ⟨(by show 0 + 7 * i112 + i123 + 1 ≤ 328; omega), (by show 0 + 49 * i112 + 7 * i123 + 7 ≤ 1696; omega)⟩ (fun H locs hP hD hS => ?_)
                refine lv_i2l hx hb dX6_digest_142 rfl ?_
                refine lv_ladd hx hb dX6_digest_143 ?_
                refine lv_lstore_n (lv' := [(1, .long (((dg (cfR (put n 31 0 0) q i112) i123 (dg2 (cfR (put n 31 0 0) q) 7 i112 (dgR3 (put n 31 0 0) q))) * 31) + ((cfR (put n 31 0 0) q i112 i123).toInt64))), (4, .int (nI i123)), (3, .int (nI i112)), (0, .ref (h 0))]) hx hb dX6_digest_144 rfl hl (by decide) rfl (fun ls hl => ?_)
                refine lv_iinc (v := nI (i123 + 1)) (lv' := [(4, .int (nI (i123 + 1))), (1, .long (((dg (cfR (put n 31 0 0) q i112) i123 (dg2 (cfR (put n 31 0 0) q) 7 i112 (dgR3 (put n 31 0 0) q))) * 31) + ((cfR (put n 31 0 0) q i112 i123).toInt64))), (3, .int (nI i112)), (0, .ref (h 0))]) hx hb dX6_digest_145 hl (k := 1) rfl (nI_inc _) (by decide) rfl (fun ls hl => ?_)
                refine lv_goto (tgt := 123) hx hb dX6_digest_148 (by decide) ?_
                refine W.widen (k := 0 + 7 * i112 + (i123 + 1)) (n := 0 + 49 * i112 + 7 * (i123 + 1)) (by (try dsimp only); omega) (by (try dsimp only); omega) ?_
                exact ih123 (i123 + 1) (by omega) (by omega) (by omega) H locs hP hD hS ls (by rw [dg_s]; exact lv_sub hl [0, 2, 1, 3] rfl)
          refine W.widen (k := 0 + 7 * i112 + 0) (n := 0 + 49 * i112 + 7 * 0) (by (try dsimp only); omega) (by (try dsimp only); omega) ?_
          exact K123 (7 + 1) 0 (Nat.le_refl _) (by omega) (by omega) _ _ hP hD hS ls (by rw [dg_0]; exact lv_sub hl [0, 1, 2, 3] rfl)
    refine W.widen (k := 0 + 7 * 0) (n := 0 + 49 * 0) (by (try dsimp only); omega) (by (try dsimp only); omega) ?_
    exact K112 (iv ((put n 31 0 0) 10 0) + 1) 0 (Nat.le_refl _) (by omega) (by omega) _ _ hP hD hS ls (by rw [dg2_0]; exact lv_sub hl [0, 1, 2] rfl)
  have CUT80 : ∀ (H : Heap) (locs : List Loc) (ls : Array Slot), va_P D vwCl (wMo cI h b d (put n 31 0 0) q w0) H → va_D A (wMo cI h b d (put n 31 0 0) q w0) → va_S A s.heap H locs → lv_has ls 5 [(1, .long (dgR2 (put n 31 0 0) q)), (0, .ref (h 0))] → W p l e ({ frames := 3, cells := 328, slots := 1696, locals := 64 } : Room) s m args below meth c H locs (0) (0) Q (F0 m 80 ls []) := by
    intro H locs ls hP hD hS hl
    refine lv_iconst (v := 0) hx hb dX6_digest_80 (by decide) ?_
    refine lv_istore_n (lv' := [(3, .int 0), (1, .long (dgR2 (put n 31 0 0) q)), (0, .ref (h 0))]) hx hb dX6_digest_81 rfl hl (by decide) rfl (fun ls hl => ?_)
    have K82 : ∀ (n82 i82 : Nat), 0 ≤ i82 → i82 ≤ 16 → 16 < i82 + n82 → ∀ (H : Heap) (locs : List Loc), va_P D vwCl (wMo cI h b d (put n 31 0 0) q w0) H → va_D A (wMo cI h b d (put n 31 0 0) q w0) → va_S A s.heap H locs → ∀ (ls : Array Slot), lv_has ls 5 [(3, .int (nI i82)), (1, .long (dg (hoR1 (put n 31 0 0) q) i82 (dgR2 (put n 31 0 0) q))), (0, .ref (h 0))] → W p l e ({ frames := 3, cells := 328, slots := 1696, locals := 64 } : Room) s m args below meth c H locs (0) (0) Q (F0 m 82 ls []) := by
      intro n82
      induction n82 with
      | zero => intro i82 hlo82 hi82 hn82; exact absurd hn82 (by omega)
      | succ n82 ih82 =>
        intro i82 hlo82 hi82 hn82 H locs hP hD hS ls hl
        refine lv_iload_n hx hb dX6_digest_82 rfl (lv_at hl 0 rfl) ?_
        refine lv_bipush (v := 16) hx hb dX6_digest_83 (by decide) ?_
        refine lv_icmp_ge (tgt := 110) hx hb dX6_digest_85 (by decide) (fun c5 => ?_) (fun c5 => ?_)
        · skip
          have hie : 16 = i82 := (show i82 = 16 from lp_out (show (16 : Int32) = nI 16 from rfl) (by omega) hi82 c5).symm
          subst hie
          exact CUT110 _ _ _ hP hD hS (lv_sub hl [1, 2] rfl)
        · skip
          have hlt82 := lp_in (show (16 : Int32) = nI 16 from rfl) (by omega) hi82 c5
          refine lv_lload_n hx hb dX6_digest_88 rfl (lv_at hl 1 rfl) ?_
          refine lv_ldc2 hx hb hown (hts (.constantLong RX6 137 (31)) (by decide +kernel)) dX6_digest_89 ?_
          refine lv_lmul hx hb dX6_digest_92 ?_
          refine lv_aload_n hx hb dX6_digest_93 rfl (lv_at hl 2 rfl) ?_
          refine va_get (D := D) (ci := 6) (v := .ref (b 30)) (C := RX6) (T := TX6) (N := 10) hx hb hts inX6 hown hK hP 0 rfl rfl 8 (by decide) f30 (fun _ h9 => h9) rfl dX6_digest_94 ?_
          refine lv_iload_n hx hb dX6_digest_97 rfl (lv_at hl 0 rfl) ?_
          refine ycalli (invV (As := [.int (nI i82)]) (rest := [.long ((dg (hoR1 (put n 31 0 0) q) i82 (dgR2 (put n 31 0 0) q)) * 31)]) (rm := ({ frames := 0, cells := 0, slots := 0, locals := 0 } : Room)) ⟨hx, hb, hml, hown, hts⟩ (cwV 1 hts gX6_digest_X5_inHole rfl rfl rfl (by decide +kernel) ⟨Nat.le_of_ble_eq_true rfl, Nat.le_of_ble_eq_true rfl⟩) (va_recv hK hP (ci := 5) (q0 := 6) rfl rfl) rfl rfl hl.1 (Nat.le_of_ble_eq_true rfl) dX6_digest_98) (c_X5_inHole l D cI h b (b 30) (d 30) (put n 31 0 0) q okn1 (nI i82)) hK hN hA hP hD hS (W2 := wMo cI h b d (put n 31 0 0) q w0) [6, 7, 8, 9, 10, 11, 12, 13, 14, 15, 0, 1, 2, 3, 4, 5] [16, 17, 18, 19, 20, 21, 22, 23, 24, 25] [20, 21, 22, 23, 24, 25, 10, 11, 12, 13, 14, 15, 16, 17, 18, 19, 0, 1, 2, 3, 4, 5, 6, 7, 8, 9] rfl rfl rfl (by decide) ⟨Nat.le_of_ble_eq_true rfl, Nat.le_of_ble_eq_true rfl⟩ (fun H locs hP hD hS => ?_)
          refine lv_i2l hx hb dX6_digest_101 rfl ?_
          refine lv_ladd hx hb dX6_digest_102 ?_
          refine lv_lstore_n (lv' := [(1, .long (((dg (hoR1 (put n 31 0 0) q) i82 (dgR2 (put n 31 0 0) q)) * 31) + ((hoR1 (put n 31 0 0) q i82).toInt64))), (3, .int (nI i82)), (0, .ref (h 0))]) hx hb dX6_digest_103 rfl hl (by decide) rfl (fun ls hl => ?_)
          refine lv_iinc (v := nI (i82 + 1)) (lv' := [(3, .int (nI (i82 + 1))), (1, .long (((dg (hoR1 (put n 31 0 0) q) i82 (dgR2 (put n 31 0 0) q)) * 31) + ((hoR1 (put n 31 0 0) q i82).toInt64))), (0, .ref (h 0))]) hx hb dX6_digest_104 hl (k := 1) rfl (nI_inc _) (by decide) rfl (fun ls hl => ?_)
          refine lv_goto (tgt := 82) hx hb dX6_digest_107 (by decide) ?_
          exact ih82 (i82 + 1) (by omega) (by omega) (by omega) H locs hP hD hS ls (by rw [dg_s]; exact lv_sub hl [0, 1, 2] rfl)
    exact K82 (16 + 1) 0 (Nat.le_refl _) (by omega) (by omega) _ _ hP hD hS ls (by rw [dg_0]; exact lv_sub hl [0, 1, 2] rfl)
  have CUT36 : ∀ (H : Heap) (locs : List Loc) (ls : Array Slot), va_P D vwCl (wMo cI h b d (put n 31 0 0) q w0) H → va_D A (wMo cI h b d (put n 31 0 0) q w0) → va_S A s.heap H locs → lv_has ls 5 [(1, .long (dgR1 (put n 31 0 0) q)), (0, .ref (h 0))] → W p l e ({ frames := 3, cells := 328, slots := 1696, locals := 64 } : Room) s m args below meth c H locs (0) (0) Q (F0 m 36 ls []) := by
    intro H locs ls hP hD hS hl
    refine lv_iconst (v := 0) hx hb dX6_digest_36 (by decide) ?_
    refine lv_istore_n (lv' := [(3, .int 0), (1, .long (dgR1 (put n 31 0 0) q)), (0, .ref (h 0))]) hx hb dX6_digest_37 rfl hl (by decide) rfl (fun ls hl => ?_)
    have K38 : ∀ (n38 i38 : Nat), 0 ≤ i38 → i38 ≤ 8 → 8 < i38 + n38 → ∀ (H : Heap) (locs : List Loc), va_P D vwCl (wMo cI h b d (put n 31 0 0) q w0) H → va_D A (wMo cI h b d (put n 31 0 0) q w0) → va_S A s.heap H locs → ∀ (ls : Array Slot), lv_has ls 5 [(3, .int (nI i38)), (1, .long (dg2 (stR1 (put n 31 0 0) q) 3 i38 (dgR1 (put n 31 0 0) q))), (0, .ref (h 0))] → W p l e ({ frames := 3, cells := 328, slots := 1696, locals := 64 } : Room) s m args below meth c H locs (0) (0) Q (F0 m 38 ls []) := by
      intro n38
      induction n38 with
      | zero => intro i38 hlo38 hi38 hn38; exact absurd hn38 (by omega)
      | succ n38 ih38 =>
        intro i38 hlo38 hi38 hn38 H locs hP hD hS ls hl
        refine lv_iload_n hx hb dX6_digest_38 rfl (lv_at hl 0 rfl) ?_
        refine lv_bipush (v := 8) hx hb dX6_digest_39 (by decide) ?_
        refine lv_icmp_ge (tgt := 80) hx hb dX6_digest_41 (by decide) (fun c6 => ?_) (fun c6 => ?_)
        · skip
          have hie : 8 = i38 := (show i38 = 8 from lp_out (show (8 : Int32) = nI 8 from rfl) (by omega) hi38 c6).symm
          subst hie
          exact CUT80 _ _ _ hP hD hS (lv_sub hl [1, 2] rfl)
        · skip
          have hlt38 := lp_in (show (8 : Int32) = nI 8 from rfl) (by omega) hi38 c6
          refine lv_iconst (v := 0) hx hb dX6_digest_44 (by decide) ?_
          refine lv_istore (lv' := [(4, .int 0), (3, .int (nI i38)), (1, .long (dg2 (stR1 (put n 31 0 0) q) 3 i38 (dgR1 (put n 31 0 0) q))), (0, .ref (h 0))]) hx hb dX6_digest_45 hl (by decide) rfl (fun ls hl => ?_)
          have K47 : ∀ (n47 i47 : Nat), 0 ≤ i47 → i47 ≤ 3 → 3 < i47 + n47 → ∀ (H : Heap) (locs : List Loc), va_P D vwCl (wMo cI h b d (put n 31 0 0) q w0) H → va_D A (wMo cI h b d (put n 31 0 0) q w0) → va_S A s.heap H locs → ∀ (ls : Array Slot), lv_has ls 5 [(4, .int (nI i47)), (3, .int (nI i38)), (1, .long (dg (stR1 (put n 31 0 0) q i38) i47 (dg2 (stR1 (put n 31 0 0) q) 3 i38 (dgR1 (put n 31 0 0) q)))), (0, .ref (h 0))] → W p l e ({ frames := 3, cells := 328, slots := 1696, locals := 64 } : Room) s m args below meth c H locs (0) (0) Q (F0 m 47 ls []) := by
            intro n47
            induction n47 with
            | zero => intro i47 hlo47 hi47 hn47; exact absurd hn47 (by omega)
            | succ n47 ih47 =>
              intro i47 hlo47 hi47 hn47 H locs hP hD hS ls hl
              refine lv_iload hx hb dX6_digest_47 (lv_at hl 0 rfl) ?_
              refine lv_iconst (v := 3) hx hb dX6_digest_49 (by decide) ?_
              refine lv_icmp_ge (tgt := 74) hx hb dX6_digest_50 (by decide) (fun c7 => ?_) (fun c7 => ?_)
              · skip
                have hie : 3 = i47 := (show i47 = 3 from lp_out (show (3 : Int32) = nI 3 from rfl) (by decide) hi47 c7).symm
                subst hie
                refine lv_iinc (v := nI (i38 + 1)) (lv' := [(3, .int (nI (i38 + 1))), (4, .int (nI 3)), (1, .long (dg (stR1 (put n 31 0 0) q i38) 3 (dg2 (stR1 (put n 31 0 0) q) 3 i38 (dgR1 (put n 31 0 0) q)))), (0, .ref (h 0))]) hx hb dX6_digest_74 hl (k := 1) rfl (nI_inc _) (by decide) rfl (fun ls hl => ?_)
                refine lv_goto (tgt := 38) hx hb dX6_digest_77 (by decide) ?_
                exact ih38 (i38 + 1) (by omega) (by omega) (by omega) H locs hP hD hS ls (by rw [dg2_s]; exact lv_sub hl [0, 2, 3] rfl)
              · skip
                have hlt47 := lp_in (show (3 : Int32) = nI 3 from rfl) (by decide) hi47 c7
                refine lv_lload_n hx hb dX6_digest_53 rfl (lv_at hl 2 rfl) ?_
                refine lv_ldc2 hx hb hown (hts (.constantLong RX6 137 (31)) (by decide +kernel)) dX6_digest_54 ?_
                refine lv_lmul hx hb dX6_digest_57 ?_
                refine lv_aload_n hx hb dX6_digest_58 rfl (lv_at hl 3 rfl) ?_
                refine lv_iload_n hx hb dX6_digest_59 rfl (lv_at hl 1 rfl) ?_
                refine lv_iload hx hb dX6_digest_60 (lv_at hl 0 rfl) ?_
                refine ycalli (invV (As := [.int (nI i38), .int (nI i47)]) (rest := [.long ((dg (stR1 (put n 31 0 0) q i38) i47 (dg2 (stR1 (put n 31 0 0) q) 3 i38 (dgR1 (put n 31 0 0) q))) * 31)]) (rm := ({ frames := 0, cells := 0, slots := 0, locals := 0 } : Room)) ⟨hx, hb, hml, hown, hts⟩ (cwV 2 hts gX6_digest_X6_stationTold rfl rfl rfl (by decide +kernel) ⟨Nat.le_of_ble_eq_true rfl, Nat.le_of_ble_eq_true rfl⟩) (va_recv hK hP (ci := 6) (q0 := 0) rfl rfl) rfl rfl hl.1 (Nat.le_of_ble_eq_true rfl) dX6_digest_62) (c_X6_stationTold l D cI h b d (put n 31 0 0) q w0 okn1 i38 hlt38 (nI i38) rfl (nI i47)) hK hN hA hP hD hS (W2 := wMo cI h b d (put n 31 0 0) q w0) [0, 1, 2, 3, 4, 5, 6, 7, 8, 9, 10, 11, 12, 13, 14, 15, 16, 17, 18, 19, 20, 21, 22, 23, 24, 25] [] [0, 1, 2, 3, 4, 5, 6, 7, 8, 9, 10, 11, 12, 13, 14, 15, 16, 17, 18, 19, 20, 21, 22, 23, 24, 25] rfl rfl rfl (by decide) ⟨Nat.le_of_ble_eq_true rfl, Nat.le_of_ble_eq_true rfl⟩ (fun H locs hP hD hS => ?_)
                refine lv_i2l hx hb dX6_digest_65 rfl ?_
                refine lv_ladd hx hb dX6_digest_66 ?_
                refine lv_lstore_n (lv' := [(1, .long (((dg (stR1 (put n 31 0 0) q i38) i47 (dg2 (stR1 (put n 31 0 0) q) 3 i38 (dgR1 (put n 31 0 0) q))) * 31) + ((stR1 (put n 31 0 0) q i38 i47).toInt64))), (4, .int (nI i47)), (3, .int (nI i38)), (0, .ref (h 0))]) hx hb dX6_digest_67 rfl hl (by decide) rfl (fun ls hl => ?_)
                refine lv_iinc (v := nI (i47 + 1)) (lv' := [(4, .int (nI (i47 + 1))), (1, .long (((dg (stR1 (put n 31 0 0) q i38) i47 (dg2 (stR1 (put n 31 0 0) q) 3 i38 (dgR1 (put n 31 0 0) q))) * 31) + ((stR1 (put n 31 0 0) q i38 i47).toInt64))), (3, .int (nI i38)), (0, .ref (h 0))]) hx hb dX6_digest_68 hl (k := 1) rfl (nI_inc _) (by decide) rfl (fun ls hl => ?_)
                refine lv_goto (tgt := 47) hx hb dX6_digest_71 (by decide) ?_
                exact ih47 (i47 + 1) (by omega) (by omega) (by omega) H locs hP hD hS ls (by rw [dg_s]; exact lv_sub hl [0, 2, 1, 3] rfl)
          exact K47 (3 + 1) 0 (Nat.le_refl _) (by omega) (by omega) _ _ hP hD hS ls (by rw [dg_0]; exact lv_sub hl [0, 1, 2, 3] rfl)
    exact K38 (8 + 1) 0 (Nat.le_refl _) (by omega) (by omega) _ _ hP hD hS ls (by rw [dg2_0]; exact lv_sub hl [0, 1, 2] rfl)
  refine lv_aload_n hx hb dX6_digest_0 rfl (lv_at hl 0 rfl) ?_
  refine lv_iconst (v := 0) hx hb dX6_digest_1 (by decide) ?_
  obtain ⟨u8, eu8⟩ : ∃ z0 : Rc, z0 = put n 31 0 0 := ⟨_, rfl⟩
  refine va_put (D := D) (ci := 6) (v := .int 0) (ty := .int) (C := RX6) (T := TX6) (N := 10) hx hb hts inX6 tyX6 tyX6_ok nmX6 hown hK hP hD hS 0 rfl rfl 0 (by decide) f37 (fun _ h9 => h9) rfl (by decide +kernel) rfl rfl (Nat.le_of_ble_eq_true rfl) dX6_digest_2 (fun H locs hP hD hS => ?_)
  have hP : va_P D vwCl (wMo cI h b d u8 q w0) H := by subst eu8; exact hP
  have hD : va_D A (wMo cI h b d u8 q w0) := by subst eu8; exact hD
  rw [eu8] at hP hD
  refine lv_ldc2 hx hb hown (hts (.constantLong RX6 135 (1049)) (by decide +kernel)) dX6_digest_5 ?_
  refine lv_lstore_n (lv' := [(1, .long 1049), (0, .ref (h 0))]) hx hb dX6_digest_8 rfl hl (by decide) rfl (fun ls hl => ?_)
  refine lv_iconst (v := 0) hx hb dX6_digest_9 (by decide) ?_
  refine lv_istore_n (lv' := [(3, .int 0), (1, .long 1049), (0, .ref (h 0))]) hx hb dX6_digest_10 rfl hl (by decide) rfl (fun ls hl => ?_)
  have K11 : ∀ (n11 i11 : Nat), 0 ≤ i11 → i11 ≤ 10 → 10 < i11 + n11 → ∀ (H : Heap) (locs : List Loc), va_P D vwCl (wMo cI h b d (put n 31 0 0) q w0) H → va_D A (wMo cI h b d (put n 31 0 0) q w0) → va_S A s.heap H locs → ∀ (ls : Array Slot), lv_has ls 5 [(3, .int (nI i11)), (1, .long (dg (cntR1 (put n 31 0 0) q) i11 1049)), (0, .ref (h 0))] → W p l e ({ frames := 3, cells := 328, slots := 1696, locals := 64 } : Room) s m args below meth c H locs (0) (0) Q (F0 m 11 ls []) := by
    intro n11
    induction n11 with
    | zero => intro i11 hlo11 hi11 hn11; exact absurd hn11 (by omega)
    | succ n11 ih11 =>
      intro i11 hlo11 hi11 hn11 H locs hP hD hS ls hl
      refine lv_iload_n hx hb dX6_digest_11 rfl (lv_at hl 0 rfl) ?_
      refine lv_bipush (v := 10) hx hb dX6_digest_12 (by decide) ?_
      refine lv_icmp_ge (tgt := 36) hx hb dX6_digest_14 (by decide) (fun c9 => ?_) (fun c9 => ?_)
      · skip
        have hie : 10 = i11 := (show i11 = 10 from lp_out (show (10 : Int32) = nI 10 from rfl) (by omega) hi11 c9).symm
        subst hie
        exact CUT36 _ _ _ hP hD hS (lv_sub hl [1, 2] rfl)
      · skip
        have hlt11 := lp_in (show (10 : Int32) = nI 10 from rfl) (by omega) hi11 c9
        refine lv_lload_n hx hb dX6_digest_17 rfl (lv_at hl 1 rfl) ?_
        refine lv_ldc2 hx hb hown (hts (.constantLong RX6 137 (31)) (by decide +kernel)) dX6_digest_18 ?_
        refine lv_lmul hx hb dX6_digest_21 ?_
        refine lv_aload_n hx hb dX6_digest_22 rfl (lv_at hl 2 rfl) ?_
        refine lv_iload_n hx hb dX6_digest_23 rfl (lv_at hl 0 rfl) ?_
        refine ycalli (invV (As := [.int (nI i11)]) (rest := [.long ((dg (cntR1 (put n 31 0 0) q) i11 1049) * 31)]) (rm := ({ frames := 2, cells := 0, slots := 0, locals := 42 } : Room)) ⟨hx, hb, hml, hown, hts⟩ (cwV 1 hts gX6_digest_X6_counted rfl rfl rfl (by decide +kernel) ⟨Nat.le_of_ble_eq_true rfl, Nat.le_of_ble_eq_true rfl⟩) (va_recv hK hP (ci := 6) (q0 := 0) rfl rfl) rfl rfl hl.1 (Nat.le_of_ble_eq_true rfl) dX6_digest_24) (c_X6_counted l D cI h b d (put n 31 0 0) q w0 okn1 (nI i11)) hK hN hA hP hD hS (W2 := wMo cI h b d (put n 31 0 0) q w0) [0, 1, 2, 3, 4, 5, 6, 7, 8, 9, 10, 11, 12, 13, 14, 15, 16, 17, 18, 19, 20, 21, 22, 23, 24, 25] [] [0, 1, 2, 3, 4, 5, 6, 7, 8, 9, 10, 11, 12, 13, 14, 15, 16, 17, 18, 19, 20, 21, 22, 23, 24, 25] rfl rfl rfl (by decide) ⟨Nat.le_of_ble_eq_true rfl, Nat.le_of_ble_eq_true rfl⟩ (fun H locs hP hD hS => ?_)
        refine lv_i2l hx hb dX6_digest_27 rfl ?_
        refine lv_ladd hx hb dX6_digest_28 ?_
        refine lv_lstore_n (lv' := [(1, .long (((dg (cntR1 (put n 31 0 0) q) i11 1049) * 31) + ((cntR1 (put n 31 0 0) q i11).toInt64))), (3, .int (nI i11)), (0, .ref (h 0))]) hx hb dX6_digest_29 rfl hl (by decide) rfl (fun ls hl => ?_)
        refine lv_iinc (v := nI (i11 + 1)) (lv' := [(3, .int (nI (i11 + 1))), (1, .long (((dg (cntR1 (put n 31 0 0) q) i11 1049) * 31) + ((cntR1 (put n 31 0 0) q i11).toInt64))), (0, .ref (h 0))]) hx hb dX6_digest_30 hl (k := 1) rfl (nI_inc _) (by decide) rfl (fun ls hl => ?_)
        refine lv_goto (tgt := 11) hx hb dX6_digest_33 (by decide) ?_
        exact ih11 (i11 + 1) (by omega) (by omega) (by omega) H locs hP hD hS ls (by rw [dg_s]; exact lv_sub hl [0, 1, 2] rfl)
  exact K11 (10 + 1) 0 (Nat.le_refl _) (by omega) (by omega) _ _ hP hD hS ls (by rw [dg_0]; exact lv_sub hl [0, 1, 2] rfl)
