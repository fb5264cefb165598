theorem dg_0 {f : Nat → Int32} {d : Int64} : dg f 0 d = d := rfl
theorem dg2_0 {F : Nat → Nat → Int32} {w : Nat} {d : Int64} : dg2 F w 0 d = d := rfl
set_option maxHeartbeats 4000000 in
set_option maxRecDepth 100000 in
theorem c_X4_digest (l : Launch) (D : va_G) (cI : ClassId) (o : Nat) (g a b : Nat → Nat) (r u v : Rc) (ok : Ok u) : CL l yX4_digest wsX4_digest ({ frames := 3, cells := 0, slots := 0, locals := 67 } : Room) D cI [.ref o] (wX cI o g a b r u v) (dig5 r u) (wX cI o g a b r u v) := by
  refine CL.mk (cc := cX4_digest) (maxL := 5) (by decide) rfl (Nat.le_of_ble_eq_true rfl) ?_
  intro p e s m args below meth c A Q ls hx hb hts hown hml hK hN hA hP hD hS hl fin
  have hown : s.vm.findClass RX4 = some m.cls := hown
  have hn60 := ok.n60
  have hk4 := ok.k4
  have hl : lv_has ls 5 [(0, .ref o)] := hl
  have f17 := hts (.fieldLink RX4 17 "NightSorters" "train" "LNightSorters$Train;") (by decide +kernel)
  have f58 := hts (.fieldLink RX4 58 "NightSorters$Train" "mail" "LNightSorters$Mail;") (by decide +kernel)
  have f62 := hts (.fieldLink RX4 62 "NightSorters$Mail" "size" "I") (by decide +kernel)
  have f74 := hts (.fieldLink RX4 74 "NightSorters$Train" "crew" "LNightSorters$Crew;") (by decide +kernel)
  have f78 := hts (.fieldLink RX4 78 "NightSorters$Crew" "size" "I") (by decide +kernel)
  have inX0 : ∀ w ∈ wsX00, w ∈ wsX4_digest := by decide +kernel
  have inX2 : ∀ w ∈ wsX20, w ∈ wsX4_digest := by decide +kernel
  have inX3 : ∀ w ∈ wsX30, w ∈ wsX4_digest := by decide +kernel
  have inX4 : ∀ w ∈ wsX40, w ∈ wsX4_digest := by decide +kernel
  have CUT155 : ∀ (H : Heap) (locs : List Loc) (ls : Array Slot), va_P D vwCl (wX cI o g a b r u v) H → va_D A (wX cI o g a b r u v) → va_S A s.heap H locs → lv_has ls 5 [(1, .long (dig4 r u)), (0, .ref o)] → W p l e ({ frames := 3, cells := 0, slots := 0, locals := 67 } : Room) s m args below meth c H locs (0) (0) Q (F0 m 155 ls []) := by
    intro H locs ls hP hD hS hl
    refine lv_iconst (v := 0) hx hb dX4_digest_155 (by decide) ?_
    refine lv_istore_n (lv' := [(3, .int 0), (1, .long (dig4 r u)), (0, .ref o)]) hx hb dX4_digest_156 rfl hl (by decide) rfl (fun ls hl => ?_)
    have K157 : ∀ (n157 i157 : Nat), 0 ≤ i157 → i157 ≤ iv (u 0 0) → iv (u 0 0) < i157 + n157 → ∀ (H : Heap) (locs : List Loc), va_P D vwCl (wX cI o g a b r u v) H → va_D A (wX cI o g a b r u v) → va_S A s.heap H locs → ∀ (ls : Array Slot), lv_has ls 5 [(3, .int (nI i157)), (1, .long (dg2 (mfact u) 5 i157 (dig4 r u))), (0, .ref o)] → W p l e ({ frames := 3, cells := 0, slots := 0, locals := 67 } : Room) s m args below meth c H locs (0) (0) Q (F0 m 157 ls []) := by
      intro n157
      induction n157 with
      | zero => intro i157 hlo157 hi157 hn157; exact absurd hn157 (by omega)
      | succ n157 ih157 =>
        intro i157 hlo157 hi157 hn157 H locs hP hD hS ls hl
        refine lv_iload_n hx hb dX4_digest_157 rfl (lv_at hl 0 rfl) ?_
        refine lv_aload_n hx hb dX4_digest_158 rfl (lv_at hl 2 rfl) ?_
        refine va_get (D := D) (ci := 4) (v := .ref (a 30)) (C := RX4) (T := TX4) (N := 2) hx hb hts inX4 hown hK hP 0 rfl rfl 0 (by decide) f17 (fun _ h9 => h9) rfl dX4_digest_159 ?_
        refine va_get (D := D) (ci := 3) (v := .ref (a 0)) (C := RX3) (T := TX3) (N := 4) hx hb hts inX3 hown hK hP 1 rfl rfl 1 (by decide) f58 (fun _ h9 => h9) rfl dX4_digest_162 ?_
        refine va_get (D := D) (ci := 2) (v := .int (u 0 0)) (C := RX2) (T := TX2) (N := 8) hx hb hts inX2 hown hK hP 2 rfl rfl 0 (by decide) f62 (fun _ h9 => h9) rfl dX4_digest_165 ?_
        refine lv_icmp_ge (tgt := 207) hx hb dX4_digest_168 (by decide) (fun c1 => ?_) (fun c1 => ?_)
        · skip
          have hie : iv (u 0 0) = i157 := (show i157 = iv (u 0 0) from lp_out ok.n (by omega) hi157 c1).symm
          subst hie
          refine lv_lload_n hx hb dX4_digest_207 rfl (lv_at hl 1 rfl) ?_
          exact fin _ _ _ _ _ _ _ _ (by rfl) rfl hP hD hS (Nat.le_of_ble_eq_true rfl) (Nat.le_of_ble_eq_true rfl) dX4_digest_208
        · skip
          have hlt157 := lp_in ok.n (by omega) hi157 c1
          refine lv_iconst (v := 0) hx hb dX4_digest_171 (by decide) ?_
          refine lv_istore (lv' := [(4, .int 0), (3, .int (nI i157)), (1, .long (dg2 (mfact u) 5 i157 (dig4 r u))), (0, .ref o)]) hx hb dX4_digest_172 hl (by decide) rfl (fun ls hl => ?_)
          have K174 : ∀ (n174 i174 : Nat), 0 ≤ i174 → i174 ≤ 5 → 5 < i174 + n174 → ∀ (H : Heap) (locs : List Loc), va_P D vwCl (wX cI o g a b r u v) H → va_D A (wX cI o g a b r u v) → va_S A s.heap H locs → ∀ (ls : Array Slot), lv_has ls 5 [(4, .int (nI i174)), (3, .int (nI i157)), (1, .long (dg (mfact u i157) i174 (dg2 (mfact u) 5 i157 (dig4 r u)))), (0, .ref o)] → W p l e ({ frames := 3, cells := 0, slots := 0, locals := 67 } : Room) s m args below meth c H locs (0) (0) Q (F0 m 174 ls []) := by
            intro n174
            induction n174 with
            | zero => intro i174 hlo174 hi174 hn174; exact absurd hn174 (by omega)
            | succ n174 ih174 =>
              intro i174 hlo174 hi174 hn174 H locs hP hD hS ls hl
              refine lv_iload hx hb dX4_digest_174 (lv_at hl 0 rfl) ?_
              refine lv_iconst (v := 5) hx hb dX4_digest_176 (by decide) ?_
              refine lv_icmp_ge (tgt := 201) hx hb dX4_digest_177 (by decide) (fun c2 => ?_) (fun c2 => ?_)
              · skip
                have hie : 5 = i174 := (show i174 = 5 from lp_out (show (5 : Int32) = nI 5 from rfl) (by decide) hi174 c2).symm
                subst hie
                refine lv_iinc (v := nI (i157 + 1)) (lv' := [(3, .int (nI (i157 + 1))), (4, .int (nI 5)), (1, .long (dg (mfact u i157) 5 (dg2 (mfact u) 5 i157 (dig4 r u)))), (0, .ref o)]) hx hb dX4_digest_201 hl (k := 1) rfl (nI_inc _) (by decide) rfl (fun ls hl => ?_)
                refine lv_goto (tgt := 157) hx hb dX4_digest_204 (by decide) ?_
                exact ih157 (i157 + 1) (by omega) (by omega) (by omega) H locs hP hD hS ls (by rw [dg2_s]; exact lv_sub hl [0, 2, 3] rfl)
              · skip
                have hlt174 := lp_in (show (5 : Int32) = nI 5 from rfl) (by decide) hi174 c2
                refine lv_lload_n hx hb dX4_digest_180 rfl (lv_at hl 2 rfl) ?_
                refine lv_ldc2 hx hb hown (hts (.constantLong RX4 140 (31)) (by decide +kernel)) dX4_digest_181 ?_
                refine lv_lmul hx hb dX4_digest_184 ?_
                refine lv_aload_n hx hb dX4_digest_185 rfl (lv_at hl 3 rfl) ?_
                refine lv_iload_n hx hb dX4_digest_186 rfl (lv_at hl 1 rfl) ?_
                refine lv_iload hx hb dX4_digest_187 (lv_at hl 0 rfl) ?_
                refine ycalli (invV (As := [.int (nI i157), .int (nI i174)]) (rest := [.long ((dg (mfact u i157) i174 (dg2 (mfact u) 5 i157 (dig4 r u))) * 31)]) (rm := ({ frames := 1, cells := 0, slots := 0, locals := 22 } : Room)) ⟨hx, hb, hml, hown, hts⟩ (cwV 2 hts gX4_digest_X4_letter rfl rfl rfl (by decide +kernel) ⟨Nat.le_of_ble_eq_true rfl, Nat.le_of_ble_eq_true rfl⟩) (va_recv hK hP (ci := 4) (q0 := 0) rfl rfl) rfl rfl hl.1 (Nat.le_of_ble_eq_true rfl) dX4_digest_189) (c_X4_letter l D cI o g a b r u v ok i157 hlt157 (nI i157) rfl i174 hlt174 (nI i174) rfl) hK hN hA hP hD hS (W2 := wX cI o g a b r u v) [0, 1, 2, 3, 4, 5, 6, 7, 8, 9, 10, 11, 12, 13, 14, 15, 16, 17, 18, 19, 20, 21, 22, 23, 24, 25, 26, 27, 28, 29, 30, 31, 32, 33, 34, 35, 36, 37] [] [0, 1, 2, 3, 4, 5, 6, 7, 8, 9, 10, 11, 12, 13, 14, 15, 16, 17, 18, 19, 20, 21, 22, 23, 24, 25, 26, 27, 28, 29, 30, 31, 32, 33, 34, 35, 36, 37] rfl rfl rfl (by decide) ⟨Nat.le_of_ble_eq_true rfl, Nat.le_of_ble_eq_true rfl⟩ (fun H locs hP hD hS => ?_)
                refine lv_i2l hx hb dX4_digest_192 rfl ?_
                refine lv_ladd hx hb dX4_digest_193 ?_
                refine lv_lstore_n (lv' := [(1, .long (((dg (mfact u i157) i174 (dg2 (mfact u) 5 i157 (dig4 r u))) * 31) + ((mfact u i157 i174).toInt64))), (4, .int (nI i174)), (3, .int (nI i157)), (0, .ref o)]) hx hb dX4_digest_194 rfl hl (by decide) rfl (fun ls hl => ?_)
                refine lv_iinc (v := nI (i174 + 1)) (lv' := [(4, .int (nI (i174 + 1))), (1, .long (((dg (mfact u i157) i174 (dg2 (mfact u) 5 i157 (dig4 r u))) * 31) + ((mfact u i157 i174).toInt64))), (3, .int (nI i157)), (0, .ref o)]) hx hb dX4_digest_195 hl (k := 1) rfl (nI_inc _) (by decide) rfl (fun ls hl => ?_)
                refine lv_goto (tgt := 174) hx hb dX4_digest_198 (by decide) ?_
                exact ih174 (i174 + 1) (by omega) (by omega) (by omega) H locs hP hD hS ls (by rw [dg_s]; exact lv_sub hl [0, 2, 1, 3] rfl)
          exact K174 (5 + 1) 0 (Nat.le_refl _) (by omega) (by omega) _ _ hP hD hS ls (by rw [dg_0]; exact lv_sub hl [0, 1, 2, 3] rfl)
    exact K157 (iv (u 0 0) + 1) 0 (Nat.le_refl _) (by omega) (by omega) _ _ hP hD hS ls (by rw [dg2_0]; exact lv_sub hl [0, 1, 2] rfl)
  have CUT102 : ∀ (H : Heap) (locs : List Loc) (ls : Array Slot), va_P D vwCl (wX cI o g a b r u v) H → va_D A (wX cI o g a b r u v) → va_S A s.heap H locs → lv_has ls 5 [(1, .long (dig3 r u)), (0, .ref o)] → W p l e ({ frames := 3, cells := 0, slots := 0, locals := 67 } : Room) s m args below meth c H locs (0) (0) Q (F0 m 102 ls []) := by
    intro H locs ls hP hD hS hl
    refine lv_iconst (v := 0) hx hb dX4_digest_102 (by decide) ?_
    refine lv_istore_n (lv' := [(3, .int 0), (1, .long (dig3 r u)), (0, .ref o)]) hx hb dX4_digest_103 rfl hl (by decide) rfl (fun ls hl => ?_)
    have K104 : ∀ (n104 i104 : Nat), 0 ≤ i104 → i104 ≤ iv (u 10 0) → iv (u 10 0) < i104 + n104 → ∀ (H : Heap) (locs : List Loc), va_P D vwCl (wX cI o g a b r u v) H → va_D A (wX cI o g a b r u v) → va_S A s.heap H locs → ∀ (ls : Array Slot), lv_has ls 5 [(3, .int (nI i104)), (1, .long (dg2 (cfact u) 7 i104 (dig3 r u))), (0, .ref o)] → W p l e ({ frames := 3, cells := 0, slots := 0, locals := 67 } : Room) s m args below meth c H locs (0) (0) Q (F0 m 104 ls []) := by
      intro n104
      induction n104 with
      | zero => intro i104 hlo104 hi104 hn104; exact absurd hn104 (by omega)
      | succ n104 ih104 =>
        intro i104 hlo104 hi104 hn104 H locs hP hD hS ls hl
        refine lv_iload_n hx hb dX4_digest_104 rfl (lv_at hl 0 rfl) ?_
        refine lv_aload_n hx hb dX4_digest_105 rfl (lv_at hl 2 rfl) ?_
        refine va_get (D := D) (ci := 4) (v := .ref (a 30)) (C := RX4) (T := TX4) (N := 2) hx hb hts inX4 hown hK hP 0 rfl rfl 0 (by decide) f17 (fun _ h9 => h9) rfl dX4_digest_106 ?_
        refine va_get (D := D) (ci := 3) (v := .ref (a 10)) (C := RX3) (T := TX3) (N := 4) hx hb hts inX3 hown hK hP 1 rfl rfl 2 (by decide) f74 (fun _ h9 => h9) rfl dX4_digest_109 ?_
        refine va_get (D := D) (ci := 0) (v := .int (u 10 0)) (C := RX0) (T := TX0) (N := 8) hx hb hts inX0 hown hK hP 10 rfl rfl 0 (by decide) f78 (fun _ h9 => h9) rfl dX4_digest_112 ?_
        refine lv_icmp_ge (tgt := 155) hx hb dX4_digest_115 (by decide) (fun c3 => ?_) (fun c3 => ?_)
        · skip
          have hie : iv (u 10 0) = i104 := (show i104 = iv (u 10 0) from lp_out ok.k (by omega) hi104 c3).symm
          subst hie
          exact CUT155 _ _ _ hP hD hS (lv_sub hl [1, 2] rfl)
        · skip
          have hlt104 := lp_in ok.k (by omega) hi104 c3
          refine lv_iconst (v := 0) hx hb dX4_digest_118 (by decide) ?_
          refine lv_istore (lv' := [(4, .int 0), (3, .int (nI i104)), (1, .long (dg2 (cfact u) 7 i104 (dig3 r u))), (0, .ref o)]) hx hb dX4_digest_119 hl (by decide) rfl (fun ls hl => ?_)
          have K121 : ∀ (n121 i121 : Nat), 0 ≤ i121 → i121 ≤ 7 → 7 < i121 + n121 → ∀ (H : Heap) (locs : List Loc), va_P D vwCl (wX cI o g a b r u v) H → va_D A (wX cI o g a b r u v) → va_S A s.heap H locs → ∀ (ls : Array Slot), lv_has ls 5 [(4, .int (nI i121)), (3, .int (nI i104)), (1, .long (dg (cfact u i104) i121 (dg2 (cfact u) 7 i104 (dig3 r u)))), (0, .ref o)] → W p l e ({ frames := 3, cells := 0, slots := 0, locals := 67 } : Room) s m args below meth c H locs (0) (0) Q (F0 m 121 ls []) := by
            intro n121
            induction n121 with
            | zero => intro i121 hlo121 hi121 hn121; exact absurd hn121 (by omega)
            | succ n121 ih121 =>
              intro i121 hlo121 hi121 hn121 H locs hP hD hS ls hl
              refine lv_iload hx hb dX4_digest_121 (lv_at hl 0 rfl) ?_
              refine lv_bipush (v := 7) hx hb dX4_digest_123 (by decide) ?_
              refine lv_icmp_ge (tgt := 149) hx hb dX4_digest_125 (by decide) (fun c4 => ?_) (fun c4 => ?_)
              · skip
                have hie : 7 = i121 := (show i121 = 7 from lp_out (show (7 : Int32) = nI 7 from rfl) (by decide) hi121 c4).symm
                subst hie
                refine lv_iinc (v := nI (i104 + 1)) (lv' := [(3, .int (nI (i104 + 1))), (4, .int (nI 7)), (1, .long (dg (cfact u i104) 7 (dg2 (cfact u) 7 i104 (dig3 r u)))), (0, .ref o)]) hx hb dX4_digest_149 hl (k := 1) rfl (nI_inc _) (by decide) rfl (fun ls hl => ?_)
                refine lv_goto (tgt := 104) hx hb dX4_digest_152 (by decide) ?_
                exact ih104 (i104 + 1) (by omega) (by omega) (by omega) H locs hP hD hS ls (by rw [dg2_s]; exact lv_sub hl [0, 2, 3] rfl)
              · skip
                have hlt121 := lp_in (show (7 : Int32) = nI 7 from rfl) (by decide) hi121 c4
                refine lv_lload_n hx hb dX4_digest_128 rfl (lv_at hl 2 rfl) ?_
                refine lv_ldc2 hx hb hown (hts (.constantLong RX4 140 (31)) (by decide +kernel)) dX4_digest_129 ?_
                refine lv_lmul hx hb dX4_digest_132 ?_
                refine lv_aload_n hx hb dX4_digest_133 rfl (lv_at hl 3 rfl) ?_
                refine lv_iload_n hx hb dX4_digest_134 rfl (lv_at hl 1 rfl) ?_
                refine lv_iload hx hb dX4_digest_135 (lv_at hl 0 rfl) ?_
                refine ycalli (invV (As := [.int (nI i104), .int (nI i121)]) (rest := [.long ((dg (cfact u i104) i121 (dg2 (cfact u) 7 i104 (dig3 r u))) * 31)]) (rm := ({ frames := 1, cells := 0, slots := 0, locals := 22 } : Room)) ⟨hx, hb, hml, hown, hts⟩ (cwV 2 hts gX4_digest_X4_sorter rfl rfl rfl (by decide +kernel) ⟨Nat.le_of_ble_eq_true rfl, Nat.le_of_ble_eq_true rfl⟩) (va_recv hK hP (ci := 4) (q0 := 0) rfl rfl) rfl rfl hl.1 (Nat.le_of_ble_eq_true rfl) dX4_digest_137) (c_X4_sorter l D cI o g a b r u v ok i104 hlt104 (nI i104) rfl i121 hlt121 (nI i121) rfl) hK hN hA hP hD hS (W2 := wX cI o g a b r u v) [0, 1, 2, 3, 4, 5, 6, 7, 8, 9, 10, 11, 12, 13, 14, 15, 16, 17, 18, 19, 20, 21, 22, 23, 24, 25, 26, 27, 28, 29, 30, 31, 32, 33, 34, 35, 36, 37] [] [0, 1, 2, 3, 4, 5, 6, 7, 8, 9, 10, 11, 12, 13, 14, 15, 16, 17, 18, 19, 20, 21, 22, 23, 24, 25, 26, 27, 28, 29, 30, 31, 32, 33, 34, 35, 36, 37] rfl rfl rfl (by decide) ⟨Nat.le_of_ble_eq_true rfl, Nat.le_of_ble_eq_true rfl⟩ (fun H locs hP hD hS => ?_)
                refine lv_i2l hx hb dX4_digest_140 rfl ?_
                refine lv_ladd hx hb dX4_digest_141 ?_
                refine lv_lstore_n (lv' := [(1, .long (((dg (cfact u i104) i121 (dg2 (cfact u) 7 i104 (dig3 r u))) * 31) + ((cfact u i104 i121).toInt64))), (4, .int (nI i121)), (3, .int (nI i104)), (0, .ref o)]) hx hb dX4_digest_142 rfl hl (by decide) rfl (fun ls hl => ?_)
                refine lv_iinc (v := nI (i121 + 1)) (lv' := [(4, .int (nI (i121 + 1))), (1, .long (((dg (cfact u i104) i121 (dg2 (cfact u) 7 i104 (dig3 r u))) * 31) + ((cfact u i104 i121).toInt64))), (3, .int (nI i104)), (0, .ref o)]) hx hb dX4_digest_143 hl (k := 1) rfl (nI_inc _) (by decide) rfl (fun ls hl => ?_)
                refine lv_goto (tgt := 121) hx hb dX4_digest_146 (by decide) ?_
                exact ih121 (i121 + 1) (by omega) (by omega) (by omega) H locs hP hD hS ls (by rw [dg_s]; exact lv_sub hl [0, 2, 1, 3] rfl)
          exact K121 (7 + 1) 0 (Nat.le_refl _) (by omega) (by omega) _ _ hP hD hS ls (by rw [dg_0]; exact lv_sub hl [0, 1, 2, 3] rfl)
    exact K104 (iv (u 10 0) + 1) 0 (Nat.le_refl _) (by omega) (by omega) _ _ hP hD hS ls (by rw [dg2_0]; exact lv_sub hl [0, 1, 2] rfl)
  have CUT75 : ∀ (H : Heap) (locs : List Loc) (ls : Array Slot), va_P D vwCl (wX cI o g a b r u v) H → va_D A (wX cI o g a b r u v) → va_S A s.heap H locs → lv_has ls 5 [(1, .long (dig2 r u)), (0, .ref o)] → W p l e ({ frames := 3, cells := 0, slots := 0, locals := 67 } : Room) s m args below meth c H locs (0) (0) Q (F0 m 75 ls []) := by
    intro H locs ls hP hD hS hl
    refine lv_iconst (v := 0) hx hb dX4_digest_75 (by decide) ?_
    refine lv_istore_n (lv' := [(3, .int 0), (1, .long (dig2 r u)), (0, .ref o)]) hx hb dX4_digest_76 rfl hl (by decide) rfl (fun ls hl => ?_)
    have K77 : ∀ (n77 i77 : Nat), 0 ≤ i77 → i77 ≤ 16 → 16 < i77 + n77 → ∀ (H : Heap) (locs : List Loc), va_P D vwCl (wX cI o g a b r u v) H → va_D A (wX cI o g a b r u v) → va_S A s.heap H locs → ∀ (ls : Array Slot), lv_has ls 5 [(3, .int (nI i77)), (1, .long (dg (u 7) i77 (dig2 r u))), (0, .ref o)] → W p l e ({ frames := 3, cells := 0, slots := 0, locals := 67 } : Room) s m args below meth c H locs (0) (0) Q (F0 m 77 ls []) := by
      intro n77
      induction n77 with
      | zero => intro i77 hlo77 hi77 hn77; exact absurd hn77 (by omega)
      | succ n77 ih77 =>
        intro i77 hlo77 hi77 hn77 H locs hP hD hS ls hl
        refine lv_iload_n hx hb dX4_digest_77 rfl (lv_at hl 0 rfl) ?_
        refine lv_bipush (v := 16) hx hb dX4_digest_78 (by decide) ?_
        refine lv_icmp_ge (tgt := 102) hx hb dX4_digest_80 (by decide) (fun c5 => ?_) (fun c5 => ?_)
        · skip
          have hie : 16 = i77 := (show i77 = 16 from lp_out (show (16 : Int32) = nI 16 from rfl) (by omega) hi77 c5).symm
          subst hie
          exact CUT102 _ _ _ hP hD hS (lv_sub hl [1, 2] rfl)
        · skip
          have hlt77 := lp_in (show (16 : Int32) = nI 16 from rfl) (by omega) hi77 c5
          refine lv_lload_n hx hb dX4_digest_83 rfl (lv_at hl 1 rfl) ?_
          refine lv_ldc2 hx hb hown (hts (.constantLong RX4 140 (31)) (by decide +kernel)) dX4_digest_84 ?_
          refine lv_lmul hx hb dX4_digest_87 ?_
          refine lv_aload_n hx hb dX4_digest_88 rfl (lv_at hl 2 rfl) ?_
          refine lv_iload_n hx hb dX4_digest_89 rfl (lv_at hl 0 rfl) ?_
          refine ycalli (invV (As := [.int (nI i77)]) (rest := [.long ((dg (u 7) i77 (dig2 r u)) * 31)]) (rm := ({ frames := 1, cells := 0, slots := 0, locals := 21 } : Room)) ⟨hx, hb, hml, hown, hts⟩ (cwV 1 hts gX4_digest_X4_hole rfl rfl rfl (by decide +kernel) ⟨Nat.le_of_ble_eq_true rfl, Nat.le_of_ble_eq_true rfl⟩) (va_recv hK hP (ci := 4) (q0 := 0) rfl rfl) rfl rfl hl.1 (Nat.le_of_ble_eq_true rfl) dX4_digest_90) (c_X4_hole l D cI o g a b r u v ok i77 hlt77 (nI i77) rfl) hK hN hA hP hD hS (W2 := wX cI o g a b r u v) [0, 1, 2, 3, 4, 5, 6, 7, 8, 9, 10, 11, 12, 13, 14, 15, 16, 17, 18, 19, 20, 21, 22, 23, 24, 25, 26, 27, 28, 29, 30, 31, 32, 33, 34, 35, 36, 37] [] [0, 1, 2, 3, 4, 5, 6, 7, 8, 9, 10, 11, 12, 13, 14, 15, 16, 17, 18, 19, 20, 21, 22, 23, 24, 25, 26, 27, 28, 29, 30, 31, 32, 33, 34, 35, 36, 37] rfl rfl rfl (by decide) ⟨Nat.le_of_ble_eq_true rfl, Nat.le_of_ble_eq_true rfl⟩ (fun H locs hP hD hS => ?_)
          refine lv_i2l hx hb dX4_digest_93 rfl ?_
          refine lv_ladd hx hb dX4_digest_94 ?_
          refine lv_lstore_n (lv' := [(1, .long (((dg (u 7) i77 (dig2 r u)) * 31) + ((u 7 i77).toInt64))), (3, .int (nI i77)), (0, .ref o)]) hx hb dX4_digest_95 rfl hl (by decide) rfl (fun ls hl => ?_)
          refine lv_iinc (v := nI (i77 + 1)) (lv' := [(3, .int (nI (i77 + 1))), (1, .long (((dg (u 7) i77 (dig2 r u)) * 31) + ((u 7 i77).toInt64))), (0, .ref o)]) hx hb dX4_digest_96 hl (k := 1) rfl (nI_inc _) (by decide) rfl (fun ls hl => ?_)
          refine lv_goto (tgt := 77) hx hb dX4_digest_99 (by decide) ?_
          exact ih77 (i77 + 1) (by omega) (by omega) (by omega) H locs hP hD hS ls (by rw [dg_s]; exact lv_sub hl [0, 1, 2] rfl)
    exact K77 (16 + 1) 0 (Nat.le_refl _) (by omega) (by omega) _ _ hP hD hS ls (by rw [dg_0]; exact lv_sub hl [0, 1, 2] rfl)
  have CUT31 : ∀ (H : Heap) (locs : List Loc) (ls : Array Slot), va_P D vwCl (wX cI o g a b r u v) H → va_D A (wX cI o g a b r u v) → va_S A s.heap H locs → lv_has ls 5 [(1, .long (dig1 r u)), (0, .ref o)] → W p l e ({ frames := 3, cells := 0, slots := 0, locals := 67 } : Room) s m args below meth c H locs (0) (0) Q (F0 m 31 ls []) := by
    intro H locs ls hP hD hS hl
    refine lv_iconst (v := 0) hx hb dX4_digest_31 (by decide) ?_
    refine lv_istore_n (lv' := [(3, .int 0), (1, .long (dig1 r u)), (0, .ref o)]) hx hb dX4_digest_32 rfl hl (by decide) rfl (fun ls hl => ?_)
    have K33 : ∀ (n33 i33 : Nat), 0 ≤ i33 → i33 ≤ 8 → 8 < i33 + n33 → ∀ (H : Heap) (locs : List Loc), va_P D vwCl (wX cI o g a b r u v) H → va_D A (wX cI o g a b r u v) → va_S A s.heap H locs → ∀ (ls : Array Slot), lv_has ls 5 [(3, .int (nI i33)), (1, .long (dg2 (stF r u) 3 i33 (dig1 r u))), (0, .ref o)] → W p l e ({ frames := 3, cells := 0, slots := 0, locals := 67 } : Room) s m args below meth c H locs (0) (0) Q (F0 m 33 ls []) := by
      intro n33
      induction n33 with
      | zero => intro i33 hlo33 hi33 hn33; exact absurd hn33 (by omega)
      | succ n33 ih33 =>
        intro i33 hlo33 hi33 hn33 H locs hP hD hS ls hl
        refine lv_iload_n hx hb dX4_digest_33 rfl (lv_at hl 0 rfl) ?_
        refine lv_bipush (v := 8) hx hb dX4_digest_34 (by decide) ?_
        refine lv_icmp_ge (tgt := 75) hx hb dX4_digest_36 (by decide) (fun c6 => ?_) (fun c6 => ?_)
        · skip
          have hie : 8 = i33 := (show i33 = 8 from lp_out (show (8 : Int32) = nI 8 from rfl) (by omega) hi33 c6).symm
          subst hie
          exact CUT75 _ _ _ hP hD hS (lv_sub hl [1, 2] rfl)
        · skip
          have hlt33 := lp_in (show (8 : Int32) = nI 8 from rfl) (by omega) hi33 c6
          refine lv_iconst (v := 0) hx hb dX4_digest_39 (by decide) ?_
          refine lv_istore (lv' := [(4, .int 0), (3, .int (nI i33)), (1, .long (dg2 (stF r u) 3 i33 (dig1 r u))), (0, .ref o)]) hx hb dX4_digest_40 hl (by decide) rfl (fun ls hl => ?_)
          have K42 : ∀ (n42 i42 : Nat), 0 ≤ i42 → i42 ≤ 3 → 3 < i42 + n42 → ∀ (H : Heap) (locs : List Loc), va_P D vwCl (wX cI o g a b r u v) H → va_D A (wX cI o g a b r u v) → va_S A s.heap H locs → ∀ (ls : Array Slot), lv_has ls 5 [(4, .int (nI i42)), (3, .int (nI i33)), (1, .long (dg (stF r u i33) i42 (dg2 (stF r u) 3 i33 (dig1 r u)))), (0, .ref o)] → W p l e ({ frames := 3, cells := 0, slots := 0, locals := 67 } : Room) s m args below meth c H locs (0) (0) Q (F0 m 42 ls []) := by
            intro n42
            induction n42 with
            | zero => intro i42 hlo42 hi42 hn42; exact absurd hn42 (by omega)
            | succ n42 ih42 =>
              intro i42 hlo42 hi42 hn42 H locs hP hD hS ls hl
              refine lv_iload hx hb dX4_digest_42 (lv_at hl 0 rfl) ?_
              refine lv_iconst (v := 3) hx hb dX4_digest_44 (by decide) ?_
              refine lv_icmp_ge (tgt := 69) hx hb dX4_digest_45 (by decide) (fun c7 => ?_) (fun c7 => ?_)
              · skip
                have hie : 3 = i42 := (show i42 = 3 from lp_out (show (3 : Int32) = nI 3 from rfl) (by decide) hi42 c7).symm
                subst hie
                refine lv_iinc (v := nI (i33 + 1)) (lv' := [(3, .int (nI (i33 + 1))), (4, .int (nI 3)), (1, .long (dg (stF r u i33) 3 (dg2 (stF r u) 3 i33 (dig1 r u)))), (0, .ref o)]) hx hb dX4_digest_69 hl (k := 1) rfl (nI_inc _) (by decide) rfl (fun ls hl => ?_)
                refine lv_goto (tgt := 33) hx hb dX4_digest_72 (by decide) ?_
                exact ih33 (i33 + 1) (by omega) (by omega) (by omega) H locs hP hD hS ls (by rw [dg2_s]; exact lv_sub hl [0, 2, 3] rfl)
              · skip
                have hlt42 := lp_in (show (3 : Int32) = nI 3 from rfl) (by decide) hi42 c7
                refine lv_lload_n hx hb dX4_digest_48 rfl (lv_at hl 2 rfl) ?_
                refine lv_ldc2 hx hb hown (hts (.constantLong RX4 140 (31)) (by decide +kernel)) dX4_digest_49 ?_
                refine lv_lmul hx hb dX4_digest_52 ?_
                refine lv_aload_n hx hb dX4_digest_53 rfl (lv_at hl 3 rfl) ?_
                refine lv_iload_n hx hb dX4_digest_54 rfl (lv_at hl 1 rfl) ?_
                refine lv_iload hx hb dX4_digest_55 (lv_at hl 0 rfl) ?_
                refine ycalli (invV (As := [.int (nI i33), .int (nI i42)]) (rest := [.long ((dg (stF r u i33) i42 (dg2 (stF r u) 3 i33 (dig1 r u))) * 31)]) (rm := ({ frames := 2, cells := 0, slots := 0, locals := 45 } : Room)) ⟨hx, hb, hml, hown, hts⟩ (cwV 2 hts gX4_digest_X4_station rfl rfl rfl (by decide +kernel) ⟨Nat.le_of_ble_eq_true rfl, Nat.le_of_ble_eq_true rfl⟩) (va_recv hK hP (ci := 4) (q0 := 0) rfl rfl) rfl rfl hl.1 (Nat.le_of_ble_eq_true rfl) dX4_digest_57) (c_X4_station l D cI o g a b r u v ok i33 hlt33 (nI i33) rfl i42 hlt42 (nI i42) rfl) hK hN hA hP hD hS (W2 := wX cI o g a b r u v) [0, 1, 2, 3, 4, 5, 6, 7, 8, 9, 10, 11, 12, 13, 14, 15, 16, 17, 18, 19, 20, 21, 22, 23, 24, 25, 26, 27, 28, 29, 30, 31, 32, 33, 34, 35, 36, 37] [] [0, 1, 2, 3, 4, 5, 6, 7, 8, 9, 10, 11, 12, 13, 14, 15, 16, 17, 18, 19, 20, 21, 22, 23, 24, 25, 26, 27, 28, 29, 30, 31, 32, 33, 34, 35, 36, 37] rfl rfl rfl (by decide) ⟨Nat.le_of_ble_eq_true rfl, Nat.le_of_ble_eq_true rfl⟩ (fun H locs hP hD hS => ?_)
                refine lv_i2l hx hb dX4_digest_60 rfl ?_
                refine lv_ladd hx hb dX4_digest_61 ?_
                refine lv_lstore_n (lv' := [(1, .long (((dg (stF r u i33) i42 (dg2 (stF r u) 3 i33 (dig1 r u))) * 31) + ((stF r u i33 i42).toInt64))), (4, .int (nI i42)), (3, .int (nI i33)), (0, .ref o)]) hx hb dX4_digest_62 rfl hl (by decide) rfl (fun ls hl => ?_)
                refine lv_iinc (v := nI (i42 + 1)) (lv' := [(4, .int (nI (i42 + 1))), (1, .long (((dg (stF r u i33) i42 (dg2 (stF r u) 3 i33 (dig1 r u))) * 31) + ((stF r u i33 i42).toInt64))), (3, .int (nI i33)), (0, .ref o)]) hx hb dX4_digest_63 hl (k := 1) rfl (nI_inc _) (by decide) rfl (fun ls hl => ?_)
                refine lv_goto (tgt := 42) hx hb dX4_digest_66 (by decide) ?_
                exact ih42 (i42 + 1) (by omega) (by omega) (by omega) H locs hP hD hS ls (by rw [dg_s]; exact lv_sub hl [0, 2, 1, 3] rfl)
          exact K42 (3 + 1) 0 (Nat.le_refl _) (by omega) (by omega) _ _ hP hD hS ls (by rw [dg_0]; exact lv_sub hl [0, 1, 2, 3] rfl)
    exact K33 (8 + 1) 0 (Nat.le_refl _) (by omega) (by omega) _ _ hP hD hS ls (by rw [dg2_0]; exact lv_sub hl [0, 1, 2] rfl)
  refine lv_ldc2 hx hb hown (hts (.constantLong RX4 138 (1049)) (by decide +kernel)) dX4_digest_0 ?_
  refine lv_lstore_n (lv' := [(1, .long 1049), (0, .ref o)]) hx hb dX4_digest_3 rfl hl (by decide) rfl (fun ls hl => ?_)
  refine lv_iconst (v := 0) hx hb dX4_digest_4 (by decide) ?_
  refine lv_istore_n (lv' := [(3, .int 0), (1, .long 1049), (0, .ref o)]) hx hb dX4_digest_5 rfl hl (by decide) rfl (fun ls hl => ?_)
  have K6 : ∀ (n6 i6 : Nat), 0 ≤ i6 → i6 ≤ 10 → 10 < i6 + n6 → ∀ (H : Heap) (locs : List Loc), va_P D vwCl (wX cI o g a b r u v) H → va_D A (wX cI o g a b r u v) → va_S A s.heap H locs → ∀ (ls : Array Slot), lv_has ls 5 [(3, .int (nI i6)), (1, .long (dg (cntF r u) i6 1049)), (0, .ref o)] → W p l e ({ frames := 3, cells := 0, slots := 0, locals := 67 } : Room) s m args below meth c H locs (0) (0) Q (F0 m 6 ls []) := by
    intro n6
    induction n6 with
    | zero => intro i6 hlo6 hi6 hn6; exact absurd hn6 (by omega)
    | succ n6 ih6 =>
      intro i6 hlo6 hi6 hn6 H locs hP hD hS ls hl
      refine lv_iload_n hx hb dX4_digest_6 rfl (lv_at hl 0 rfl) ?_
      refine lv_bipush (v := 10) hx hb dX4_digest_7 (by decide) ?_
      refine lv_icmp_ge (tgt := 31) hx hb dX4_digest_9 (by decide) (fun c8 => ?_) (fun c8 => ?_)
      · skip
        have hie : 10 = i6 := (show i6 = 10 from lp_out (show (10 : Int32) = nI 10 from rfl) (by omega) hi6 c8).symm
        subst hie
        exact CUT31 _ _ _ hP hD hS (lv_sub hl [1, 2] rfl)
      · skip
        have hlt6 := lp_in (show (10 : Int32) = nI 10 from rfl) (by omega) hi6 c8
        refine lv_lload_n hx hb dX4_digest_12 rfl (lv_at hl 1 rfl) ?_
        refine lv_ldc2 hx hb hown (hts (.constantLong RX4 140 (31)) (by decide +kernel)) dX4_digest_13 ?_
        refine lv_lmul hx hb dX4_digest_16 ?_
        refine lv_aload_n hx hb dX4_digest_17 rfl (lv_at hl 2 rfl) ?_
        refine lv_iload_n hx hb dX4_digest_18 rfl (lv_at hl 0 rfl) ?_
        refine ycalli (invV (As := [.int (nI i6)]) (rest := [.long ((dg (cntF r u) i6 1049) * 31)]) (rm := ({ frames := 1, cells := 0, slots := 0, locals := 22 } : Room)) ⟨hx, hb, hml, hown, hts⟩ (cwV 1 hts gX4_digest_X4_count rfl rfl rfl (by decide +kernel) ⟨Nat.le_of_ble_eq_true rfl, Nat.le_of_ble_eq_true rfl⟩) (va_recv hK hP (ci := 4) (q0 := 0) rfl rfl) rfl rfl hl.1 (Nat.le_of_ble_eq_true rfl) dX4_digest_19) (c_X4_count l D cI o g a b r u v ok i6 hlt6 (nI i6) rfl) hK hN hA hP hD hS (W2 := wX cI o g a b r u v) [0, 1, 2, 3, 4, 5, 6, 7, 8, 9, 10, 11, 12, 13, 14, 15, 16, 17, 18, 19, 20, 21, 22, 23, 24, 25, 26, 27, 28, 29, 30, 31, 32, 33, 34, 35, 36, 37] [] [0, 1, 2, 3, 4, 5, 6, 7, 8, 9, 10, 11, 12, 13, 14, 15, 16, 17, 18, 19, 20, 21, 22, 23, 24, 25, 26, 27, 28, 29, 30, 31, 32, 33, 34, 35, 36, 37] rfl rfl rfl (by decide) ⟨Nat.le_of_ble_eq_true rfl, Nat.le_of_ble_eq_true rfl⟩ (fun H locs hP hD hS => ?_)
        refine lv_i2l hx hb dX4_digest_22 rfl ?_
        refine lv_ladd hx hb dX4_digest_23 ?_
        refine lv_lstore_n (lv' := [(1, .long (((dg (cntF r u) i6 1049) * 31) + ((cntF r u i6).toInt64))), (3, .int (nI i6)), (0, .ref o)]) hx hb dX4_digest_24 rfl hl (by decide) rfl (fun ls hl => ?_)
        refine lv_iinc (v := nI (i6 + 1)) (lv' := [(3, .int (nI (i6 + 1))), (1, .long (((dg (cntF r u) i6 1049) * 31) + ((cntF r u i6).toInt64))), (0, .ref o)]) hx hb dX4_digest_25 hl (k := 1) rfl (nI_inc _) (by decide) rfl (fun ls hl => ?_)
        refine lv_goto (tgt := 6) hx hb dX4_digest_28 (by decide) ?_
        exact ih6 (i6 + 1) (by omega) (by omega) (by omega) H locs hP hD hS ls (by rw [dg_s]; exact lv_sub hl [0, 1, 2] rfl)
  exact K6 (10 + 1) 0 (Nat.le_refl _) (by omega) (by omega) _ _ hP hD hS ls (by rw [dg_0]; exact lv_sub hl [0, 1, 2] rfl)
