/-! THE CLAIM OUT OF ONE WALK OF THE LAW'S BODY. Your part is whole_start (and what it stands on); all else here is the same for every law, but numbers. -/
def R_law : String := "NightSortersLaw"
def lw_P (b : Addr) (xs : List Int32) (args : Array Value) (s : State) : Prop := args = #[.ref b] ∧ s.IntsAt b xs ∧ xs.length ≤ 2048 ∧ (Jvm.Cond.and given_1 narrow_1).before args s = true
/-- what a walk over the start with the record d0 says of its end, said of the start itself -/
theorem lw_closed {s t : State} {o : Outcome} {d0 : Drawn} {L : List Loc} {k n : Nat} (hd0 : s.drawn.sameBut d0 lw_cs) (hv : ∃ v, o = .returned v) (hW : (s.setDrawn d0).WarmedH t.vm) (hs : (s.setDrawn d0).sameButNew ({ t with vm := s.vm } : State) L k n) : State.butDraws s t lw_cs (fun t1 => Framed s o t1 L k n) := by
  have h2 : t.drawn = d0 := congrArg State.drawn hs.1
  refine ⟨⟨hv, hW, State.sameButNew.setDrawn hs s.drawn⟩, ?_, by decide⟩
  rw [h2]
  exact hd0
def lw_Q (_ : Array Value) (s : State) (o : Outcome) (t : State) : Prop := o = .returned (some (.int 1)) ∧ State.butDraws s t lw_cs (fun t1 => Framed s o t1 [] 691260 7022324)
def lw_Z (below : List Frame) (a : Array Value) (s : State) : State → Prop := fun t => ∃ o, t.status = .running ∧ Ended t below o ∧ lw_Q a s o t
/-- the law's own end, with 1 on the stack, nothing written that was there before, its room as the claim has it; d0: the record of draws at this point (at the entry s.drawn: begin with 'refine W.base ?_' and 'have hd0 := Drawn.sameBut.refl s.drawn lw_cs') -/
theorem lw_ret {p : Program} {l : Launch} {e : Env} {s : State} {m : MethodId} {below : List Frame} {meth : Method} {c : Code} {b : Nat} {d0 : Drawn} (hd0 : s.drawn.sameBut d0 lw_cs) (hx : p.tables.exec = Jvm.exec) (hb : c.code = code) (hr : meth.sig.returnType = ret) (hlocks : meth.locks = false) {pc : Nat} {H : Heap} {ls : Array Slot} (hdg : decode code pc = .ok (.ireturn, 1)) : W p l e room_1 (s.setDrawn d0) m #[Value.ref b] below meth c H [] 691260 7022324 (lw_Z below #[Value.ref b] s) (F0 m pc ls [.int 1]) := by
  intro T hT X
  obtain ⟨fs, hret, hrun, hended, hW, hframe⟩ := X.leave (v := some (.int 1)) (hlocks := hlocks) (fun h => by rw [hr] at h; cases h)
  have hmeth' : T.vm.method? m = some meth := X.method'
  refine ⟨T.setFrames fs, ?_, .returned (some (.int 1)), hrun, hended, rfl, lw_closed hd0 ⟨_, rfl⟩ hW hframe⟩
  jvm_step X.here [X.here.top, hx, hb, hdg, hmeth', hr, ret, narrow_b1]
  (try refine ⟨rfl, ?_⟩); (try refine ⟨rfl, ?_⟩)
  first | (intro acts; rw [hret _ acts rfl rfl rfl]) | rw [hret _ _ rfl rfl rfl]
  exact Steps.refl _
/-- what holds at the law's entry: the machine, the code, the tables' words (any of lw_tbl by 'hts w (by decide +kernel)'), the script of L ints xs at the cell b, what the Statement gives of the start (any of its parts by flat_of_before) -/
def lw_At (p : Program) (s : State) (m : MethodId) (meth : Method) (c : Code) (b L : Nat) (xs : Nat → Int32) : Prop :=
  p.tables.exec = Jvm.exec ∧ c.code = code ∧ meth.sig.returnType = ret ∧ c.maxLocals = 9 ∧ s.vm.findClass R_law = some m.cls ∧ (∀ w ∈ lw_tbl, w.before #[Value.ref b] s = true) ∧ va_X b L xs s s.heap ∧ b < s.heap.size ∧ meth.locks = false ∧ (Jvm.Cond.and given_1 narrow_1).before #[Value.ref b] s = true
-- ===== YOUR PART BEGINS =====
theorem zcalln {p : Program} {l : Launch} {e : Env} {R : Room} {s : State} {m : MethodId} {args : Array Value} {below : List Frame} {meth : Method} {c : Code} {H : Heap} {locs : List Loc} {cells slots : Nat} {Q : State → Prop} {y : MethodName} {wsY : List Cond} {rm : Room} {As rest st0 : List Value} {ls : Array Slot} {pc : Nat} {D : va_G} {cI : ClassId} {X : Nat → Prop} {A B : va_W} {S : Type} {post : S → Prop} {W1 : S → va_W}
    (hI : Inv p l e R s m args below meth c H locs cells slots y wsY rm As (F0 m pc ls st0) rest) (hM : CNw l y wsY rm D cI As B post W1) (hK : va_K D vwCl [(cI, .int)] s) (hN : NW s) (hA : ∀ q, s.heap.size ≤ q → X q) (hP : va_P D vwCl (A ++ B) H) (hD : va_D X (A ++ B)) (hS : va_S X s.heap H locs) (hf : cells + rm.cells ≤ R.cells ∧ slots + rm.slots ≤ R.slots)
    (kk : ∀ (v : S) (H1 : Heap) (locs1 : List Loc), post v → va_P D vwCl (A ++ W1 v) H1 → va_D X (A ++ W1 v) → va_S X s.heap H1 locs1 → W p l e R s m args below meth c H1 locs1 (cells + rm.cells) (slots + rm.slots) Q (F0 m (pc + 3) ls rest)) : W p l e R s m args below meth c H locs cells slots Q (F0 m pc ls st0) := by
  have hF := va_free hD hS hA _ (rng_R A B)
  refine va_callv (hI _ _ _ (hM H.size) MP.blind (xback hK hN hA hP hD hS _ (rng_R A B) (nd_R A B)) hf) hS (fun q _ h => hF q h) hF (fun v t H1 locs1 ht hvm hw hB1 hz1 hk1 hS1 => ?_)
  obtain ⟨h1, h2⟩ := ab_2 hA hP hD hS ht hB1 hk1
  exact kk v H1 locs1 hw h1 h2 hS1
theorem lpL {t L : Nat} (hL : L ≤ 2048) (ht : t ≤ 4000) (h : ¬ nI L - 4 < nI t) : t + 4 ≤ L := by
  rcases Nat.lt_or_ge L 4 with q | q
  · exfalso
    have h0 : nI L - 4 < 0 := by
      rcases (show L = 0 ∨ L = 1 ∨ L = 2 ∨ L = 3 by omega) with rfl | rfl | rfl | rfl <;> decide
    exact h (Int32.lt_of_lt_of_le h0 (nI_pos' (by omega)))
  · obtain ⟨M, rfl⟩ : ∃ M, L = M + 4 := ⟨L - 4, by omega⟩
    have e1 : nI (M + 4) - 4 = nI M := by
      rw [← nI_add]
      exact Int32.add_sub_cancel _ _
    rw [e1] at h
    rcases Nat.lt_or_ge M t with z | z
    · exact absurd (nI_lt z (by omega)) h
    · omega
theorem nI_i4 (t : Nat) : nI (4 * t) + Int32.ofInt 4 = nI (4 * (t + 1)) := by
  rw [show Int32.ofInt 4 = nI 4 from rfl, nI_add]
  rfl
set_option maxHeartbeats 4000000 in
set_option maxRecDepth 100000 in
theorem law_loop {p : Program} {e : Env} {s : State} {m : MethodId} {below : List Frame} {meth : Method} {c : Code} {l : Launch} {bs L : Nat} {xs : Nat → Int32} {D : va_G} {cI cL : ClassId} {o z : Nat} {g a b h b2 d : Nat → Nat} (hr : meth.sig.returnType = ret) (hlocks : meth.locks = false) (F : LF p l s m #[Value.ref bs] c bs L xs D cI cL (fun q => s.heap.size ≤ q)) :
    ∀ (n9 t : Nat), t ≤ 513 → 513 < t + n9 → ∀ d0 : Drawn, s.drawn.sameBut d0 lw_cs → LG p l e (s.setDrawn d0) m #[Value.ref bs] below meth c (lw_Z below #[Value.ref bs] s) (fun q => s.heap.size ≤ q) bs D cI cL o z g a b h b2 d (4 * t) (65 + 400 * t) (1341 + 2000 * t) 23 := by
  intro n9
  induction n9 with
  | zero => intro t ht hn; exact absurd hn (by omega)
  | succ n9 ih =>
    intro t ht hn d0 hd0 H locs f n q u r v w ls S hP hD hS hl
    have F0' := F.drawn d0
    obtain ⟨hx, hb, hml, hown, hts, hX, hbl, hK, hN, hT, hTN, hA, hbA, hlt, hL⟩ := id F0'
    refine lv_iload hx hb dL_law_23 (lv_at hl 0 rfl) ?_
    refine lv_aload_n hx hb dL_law_25 rfl (lv_at hl 1 rfl) ?_
    refine va_slen hx hb hX hbl hbA hS dL_law_26 ?_
    refine lv_iconst (v := 4) hx hb dL_law_27 (by decide) ?_
    refine lv_isub hx hb dL_law_28 ?_
    refine lv_icmp_gt (tgt := 1081) hx hb dL_law_29 (by decide) (fun c1 => ?_) (fun c1 => ?_)
    · refine lv_iconst (v := 1) hx hb dL_law_1081 (by decide) ?_
      refine va_forget (fun q hq => hS.2.2 q hq) ?_
      refine W.widen (k := 691260) (n := 7022324) (by omega) (by omega) ?_
      exact lw_ret hd0 hx hb hr hlocks dL_law_1082
    · have hi : 4 * t + 4 ≤ L := lpL hL (by omega) c1
      have hc : 65 + 400 * t + 400 ≤ room_1.cells := by show _ ≤ 691260; omega
      have hs : 1341 + 2000 * t + 2000 ≤ room_1.slots := by show _ ≤ 7022324; omega
      have kb : ∀ d1 : Drawn, s.drawn.sameBut d1 lw_cs → LG p l e (s.setDrawn d1) m #[Value.ref bs] below meth c (lw_Z below #[Value.ref bs] s) (fun q => s.heap.size ≤ q) bs D cI cL o z g a b h b2 d (4 * t) (65 + 400 * t + 400) (1341 + 2000 * t + 2000) 1075 := by
        intro d1 hd1 H locs f n q u r v w ls S hP hD hS hl
        refine lv_iinc (v := nI (4 * (t + 1))) (lv' := [(4, .int (nI (4 * (t + 1)))), (0, .ref bs), (1, .ref o), (2, .ref (h 0)), (3, .ref z)]) hx hb dL_law_1075 hl (k := 0) rfl (nI_i4 t) (by decide) rfl (fun ls hl => ?_)
        refine lv_goto (tgt := 23) hx hb dL_law_1078 (by decide) ?_
        refine W.widen (k := 65 + 400 * (t + 1)) (n := 1341 + 2000 * (t + 1)) (by omega) (by omega) ?_
        exact ih (t + 1) (by omega) (by omega) d1 hd1 H locs f n q u r v w ls S hP hD hS hl
      refine lv_aload_n hx hb dL_law_32 rfl (lv_at hl 1 rfl) ?_
      refine lv_iload hx hb dL_law_33 (lv_at hl 0 rfl) ?_
      refine xsld hx hb hX hbl hbA hS hL (4 * t) rfl (by omega) dL_law_35 ?_
      refine lv_bipush (v := 15) hx hb dL_law_36 (by decide) ?_
      refine lv_iand hx hb dL_law_38 ?_
      obtain ⟨j, hj, ej⟩ := pk_andE (xs (4 * t)) (m := 15) 4 (by decide)
      rw [ej]
      rcases (show j = 0 ∨ j = 1 ∨ j = 2 ∨ j = 3 ∨ j = 4 ∨ j = 5 ∨ j = 6 ∨ j = 7 ∨ j = 8 ∨ j = 9 ∨ j = 10 ∨ j = 11 ∨ j = 12 ∨ j = 13 ∨ j = 14 ∨ j = 15 by omega) with rfl | rfl | rfl | rfl | rfl | rfl | rfl | rfl | rfl | rfl | rfl | rfl | rfl | rfl | rfl | rfl
      · refine lv_tableIn (off := 77) (tgt := 116) hx hb dL_law_39 (by decide) (by decide) (by decide) (by decide) ?_
        exact k_setStation F0' hi hc hs (kb d0 hd0) H locs f n q u r v w ls S hP hD hS hl
      · refine lv_tableIn (off := 157) (tgt := 196) hx hb dL_law_39 (by decide) (by decide) (by decide) (by decide) ?_
        exact k_post F0' hi hc hs (kb d0 hd0) H locs f n q u r v w ls S hP hD hS hl
      · refine lv_tableIn (off := 225) (tgt := 264) hx hb dL_law_39 (by decide) (by decide) (by decide) (by decide) ?_
        exact k_hire F0' hi hc hs (kb d0 hd0) H locs f n q u r v w ls S hP hD hS hl
      · refine lv_tableIn (off := 293) (tgt := 332) hx hb dL_law_39 (by decide) (by decide) (by decide) (by decide) ?_
        exact k_assign F0' hi hc hs (kb d0 hd0) H locs f n q u r v w ls S hP hD hS hl
      · refine lv_tableIn (off := 361) (tgt := 400) hx hb dL_law_39 (by decide) (by decide) (by decide) (by decide) ?_
        exact k_tea F0' hi hc hs (kb d0 hd0) H locs f n q u r v w ls S hP hD hS hl
      · refine lv_tableIn (off := 417) (tgt := 456) hx hb dL_law_39 (by decide) (by decide) (by decide) (by decide) ?_
        exact k_letter F0' hi hc hs (kb d0 hd0) H locs f n q u r v w ls S hP hD hS hl
      · refine lv_tableIn (off := 485) (tgt := 524) hx hb dL_law_39 (by decide) (by decide) (by decide) (by decide) ?_
        exact k_sorter F0' hi hc hs (kb d0 hd0) H locs f n q u r v w ls S hP hD hS hl
      · refine lv_tableIn (off := 553) (tgt := 592) hx hb dL_law_39 (by decide) (by decide) (by decide) (by decide) ?_
        exact k_hole F0' hi hc hs (kb d0 hd0) H locs f n q u r v w ls S hP hD hS hl
      · refine lv_tableIn (off := 609) (tgt := 648) hx hb dL_law_39 (by decide) (by decide) (by decide) (by decide) ?_
        exact k_station F0' hi hc hs (kb d0 hd0) H locs f n q u r v w ls S hP hD hS hl
      · refine lv_tableIn (off := 677) (tgt := 716) hx hb dL_law_39 (by decide) (by decide) (by decide) (by decide) ?_
        exact k_count F0' hi hc hs (kb d0 hd0) H locs f n q u r v w ls S hP hD hS hl
      · refine lv_tableIn (off := 733) (tgt := 772) hx hb dL_law_39 (by decide) (by decide) (by decide) (by decide) ?_
        exact k_pass F0' hi hc hs (kb d0 hd0) H locs f n q u r v w ls S hP hD hS hl
      · refine lv_tableIn (off := 789) (tgt := 828) hx hb dL_law_39 (by decide) (by decide) (by decide) (by decide) ?_
        exact k_arrives F0' hi hc hs (kb d0 hd0) H locs f n q u r v w ls S hP hD hS hl
      · refine lv_tableIn (off := 845) (tgt := 884) hx hb dL_law_39 (by decide) (by decide) (by decide) (by decide) ?_
        exact k_foresee F0' hi hc hs (kb d0 hd0) H locs f n q u r v w ls S hP hD hS hl
      · refine lv_tableIn (off := 913) (tgt := 952) hx hb dL_law_39 (by decide) (by decide) (by decide) (by decide) ?_
        exact k_advise F0' hi hc hs (kb d0 hd0) H locs f n q u r v w ls S hP hD hS hl
      · refine lv_tableIn (off := 981) (tgt := 1020) hx hb dL_law_39 (by decide) (by decide) (by decide) (by decide) ?_
        exact k_share F hi hc hs hd0 kb H locs f n q u r v w ls S hP hD hS hl
      · refine lv_tableIn (off := 1022) (tgt := 1061) hx hb dL_law_39 (by decide) (by decide) (by decide) (by decide) ?_
        exact k_digest F0' hi hc hs (kb d0 hd0) H locs f n q u r v w ls S hP hD hS hl
theorem TC_of {s : State} {b : Nat} (hts : ∀ w ∈ lw_tbl, w.before #[Value.ref b] s = true) (hgv : (Jvm.Cond.and given_1 narrow_1).before #[Value.ref b] s = true) : TC s := by
  have hs := flat_of_before _ hgv
  refine ⟨fun w hw => ?_, fun q hq => ?_⟩
  · exact XW_or (P := fun w => w.before #[Value.ref b] s = true → va_Nw w s) (fun _ _ h => va_Nw.of rfl h) (fun _ h => va_Nw.of rfl h) w hw (hts w ((show ∀ w ∈ XW, w ∈ lw_tbl by decide +kernel) w hw))
  · have h1 : (Cond.stringRef RX4 q.1 q.2).before #[Value.ref b] s = true := hts _ ((show ∀ q ∈ XST, Cond.stringRef RX4 q.1 q.2 ∈ lw_tbl by decide +kernel) q hq)
    have h2 : (Cond.exactly (.string RX4 q.1) "java/lang/String").before #[Value.ref b] s = true := hs _ ((show ∀ q ∈ XST, Cond.exactly (.string RX4 q.1) "java/lang/String" ∈ flatC (Jvm.Cond.and given_1 narrow_1) by decide +kernel) q hq)
    obtain ⟨a, c, cA, kA, q1, -⟩ := Cond.exactly_spec (args := #[Value.ref b]) (first := s) (o := none) (s := s) (idx := []) h2
    exact ⟨a, vk_R.of h1 q1⟩
theorem TN_of {s : State} {b : Nat} (hgv : (Jvm.Cond.and given_1 narrow_1).before #[Value.ref b] s = true) : TN s := by
  have hs := flat_of_before _ hgv
  intro q hq
  exact va_Nc.of (hs _ ((show ∀ q ∈ XNC, Cond.not (.castable q.1 q.2) ∈ flatC (Jvm.Cond.and given_1 narrow_1) by decide +kernel) q hq))
theorem TZ_of {s : State} {b : Nat} (hts : ∀ w ∈ lw_tbl, w.before #[Value.ref b] s = true) (hgv : (Jvm.Cond.and given_1 narrow_1).before #[Value.ref b] s = true) : TZ (fun q => s.heap.size ≤ q) s s.heap := by
  have hs := flat_of_before _ hgv
  exact ⟨vx_Zqof (hts _ (by decide +kernel)) (hts _ (by decide +kernel)) (hs _ (by decide +kernel)) (fun a ha h => absurd h (Nat.not_le.mpr ha)), vx_Zqof (hts _ (by decide +kernel)) (hts _ (by decide +kernel)) (hs _ (by decide +kernel)) (fun a ha h => absurd h (Nat.not_le.mpr ha))⟩
theorem NW_of {s : State} {b : Nat} (hts : ∀ w ∈ lw_tbl, w.before #[Value.ref b] s = true) : NW s := by
  intro w hw
  have h1 := hts w (List.mem_append_right _ (List.mem_filter.mp hw).1)
  have h2 : nestQ w = true := (List.mem_filter.mp hw).2
  cases w <;> first | exact va_Nw.of rfl h1 | exact absurd h2 (by simp [nestQ])
theorem K_of {s : State} {b : Nat} (hts : ∀ w ∈ lw_tbl, w.before #[Value.ref b] s = true) : ∃ (D : va_G) (cI : ClassId), va_K D vwCl [(cI, .int)] s := by
  obtain ⟨c0, i0, k0⟩ := u_known (C := RX0) (T := TX0) (N := 8) (n := 8) hts inX0 (hts (.instantiable RX0 8) (by decide +kernel))
  obtain ⟨c1, i1, k1⟩ := u_known (C := RX1) (T := TX1) (N := 2) (n := 2) hts inX1 (hts (.instantiable RX1 2) (by decide +kernel))
  obtain ⟨c2, i2, k2⟩ := u_known (C := RX2) (T := TX2) (N := 8) (n := 8) hts inX2 (hts (.instantiable RX2 8) (by decide +kernel))
  obtain ⟨c3, i3, k3⟩ := u_known (C := RX3) (T := TX3) (N := 4) (n := 4) hts inX3 (hts (.instantiable RX3 4) (by decide +kernel))
  obtain ⟨c4, i4, k4⟩ := u_known (C := RX4) (T := TX4) (N := 2) (n := 2) hts inX4 (hts (.instantiable RX4 2) (by decide +kernel))
  obtain ⟨c5, i5, k5⟩ := u_known (C := RX5) (T := TX5) (N := 11) (n := 11) hts inX5 (hts (.instantiable RX5 11) (by decide +kernel))
  obtain ⟨c6, i6, k6⟩ := u_known (C := RX6) (T := TX6) (N := 10) (n := 10) hts inX6 (hts (.instantiable RX6 10) (by decide +kernel))
  obtain ⟨cI, kI, comp, f1, f2, f3⟩ := Cond.arrayClass_spec (hts (.arrayClass .int) (by decide +kernel))
  refine ⟨(fun k => match k with | 0 => c0 | 1 => c1 | 2 => c2 | 3 => c3 | 4 => c4 | 5 => c5 | _ => c6, fun k => match k with | 0 => i0 | 1 => i1 | 2 => i2 | 3 => i3 | 4 => i4 | 5 => i5 | _ => i6), cI, fun k q hq => ?_, fun k q hq => ?_⟩
  · match k, hq with
    | 0, hq => cases hq; exact k0
    | 1, hq => cases hq; exact k1
    | 2, hq => cases hq; exact k2
    | 3, hq => cases hq; exact k3
    | 4, hq => cases hq; exact k4
    | 5, hq => cases hq; exact k5
    | 6, hq => cases hq; exact k6
    | k + 7, hq => simp at hq
  · match k, hq with
    | 0, hq => cases hq; exact ⟨fun n z => ⟨fun k h => (by cases h), kI, f2, comp, f3⟩, f1⟩
    | k + 1, hq => simp at hq
set_option maxHeartbeats 4000000 in
set_option maxRecDepth 100000 in
/-- THE LAW, from its entry -/
theorem whole_start {p : Program} {e : Env} {s : State} {m : MethodId} {below : List Frame} {meth : Method} {c : Code} (l : Launch) (hflags : l.flags = flags0) {b L : Nat} {xs : Nat → Int32} (hL : L ≤ 2048) (C0 : lw_At p s m meth c b L xs) : W p l e room_1 s m #[Value.ref b] below meth c s.heap [] 0 0 (lw_Z below #[Value.ref b] s) (entryFrame m ([Value.ref b] : List Value).toArray 9) := by
  obtain ⟨hx, hb, hr, hml, hown, hts0, hX, hbl, hlocks, hgv⟩ := id C0
  have hlt : l.stackTraces = false := by first | (show l.flags.stackTraces = false; rw [hflags]; rfl) | (rw [Launch.stackTraces, hflags]; rfl)
  have hts : ∀ w ∈ wsL_law, w.before #[Value.ref b] s = true := fun w h => hts0 w (wsL_law_in w h)
  have hown : s.vm.findClass RL = some m.cls := hown
  have hA : ∀ q : Nat, s.heap.size ≤ q → (fun q : Nat => s.heap.size ≤ q) q := fun _ h => h
  have hbA : ¬ (fun q : Nat => s.heap.size ≤ q) b := Nat.not_le.mpr hbl
  obtain ⟨D, cI, hK⟩ := K_of hts0
  have hN := NW_of hts0
  have hT : TH (fun q => s.heap.size ≤ q) s := ⟨TC_of hts0 hgv, TZ_of hts0 hgv⟩
  have hTN := TN_of hgv
  have hS : va_S (fun q : Nat => s.heap.size ≤ q) s.heap s.heap [] := va_S.rf
  have hP : va_P D vwCl [] s.heap := fun k q h => by simp at h
  have hD : va_D (fun q : Nat => s.heap.size ≤ q) [] := ⟨fun i j p q h => by simp at h, fun k q h => by simp at h⟩
  have hl := lv_entry ([.ref b]) (n := 9) (Nat.le_of_ble_eq_true rfl)
  rw [lg_entry_eq]
  generalize (lg_sl ([.ref b]) ++ List.replicate (9 - (lg_sl ([.ref b])).length) Slot.unset).toArray = ls at hl ⊢
  have hl : lv_has ls 9 [(0, .ref b)] := hl
  refine va_new (ci := 4) (fs := [.null, .null]) (C := RX4) (T := TX4) (N := 2) hx hb hts inlX4 tyX4 tyX4_ok hown (hts (.classLink RL 8 RX4) (by decide +kernel)) (hts (.instantiable RX4 2) (by decide +kernel)) (hts (.initialized RX4) (by decide +kernel)) hK hP hD hS hA rfl (fun j hj => by rcases (show j = 0 ∨ j = 1 by omega) with rfl | rfl <;> rfl) (Nat.le_of_ble_eq_true rfl) (Nat.le_of_ble_eq_true rfl) dL_law_0 (fun o H hP hD hS => ?_)
  refine lv_dup hx hb dL_law_3 rfl ?_
  refine zcalln (invI (As := []) (rest := [.ref o]) (rm := ({ frames := 3, cells := 37, slots := 758, locals := 80 } : Room)) ⟨hx, hb, hml, hown, hts⟩ (cwI 0 hts gL_law_X4_init rfl rfl rfl (hts (.initialized RX4) (by decide +kernel)) (hts (.methodLink RL 60 yX4_init) (by decide +kernel)) (hts (.instanceMethod yX4_init) (by decide +kernel)) rfl (by decide +kernel) ⟨Nat.le_of_ble_eq_true rfl, Nat.le_of_ble_eq_true rfl⟩) rfl rfl hl.1 (Nat.le_of_ble_eq_true rfl) dL_law_4) (c_X4_init l D cI o) hK hN hA hP hD hS ⟨Nat.le_of_ble_eq_true rfl, Nat.le_of_ble_eq_true rfl⟩ (fun v1 H locs hv1 hP hD hS => ?_)
  obtain ⟨g, a, b1⟩ := v1
  have hP : va_P D vwCl (wX cI o g a b1 (lnF z0 8) z0 z0) H := hP
  have hD : va_D (fun q : Nat => s.heap.size ≤ q) (wX cI o g a b1 (lnF z0 8) z0 z0) := hD
  refine lv_astore_n (lv' := [(1, .ref o), (0, .ref b)]) hx hb dL_law_7 rfl hl (by decide) rfl (fun ls hl => ?_)
  refine va_new (ci := 6) (fs := [.int 0, .null, .null, .int 0, .null, .null, .int 0, .null, .null, .null]) (C := RX6) (T := TX6) (N := 10) hx hb hts inlX6 tyX6 tyX6_ok hown (hts (.classLink RL 61 RX6) (by decide +kernel)) (hts (.instantiable RX6 10) (by decide +kernel)) (hts (.initialized RX6) (by decide +kernel)) hK hP hD hS hA rfl (fun j hj => by rcases (show j = 0 ∨ j = 1 ∨ j = 2 ∨ j = 3 ∨ j = 4 ∨ j = 5 ∨ j = 6 ∨ j = 7 ∨ j = 8 ∨ j = 9 by omega) with rfl | rfl | rfl | rfl | rfl | rfl | rfl | rfl | rfl | rfl <;> rfl) (Nat.le_of_ble_eq_true rfl) (Nat.le_of_ble_eq_true rfl) dL_law_8 (fun h9 H hP hD hS => ?_)
  refine lv_dup hx hb dL_law_11 rfl ?_
  refine zcalln (invI (As := []) (rest := [.ref h9]) (rm := ({ frames := 2, cells := 25, slots := 570, locals := 50 } : Room)) ⟨hx, hb, hml, hown, hts⟩ (cwI 0 hts gL_law_X6_init rfl rfl rfl (hts (.initialized RX6) (by decide +kernel)) (hts (.methodLink RL 63 yX6_init) (by decide +kernel)) (hts (.instanceMethod yX6_init) (by decide +kernel)) rfl (by decide +kernel) ⟨Nat.le_of_ble_eq_true rfl, Nat.le_of_ble_eq_true rfl⟩) rfl rfl hl.1 (Nat.le_of_ble_eq_true rfl) dL_law_12) (c_X6_init l D cI h9) hK hN hA hP hD hS ⟨Nat.le_of_ble_eq_true rfl, Nat.le_of_ble_eq_true rfl⟩ (fun v1 H locs hv1 hP hD hS => ?_)
  obtain ⟨h, b2, d⟩ := v1
  have hv1 : h 0 = h9 := hv1
  have hP6 : va_P D vwCl (wX cI o g a b1 (lnF z0 8) z0 z0 ++ wMo cI h b2 d (lnF z0 8) z0 z0) H := hP
  have hD6 : va_D (fun q : Nat => s.heap.size ≤ q) (wX cI o g a b1 (lnF z0 8) z0 z0 ++ wMo cI h b2 d (lnF z0 8) z0 z0) := hD
  rw [← hv1]
  refine lv_astore_n (lv' := [(2, .ref (h 0)), (1, .ref o), (0, .ref b)]) hx hb dL_law_15 rfl hl (by decide) rfl (fun ls hl => ?_)
  refine lv_iconst (v := 1) hx hb dL_law_16 (by decide) ?_
  refine va_newa (atype := .long) (ty := .long) (a0 := (1, .inr (.inl (fun _ => 0)))) (N' := 1) hx hb (hts (.arrayClass .long) (by decide +kernel)) rfl hK hP6 hD6 hS hA (fun _ => rfl) (by decide) (by decide) (by decide) (Nat.le_of_ble_eq_true rfl) (Nat.le_of_ble_eq_true rfl) dL_law_17 (fun z cL H hK2 hP hD hS => ?_)
  obtain ⟨hP, hD⟩ := fr_swap hP hD
  have hP : va_P D vwCl (wLw cI cL z o g a b1 h b2 d (fun _ => 0) (lnF z0 8) z0 z0 (lnF z0 8) z0 z0) H := hP
  have hD : va_D (fun q : Nat => s.heap.size ≤ q) (wLw cI cL z o g a b1 h b2 d (fun _ => 0) (lnF z0 8) z0 z0 (lnF z0 8) z0 z0) := hD
  refine lv_astore_n (lv' := [(3, .ref z), (2, .ref (h 0)), (1, .ref o), (0, .ref b)]) hx hb dL_law_19 rfl hl (by decide) rfl (fun ls hl => ?_)
  refine lv_iconst (v := 0) hx hb dL_law_20 (by decide) ?_
  refine lv_istore (lv' := [(4, .int 0), (3, .ref z), (2, .ref (h 0)), (1, .ref o), (0, .ref b)]) hx hb dL_law_21 hl (by decide) rfl (fun ls hl => ?_)
  refine W.widen (k := 65 + 400 * 0) (n := 1341 + 2000 * 0) (by dsimp only; omega) (by dsimp only; omega) ?_
  refine W.base ?_
  exact law_loop hr hlocks (b := b1) (g := g) (a := a) (h := h) (b2 := b2) (d := d) ⟨hx, hb, hml, hown, hts, hX, hbl, hK2, hN, hT, hTN, hA, hbA, hlt, hL⟩ 514 0 (by omega) (by omega) s.drawn (Drawn.sameBut.refl s.drawn lw_cs) H _ (fun _ => 0) (lnF z0 8) z0 z0 (lnF z0 8) z0 z0 ls Sim.start hP hD hS (lv_sub hl [0, 4, 3, 2, 1] rfl)
-- ===== YOUR PART ENDS =====
set_option maxHeartbeats 4000000 in
theorem lw_walk (l : Launch) (hflags : l.flags = flags0) (b : Addr) (xs : List Int32) : MetFree l x (headSpec (Jvm.Cond.code x code maxLocals ret :: tables_1) room_1) (lw_P b xs) (fun _ _ _ _ _ => True) lw_Q := by
  refine MetFree.of_bodyS (code := code) (maxLocals := maxLocals) (ret := ret) (by decide) ?_ ?_
  · intro args s m h hn
    obtain ⟨meth, c, h1, h2, h3, h4, h5, h6, -, -⟩ := Cond.code_spec hn (atoms_spec (ws := Jvm.Cond.code x code maxLocals ret :: tables_1) h _ List.mem_cons_self)
    exact ⟨meth, c, h1, h2, h3, h4, h5, h6⟩
  · intro p e s m args below meth c s₁ B hml0 hP _
    obtain ⟨rfl, hx, hbd, hgv⟩ := hP
    obtain ⟨scr, harrAt, hlist, hof, hsmall⟩ := hx
    obtain ⟨hcb, hkn, -, -⟩ := State.arrayAt?_spec harrAt
    have hown : s.vm.findClass R_law = some m.cls := findClass_of_methodNamed B.named
    have hts0 : ∀ c ∈ (Jvm.Cond.code x code maxLocals ret :: tables_1), c.before #[Value.ref b] s = true := atoms_spec (ws := Jvm.Cond.code x code maxLocals ret :: tables_1) B.pre
    have hts : ∀ w ∈ lw_tbl, w.before #[Value.ref b] s = true := k2_hts_sels lw_privs (fun w hw => hts0 w (List.mem_cons_of_mem _ hw)) lw_privs_ok
    have hml : c.maxLocals = 9 := B.maxLocals_eq (hts0 _ List.mem_cons_self)
    have X₀ : Stand p l e room_1 s m #[Value.ref b] below meth c s₁ [] 0 0 := Stand.of_body B
    have hh0 : s₁.heap = s.heap := by rw [B.state]; rfl
    have hsz : scr.slots.size = xs.length := by rw [← Array.length_toList, hlist, List.length_map]
    have hval : ∀ j : Nat, j < xs.length → scr.slots[j]? = some (.int (xs.getD j 0)) := fun j hj => by
      rw [← Array.getElem?_toList, hlist]
      simp [hj]
    have hbl : b < s.heap.size := (Array.getElem?_eq_some_iff.mp hcb).1
    have hX : va_X b xs.length (fun j => xs.getD j 0) s s.heap := ⟨scr, hcb, hof, hkn, hsz, hval⟩
    have K : W p l e room_1 s m #[Value.ref b] below meth c s₁.heap [] 0 0 (lw_Z below #[Value.ref b] s) (entryFrame m ([Value.ref b] : List Value).toArray 9) := by
      rw [hh0]
      exact whole_start l hflags hbd ⟨B.exec, B.bytes, B.returns, hml, hown, hts, hX, hbl, B.notSynchronized, hgv⟩
    obtain ⟨t, a1, o, b1, b2, b3⟩ := K s₁ rfl X₀
    exact ⟨t, o, a1, b1, b2, b3⟩
theorem lw_pre_spec {args : Array Value} {s : State} (h : (Jvm.Cond.and given_1 narrow_1).before args s = true) (hr : rest_1_c.before args s = true) : ∃ (b : Addr) (xs : List Int32), lw_P b xs args s := by
  have hs := flat_of_before _ h
  have hq := flat_of_before _ hr
  have hc : (Cond.count 1).before args s = true := hs _ (by decide +kernel)
  have harr : (Cond.arrayOf (.arg 0) .int).before args s = true := hs _ (by decide +kernel)
  have hle : (Cond.le (.length (.arg 0)) (.int 2048)).before args s = true := hs _ (by decide +kernel)
  have hlen : (Cond.isInt (.length (.arg 0))).before args s = true := hq _ (by decide +kernel)
  have hall : (Cond.all (.arg 0) (.isInt (.elem (.arg 0) (.index 0)))).before args s = true := hq _ (by decide +kernel)
  obtain ⟨b, xs, hb, hx⟩ := State.ints_of_pre rfl harr hlen hall
  have hsm : xs.length < 2 ^ 31 := hx.choose_spec.2.2.2
  have hev : (Term.length (.arg 0)).eval args s none [] s = some (.int xs.length.toInt32) := hx.length_eval hb
  have hv := Cond.le_ints hev (show (Term.int 2048).eval args s none [] s = some (.int 2048) from rfl)
  have hd : xs.length.toInt32 ≤ 2048 := by
    simpa [Cond.before, Cond.holds, hv] using hle
  have hN : xs.length ≤ 2048 := (Int32.ofNat_le_ofNat hsm (by decide)).mp (show Int32.ofNat xs.length ≤ Int32.ofNat 2048 from hd)
  exact ⟨b, xs, Cond.one_arg hc (show args[0]? = some (.ref b) from hb), hx, hN, h⟩
theorem lw_comes (l : Launch) (hflags : l.flags = flags0) : Comes l x (Jvm.Cond.code x code maxLocals ret :: tables_1) room_1 (fun tb e args s => Calls_1 tb e args s ∧ rest_1 tb e args s ∧ Pre_1 tb e args s)
    (fun _ _ args s o t => lw_Q args s o t) := by
  intro p e ha hc hk s m args below hf hfit hheap happ hpre
  obtain ⟨b, xs, hP⟩ := lw_pre_spec hpre.2.2 hpre.2.1
  obtain ⟨k, o, h1, h2, h3, hQ⟩ := lw_walk l hflags b xs p e ha hc hk s m args below hf ((Spec.applies_iff_loose hf).mp happ).1 hP trivial
  exact ⟨k, o, h1, h2, h3, hQ⟩
theorem lw_frame {s t : State} {o : Outcome} {args : Array Value} (h : State.butDraws s t lw_cs (fun t1 => Framed s o t1 [] 691260 7022324)) :
    State.butDraws s t [Jvm.Choice.named "NaN.bits"] (fun t1 => Framed s o t1 (fieldLocs frame_1_writes args s ++ arrayLocs frame_1_arrays args s ++ staticLocs frame_1_statics s) 691260 7022324) := h
theorem lw_limb (L : Cond) (hL : ∀ (args : Array Value) (s t : State), L.after args s (.returned (some (.int 1))) t = true) :
    ArmFor flags0 classFile x code maxLocals ret World_1 tables_1 room_1 Calls_1 rest_1 Pre_1
      (fun tb e a s o t => postC L tb e a s o t ∧ State.butDraws s t [Jvm.Choice.named "NaN.bits"] (fun t1 => Framed s o t1 (fieldLocs frame_1_writes a s ++ arrayLocs frame_1_arrays a s ++ staticLocs frame_1_statics s) 691260 7022324)) := by
  intro l hflags _ _ p e ha hc hk s m args below hf hfit hheap happ hpre
  obtain ⟨k, o, h1, h2, h3, rfl, hF⟩ := lw_comes l hflags p e ha hc hk s m args below hf hfit hheap happ hpre
  exact ⟨k, _, h1, h2, h3, hL args s _, lw_frame hF⟩
theorem i_vc : Claimed_1_1 ∧ Claimed_1_2 := ⟨lw_limb limb_1_1 (fun args s t => by simp [limb_1_1, Cond.after, Cond.holds, Cond.value]), lw_limb limb_1_2 (fun args s t => Cond.after_iff.mpr (by
  first | (rw [show limb_1_2 = Cond.eq .result (.int 1) from rfl, Cond.eq_ints (x := 1) (y := 1) rfl rfl]; simp; done) | (simp [limb_1_2, Cond.value, Term.eval]; done)))⟩
