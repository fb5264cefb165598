/-! a call at the class's caller and at the reference, together: the same exception or the same answer, and Sim again -/
abbrev RML : Room := { frames := 9, cells := 1, slots := 6, locals := 230 }
def Jn (l : Launch) (D : va_G) (cI cL : ClassId) (o z : Nat) (g a b h b2 d : Nat → Nat) (yW : MethodName) (wsW : List Cond) (avW : List Value) (yM : MethodName) (wsM : List Cond) (rmM : Room) (avM : List Value) (n q u r : Rc) : Prop :=
  ∀ (v w : Rc) (f : Nat → Int64), ∃ (k b9 : Int32) (n1 q1 u1 r1 : Rc) (f1 : Nat → Int64), CW l yW wsW RML D cI cL avW (wL cL z f (wX cI o g a b r u v)) k (fun v9 => wL cL z f1 (wX cI o g a b r1 u1 v9)) ∧ CIE l yM wsM rmM D cI avM (wMo cI h b2 d n q w) b9 (fun w9 => wMo cI h b2 d n1 q1 w9) ∧ n1 31 0 = k ∧ (k = 0 → f1 0 = b9.toInt64) ∧ Sim n1 q1 u1 r1
theorem CI.toE {l : Launch} {y : MethodName} {ws : List Cond} {rm : Room} {D : va_G} {cI : ClassId} {av : List Value} {W0 : va_W} {r : Int32} {W1 : Rc → va_W} (w : Rc) (h : CI l y ws rm D cI av W0 r (W1 w)) : CIE l y ws rm D cI av W0 r W1 := by
  intro sz p e ha hc hk s m args below hf happ hP hK
  obtain ⟨n, o, h1, h2, h3, ⟨⟨r', u, e1, e2, e3⟩, e4⟩, L, h5, h6⟩ := h sz p e ha hc hk s m args below hf happ hP hK
  exact ⟨n, o, h1, h2, h3, ⟨⟨r', w, e1, e2, e3⟩, e4⟩, L, h5, h6⟩
theorem ixN {N : Nat} {top mm : Int32} (ht : top = nI N) (hm : top - 1 = mm) (hN : N ≤ 1000) (x : Int32) : ((x < 0 ∨ top ≤ x) ∧ ¬ (¬ x < 0 ∧ ¬ mm < x)) ∨ ∃ j, j < N ∧ x = nI j ∧ (¬ nI j < 0 ∧ ¬ mm < nI j) := by
  subst hm
  subst ht
  rcases pk_ix x (n := N) (by omega) with h | h | ⟨j, hj, rfl⟩
  · exact Or.inl ⟨Or.inl h, fun z => z.1 h⟩
  · refine Or.inl ⟨Or.inr h, fun z => z.2 ?_⟩
    cases N with
    | zero => exact Int32.lt_of_lt_of_le (by decide : nI 0 - 1 < nI 0) h
    | succ M =>
      rw [nI_pred]
      exact Int32.lt_of_lt_of_le (nI_lt (by omega) (by omega)) h
  · refine Or.inr ⟨j, hj, rfl, nI_pos (by omega), ?_⟩
    cases N with
    | zero => omega
    | succ M =>
      rw [nI_pred]
      exact nI_nlt (by omega) (by omega)
theorem rgN {a b : Nat} {x1 x2 : Int32} (h1 : x1 = nI a) (h2 : x2 = nI b) (ha : a ≤ 70000) (hb : b ≤ 70000) (x : Int32) : ((x < x1 ∨ x2 < x) ∧ ¬ (¬ x < x1 ∧ ¬ x2 < x)) ∨ ∃ k, a ≤ k ∧ k ≤ b ∧ x = nI k ∧ ¬ nI k < x1 ∧ ¬ x2 < nI k ∧ nI k ≤ x2 := by
  subst h1
  subst h2
  by_cases c1 : x < nI a
  · exact Or.inl ⟨Or.inl c1, fun z => z.1 c1⟩
  by_cases c2 : nI b < x
  · exact Or.inl ⟨Or.inr c2, fun z => z.2 c2⟩
  have c0 : ¬ x < 0 := fun z => c1 (Int32.lt_of_lt_of_le z (nI_pos' (by omega)))
  obtain ⟨k, hk, rfl⟩ := nI_of2 (M := nI b) (n := b) (nI_toInt (by omega)) c0 (Int32.not_lt.mp c2)
  refine Or.inr ⟨k, ?_, hk, rfl, c1, c2, Int32.not_lt.mp c2⟩
  rcases Nat.lt_or_ge k a with z | z
  · exact absurd (nI_lt z (by omega)) c1
  · exact z
theorem rise_eq {r n : Rc} {s : Nat} {y : Int32} (h : r 20 = n 20) : riseF r s y ↔ riseF n s y := by
  unfold riseF
  rw [h]
section SIMF
variable {n q u r : Rc}
theorem Sim.ok (h : Sim n q u r) : Ok u := h.1.2.2
theorem Sim.okn (h : Sim n q u r) : Ok n := h.2.1
theorem Sim.okq (h : Sim n q u r) : Ok q := h.2.2.1.1
theorem Sim.jr (h : Sim n q u r) : JR (iv (n 0 0)) (iv (n 10 0)) q := h.2.2.1.2
theorem Sim.e0 (h : Sim n q u r) : u 0 = n 0 := (h.1.1 0).2 (by unfold sta; omega)
theorem Sim.e10 (h : Sim n q u r) : u 10 = n 10 := (h.1.1 10).2 (by unfold sta; omega)
theorem Sim.e30 (h : Sim n q u r) : u 30 = q 30 := (h.1.1 30).1 (by unfold dyn; omega)
theorem Sim.e12 (h : Sim n q u r) : u 12 = q 12 := (h.1.1 12).1 (by unfold dyn; omega)
theorem Sim.e13 (h : Sim n q u r) : u 13 = q 13 := (h.1.1 13).1 (by unfold dyn; omega)
theorem Sim.r20 (h : Sim n q u r) : r 20 = n 20 := h.2.2.2.1.1
theorem Sim.r21 (h : Sim n q u r) : r 21 = n 21 := h.2.2.2.1.2.1
theorem Sim.K (h : Sim n q u r) : u 10 0 = nI (iv (u 10 0)) ∧ iv (u 10 0) ≤ 4 := ⟨h.ok.k, h.ok.k4⟩
theorem Sim.N (h : Sim n q u r) : u 0 0 = nI (iv (u 0 0)) ∧ iv (u 0 0) ≤ 60 := ⟨h.ok.n, h.ok.n60⟩
end SIMF
theorem oc {f : Nat → Int64} {k b : Int32} (h : k = b) : vp_updL f 0 k.toInt64 0 = b.toInt64 := by
  rw [h]
  rfl
theorem n1_0 {k : Int32} {c : Prop} (h : ¬ k = 0) : k = 0 → c := fun z => absurd z h
set_option maxHeartbeats 1000000 in
theorem j_setStation (l : Launch) (hlt : l.stackTraces = false) (D : va_G) (cI cL : ClassId) (o z : Nat) (g a b h b2 d : Nat → Nat) (n q u r : Rc) (S : Sim n q u r) (x1 : Int32) (x2 : Int32) (x3 : Int32) : Jn l D cI cL o z g a b h b2 d yL_setStation wsL_setStation [.ref o, .int x1, .int x2, .int x3, .ref z] yX6_setStation wsX6_setStation ({ frames := 2, cells := 0, slots := 0, locals := 42 } : Room) [.ref (h 0), .int x1, .int x2, .int x3] n q u r := by
  intro v w f
  rcases ixN (N := 8) (top := 8) (mm := 7) rfl (by decide) (by omega) x1 with ⟨c1, c2⟩ | ⟨s, hs, rfl, c2⟩
  · exact ⟨1, 0, _, _, _, _, f, c_L_setStation_1 l D cI cL o z g a b r u v x1 x2 x3 f (c_X4_setStation_x1 l hlt D cI o g a b r u v S.ok x1 x2 x3 c1), CI.toE w (c_X6_setStation_1 l D cI h b2 d n q w x1 x2 x3 c2), put_eq, n1_0 (by decide), S.th.th⟩
  rcases rgN (a := 1) (b := 999) (x1 := 1) (x2 := 999) rfl rfl (by omega) (by omega) x2 with ⟨c3, c4⟩ | ⟨y, hy1, hy2, ey, c3, c4, c5⟩
  · exact ⟨2, 0, _, _, _, _, f, c_L_setStation_2 l D cI cL o z g a b r u v (nI s) x2 x3 f (c_X4_setStation_x2 l hlt D cI o g a b r u v S.ok s hs (nI s) rfl x2 x3 c3), CI.toE w (c_X6_setStation_2 l D cI h b2 d n q w s hs (nI s) rfl x2 x3 (fun z => c4 z.1)), put_eq, n1_0 (by decide), S.th.th⟩
  rcases rgN (a := 0) (b := 3) (x1 := 0) (x2 := 3) rfl rfl (by omega) (by omega) x3 with ⟨d3, d4⟩ | ⟨t, ht1, ht2, et, d3, d4, d5⟩
  · subst ey
    exact ⟨2, 0, _, _, _, _, f, c_L_setStation_2 l D cI cL o z g a b r u v (nI s) (nI y) x3 f (c_X4_setStation_x3 l hlt D cI o g a b r u v S.ok s hs (nI s) rfl (nI y) x3 c3 c5 d3), CI.toE w (c_X6_setStation_2 l D cI h b2 d n q w s hs (nI s) rfl (nI y) x3 (fun z => d4 z.2)), put_eq, n1_0 (by decide), S.th.th⟩
  subst ey
  subst et
  by_cases h5 : n 20 s < q 30 0
  · exact ⟨3, 0, _, _, _, _, f, c_L_setStation_3 l D cI cL o z g a b r u v (nI s) (nI y) (nI t) f (c_X4_setStation_x4 l hlt D cI o g a b r u v S.ok s hs (nI s) rfl (nI y) (nI t) c3 c5 d3 d5 (Or.inl (by rw [S.r20, S.e30]; exact h5))), CI.toE w (c_X6_setStation_3 l D cI h b2 d n q w s hs (nI s) rfl (nI y) (nI t) ⟨c3, c4⟩ ⟨d3, d4⟩ (Or.inl h5)), put_eq, n1_0 (by decide), S.th.th⟩
  by_cases h6 : nI y < q 30 0
  · exact ⟨3, 0, _, _, _, _, f, c_L_setStation_3 l D cI cL o z g a b r u v (nI s) (nI y) (nI t) f (c_X4_setStation_x4 l hlt D cI o g a b r u v S.ok s hs (nI s) rfl (nI y) (nI t) c3 c5 d3 d5 (Or.inr (Or.inl (by rw [S.e30]; exact h6)))), CI.toE w (c_X6_setStation_3 l D cI h b2 d n q w s hs (nI s) rfl (nI y) (nI t) ⟨c3, c4⟩ ⟨d3, d4⟩ (Or.inr (Or.inl h6))), put_eq, n1_0 (by decide), S.th.th⟩
  by_cases h7 : riseF n s (nI y)
  · exact ⟨0, _, _, _, _, _, vp_updL f 0 (10 * r 20 s + r 21 s).toInt64, c_L_setStation l D cI cL o z g a b r u v _ _ (nI s) (nI y) (nI t) f _ (CI.toE v (c_X4_setStation l D cI o g a b r u v S.ok s hs (nI s) rfl (nI y) (nI t) c3 c5 d3 d5 (by rw [S.r20, S.e30]; exact h5) (by rw [S.e30]; exact h6) ((rise_eq S.r20).mpr h7))), (CI.toE w (c_X6_setStation l D cI h b2 d n q w s hs (nI s) rfl (nI y) (nI t) ⟨c3, c4⟩ ⟨d3, d4⟩ h5 h6 h7)), rfl, fun _ => oc (by rw [S.r20, S.r21]), (S.th (c := 0)).st hs (vi_of (by omega) (by omega)) h7⟩
  · exact ⟨3, 0, _, _, _, _, f, c_L_setStation_3 l D cI cL o z g a b r u v (nI s) (nI y) (nI t) f (c_X4_setStation_x4 l hlt D cI o g a b r u v S.ok s hs (nI s) rfl (nI y) (nI t) c3 c5 d3 d5 (Or.inr (Or.inr (fun z => h7 ((rise_eq S.r20).mp z))))), CI.toE w (c_X6_setStation_3 l D cI h b2 d n q w s hs (nI s) rfl (nI y) (nI t) ⟨c3, c4⟩ ⟨d3, d4⟩ (Or.inr (Or.inr h7))), put_eq, n1_0 (by decide), S.th.th⟩
set_option maxHeartbeats 1000000 in
theorem j_post (l : Launch) (hlt : l.stackTraces = false) (D : va_G) (cI cL : ClassId) (o z : Nat) (g a b h b2 d : Nat → Nat) (n q u r : Rc) (S : Sim n q u r) (x1 : Int32) (x2 : Int32) : Jn l D cI cL o z g a b h b2 d yL_post wsL_post [.ref o, .int x1, .int x2, .ref z] yX6_post wsX6_post ({ frames := 2, cells := 0, slots := 0, locals := 42 } : Room) [.ref (h 0), .int x1, .int x2] n q u r := by
  intro v w f
  rcases ixN (N := 8) (top := 8) (mm := 7) rfl (by decide) (by omega) x1 with ⟨c1, c2⟩ | ⟨s, hs, rfl, c2⟩
  · exact ⟨1, 0, _, _, _, _, f, c_L_post_1 l D cI cL o z g a b r u v x1 x2 f (c_X4_post_x1 l hlt D cI o g a b r u v S.ok x1 x2 c1), CI.toE w (c_X6_post_1 l D cI h b2 d n q w x1 x2 (fun z => c2 z.1)), put_eq, n1_0 (by decide), S.th.th⟩
  rcases ixN (N := 16) (top := 16) (mm := 15) rfl (by decide) (by omega) x2 with ⟨c3, c4⟩ | ⟨t, ht, rfl, c4⟩
  · exact ⟨1, 0, _, _, _, _, f, c_L_post_1 l D cI cL o z g a b r u v (nI s) x2 f (c_X4_post_x2 l hlt D cI o g a b r u v S.ok s hs (nI s) rfl x2 c3), CI.toE w (c_X6_post_1 l D cI h b2 d n q w (nI s) x2 (fun z => c4 z.2)), put_eq, n1_0 (by decide), S.th.th⟩
  obtain ⟨eN, hN⟩ := S.N
  have e0 := S.e0
  by_cases h5 : iv (n 0 0) < 60
  · exact ⟨0, _, _, _, _, _, vp_updL f 0 (u 0 0).toInt64, c_L_post l D cI cL o z g a b r u v _ _ (nI s) (nI t) f _ (CI.toE v (c_X4_post l D cI o g a b r u v S.ok s hs (nI s) rfl t ht (nI t) rfl (by rw [e0]; exact h5))), (CI.toE w (c_X6_post l D cI h b2 d n q w S.okn s hs (nI s) rfl t ht (nI t) rfl h5 (fun z => by rw [z] at h5; exact absurd h5 (by decide)))), rfl, fun _ => oc (by rw [e0, Int32.add_sub_cancel]), (S.th (c := 0)).post h5 hs ht⟩
  · have h60 : iv (n 0 0) = 60 := by rw [e0] at hN; omega
    exact ⟨2, 0, _, _, _, _, f, c_L_post_2 l D cI cL o z g a b r u v (nI s) (nI t) f (c_X4_post_x3 l hlt D cI o g a b r u v S.ok s hs (nI s) rfl t ht (nI t) rfl (by rw [e0, h60]; exact Nat.le_refl _)), CI.toE w (c_X6_post_2 l D cI h b2 d n q w s hs (nI s) rfl t ht (nI t) rfl (by rw [S.okn.n, h60]; rfl)), put_eq, n1_0 (by decide), S.th.th⟩
set_option maxHeartbeats 1000000 in
theorem j_hire (l : Launch) (hlt : l.stackTraces = false) (D : va_G) (cI cL : ClassId) (o z : Nat) (g a b h b2 d : Nat → Nat) (n q u r : Rc) (S : Sim n q u r) (x1 : Int32) (x2 : Int32) : Jn l D cI cL o z g a b h b2 d yL_hire wsL_hire [.ref o, .int x1, .int x2, .ref z] yX6_hire wsX6_hire ({ frames := 2, cells := 0, slots := 0, locals := 42 } : Room) [.ref (h 0), .int x1, .int x2] n q u r := by
  intro v w f
  rcases rgN (a := 1) (b := 9) (x1 := 1) (x2 := 9) rfl rfl (by omega) (by omega) x1 with ⟨c3, c4⟩ | ⟨y, hy1, hy2, ey, c3, c4, c5⟩
  · exact ⟨1, 0, _, _, _, _, f, c_L_hire_1 l D cI cL o z g a b r u v x1 x2 f (c_X4_hire_x1 l hlt D cI o g a b r u v S.ok x1 x2 c3), CI.toE w (c_X6_hire_1 l D cI h b2 d n q w x1 x2 (fun z => c4 z.1)), put_eq, n1_0 (by decide), S.th.th⟩
  rcases rgN (a := 0) (b := 65535) (x1 := 0) (x2 := 65535) rfl rfl (by omega) (by omega) x2 with ⟨d3, d4⟩ | ⟨t, ht1, ht2, et, d3, d4, d5⟩
  · subst ey
    exact ⟨1, 0, _, _, _, _, f, c_L_hire_1 l D cI cL o z g a b r u v (nI y) x2 f (c_X4_hire_x2 l hlt D cI o g a b r u v S.ok (nI y) x2 c3 c5 d3), CI.toE w (c_X6_hire_1 l D cI h b2 d n q w (nI y) x2 (fun z => d4 z.2)), put_eq, n1_0 (by decide), S.th.th⟩
  subst ey
  subst et
  obtain ⟨eK, hK⟩ := S.K
  have e10 := S.e10
  by_cases h5 : iv (n 10 0) < 4
  · exact ⟨0, _, _, _, _, _, vp_updL f 0 (u 10 0).toInt64, c_L_hire l D cI cL o z g a b r u v _ _ (nI y) (nI t) f _ (CI.toE v (c_X4_hire l D cI o g a b r u v S.ok (nI y) (nI t) c3 c5 d3 d5 (by rw [e10]; exact h5))), (CI.toE w (c_X6_hire l D cI h b2 d n q w S.okn (nI y) (nI t) ⟨c3, c4⟩ ⟨d3, d4⟩ h5 (fun z => by rw [z] at h5; exact absurd h5 (by decide)))), rfl, fun _ => oc (by rw [e10, Int32.add_sub_cancel]), (S.th (c := 0)).hire h5⟩
  · have h4 : iv (n 10 0) = 4 := by rw [e10] at hK; omega
    exact ⟨2, 0, _, _, _, _, f, c_L_hire_2 l D cI cL o z g a b r u v (nI y) (nI t) f (c_X4_hire_x3 l hlt D cI o g a b r u v S.ok (nI y) (nI t) c3 c5 d3 d5 (by rw [e10, h4]; exact Nat.le_refl _)), CI.toE w (c_X6_hire_2 l D cI h b2 d n q w (nI y) (nI t) ⟨c3, c4⟩ ⟨d3, d4⟩ (by rw [S.okn.k, h4]; rfl)), put_eq, n1_0 (by decide), S.th.th⟩
set_option maxHeartbeats 1000000 in
theorem j_assign (l : Launch) (hlt : l.stackTraces = false) (D : va_G) (cI cL : ClassId) (o z : Nat) (g a b h b2 d : Nat → Nat) (n q u r : Rc) (S : Sim n q u r) (x1 : Int32) (x2 : Int32) : Jn l D cI cL o z g a b h b2 d yL_assign wsL_assign [.ref o, .int x1, .int x2, .ref z] yX6_assign wsX6_assign ({ frames := 2, cells := 0, slots := 0, locals := 43 } : Room) [.ref (h 0), .int x1, .int x2] n q u r := by
  intro v w f
  obtain ⟨eK, hK⟩ := S.K
  have e10 := S.e10
  rw [e10] at eK hK
  rcases ixN (N := iv (n 10 0)) (top := n 10 0) (mm := n 10 0 - 1) eK rfl (by omega) x1 with ⟨c1, c2⟩ | ⟨s, hs, rfl, c2⟩
  · exact ⟨1, 0, _, _, _, _, f, c_L_assign_1 l D cI cL o z g a b r u v x1 x2 f (c_X4_assign_x1 l hlt D cI o g a b r u v S.ok x1 x2 (by rw [e10]; exact c1)), CI.toE w (c_X6_assign_1 l D cI h b2 d n q w x1 x2 c2), put_eq, n1_0 (by decide), S.th.th⟩
  rcases rgN (a := 0) (b := 65535) (x1 := 0) (x2 := 65535) rfl rfl (by omega) (by omega) x2 with ⟨d3, d4⟩ | ⟨t, ht1, ht2, et, d3, d4, d5⟩
  · exact ⟨2, 0, _, _, _, _, f, c_L_assign_2 l D cI cL o z g a b r u v (nI s) x2 f (c_X4_assign_x2 l hlt D cI o g a b r u v S.ok s (by rw [e10]; exact hs) (nI s) rfl x2 d3), CI.toE w (c_X6_assign_2 l D cI h b2 d n q w s (by omega) (nI s) rfl c2 x2 d4), put_eq, n1_0 (by decide), S.th.th⟩
  subst et
  exact ⟨0, _, _, _, _, _, vp_updL f 0 (u 12 s).toInt64, c_L_assign l D cI cL o z g a b r u v _ _ (nI s) (nI t) f _ (CI.toE v (c_X4_assign l D cI o g a b r u v S.ok s (by rw [e10]; exact hs) (nI s) rfl (nI t) d3 d5)), (CI.toE w (c_X6_assign l D cI h b2 d n q w s (by omega) (nI s) rfl c2 (nI t) ⟨d3, d4⟩)), rfl, fun _ => oc (by rw [S.e12]), (S.th (c := 0)).as⟩
set_option maxHeartbeats 1000000 in
theorem j_tea (l : Launch) (hlt : l.stackTraces = false) (D : va_G) (cI cL : ClassId) (o z : Nat) (g a b h b2 d : Nat → Nat) (n q u r : Rc) (S : Sim n q u r) (x1 : Int32) : Jn l D cI cL o z g a b h b2 d yL_tea wsL_tea [.ref o, .int x1, .ref z] yX6_tea wsX6_tea ({ frames := 2, cells := 0, slots := 0, locals := 43 } : Room) [.ref (h 0), .int x1] n q u r := by
  intro v w f
  obtain ⟨eK, hK⟩ := S.K
  have e10 := S.e10
  rw [e10] at eK hK
  rcases ixN (N := iv (n 10 0)) (top := n 10 0) (mm := n 10 0 - 1) eK rfl (by omega) x1 with ⟨c1, c2⟩ | ⟨s, hs, rfl, c2⟩
  · exact ⟨1, 0, _, _, _, _, f, c_L_tea_1 l D cI cL o z g a b r u v x1 f (c_X4_tea_x1 l hlt D cI o g a b r u v S.ok x1 (by rw [e10]; exact c1)), CI.toE w (c_X6_tea_1 l D cI h b2 d n q w x1 c2), put_eq, n1_0 (by decide), S.th.th⟩
  exact ⟨0, _, _, _, _, _, vp_updL f 0 (u 13 s).toInt64, c_L_tea l D cI cL o z g a b r u v _ _ (nI s) f _ (CI.toE v (c_X4_tea l D cI o g a b r u v S.ok s (by rw [e10]; exact hs) (nI s) rfl)), (CI.toE w (c_X6_tea l D cI h b2 d n q w s (by omega) (nI s) rfl c2)), rfl, fun _ => oc (by rw [S.e13]), (S.th (c := 0)).te⟩
set_option maxHeartbeats 1000000 in
theorem j_letter (l : Launch) (hlt : l.stackTraces = false) (D : va_G) (cI cL : ClassId) (o z : Nat) (g a b h b2 d : Nat → Nat) (n q u r : Rc) (S : Sim n q u r) (x1 : Int32) (x2 : Int32) : Jn l D cI cL o z g a b h b2 d yL_letter wsL_letter [.ref o, .int x1, .int x2, .ref z] yX6_letter wsX6_letter ({ frames := 2, cells := 1, slots := 5, locals := 43 } : Room) [.ref (h 0), .int x1, .int x2] n q u r := by
  intro v w f
  obtain ⟨eK, hK⟩ := S.N
  have e0 := S.e0
  rw [e0] at eK hK
  rcases ixN (N := iv (n 0 0)) (top := n 0 0) (mm := n 0 0 - 1) eK rfl (by omega) x1 with ⟨c1, c2⟩ | ⟨s, hs, rfl, c2⟩
  · exact ⟨1, 0, _, _, _, _, f, c_L_letter_1 l D cI cL o z g a b r u v x1 x2 f (c_X4_letter_x1 l hlt D cI o g a b r u v S.ok x1 x2 (by rw [e0]; exact c1)), CI.toE w (c_X6_letter_1 l D cI h b2 d n q w x1 x2 (fun z => c2 z.1)), put_eq, n1_0 (by decide), S.th.th⟩
  rcases ixN (N := 5) (top := 5) (mm := 4) rfl (by decide) (by omega) x2 with ⟨d1, d2⟩ | ⟨t, ht, rfl, d2⟩
  · exact ⟨1, 0, _, _, _, _, f, c_L_letter_1 l D cI cL o z g a b r u v (nI s) x2 f (c_X4_letter_x2 l hlt D cI o g a b r u v S.ok s (by rw [e0]; exact hs) (nI s) rfl x2 d1), CI.toE w (c_X6_letter_1 l D cI h b2 d n q w (nI s) x2 (fun z => d2 z.2)), put_eq, n1_0 (by decide), S.th.th⟩
  exact ⟨0, _, _, _, _, _, vp_updL f 0 (mfact u s t).toInt64, c_L_letter l D cI cL o z g a b r u v _ _ (nI s) (nI t) f _ (CI.toE v (c_X4_letter l D cI o g a b r u v S.ok s (by rw [e0]; exact hs) (nI s) rfl t ht (nI t) rfl)), (CI.toE w (c_X6_letter l D cI h b2 d n q w s (by omega) (nI s) rfl t ht (nI t) rfl c2)), rfl, fun _ => oc ((S.th (c := 0)).letter), S.th (c := 0)⟩
set_option maxHeartbeats 1000000 in
theorem j_sorter (l : Launch) (hlt : l.stackTraces = false) (D : va_G) (cI cL : ClassId) (o z : Nat) (g a b h b2 d : Nat → Nat) (n q u r : Rc) (S : Sim n q u r) (x1 : Int32) (x2 : Int32) : Jn l D cI cL o z g a b h b2 d yL_sorter wsL_sorter [.ref o, .int x1, .int x2, .ref z] yX6_sorter wsX6_sorter ({ frames := 2, cells := 1, slots := 7, locals := 43 } : Room) [.ref (h 0), .int x1, .int x2] n q u r := by
  intro v w f
  obtain ⟨eK, hK⟩ := S.K
  have e10 := S.e10
  rw [e10] at eK hK
  rcases ixN (N := iv (n 10 0)) (top := n 10 0) (mm := n 10 0 - 1) eK rfl (by omega) x1 with ⟨c1, c2⟩ | ⟨s, hs, rfl, c2⟩
  · exact ⟨1, 0, _, _, _, _, f, c_L_sorter_1 l D cI cL o z g a b r u v x1 x2 f (c_X4_sorter_x1 l hlt D cI o g a b r u v S.ok x1 x2 (by rw [e10]; exact c1)), CI.toE w (c_X6_sorter_1 l D cI h b2 d n q w x1 x2 (fun z => c2 z.1)), put_eq, n1_0 (by decide), S.th.th⟩
  rcases ixN (N := 7) (top := 7) (mm := 6) rfl (by decide) (by omega) x2 with ⟨d1, d2⟩ | ⟨t, ht, rfl, d2⟩
  · exact ⟨1, 0, _, _, _, _, f, c_L_sorter_1 l D cI cL o z g a b r u v (nI s) x2 f (c_X4_sorter_x2 l hlt D cI o g a b r u v S.ok s (by rw [e10]; exact hs) (nI s) rfl x2 d1), CI.toE w (c_X6_sorter_1 l D cI h b2 d n q w (nI s) x2 (fun z => d2 z.2)), put_eq, n1_0 (by decide), S.th.th⟩
  exact ⟨0, _, _, _, _, _, vp_updL f 0 (cfact u s t).toInt64, c_L_sorter l D cI cL o z g a b r u v _ _ (nI s) (nI t) f _ (CI.toE v (c_X4_sorter l D cI o g a b r u v S.ok s (by rw [e10]; exact hs) (nI s) rfl t ht (nI t) rfl)), (CI.toE w (c_X6_sorter l D cI h b2 d n q w s (by omega) (nI s) rfl t ht (nI t) rfl c2)), rfl, fun _ => oc ((S.th (c := 0)).sorter), S.th (c := 0)⟩
set_option maxHeartbeats 1000000 in
theorem j_hole (l : Launch) (hlt : l.stackTraces = false) (D : va_G) (cI cL : ClassId) (o z : Nat) (g a b h b2 d : Nat → Nat) (n q u r : Rc) (S : Sim n q u r) (x1 : Int32) : Jn l D cI cL o z g a b h b2 d yL_hole wsL_hole [.ref o, .int x1, .ref z] yX6_hole wsX6_hole ({ frames := 2, cells := 0, slots := 0, locals := 42 } : Room) [.ref (h 0), .int x1] n q u r := by
  intro v w f
  rcases ixN (N := 16) (top := 16) (mm := 15) rfl (by decide) (by omega) x1 with ⟨c1, c2⟩ | ⟨s, hs, rfl, c2⟩
  · exact ⟨1, 0, _, _, _, _, f, c_L_hole_1 l D cI cL o z g a b r u v x1 f (c_X4_hole_x1 l hlt D cI o g a b r u v S.ok x1 c1), CI.toE w (c_X6_hole_1 l D cI h b2 d n q w x1 c2), put_eq, n1_0 (by decide), S.th.th⟩
  exact ⟨0, _, _, _, _, _, vp_updL f 0 (u 7 s).toInt64, c_L_hole l D cI cL o z g a b r u v _ _ (nI s) f _ (CI.toE v (c_X4_hole l D cI o g a b r u v S.ok s hs (nI s) rfl)), (CI.toE w (c_X6_hole l D cI h b2 d n q w S.okn (nI s) c2)), rfl, fun _ => oc ((S.th (c := 0)).hole hs), S.th (c := 0)⟩
set_option maxHeartbeats 1000000 in
theorem j_station (l : Launch) (hlt : l.stackTraces = false) (D : va_G) (cI cL : ClassId) (o z : Nat) (g a b h b2 d : Nat → Nat) (n q u r : Rc) (S : Sim n q u r) (x1 : Int32) (x2 : Int32) : Jn l D cI cL o z g a b h b2 d yL_station wsL_station [.ref o, .int x1, .int x2, .ref z] yX6_station wsX6_station ({ frames := 2, cells := 0, slots := 0, locals := 42 } : Room) [.ref (h 0), .int x1, .int x2] n q u r := by
  intro v w f
  rcases ixN (N := 8) (top := 8) (mm := 7) rfl (by decide) (by omega) x1 with ⟨c1, c2⟩ | ⟨s, hs, rfl, c2⟩
  · exact ⟨1, 0, _, _, _, _, f, c_L_station_1 l D cI cL o z g a b r u v x1 x2 f (c_X4_station_x1 l hlt D cI o g a b r u v S.ok x1 x2 c1), CI.toE w (c_X6_station_1 l D cI h b2 d n q w x1 x2 (fun z => c2 z.1)), put_eq, n1_0 (by decide), S.th.th⟩
  rcases ixN (N := 3) (top := 3) (mm := 2) rfl (by decide) (by omega) x2 with ⟨d1, d2⟩ | ⟨t, ht, rfl, d2⟩
  · exact ⟨1, 0, _, _, _, _, f, c_L_station_1 l D cI cL o z g a b r u v (nI s) x2 f (c_X4_station_x2 l hlt D cI o g a b r u v S.ok s hs (nI s) rfl x2 d1), CI.toE w (c_X6_station_1 l D cI h b2 d n q w (nI s) x2 (fun z => d2 z.2)), put_eq, n1_0 (by decide), S.th.th⟩
  exact ⟨0, _, _, _, _, _, vp_updL f 0 (stF r u s t).toInt64, c_L_station l D cI cL o z g a b r u v _ _ (nI s) (nI t) f _ (CI.toE v (c_X4_station l D cI o g a b r u v S.ok s hs (nI s) rfl t ht (nI t) rfl)), (CI.toE w (c_X6_station l D cI h b2 d n q w S.okn s hs (nI s) rfl (nI t) d2)), rfl, fun _ => oc ((S.th (c := 0)).station ht), S.th (c := 0)⟩
set_option maxHeartbeats 1000000 in
theorem j_count (l : Launch) (hlt : l.stackTraces = false) (D : va_G) (cI cL : ClassId) (o z : Nat) (g a b h b2 d : Nat → Nat) (n q u r : Rc) (S : Sim n q u r) (x1 : Int32) : Jn l D cI cL o z g a b h b2 d yL_count wsL_count [.ref o, .int x1, .ref z] yX6_count wsX6_count ({ frames := 3, cells := 0, slots := 0, locals := 64 } : Room) [.ref (h 0), .int x1] n q u r := by
  intro v w f
  rcases ixN (N := 10) (top := 10) (mm := 9) rfl (by decide) (by omega) x1 with ⟨c1, c2⟩ | ⟨s, hs, rfl, c2⟩
  · exact ⟨1, 0, _, _, _, _, f, c_L_count_1 l D cI cL o z g a b r u v x1 f (c_X4_count_x1 l hlt D cI o g a b r u v S.ok x1 c1), CI.toE w (c_X6_count_1 l D cI h b2 d n q w x1 c2), put_eq, n1_0 (by decide), S.th.th⟩
  exact ⟨0, _, _, _, _, _, vp_updL f 0 (cntF r u s).toInt64, c_L_count l D cI cL o z g a b r u v _ _ (nI s) f _ (CI.toE v (c_X4_count l D cI o g a b r u v S.ok s hs (nI s) rfl)), (CI.toE w (c_X6_count l D cI h b2 d n q w S.okn (nI s) c2)), rfl, fun _ => oc ((S.th (c := 0)).count hs), S.th (c := 0)⟩
set_option maxHeartbeats 1000000 in
theorem j_pass (l : Launch) (hlt : l.stackTraces = false) (D : va_G) (cI cL : ClassId) (o z : Nat) (g a b h b2 d : Nat → Nat) (n q u r : Rc) (S : Sim n q u r) (x1 : Int32) : Jn l D cI cL o z g a b h b2 d yL_pass wsL_pass [.ref o, .int x1, .ref z] yX6_pass wsX6_pass ({ frames := 5, cells := 0, slots := 0, locals := 149 } : Room) [.ref (h 0), .int x1] n q u r := by
  intro v w f
  rcases rgN (a := 1) (b := 300) (x1 := 1) (x2 := 300) rfl rfl (by omega) (by omega) x1 with ⟨c3, c4⟩ | ⟨y, hy1, hy2, ey, c3, c4, c5⟩
  · exact ⟨1, 0, _, _, _, _, f, c_L_pass_1 l D cI cL o z g a b r u v x1 f (c_X4_pass_x1 l hlt D cI o g a b r u v S.ok x1 c3), CI.toE w (c_X6_pass_1 l D cI h b2 d n q w x1 c4), put_eq, n1_0 (by decide), S.th.th⟩
  subst ey
  exact ⟨0, _, _, _, _, _, vp_updL f 0 (runF r y u 6 4 - u 6 4).toInt64, c_L_pass l D cI cL o z g a b r u v _ _ (nI y) f _ (CI.toE v (c_X4_pass l D cI o g a b r u v S.ok y hy1 hy2 (nI y) rfl)), (CI.toE w (c_X6_pass l D cI h b2 d n q w S.okn S.okq S.jr y hy1 hy2 (nI y) rfl)), rfl, fun _ => oc ((S.th (c := 0)).sum y), (S.th (c := 0)).pass y⟩
set_option maxHeartbeats 1000000 in
theorem j_arrives (l : Launch) (hlt : l.stackTraces = false) (D : va_G) (cI cL : ClassId) (o z : Nat) (g a b h b2 d : Nat → Nat) (n q u r : Rc) (S : Sim n q u r) (x1 : Int32) : Jn l D cI cL o z g a b h b2 d yL_arrives wsL_arrives [.ref o, .int x1, .ref z] yX6_arrives wsX6_arrives ({ frames := 4, cells := 0, slots := 0, locals := 126 } : Room) [.ref (h 0), .int x1] n q u r := by
  intro v w f
  obtain ⟨eK, hK⟩ := S.N
  have e0 := S.e0
  rw [e0] at eK hK
  rcases ixN (N := iv (n 0 0)) (top := n 0 0) (mm := n 0 0 - 1) eK rfl (by omega) x1 with ⟨c1, c2⟩ | ⟨s, hs, rfl, c2⟩
  · exact ⟨1, 0, _, _, _, _, f, c_L_arrives_1 l D cI cL o z g a b r u v x1 f (c_X4_arrives_x1 l hlt D cI o g a b r u v S.ok x1 (by rw [e0]; exact c1)), CI.toE w (c_X6_arrives_1 l D cI h b2 d n q w x1 c2), put_eq, n1_0 (by decide), S.th.th⟩
  exact ⟨0, _, _, _, _, _, vp_updL f 0 (arrL r s 301 0 u).toInt64, c_L_arrives l D cI cL o z g a b r u v _ _ (nI s) f _ (c_X4_arrives l D cI o g a b r u v S.ok s (by rw [e0]; exact hs) (nI s) rfl), (c_X6_arrives l D cI h b2 d n q w S.okn S.okq S.jr s (by omega) (nI s) rfl c2), rfl, fun _ => oc ((S.th (c := 0)).arrives), S.th (c := 0)⟩
set_option maxHeartbeats 1000000 in
theorem j_foresee (l : Launch) (hlt : l.stackTraces = false) (D : va_G) (cI cL : ClassId) (o z : Nat) (g a b h b2 d : Nat → Nat) (n q u r : Rc) (S : Sim n q u r) (x1 : Int32) (x2 : Int32) : Jn l D cI cL o z g a b h b2 d yL_foresee wsL_foresee [.ref o, .int x1, .int x2, .ref z] yX6_foresee wsX6_foresee ({ frames := 5, cells := 0, slots := 0, locals := 149 } : Room) [.ref (h 0), .int x1, .int x2] n q u r := by
  intro v w f
  rcases rgN (a := 1) (b := 300) (x1 := 1) (x2 := 300) rfl rfl (by omega) (by omega) x1 with ⟨c3, c4⟩ | ⟨y, hy1, hy2, ey, c3, c4, c5⟩
  · exact ⟨1, 0, _, _, _, _, f, c_L_foresee_1 l D cI cL o z g a b r u v x1 x2 f (c_X4_foresee_x1 l hlt D cI o g a b r u v S.ok x1 x2 c3), CI.toE w (c_X6_foresee_1 l D cI h b2 d n q w x1 x2 c4), put_eq, n1_0 (by decide), S.th.th⟩
  subst ey
  rcases rgN (a := 3) (b := 8) (x1 := 3) (x2 := 8) rfl rfl (by omega) (by omega) x2 with ⟨d3, d4⟩ | ⟨t, ht1, ht2, et, d3, d4, d5⟩
  · exact ⟨2, 0, _, _, _, _, f, c_L_foresee_2 l D cI cL o z g a b r u v (nI y) x2 f (c_X4_foresee_x2 l hlt D cI o g a b r u v S.ok y hy1 hy2 (nI y) rfl x2 d3), CI.toE w (c_X6_foresee_2 l D cI h b2 d n q w y hy1 hy2 (nI y) rfl x2 d4), put_eq, n1_0 (by decide), S.th.th⟩
  subst et
  have e9 : nI t - 3 = nI (t - 3) := by
    obtain ⟨t9, rfl⟩ : ∃ t9, t = t9 + 3 := ⟨t - 3, by omega⟩
    rw [show t9 + 3 - 3 = t9 by omega, ← nI_add]
    exact Int32.add_sub_cancel _ _
  exact ⟨0, _, _, _, _, _, vp_updL f 0 (runF r y u 6 (t - 3)).toInt64, c_L_foresee l D cI cL o z g a b r u v _ _ (nI y) (nI t) f _ (c_X4_foresee l D cI o g a b r u v S.ok y hy1 hy2 (nI y) rfl t ht1 ht2 (nI t) rfl), (c_X6_foresee l D cI h b2 d n q w S.okn S.okq S.jr y hy1 hy2 (nI y) rfl (nI t) ⟨d3, d4⟩), rfl, fun _ => oc (by rw [e9]; exact (S.th (c := 0)).foresee (by omega)), S.th (c := 0)⟩
set_option maxHeartbeats 1000000 in
theorem j_advise (l : Launch) (hlt : l.stackTraces = false) (D : va_G) (cI cL : ClassId) (o z : Nat) (g a b h b2 d : Nat → Nat) (n q u r : Rc) (S : Sim n q u r) (x1 : Int32) (x2 : Int32) : Jn l D cI cL o z g a b h b2 d yL_advise wsL_advise [.ref o, .int x1, .int x2, .ref z] yX6_advise wsX6_advise ({ frames := 5, cells := 0, slots := 0, locals := 149 } : Room) [.ref (h 0), .int x1, .int x2] n q u r := by
  intro v w f
  obtain ⟨eK, hK⟩ := S.K
  have e10 := S.e10
  rw [e10] at eK hK
  rcases ixN (N := iv (n 10 0)) (top := n 10 0) (mm := n 10 0 - 1) eK rfl (by omega) x1 with ⟨c1, c2⟩ | ⟨s, hs, rfl, c2⟩
  · exact ⟨1, 0, _, _, _, _, f, c_L_advise_1 l D cI cL o z g a b r u v x1 x2 f (c_X4_advise_x1 l hlt D cI o g a b r u v S.ok x1 x2 (by rw [e10]; exact c1)), CI.toE w (c_X6_advise_1 l D cI h b2 d n q w x1 x2 c2), put_eq, n1_0 (by decide), S.th.th⟩
  rcases rgN (a := 1) (b := 120) (x1 := 1) (x2 := 120) rfl rfl (by omega) (by omega) x2 with ⟨d3, d4⟩ | ⟨y, hy1, hy2, ey, d3, d4, d5⟩
  · exact ⟨2, 0, _, _, _, _, f, c_L_advise_2 l D cI cL o z g a b r u v (nI s) x2 f (c_X4_advise_x2 l hlt D cI o g a b r u v S.ok s (by rw [e10]; exact hs) (nI s) rfl x2 d3), CI.toE w (c_X6_advise_2 l D cI h b2 d n q w s (by omega) (nI s) rfl c2 x2 d4), put_eq, n1_0 (by decide), S.th.th⟩
  subst ey
  exact ⟨0, _, _, _, _, _, vp_updL f 0 ((advS r u s y 16).2).toInt64, c_L_advise l D cI cL o z g a b r u v _ _ (nI s) (nI y) f _ (c_X4_advise l D cI o g a b r u v S.ok s (by rw [e10]; exact hs) (nI s) rfl y hy1 hy2 (nI y) rfl), (c_X6_advise l D cI h b2 d n q w S.okn S.okq S.jr s (by omega) (nI s) rfl c2 y hy1 hy2 (nI y) rfl), rfl, fun _ => oc ((S.th (c := 0)).advise), S.th (c := 0)⟩
