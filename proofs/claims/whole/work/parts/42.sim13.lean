theorem nI_one (N : Nat) : nI N + 1 = nI (N + 1) := (nI_succ N).symm
theorem Sim.post {n q u r : Rc} (h : Sim n q u r) (hk : iv (n 0 0) < 60) {s t : Nat} (hs : s < 8) (ht : t < 16) : Sim (put (put (put n 2 (iv (n 0 0)) (nI s)) 1 (iv (n 0 0)) (nI t)) 0 0 (n 0 0 + 1)) (put (put q 4 (iv (n 0 0)) (-1)) 5 (iv (n 0 0)) (-1)) (addF u (nI s) (nI t)) r := by
  obtain ⟨⟨h1, h2, h3⟩, h4, h5, ⟨h6, h7, h8⟩, h9, h10⟩ := h
  have en := h4.n
  have u0 : u 0 = n 0 := h1.f 0 sta0
  have e3 : u 3 = q 3 := h1.e 3 dyn3
  unfold addF incS
  rw [u0]
  generalize hN : iv (n 0 0) = N at *
  have n0 : n 0 0 + 1 = nI (N + 1) := by rw [en, nI_one]
  have q3 : q 3 N = 0 := h10 N (Nat.le_refl _)
  generalize hw : put (put (put (put (put u 1 N (nI t)) 2 N (nI s)) 3 N 0) 4 N (-1)) 5 N (-1) = w
  have w3 : w 3 = u 3 := by rw [← hw, put_rw (by omega), put_rw (by omega), put_self, put_rw (by omega), put_rw (by omega), upd_same (by rw [e3]; exact q3)]
  have w4 : w 4 = upd (u 4) N (-1) := by rw [← hw, put_rw (by omega), put_self, put_rw (by omega), put_rw (by omega), put_rw (by omega)]
  have w5 : w 5 = upd (u 5) N (-1) := by rw [← hw, put_self, put_rw (by omega), put_rw (by omega), put_rw (by omega), put_rw (by omega)]
  have w1 : w 1 = upd (u 1) N (nI t) := by rw [← hw, put_rw (by omega), put_rw (by omega), put_rw (by omega), put_rw (by omega), put_self]
  have w2 : w 2 = upd (u 2) N (nI s) := by rw [← hw, put_rw (by omega), put_rw (by omega), put_rw (by omega), put_self, put_rw (by omega)]
  have wo : ∀ g, g ≠ 1 → g ≠ 2 → g ≠ 3 → g ≠ 4 → g ≠ 5 → w g = u g := fun g a b c d e => by rw [← hw, put_rw e, put_rw d, put_rw c, put_rw b, put_rw a]
  have w0 : w 0 = n 0 := by rw [wo 0 (by omega) (by omega) (by omega) (by omega) (by omega), u0]
  have okw : Ok w := by
    rw [← hw]
    exact ((((h3.ptt (f := 1) (vi_of ht (by decide))).ptt (f := 2) (vi_of hs (by decide))).ptt (f := 3) (vp_lit (by decide))).ptt (f := 4) (Or.inl rfl)).ptt (f := 5) trivial
  have x6 : ∀ v : Rc, (put (put v 6 0 (v 6 0 + 1)) 0 0 ((put v 6 0 (v 6 0 + 1)) 0 0 + 1)) = put (put v 6 0 (v 6 0 + 1)) 0 0 (v 0 0 + 1) := fun v => by rw [put_ne (f := 6) (g := 0) (by omega)]
  rw [x6, w0, n0]
  have ob : Ok (put n 2 N (nI s)) := h4.ptt (f := 2) (vi_of hs (by decide))
  refine ⟨⟨fun g => ⟨fun hg => ?_, fun hg => ?_⟩, ⟨fun p hp => ?_, fun p hp => ?_⟩, (okw.ptt (f := 6) trivial).ptt (f := 0) (vi_of (by omega) (by decide))⟩, (ob.ptt (f := 1) (vi_of ht (by decide))).ptt (f := 0) (vi_of (by omega) (by decide)), ⟨(h5.1.ptt (f := 4) (Or.inl rfl)).ptt (f := 5) trivial, ?_⟩, ⟨?_, ?_, ?_⟩, ?_, ?_⟩
  · rw [put_rw (f := 0) (fun z => by unfold dyn at hg; omega), put_rw (f := 6) (fun z => by unfold dyn at hg; omega)]
    by_cases c3 : g = 3
    · rw [c3, w3, e3, put_rw (by omega), put_rw (by omega)]
    · by_cases c4 : g = 4
      · rw [c4, w4, h1.e 4 dyn4, put_rw (by omega), put_self]
      · by_cases c5 : g = 5
        · rw [c5, w5, h1.e 5 dyn5, put_self, put_rw (by omega)]
        · rw [wo g (fun z => by unfold dyn at hg; omega) (fun z => by unfold dyn at hg; omega) c3 c4 c5, (h1 g).1 hg, put_rw c5, put_rw c4]
  · by_cases c0 : g = 0
    · rw [c0, put_self, put_self, put_rw (by omega), put_rw (by omega), put_rw (by omega), w0]
    · rw [put_rw (f := 0) c0, put_rw (f := 6) (fun z => by unfold sta at hg; omega), put_rw (f := 0) c0]
      by_cases c1 : g = 1
      · rw [c1, w1, h1.f 1 sta1, put_self, put_rw (by omega)]
      · by_cases c2 : g = 2
        · rw [c2, w2, h1.f 2 sta2, put_rw (by omega), put_self]
        · rw [wo g c1 c2 (fun z => by unfold sta at hg; omega) (fun z => by unfold sta at hg; omega) (fun z => by unfold sta at hg; omega), (h1 g).2 hg, put_rw c1, put_rw c2]
  · rw [put_rw (f := 0) (g := 3) (by omega), put_rw (f := 6) (g := 3) (by omega), w3, put_ne (f := 0) (g := 6) (by omega), put_at (f := 0), if_pos ⟨rfl, rfl⟩, iv_nI (by omega), cntN, put_at (f := 6)]
    have c := h2.1 p hp
    rw [u0, hN] at c
    rw [← c, wo 6 (by omega) (by omega) (by omega) (by omega) (by omega), e3, q3]
    by_cases d : p = 0
    · rw [if_pos ⟨rfl, d⟩, d, if_pos (decide_eq_true (show (0 : Int32) = nI 0 from rfl))]
    · rw [if_neg (fun z => d z.2), if_neg (fun z => d ((nI_inj (a := 0) (b := p) (of_decide_eq_true (p := (0 : Int32) = nI p) z) (by omega) (by omega)).symm)), Int32.add_zero]
  · rw [put_rw (f := 0) (g := 3) (by omega), put_rw (f := 6) (g := 3) (by omega), w3, put_rw (f := 0) (g := 1) (by omega), put_rw (f := 6) (g := 1) (by omega), w1, put_ne (f := 0) (g := 7) (by omega), put_at (f := 0), if_pos ⟨rfl, rfl⟩, iv_nI (by omega), cntN, put_ne (f := 6) (g := 7) (by omega)]
    have c := h2.2 p hp
    rw [u0, hN] at c
    rw [wo 7 (by omega) (by omega) (by omega) (by omega) (by omega), c, if_neg (fun z => by
      have z1 := (of_decide_eq_true z).1
      rw [e3, q3] at z1
      exact absurd z1 (by decide)), Int32.add_zero]
    exact cnt_cg (fun k hk' => by rw [pk_un (by omega)])
  · obtain ⟨j1, j2, j3⟩ := h5.2
    have k0 : iv ((put (put (put n 2 N (nI s)) 1 N (nI t)) 0 0 (nI (N + 1))) 0 0) = N + 1 := by rw [put_at, if_pos ⟨rfl, rfl⟩, iv_nI (by omega)]
    have k10 : (put (put (put n 2 N (nI s)) 1 N (nI t)) 0 0 (nI (N + 1))) 10 = n 10 := by rw [put_rw (by omega), put_rw (by omega), put_rw (by omega)]
    rw [k0, k10]
    have r3 : (put (put q 4 N (-1)) 5 N (-1)) 3 = q 3 := by rw [put_rw (by omega), put_rw (by omega)]
    have r15 : (put (put q 4 N (-1)) 5 N (-1)) 15 = q 15 := by rw [put_rw (by omega), put_rw (by omega)]
    have r4 : (put (put q 4 N (-1)) 5 N (-1)) 4 = upd (q 4) N (-1) := by rw [put_rw (by omega), put_self]
    have ne : ∀ k, q 3 k = 2 → k ≠ N := fun k z y => by rw [y, q3] at z; exact absurd z (by decide)
    unfold JR
    rw [r3, r15, r4]
    refine ⟨fun k hk' z => ?_, fun s' hs' z => ?_, fun k hk' z => ?_⟩
    · rw [pk_un (ne k z)]; exact j1 k hk' z
    · obtain ⟨b1, b2, b3⟩ := j2 s' hs' z
      rw [pk_un (ne _ b2)]
      exact ⟨by omega, b2, b3⟩
    · by_cases c : k = N
      · rw [c, pk_us]
      · rw [pk_un c]; exact j3 k (by omega) z
  · rw [put_rw (by omega), put_rw (by omega), put_rw (by omega)]; exact h6
  · rw [put_rw (by omega), put_rw (by omega), put_rw (by omega)]; exact h7
  · rw [put_rw (by omega), put_rw (by omega), put_rw (by omega)]; exact h8
  · unfold Rs; rw [put_rw (by omega), put_rw (by omega), put_rw (by omega)]; exact h9
  · intro k hk'
    rw [put_at (f := 0), if_pos ⟨rfl, rfl⟩, iv_nI (by omega)] at hk'
    rw [put_rw (by omega), put_rw (by omega)]
    exact h10 k (by omega)
theorem Sim.hire {n q u r : Rc} (h : Sim n q u r) (hk : iv (n 10 0) < 4) {x y : Int32} : Sim (put (put n 11 (iv (n 10 0)) x) 10 0 (n 10 0 + 1)) (put (put q 12 (iv (n 10 0)) y) 15 (iv (n 10 0)) (-1)) (crAddF u x y) r := by
  obtain ⟨⟨h1, h2, h3⟩, h4, h5, ⟨h6, h7, h8⟩, h9, h10⟩ := h
  have en := h4.k
  have u10 : u 10 = n 10 := h1.f 10 sta10
  unfold crAddF incS
  rw [u10]
  generalize hN : iv (n 10 0) = N at *
  have n0 : n 10 0 + 1 = nI (N + 1) := by rw [en, nI_one]
  have x10 : (put (put (put u 11 N x) 12 N y) 15 N (-1)) 10 0 = n 10 0 := by rw [put_ne (by omega), put_ne (by omega), put_ne (by omega), u10]
  rw [x10, n0]
  refine ⟨⟨fun g => ⟨fun hg => ?_, fun hg => ?_⟩, ?_, ?_⟩, (h4.ptt (f := 11) trivial).ptt (f := 10) (vi_of (by omega) (by decide)), ⟨(h5.1.ptt (f := 12) trivial).ptt (f := 15) (Or.inl rfl), ?_⟩, ⟨?_, ?_, ?_⟩, ?_, ?_⟩
  · rw [put_rw (f := 10) (fun z => by unfold dyn at hg; omega)]
    by_cases c5 : g = 15
    · rw [c5, put_self, put_rw (by omega), put_rw (by omega), h1.e 15 dyn15, put_self, put_rw (by omega)]
    · by_cases c2 : g = 12
      · rw [c2, put_rw (by omega), put_self, put_rw (by omega), h1.e 12 dyn12, put_rw (by omega), put_self]
      · rw [put_rw c5, put_rw c2, put_rw (fun z => by unfold dyn at hg; omega), (h1 g).1 hg, put_rw c5, put_rw c2]
  · by_cases c0 : g = 10
    · rw [c0, put_self, put_self, put_rw (by omega), put_rw (by omega), put_rw (by omega), put_rw (by omega), u10]
    · rw [put_rw (f := 10) c0, put_rw (f := 10) c0, put_rw (fun z => by unfold sta at hg; omega), put_rw (fun z => by unfold sta at hg; omega)]
      by_cases c1 : g = 11
      · rw [c1, put_self, put_self, h1.f 11 sta11]
      · rw [put_rw c1, put_rw c1, (h1 g).2 hg]
  · exact (((h2.p (by decide)).p (by decide)).p (by decide)).p (by decide)
  · exact (((h3.ptt (f := 11) trivial).ptt (f := 12) trivial).ptt (f := 15) (Or.inl rfl)).ptt (f := 10) (vi_of (by omega) (by decide))
  · obtain ⟨j1, j2, j3⟩ := h5.2
    have k0 : iv ((put (put n 11 N x) 10 0 (nI (N + 1))) 10 0) = N + 1 := by rw [put_at, if_pos ⟨rfl, rfl⟩, iv_nI (by omega)]
    have k10 : (put (put n 11 N x) 10 0 (nI (N + 1))) 0 = n 0 := by rw [put_rw (by omega), put_rw (by omega)]
    rw [k0, k10]
    have r3 : (put (put q 12 N y) 15 N (-1)) 3 = q 3 := by rw [put_rw (by omega), put_rw (by omega)]
    have r4 : (put (put q 12 N y) 15 N (-1)) 4 = q 4 := by rw [put_rw (by omega), put_rw (by omega)]
    have r15 : (put (put q 12 N y) 15 N (-1)) 15 = upd (q 15) N (-1) := by rw [put_self, put_rw (by omega)]
    unfold JR
    rw [r3, r15, r4]
    refine ⟨fun k hk' z => ?_, fun s' hs' z => ?_, j3⟩
    · obtain ⟨⟨b1, b2⟩, b3⟩ := j1 k hk' z
      refine ⟨⟨b1, by omega⟩, ?_⟩
      rw [pk_un (by omega)]
      exact b3
    · by_cases c : s' = N
      · rw [c, pk_us] at z; exact absurd rfl z
      · rw [pk_un c] at z
        rw [pk_un c]
        exact j2 s' (by omega) z
  · rw [put_rw (by omega), put_rw (by omega)]; exact h6
  · rw [put_rw (by omega), put_rw (by omega)]; exact h7
  · rw [put_rw (by omega), put_rw (by omega)]; exact h8
  · unfold Rs; rw [put_rw (by omega), put_rw (by omega)]; exact h9
  · intro k hk'
    rw [put_ne (by omega), put_ne (by omega)] at hk'
    rw [put_rw (by omega), put_rw (by omega)]
    exact h10 k hk'
