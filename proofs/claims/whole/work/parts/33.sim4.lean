/-! serving a station: the reference's two loops as one -/
theorem end_n {q : Rc} {j : Nat} {t : Int32} (h : ¬ q 3 j = 2) : endR j t q = put (put q 3 j t) 5 j (q 30 0) := by
  unfold endR stampB
  rw [opt_f (p := fun w => w 3 j = 2) h, put_ne (by omega)]
theorem end_h {q : Rc} {j : Nat} {t : Int32} (h : q 3 j = 2) (hx : iv (q 15 (iv (q 4 j))) = j) : endR j t q = put (put (put (put (put q 4 j (-1)) 15 (iv (q 4 j)) (-1)) 16 (iv (q 4 j)) 0) 3 j t) 5 j (q 30 0) := by
  unfold endR stampB
  rw [opt_t (p := fun w => w 3 j = 2) h]
  unfold letR
  rw [hx, put_comm (f := 3) (f' := 4) (Or.inl (by decide)), put_comm (f := 3) (f' := 15) (Or.inl (by decide)), put_comm (f := 3) (f' := 16) (Or.inl (by decide)), put_put]
  rw [put_ne (by omega), put_ne (by omega), put_ne (by omega), put_ne (by omega)]
theorem Sm.en {n q u : Rc} (h : Sm n q u) (hq : JR (iv (n 0 0)) (iv (n 10 0)) q) {j : Nat} (hj : j < iv (n 0 0)) {t : Int32} (ht : vp_in t 6) (c : ¬ q 3 j = 2) : Sm n (endR j t q) (endM t j u) := by
  rw [end_n c]
  unfold endM endF
  have h4 : q 4 j = -1 := hq.2.2 j hj c
  have h1 := h.mv hj ht
  rw [put_same h4] at h1
  exact h1.pr (by rw [h.1.e 30 dyn30]) dyn5 (by decide) trivial
theorem Sm.eh {n q u : Rc} (h : Sm n q u) (okq : Ok q) (okn : Ok n) (hq : JR (iv (n 0 0)) (iv (n 10 0)) q) {j : Nat} (hj : j < iv (n 0 0)) {t : Int32} (ht : vp_in t 6) (c : q 3 j = 2) : Sm n (endR j t q) (endM t j (freeF u (iv (q 4 j)))) := by
  have hn := okn.n60
  obtain ⟨b1, b2, b3⟩ := let_eq hq (by omega) c
  have hx : iv (q 15 (iv (q 4 j))) = j := by rw [b2, iv_nI (by omega)]
  rw [end_h c hx]
  unfold endM endF freeF
  have h1 := (((h.pt (f := 15) (i := iv (q 4 j)) (v := -1) dyn15 (by decide) (Or.inl rfl)).pt (f := 16) (i := iv (q 4 j)) (v := 0) dyn16 (by decide) trivial).mv hj ht)
  have h2 := h1.pr (f := 5) (i := j) (v := q 30 0) (w := (put (put u 15 (iv (q 4 j)) (-1)) 16 (iv (q 4 j)) 0) 30 0) (by rw [put_ne (by omega), put_ne (by omega), h.1.e 30 dyn30]) dyn5 (by decide) trivial
  refine h2.cq ?_
  rw [put_comm (f := 16) (f' := 4) (Or.inl (by decide)), put_comm (f := 15) (f' := 4) (Or.inl (by decide))]
theorem Sm.srv {n q u : Rc} (h : Sm n q u) (okn : Ok n) (hq : Ok q ∧ JR (iv (n 0 0)) (iv (n 10 0)) q) {st : Int32} {j : Nat} (hj : j < iv (n 0 0)) : Sm n (ps2R n st j (ps1R n st j q)) (srvB st j u) := by
  have e3 := h.1.e 3 dyn3
  have e2 := h.1.f 2 sta2
  have e1 := h.1.f 1 sta1
  have e4 := h.1.e 4 dyn4
  have n02 : ¬ (0 : Int32) = 2 := by decide
  have x3 : ∀ t : Int32, (endR j t q) 3 j = t := fun t => by
    unfold endR stampB
    rw [put_ne (by omega), put_at, if_pos ⟨rfl, rfl⟩]
  unfold srvB inBag
  rw [e3, e2, e1]
  by_cases c0 : q 3 j = 0 ∧ n 2 j = st
  · rw [if_pos c0]
    have p1 : ps1R n st j q = q := by
      unfold ps1R
      rw [if_neg (fun z => absurd (c0.1.symm.trans z.2) (by decide)), if_neg (fun z => z.2.elim (fun y => absurd (c0.1.symm.trans y) (by decide)) (fun y => absurd (c0.1.symm.trans y) (by decide)))]
    rw [p1]
    unfold ps2R hinF
    rw [if_pos c0, e1]
    have c2 : ¬ q 3 j = 2 := by rw [c0.1]; exact n02
    by_cases d : n 1 j / 2 ≤ st
    · rw [if_pos d, if_pos d]
      exact h.en hq.2 hj v56 c2
    · rw [if_neg d, if_neg d]
      have h1 := h.mv hj v16
      rw [put_same (hq.2.2.2 j hj c2)] at h1
      exact h1
  · rw [if_neg c0]
    have p2 : ∀ w : Rc, (¬ w 3 j = 0 ∨ w = q) → ps2R n st j w = w := fun w hw => by
      unfold ps2R
      refine if_neg (fun z => ?_)
      rcases hw with hw | hw
      · exact hw z.1
      · rw [hw] at z; exact c0 z
    by_cases c1 : n 1 j / 2 = st
    · rw [if_pos c1]
      unfold houtF ps1R
      rw [e3, e4]
      by_cases d3 : q 3 j = 3
      · rw [if_pos d3, if_pos (And.intro c1 d3), p2 _ (Or.inl (by rw [x3]; decide))]
        exact h.en hq.2 hj v46 (by rw [d3]; decide)
      · rw [if_neg d3, if_neg (fun z => d3 z.2)]
        by_cases d1 : q 3 j = 1 ∨ q 3 j = 2
        · rw [if_pos d1, if_pos (And.intro c1 d1), p2 _ (Or.inl (by rw [x3]; decide))]
          by_cases d2 : q 3 j = 2
          · have b1 := (hq.2.1 j (by have := okn.n60; omega) d2).1.1
            rw [opt_t (p := fun _ => ¬ q 4 j = -1) b1]
            exact h.eh hq.1 okn hq.2 hj v56 d2
          · rw [opt_f (p := fun _ => ¬ q 4 j = -1) (fun z => z (hq.2.2.2 j hj d2))]
            exact h.en hq.2 hj v56 d2
        · rw [if_neg d1, if_neg (fun z => d1 z.2), p2 _ (Or.inr rfl)]
          exact h
    · rw [if_neg c1]
      have p1 : ps1R n st j q = q := by
        unfold ps1R
        rw [if_neg (fun z => c1 z.1), if_neg (fun z => c1 z.1)]
      rw [p1, p2 _ (Or.inr rfl)]
      exact h
