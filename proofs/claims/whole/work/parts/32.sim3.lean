theorem Sm.pv {n q u : Rc} (h : Sm n q u) {f i : Nat} (g : Int32 → Int32) (hd : dyn f) (hf : f ≠ 0 ∧ f ≠ 1 ∧ f ≠ 3 ∧ f ≠ 6 ∧ f ≠ 7) (hv : ∀ x, good f x) : Sm n (put q f i (g (q f i))) (put u f i (g (u f i))) := by
  rw [h.1.e f hd]
  exact h.pt hd hf (hv _)
theorem don_q {q : Rc} {x s : Nat} {t : Int32} : put (put (put (put (put q 4 x (-1)) 3 x t) 13 s (q 13 s + 1)) 15 s (-1)) 16 s 0 = tirB s (put (put (put (put q 3 x t) 4 x (-1)) 15 s (-1)) 16 s 0) := by
  have e : (put (put (put (put q 3 x t) 4 x (-1)) 15 s (-1)) 16 s 0) 13 s = q 13 s := by
    rw [put_ne (by omega), put_ne (by omega), put_ne (by omega), put_ne (by omega)]
  unfold tirB
  rw [e, put_comm (f := 4) (f' := 3) (Or.inl (by decide)), put_comm (f := 13) (f' := 15) (Or.inl (by decide)), put_comm (f := 13) (f' := 16) (Or.inl (by decide))]
theorem don_q3 {q : Rc} {x s : Nat} {t : Int32} : put (put (put (put (put (put q 4 x (-1)) 3 x t) 17 s (q 17 s + 1)) 13 s (q 13 s + 1)) 15 s (-1)) 16 s 0 = tirB s (addB s 1 (put (put (put (put q 3 x t) 4 x (-1)) 15 s (-1)) 16 s 0)) := by
  have e : (put (put (put (put q 3 x t) 4 x (-1)) 15 s (-1)) 16 s 0) 17 s = q 17 s := by
    rw [put_ne (by omega), put_ne (by omega), put_ne (by omega), put_ne (by omega)]
  have e2 : (put (put (put (put (put q 3 x t) 4 x (-1)) 15 s (-1)) 16 s 0) 17 s (q 17 s + 1)) 13 s = q 13 s := by
    rw [put_ne (by omega), put_ne (by omega), put_ne (by omega), put_ne (by omega), put_ne (by omega)]
  unfold tirB addB
  rw [e, e2, put_comm (f := 4) (f' := 3) (Or.inl (by decide)), put_comm (f := 13) (f' := 15) (Or.inl (by decide)), put_comm (f := 13) (f' := 16) (Or.inl (by decide)), put_comm (f := 17) (f' := 15) (Or.inl (by decide)), put_comm (f := 17) (f' := 16) (Or.inl (by decide))]
theorem Sm.pr {n q u : Rc} (h : Sm n q u) {f i : Nat} {v w : Int32} (e : v = w) (hd : dyn f) (hf : f ≠ 0 ∧ f ≠ 1 ∧ f ≠ 3 ∧ f ≠ 6 ∧ f ≠ 7) (hv : good f v) : Sm n (put q f i v) (put u f i w) := by
  rw [← e]
  exact h.pt hd hf hv
theorem hole_eq {n q u : Rc} (h : Sm n q u) {j : Nat} : u 7 (iv (n 1 j)) = holeR n q (n 1 j) := by
  have e1 : u 1 j = nI (iv (u 1 j)) := vi_eq (n := 16) (h.2.2 1 j) (by decide)
  have l1 : iv (u 1 j) < 16 := vi_lt (n := 16) (h.2.2 1 j)
  rw [h.1.f 1 sta1] at e1 l1
  rw [h.2.1.2 _ l1, ← e1]
  unfold holeR
  rw [h.1.f 0 sta0, h.1.e 3 dyn3, h.1.f 1 sta1]
theorem Sm.don {n q u : Rc} (h : Sm n q u) (hJ : JR (iv (n 0 0)) (iv (n 10 0)) q) {s : Nat} (hs : s < iv (n 10 0)) (hh : ¬ q 15 s = -1) : Sm n (donR n s q) (putF s u) := by
  obtain ⟨a1, a2, a3⟩ := hJ.2.1 s hs hh
  have e15 : u 15 s = q 15 s := by rw [h.1.e 15 dyn15]
  unfold donR putF freeF putA
  rw [e15, h.1.f 1 sta1, hole_eq h]
  by_cases c : 8 ≤ holeR n q (n 1 (iv (q 15 s)))
  · rw [if_pos c, if_pos c]
    have h1 := h.mv a1 v16
    have h2 : Sm n (put (put (put q 4 (iv (q 15 s)) (-1)) 3 (iv (q 15 s)) 1) 13 s (q 13 s + 1)) (tirB s (mvF u (iv (q 15 s)) 1)) :=
      h1.pr (by rw [h1.1.e 13 dyn13, put_ne (by omega), put_ne (by omega)]) dyn13 (by decide) trivial
    have h3 := (h2.pt (f := 15) (i := s) (v := -1) dyn15 (by decide) (Or.inl rfl)).pt (f := 16) (i := s) (v := 0) dyn16 (by decide) trivial
    refine h3.cq ?_
    rw [don_q]
    unfold addB letR
    rw [Int32.add_zero, put_same (u := put (put (put (put q 3 (iv (q 15 s)) 1) 4 (iv (q 15 s)) (-1)) 15 s (-1)) 16 s 0) (f := 17) (i := s) rfl]
  · rw [if_neg c, if_neg c]
    have h1 := h.mv a1 v36
    have h2 : Sm n (put (put (put q 4 (iv (q 15 s)) (-1)) 3 (iv (q 15 s)) 3) 17 s (q 17 s + 1)) (addB s 1 (mvF u (iv (q 15 s)) 3)) :=
      h1.pr (by rw [h1.1.e 17 dyn17, put_ne (by omega), put_ne (by omega)]) dyn17 (by decide) trivial
    have h2' : Sm n (put (put (put (put q 4 (iv (q 15 s)) (-1)) 3 (iv (q 15 s)) 3) 17 s (q 17 s + 1)) 13 s (q 13 s + 1)) (tirB s (addB s 1 (mvF u (iv (q 15 s)) 3))) :=
      h2.pr (by rw [h2.1.e 13 dyn13, put_ne (by omega), put_ne (by omega), put_ne (by omega)]) dyn13 (by decide) trivial
    have h3 := (h2'.pt (f := 15) (i := s) (v := -1) dyn15 (by decide) (Or.inl rfl)).pt (f := 16) (i := s) (v := 0) dyn16 (by decide) trivial
    refine h3.cq ?_
    rw [don_q3]
    rfl
theorem Sm.opt2 {n q u : Rc} {p p' : Rc → Prop} [DecidablePred p] [DecidablePred p'] {f g : Rc → Rc} (h : Sm n q u) (hp : p q ↔ p' u) (hf : p q → Sm n (f q) (g u)) : Sm n (opt p f q) (opt p' g u) := by
  by_cases c : p q
  · rw [opt_t c, opt_t (hp.mp c)]; exact hf c
  · rw [opt_f c, opt_f (fun z => c (hp.mpr z))]; exact h
theorem Sm.wk {n q u : Rc} (h : Sm n q u) (hJ : JR (iv (n 0 0)) (iv (n 10 0)) q) {s : Nat} (hs : s < iv (n 10 0)) (hh : ¬ q 15 s = -1) : Sm n (wk2R n s q) (wkF s u) := by
  unfold wk2R wkF
  have h1 : Sm n (decB s q) (decB s u) := h.pr (by rw [h.1.e 16 dyn16]) dyn16 (by decide) trivial
  have j1 : JR (iv (n 0 0)) (iv (n 10 0)) (decB s q) := hJ.p (by decide) (by decide) (by decide)
  refine h1.opt2 (by rw [h1.1.e 16 dyn16]) (fun _ => h1.don j1 hs ?_)
  unfold decB
  rw [put_ne (by omega)]
  exact hh
theorem Sm.sor {n q u : Rc} (h : Sm n q u) (okn : Ok n) (hJ : JR (iv (n 0 0)) (iv (n 10 0)) q) {s : Nat} (hs : s < iv (n 10 0)) : Sm n (wrkR n s q) (sorB s u) := by
  unfold wrkR sorB
  have h1 : Sm n (opt (fun w => w 15 s = -1) (takR n s) q) (opt (fun w => w 15 s = -1) (tkF s) u) := h.opt2 (by rw [h.1.e 15 dyn15]) (fun _ => h.tk okn (by have := okn.k4; omega))
  have j1 : JR (iv (n 0 0)) (iv (n 10 0)) (opt (fun w => w 15 s = -1) (takR n s) q) := by
    by_cases c : q 15 s = -1
    · rw [opt_t (p := fun w => w 15 s = -1) c]; exact hJ.tak okn hs c
    · rw [opt_f (p := fun w => w 15 s = -1) c]; exact hJ
  exact h1.opt2 (by rw [h1.1.e 15 dyn15]) (fun c => h1.wk j1 hs c)
theorem Sm.it {n : Rc} {N K M : Nat} {F G : Nat → Rc → Rc} (hF : ∀ j q u, j < M → Sm n q u → Ok q ∧ JR N K q → Sm n (F j q) (G j u)) (hJ : ∀ j w, j < M → Ok w ∧ JR N K w → Ok (F j w) ∧ JR N K (F j w)) {q u : Rc} (h : Sm n q u) (hq : Ok q ∧ JR N K q) : ∀ k, k ≤ M → Sm n (itN F k q) (itN G k u)
  | 0, _ => h
  | k + 1, hk => hF k _ _ (by omega) (Sm.it hF hJ h hq k (by omega)) (it_j hJ hq k (by omega))
theorem Sm.md {n q u : Rc} (h : Sm n q u) (okn : Ok n) (hq : Ok q ∧ JR (iv (n 0 0)) (iv (n 10 0)) q) : Sm n (mdR n q) (itN sorB (iv (u 10 0)) u) := by
  have h4 := okn.k4
  unfold mdR
  rw [h.1.f 10 sta10]
  exact Sm.it (M := iv (n 10 0)) (N := iv (n 0 0)) (K := iv (n 10 0)) (fun j q u hj hs hw => Sm.sor (s := j) hs okn hw.2 (by omega)) (fun j w hj hw => ⟨(wrkR_pr okn (by omega)).ok hw.1, hw.2.wrk okn (by omega)⟩) h hq _ (Nat.le_refl _)
