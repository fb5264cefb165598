/-! the class's steps and the reference's, one by one -/
theorem Rl.e {n q u : Rc} (h : Rl n q u) (g : Nat) (c : dyn g) : u g = q g := (h g).1 c
theorem Rl.f {n q u : Rc} (h : Rl n q u) (g : Nat) (c : sta g) : u g = n g := (h g).2 c
theorem dyn3 : dyn 3 := by unfold dyn; omega
theorem dyn4 : dyn 4 := by unfold dyn; omega
theorem dyn5 : dyn 5 := by unfold dyn; omega
theorem dyn12 : dyn 12 := by unfold dyn; omega
theorem dyn13 : dyn 13 := by unfold dyn; omega
theorem dyn14 : dyn 14 := by unfold dyn; omega
theorem dyn15 : dyn 15 := by unfold dyn; omega
theorem dyn16 : dyn 16 := by unfold dyn; omega
theorem dyn17 : dyn 17 := by unfold dyn; omega
theorem dyn30 : dyn 30 := by unfold dyn; omega
theorem sta0 : sta 0 := by unfold sta; omega
theorem sta1 : sta 1 := by unfold sta; omega
theorem sta2 : sta 2 := by unfold sta; omega
theorem sta10 : sta 10 := by unfold sta; omega
theorem sta11 : sta 11 := by unfold sta; omega
theorem fnd_cg {p q : Nat → Bool} : ∀ {n : Nat}, (∀ k, k < n → p k = q k) → fnd p n = fnd q n
  | 0, _ => rfl
  | n + 1, h => by rw [fnd, fnd, fnd_cg (fun k hk => h k (by omega)), h n (by omega)]
theorem first_eq {n q u : Rc} (h : Rl n q u) (ca : Ca u) (ok : Ok u) {s : Nat} : firstF u (u 12 s) = fforR n q s := by
  unfold firstF fforR
  by_cases c : u 6 1 = 0
  · rw [if_pos c]
    have k := ca.1 1 (by omega)
    rw [c] at k
    have z := cnt_0 ok.n60 k.symm
    rw [h.f 0 sta0] at z
    refine (fnd_no (fun j hj => decide_eq_false (fun e => ?_))).symm
    have := of_decide_eq_false (z j hj)
    rw [h.e 3 dyn3] at this
    exact this e.1
  · rw [if_neg c, h.f 0 sta0, h.e 3 dyn3, h.f 1 sta1, h.e 12 dyn12]
theorem need_eq {n q u : Rc} {s : Nat} (h11 : u 11 s = n 11 s) (h13 : u 13 s = q 13 s) (h14 : u 14 s = q 14 s) : needF u s = ndR n q s := by
  unfold needF ndR
  rw [h11, h13, h14]
  generalize n 11 s + q 13 s / 5 - 2 * q 14 s = x
  by_cases c : 1 < x
  · rw [if_pos c, if_pos (Int32.le_of_lt c)]
  · rw [if_neg c]
    by_cases d : 1 ≤ x
    · rw [if_pos d]
      exact Int32.le_antisymm (Int32.not_lt.mp c) d
    · rw [if_neg d]
theorem Ca.opt {p : Rc → Prop} [DecidablePred p] {f : Rc → Rc} {u : Rc} (h : Ca u) (hf : p u → Ca (f u)) : Ca (opt p f u) := by
  by_cases c : p u
  · rw [opt_t c]; exact hf c
  · rw [opt_f c]; exact h
/-- Rl and the caches together -/
def Sm (n q u : Rc) : Prop := Rl n q u ∧ Ca u ∧ Ok u
theorem v16 : vp_in 1 6 := vp_lit (by decide)
theorem v26 : vp_in 2 6 := vp_lit (by decide)
theorem v36 : vp_in 3 6 := vp_lit (by decide)
theorem v46 : vp_in 4 6 := vp_lit (by decide)
theorem v56 : vp_in 5 6 := vp_lit (by decide)
theorem Sm.mv {n q u : Rc} (h : Sm n q u) {j : Nat} (hj : j < iv (n 0 0)) {t : Int32} (ht : vp_in t 6) : Sm n (put (put q 4 j (-1)) 3 j t) (mvF u j t) := ⟨h.1.mv, h.2.1.mv h.2.2 (by rw [h.1.f 0 sta0]; exact hj) ht, (mv_pr ht).ok h.2.2⟩
theorem Sm.pt {n q u : Rc} (h : Sm n q u) {f i : Nat} {v : Int32} (hd : dyn f) (hf : f ≠ 0 ∧ f ≠ 1 ∧ f ≠ 3 ∧ f ≠ 6 ∧ f ≠ 7) (hv : good f v) : Sm n (put q f i v) (put u f i v) := ⟨h.1.ptt hd, h.2.1.p hf, h.2.2.ptt hv⟩
theorem Sm.cq {n q q' u : Rc} (h : Sm n q u) (e : q = q') : Sm n q' u := e ▸ h
theorem Sm.tk {n q u : Rc} (h : Sm n q u) (okn : Ok n) {s : Nat} (hs : s < 4) : Sm n (takR n s q) (tkF s u) := by
  have hn := okn.n60
  unfold tkF takR
  rw [first_eq h.1 h.2.1 h.2.2]
  by_cases c : fforR n q s = -1
  · rw [if_pos c, if_pos c]; exact h
  · rw [if_neg c, if_neg c]
    have hx := ffor_in (q := q) okn c
    have hj : iv (fforR n q s) < iv (n 0 0) := by
      unfold fforR at c ⊢
      rcases fnd_spec (fun k => decide (q 3 k = 1 ∧ hasT (q 12 s) (n 1 k))) (iv (n 0 0)) (by omega) with ⟨h1, -⟩ | ⟨i, h1, h2, -, -⟩
      · exact absurd h1 c
      · rw [h2, iv_nI (by omega)]; exact h1
    revert hj hx
    generalize fforR n q s = x
    intro hx hj
    unfold takeF mvH tkX
    have h1 := h.mv hj v26
    have h2 := h1.pt (f := 4) (i := iv x) (v := nI s) dyn4 (by decide) (Or.inr (vi_of hs (by decide)))
    have h3 := h2.pt (f := 15) (i := s) (v := x) dyn15 (by decide) (Or.inr hx)
    have e : needF (put (put (mvF u (iv x) 2) 4 (iv x) (nI s)) 15 s x) s = ndR n (put q 15 s x) s := by
      have m : ∀ g, g ≠ 4 → g ≠ 3 → g ≠ 15 → dyn g → (put (put (mvF u (iv x) 2) 4 (iv x) (nI s)) 15 s x) g = (put q 15 s x) g := fun g h4 h3' h15 hd => by
        rw [h3.1.e g hd, put_rw h15, put_rw h4, put_rw h3', put_rw h4, put_rw h15]
      refine need_eq ?_ ?_ ?_
      · rw [h3.1.f 11 sta11]
      · rw [m 13 (by decide) (by decide) (by decide) dyn13]
      · rw [m 14 (by decide) (by decide) (by decide) dyn14]
    rw [e]
    have h4 := h3.pt (f := 16) (i := s) (v := ndR n (put q 15 s x) s) dyn16 (by decide) trivial
    refine h4.cq ?_
    rw [put_comm (f := 3) (f' := 4) (Or.inl (by decide)), put_put, put_comm (f := 3) (f' := 15) (Or.inl (by decide)), put_comm (f := 4) (f' := 15) (Or.inl (by decide)), put_comm (f := 3) (f' := 16) (Or.inl (by decide)), put_comm (f := 4) (f' := 16) (Or.inl (by decide)), put_comm (f := 4) (f' := 3) (Or.inl (by decide))]
