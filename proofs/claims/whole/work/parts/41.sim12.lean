/-! what holds between two calls of the law, and the orders that keep it -/
def Rs (n : Rc) : Prop := ∀ a b, a < b → b < 8 → n 20 a < n 20 b
theorem Rs.inj {n : Rc} (h : Rs n) : Inj n := fun a b ha hb e => by
  rcases Nat.lt_trichotomy a b with c | c | c
  · exact absurd (h a b c hb) (by rw [e]; exact fun z => Int32.lt_irrefl z)
  · exact c
  · exact absurd (h b a c ha) (by rw [e]; exact fun z => Int32.lt_irrefl z)
def Lm (n r : Rc) : Prop := r 20 = n 20 ∧ r 21 = n 21 ∧ (∀ a, vp_in (n 21 a) 4)
def Sim (n q u r : Rc) : Prop := Sm n q u ∧ Ok n ∧ (Ok q ∧ JR (iv (n 0 0)) (iv (n 10 0)) q) ∧ Lm n r ∧ Rs n ∧ (∀ k, iv (n 0 0) ≤ k → q 3 k = 0)
theorem Sim.ln {n q u r : Rc} (h : Sim n q u r) : Ln n r := ⟨h.2.2.2.1.1, h.2.2.2.1.2.1, h.2.2.2.1.2.2, h.2.2.2.2.1.inj⟩
theorem Sim.th {n q u r : Rc} (h : Sim n q u r) {c : Int32} : Sim (put n 31 0 c) q u r := by
  obtain ⟨⟨h1, h2, h3⟩, h4, h5, ⟨h6, h7, h8⟩, h9, h10⟩ := h
  have e : ∀ g, g ≠ 31 → (put n 31 0 c) g = n g := fun g hg => put_rw hg
  refine ⟨⟨fun g => ⟨(h1 g).1, fun hg => ?_⟩, h2, h3⟩, h4.ptt (f := 31) trivial, ?_, ⟨?_, ?_, ?_⟩, ?_, ?_⟩
  · rw [e g (fun z => by unfold sta at hg; omega)]
    exact (h1 g).2 hg
  · rw [e 0 (by omega), e 10 (by omega)]; exact h5
  · rw [e 20 (by omega)]; exact h6
  · rw [e 21 (by omega)]; exact h7
  · rw [e 21 (by omega)]; exact h8
  · unfold Rs; rw [e 20 (by omega)]; exact h9
  · rw [e 0 (by omega)]; exact h10
theorem Sim.pass {n q u r : Rc} (h : Sim n q u r) (k : Nat) : Sim n (psN n k q) (runF r k u) r := by
  have l := h.ln
  obtain ⟨h1, h4, h5, h6, h9, h10⟩ := h
  exact ⟨h1.run h4 l h5 k, h4, psN_j h4 h5 k, h6, h9, fun j hj => by rw [Zk.psn h4 h5 k j hj]; exact h10 j hj⟩
theorem Sim.as {n q u r : Rc} (h : Sim n q u r) {s : Nat} {y : Int32} : Sim n (put q 12 s y) (put u 12 s y) r := by
  obtain ⟨h1, h4, h5, h6, h9, h10⟩ := h
  exact ⟨h1.pt dyn12 (by decide) trivial, h4, ⟨Ok.ptt (f := 12) h5.1 trivial, h5.2.p (by decide) (by decide) (by decide)⟩, h6, h9, fun j hj => by rw [put_ne (by omega)]; exact h10 j hj⟩
theorem Sim.te {n q u r : Rc} (h : Sim n q u r) {s : Nat} : Sim n (put (put q 13 s 0) 14 s 1) (put (put u 13 s 0) 14 s 1) r := by
  obtain ⟨h1, h4, h5, h6, h9, h10⟩ := h
  exact ⟨(h1.pt (f := 13) dyn13 (by decide) trivial).pt (f := 14) dyn14 (by decide) trivial, h4, ⟨Ok.ptt (f := 14) (Ok.ptt (f := 13) h5.1 trivial) trivial, (h5.2.p (by decide) (by decide) (by decide)).p (by decide) (by decide) (by decide)⟩, h6, h9, fun j hj => by rw [put_ne (by omega), put_ne (by omega)]; exact h10 j hj⟩
theorem Sim.st {n q u r : Rc} (h : Sim n q u r) {s : Nat} (hs : s < 8) {y z : Int32} (hz : vp_in z 4) (hy : riseF n s y) : Sim (put (put n 20 s y) 21 s z) q u (put (put r 20 s y) 21 s z) := by
  obtain ⟨⟨h1, h2, h3⟩, h4, h5, ⟨h6, h7, h8⟩, h9, h10⟩ := h
  have e : ∀ g, g ≠ 20 → g ≠ 21 → (put (put n 20 s y) 21 s z) g = n g := fun g hg hg' => by rw [put_rw hg', put_rw hg]
  have e20 : ∀ w : Rc, (put (put w 20 s y) 21 s z) 20 = upd (w 20) s y := fun w => by rw [put_rw (by omega), put_self]
  have e21 : ∀ w : Rc, (put (put w 20 s y) 21 s z) 21 = upd (w 21) s z := fun w => by rw [put_self, put_rw (by omega)]
  refine ⟨⟨fun g => ⟨(h1 g).1, fun hg => ?_⟩, h2, h3⟩, (h4.ptt (f := 20) trivial).ptt (f := 21) trivial, ?_, ⟨?_, ?_, ?_⟩, ?_, ?_⟩
  · rw [e g (fun z => by unfold sta at hg; omega) (fun z => by unfold sta at hg; omega)]
    exact (h1 g).2 hg
  · rw [e 0 (by omega) (by omega), e 10 (by omega) (by omega)]; exact h5
  · rw [e20, e20, h6]
  · rw [e21, e21, h7]
  · intro a
    rw [e21]
    by_cases c : a = s
    · rw [c, pk_us]; exact hz
    · rw [pk_un c]; exact h8 a
  · intro a b hab hb
    rw [e20]
    by_cases c : a = s
    · rw [c, pk_us, pk_un (by omega)]
      have k := Int32.not_le.mp (hy.2.resolve_left (by omega))
      rcases Nat.lt_or_ge (s + 1) b with d | d
      · exact Int32.lt_trans k (h9 (s + 1) b d hb)
      · rw [show b = s + 1 by omega]; exact k
    · rw [pk_un c]
      by_cases d : b = s
      · rw [d, pk_us]
        have k := Int32.not_le.mp (hy.1.resolve_left (by omega))
        rcases Nat.lt_or_ge a (s - 1) with f | f
        · exact Int32.lt_trans (h9 a (s - 1) f (by omega)) k
        · rw [show a = s - 1 by omega]; exact k
      · rw [pk_un d]; exact h9 a b hab hb
  · rw [e 0 (by omega) (by omega)]; exact h10
