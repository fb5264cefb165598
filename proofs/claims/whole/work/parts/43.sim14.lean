/-! the answers are equal -/
theorem nxt_eq {n r : Rc} {m : Int32} (h : r 20 = n 20) : nxtF r m = nxtF n m := by
  unfold nxtF
  rw [h]
theorem Sim.count {n q u r : Rc} (h : Sim n q u r) {w : Nat} (hw : w < 10) : cntF r u w = cntR n q (nI w) := by
  obtain ⟨h1, h4, h5, ⟨h6, h7, h8⟩, h9, h10⟩ := h
  have hc : w = 0 ∨ w = 1 ∨ w = 2 ∨ w = 3 ∨ w = 4 ∨ w = 5 ∨ w = 6 ∨ w = 7 ∨ w = 8 ∨ w = 9 := by omega
  have e30 : u 30 0 = q 30 0 := by rw [h1.1.e 30 dyn30]
  have e0 : u 0 0 = n 0 0 := by rw [h1.1.f 0 sta0]
  have e10 : u 10 0 = n 10 0 := by rw [h1.1.f 10 sta10]
  rcases hc with rfl | rfl | rfl | rfl | rfl | rfl | rfl | rfl | rfl | rfl
  · exact e30
  · exact e0
  · exact e10
  · exact are_4 h1 (p := 0) (by omega)
  · exact are_4 h1 (p := 1) (by omega)
  · exact are_4 h1 (p := 2) (by omega)
  · exact are_4 h1 (p := 3) (by omega)
  · exact are_4 h1 (p := 4) (by omega)
  · exact are_4 h1 (p := 5) (by omega)
  · have e : cntR n q (nI 9) = nxtF n (q 30 0) := by
      unfold cntR
      rw [if_neg (by decide), if_neg (by decide), if_neg (by decide), if_neg (by decide)]
    rw [e, ← nxt_eq h6, ← e30]
    rfl
theorem Sim.station {n q u r : Rc} (h : Sim n q u r) {s w : Nat} (hw : w < 3) : stF r u s w = stR n q s (nI w) := by
  obtain ⟨h1, h4, h5, ⟨h6, h7, h8⟩, h9, h10⟩ := h
  have hc : w = 0 ∨ w = 1 ∨ w = 2 := by omega
  rcases hc with rfl | rfl | rfl
  · show r 20 s = n 20 s
    rw [h6]
  · show r 21 s = n 21 s
    rw [h7]
  · show lbagF u (nI s) = cntN (fun k => decide (q 3 k = 0 ∧ n 2 k = nI s)) (iv (n 0 0))
    unfold lbagF inBag
    rw [h1.1.e 3 dyn3, h1.1.f 2 sta2, h1.1.f 0 sta0]
theorem Sim.hole {n q u r : Rc} (h : Sim n q u r) {t : Nat} (ht : t < 16) : u 7 t = holeR n q (nI t) := by
  obtain ⟨h1, -⟩ := h
  rw [h1.2.1.2 t ht]
  unfold holeR
  rw [h1.1.f 0 sta0, h1.1.e 3 dyn3, h1.1.f 1 sta1]
theorem Sim.letter {n q u r : Rc} (h : Sim n q u r) {j w : Nat} : mfact u j w = mfR n q j w := by
  obtain ⟨h1, -⟩ := h
  unfold mfact mfR
  rw [h1.1.e 3 dyn3, h1.1.f 1 sta1, h1.1.f 2 sta2, h1.1.e 4 dyn4, h1.1.e 5 dyn5]
  rfl
theorem Sim.sorter {n q u r : Rc} (h : Sim n q u r) {s w : Nat} : cfact u s w = cfR n q s w := by
  obtain ⟨h1, -⟩ := h
  unfold cfact cfR
  rw [h1.1.f 11 sta11, h1.1.e 12 dyn12, h1.1.e 13 dyn13, h1.1.e 14 dyn14, h1.1.e 15 dyn15, h1.1.e 16 dyn16, h1.1.e 17 dyn17]
  rfl
theorem dg_cg {a b : Nat → Int32} {d : Int64} : ∀ m, (∀ k, k < m → a k = b k) → dg a m d = dg b m d
  | 0, _ => rfl
  | m + 1, h => by rw [dg_s, dg_s, dg_cg m (fun k hk => h k (by omega)), h m (by omega)]
theorem dg2_cg {a b : Nat → Nat → Int32} {w : Nat} {d : Int64} : ∀ m, (∀ k i, k < m → i < w → a k i = b k i) → dg2 a w m d = dg2 b w m d
  | 0, _ => rfl
  | m + 1, h => by rw [dg2_s, dg2_s, dg2_cg m (fun k i hk hi => h k i (by omega) hi), dg_cg w (fun i hi => h m i (by omega) hi)]
theorem Sim.digest {n q u r : Rc} (h : Sim n q u r) : dig5 r u = dgR5 n q := by
  have e0 : u 0 0 = n 0 0 := by rw [h.1.1.f 0 sta0]
  have e10 : u 10 0 = n 10 0 := by rw [h.1.1.f 10 sta10]
  unfold dig5 dig4 dig3 dig2 dig1 dgR5 dgR4 dgR3 dgR2 dgR1
  rw [dg_cg (a := cntF r u) (b := cntR1 n q) 10 (fun k hk => h.count hk), dg2_cg (a := stF r u) (b := stR1 n q) 8 (fun k i _ hi => h.station hi), dg_cg (a := u 7) (b := hoR1 n q) 16 (fun k hk => h.hole hk), e10, dg2_cg (a := cfact u) (b := cfR n q) _ (fun k i _ _ => h.sorter), e0, dg2_cg (a := mfact u) (b := mfR n q) _ (fun k i _ _ => h.letter)]
theorem Sim.advise {n q u r : Rc} (h : Sim n q u r) {s k : Nat} : (advS r u s k 16).2 = (advR n q s k 16).2 := advise_eq h.1 h.2.1 h.ln h.2.2.1
theorem Sim.arrives {n q u r : Rc} (h : Sim n q u r) {j k m : Nat} : arrL r j k m u = arrR n j k m q := arr_eq h.2.1 h.ln k m h.1 h.2.2.1
theorem Sim.sum {n q u r : Rc} (h : Sim n q u r) (k : Nat) : runF r k u 6 4 - u 6 4 = sumR n q k := by
  rw [sum_eq h.2.1 h.2.2.1 k, are_4 (h.pass k).1 (p := 4) (by omega), are_4 h.1 (p := 4) (by omega)]
  rfl
theorem Sim.foresee {n q u r : Rc} (h : Sim n q u r) {k p : Nat} (hp : p < 6) : runF r k u 6 p = areR n (psN n k q) (nI p) := are_4 (h.pass k).1 hp
