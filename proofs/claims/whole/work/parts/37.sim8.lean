/-! the sums: sorters' work delivers none, so a run's sum is a difference of counts -/
theorem k4_put {q : Rc} {j : Nat} {t v : Int32} (h : ¬ q 3 j = v) (ht : ¬ t = v) (k : Nat) : (put q 3 j t) 3 k = v ↔ q 3 k = v := by
  rw [put_at]
  by_cases c : k = j
  · rw [if_pos ⟨rfl, c⟩, c]
    exact ⟨fun z => absurd z ht, fun z => absurd z h⟩
  · rw [if_neg (fun z => c z.2)]
def K4 (v : Int32) (q w : Rc) : Prop := ∀ k, w 3 k = v ↔ q 3 k = v
theorem K4.tr {x : Int32} {a b c : Rc} (h : K4 x a b) (h2 : K4 x b c) : K4 x a c := fun k => (h2 k).trans (h k)
theorem K4.rw {x : Int32} {q w v : Rc} (h : K4 x q w) (e : v 3 = w 3) : K4 x q v := fun k => by rw [e]; exact h k
theorem K4.lett {v : Int32} (hv : ¬ (1 : Int32) = v ∧ ¬ (2 : Int32) = v ∧ ¬ (3 : Int32) = v) {q : Rc} {s : Nat} {t : Int32} (h : q 3 (iv (q 15 s)) = 2) (ht : ¬ t = v) : K4 v q (letR s t q) := by
  unfold letR
  have h1 : K4 v q (put q 3 (iv (q 15 s)) t) := k4_put (by rw [h]; exact hv.2.1) ht
  exact h1.rw (by rw [put_rw (by omega), put_rw (by omega), put_rw (by omega)])
theorem K4.wrk {x : Int32} (hv : ¬ (1 : Int32) = x ∧ ¬ (2 : Int32) = x ∧ ¬ (3 : Int32) = x) {n q : Rc} (okn : Ok n) (hJ : JR (iv (n 0 0)) (iv (n 10 0)) q) {s : Nat} (hs : s < iv (n 10 0)) : K4 x q (wrkR n s q) := by
  have hn := okn.n60
  unfold wrkR
  have h1 : K4 x q (opt (fun w => w 15 s = -1) (takR n s) q) := by
    by_cases c : q 15 s = -1
    · rw [opt_t (p := fun w => w 15 s = -1) c]
      unfold takR
      by_cases d : fforR n q s = -1
      · rw [if_pos d]; exact fun _ => Iff.rfl
      · rw [if_neg d]
        have hw : q 3 (iv (fforR n q s)) = 1 := by
          unfold fforR at d ⊢
          rcases fnd_spec (fun k => decide (q 3 k = 1 ∧ hasT (q 12 s) (n 1 k))) (iv (n 0 0)) (by omega) with ⟨h1, -⟩ | ⟨i, h1, h2, h3, -⟩
          · exact absurd h1 d
          · rw [h2, iv_nI (by omega)]
            exact (of_decide_eq_true h3).1
        unfold tkX
        have e : ∀ w : Rc, w 3 = q 3 → K4 x q (put w 3 (iv (fforR n q s)) 2) := fun w ew => by
          have k1 : K4 x w (put w 3 (iv (fforR n q s)) 2) := k4_put (by rw [ew, hw]; exact hv.1) hv.2.1
          exact (show K4 x q w from fun k => by rw [ew]).tr k1
        exact (e (put (put q 15 s (fforR n q s)) 16 s (ndR n (put q 15 s (fforR n q s)) s)) (by rw [put_rw (by omega), put_rw (by omega)])).rw (put_rw (by omega))
    · rw [opt_f (p := fun w => w 15 s = -1) c]; exact fun _ => Iff.rfl
  have j1 : JR (iv (n 0 0)) (iv (n 10 0)) (opt (fun w => w 15 s = -1) (takR n s) q) := by
    by_cases c : q 15 s = -1
    · rw [opt_t (p := fun w => w 15 s = -1) c]; exact hJ.tak okn hs c
    · rw [opt_f (p := fun w => w 15 s = -1) c]; exact hJ
  refine h1.tr ?_
  generalize opt (fun w => w 15 s = -1) (takR n s) q = v at j1
  by_cases c : v 15 s = -1
  · rw [opt_f (p := fun w => ¬ w 15 s = -1) (fun z => z c)]; exact fun _ => Iff.rfl
  · rw [opt_t (p := fun w => ¬ w 15 s = -1) c]
    unfold wk2R
    have e3 : decB s v 3 = v 3 := by unfold decB; rw [put_rw (by omega)]
    have e15 : decB s v 15 = v 15 := by unfold decB; rw [put_rw (by omega)]
    have h0 : K4 x v (decB s v) := fun k => by rw [e3]
    have h2 := (j1.2.1 s hs c).2.1
    refine h0.tr ?_
    by_cases d : (decB s v) 16 s ≤ 0
    · rw [opt_t (p := fun w => w 16 s ≤ 0) d]
      have g : (decB s v) 3 (iv ((decB s v) 15 s)) = 2 := by rw [e3, e15]; exact h2
      unfold donR
      by_cases f : 8 ≤ holeR n (decB s v) (n 1 (iv (decB s v 15 s)))
      · rw [if_pos f]
        exact (K4.lett hv g (t := 1) hv.1).rw (by unfold tirB addB; rw [put_rw (by omega), put_rw (by omega)])
      · rw [if_neg f]
        exact (K4.lett hv g (t := 3) hv.2.2).rw (by unfold tirB addB; rw [put_rw (by omega), put_rw (by omega)])
    · rw [opt_f (p := fun w => w 16 s ≤ 0) d]; exact fun _ => Iff.rfl
theorem K4.md {x : Int32} (hv : ¬ (1 : Int32) = x ∧ ¬ (2 : Int32) = x ∧ ¬ (3 : Int32) = x) {n q : Rc} (okn : Ok n) (hq : Ok q ∧ JR (iv (n 0 0)) (iv (n 10 0)) q) : ∀ m, m ≤ iv (n 10 0) → K4 x q (itN (wrkR n) m q)
  | 0, _ => fun _ => Iff.rfl
  | m + 1, hm => by
    have h4 := okn.k4
    exact (K4.md hv okn hq m (by omega)).tr (K4.wrk hv okn (md_j okn hq (by omega)).2 (by omega))
theorem are_md {n q : Rc} (okn : Ok n) (hq : Ok q ∧ JR (iv (n 0 0)) (iv (n 10 0)) q) : areR n (mdR n q) 4 = areR n q 4 := by
  unfold areR mdR
  exact cnt_cg (fun k _ => decide_eq_decide.mpr (K4.md (x := 4) ⟨by decide, by decide, by decide⟩ okn hq _ (Nat.le_refl _) k))
theorem tele {a b c : Int32} : a - b + (c - a) = c - b := by
  rw [Int32.sub_eq_add_neg a b, Int32.add_comm a (-b), Int32.add_assoc, Int32.add_comm a (c - a), Int32.sub_add_cancel, Int32.add_comm (-b) c, ← Int32.sub_eq_add_neg]
theorem sum_eq {n q : Rc} (okn : Ok n) (hq : Ok q ∧ JR (iv (n 0 0)) (iv (n 10 0)) q) : ∀ k, sumR n q k = areR n (psN n k q) 4 - areR n q 4
  | 0 => by
    show (0 : Int32) = areR n q 4 - areR n q 4
    rw [Int32.sub_self]
  | k + 1 => by
    have j := psN_j okn hq k
    have e : psA n (psN n k q) = areR n (psN n (k + 1) q) 4 - areR n (psN n k q) 4 := by
      unfold psA
      rw [are_md (q := psN n k q) okn j]
      rfl
    rw [sumR, e, sum_eq okn hq k, tele]
theorem are_4 {n q u : Rc} (h : Sm n q u) {p : Nat} (hp : p < 6) : u 6 p = areR n q (nI p) := by
  rw [h.2.1.1 p hp]
  unfold areR
  rw [h.1.f 0 sta0, h.1.e 3 dyn3]
