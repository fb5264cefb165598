/-! places beyond the letters in use never change -/
def Zk (N : Nat) (q w : Rc) : Prop := ∀ k, N ≤ k → w 3 k = q 3 k
theorem Zk.rf {N : Nat} {q : Rc} : Zk N q q := fun _ _ => rfl
theorem Zk.tr {N : Nat} {a b c : Rc} (h : Zk N a b) (h2 : Zk N b c) : Zk N a c := fun k hk => (h2 k hk).trans (h k hk)
theorem Zk.rw {N : Nat} {q w v : Rc} (h : Zk N q w) (e : v 3 = w 3) : Zk N q v := fun k hk => by rw [e]; exact h k hk
theorem Zk.p3 {N i : Nat} {q : Rc} {t : Int32} (hi : i < N) : Zk N q (put q 3 i t) := fun k hk => by
  rw [put_at, if_neg (fun z => by omega)]
theorem Zk.lett {N s : Nat} {q : Rc} {t : Int32} (hi : iv (q 15 s) < N) : Zk N q (letR s t q) := by
  unfold letR
  exact (Zk.p3 (t := t) hi).rw (by rw [put_rw (by omega), put_rw (by omega), put_rw (by omega)])
theorem Zk.op {N : Nat} {p : Rc → Prop} [DecidablePred p] {f : Rc → Rc} {q : Rc} (h : p q → Zk N q (f q)) : Zk N q (opt p f q) := by
  by_cases c : p q
  · rw [opt_t c]; exact h c
  · rw [opt_f c]; exact Zk.rf
theorem Zk.wrk {n q : Rc} (okn : Ok n) (hJ : JR (iv (n 0 0)) (iv (n 10 0)) q) {s : Nat} (hs : s < iv (n 10 0)) : Zk (iv (n 0 0)) q (wrkR n s q) := by
  have hn := okn.n60
  unfold wrkR
  have h1 : Zk (iv (n 0 0)) q (opt (fun w => w 15 s = -1) (takR n s) q) := by
    refine Zk.op (fun c => ?_)
    unfold takR
    by_cases d : fforR n q s = -1
    · rw [if_pos d]; exact Zk.rf
    · rw [if_neg d]
      have hj : iv (fforR n q s) < iv (n 0 0) := by
        unfold fforR at d ⊢
        rcases fnd_spec (fun k => decide (q 3 k = 1 ∧ hasT (q 12 s) (n 1 k))) (iv (n 0 0)) (by omega) with ⟨h1, -⟩ | ⟨i, h1, h2, -, -⟩
        · exact absurd h1 d
        · rw [h2, iv_nI (by omega)]; exact h1
      unfold tkX
      have e : ∀ w : Rc, w 3 = q 3 → Zk (iv (n 0 0)) q (put w 3 (iv (fforR n q s)) 2) := fun w ew => (show Zk (iv (n 0 0)) q w from fun k _ => by rw [ew]).tr (Zk.p3 hj)
      exact (e (put (put q 15 s (fforR n q s)) 16 s (ndR n (put q 15 s (fforR n q s)) s)) (by rw [put_rw (by omega), put_rw (by omega)])).rw (put_rw (by omega))
  have j1 : JR (iv (n 0 0)) (iv (n 10 0)) (opt (fun w => w 15 s = -1) (takR n s) q) := by
    by_cases c : q 15 s = -1
    · rw [opt_t (p := fun w => w 15 s = -1) c]; exact hJ.tak okn hs c
    · rw [opt_f (p := fun w => w 15 s = -1) c]; exact hJ
  refine h1.tr ?_
  generalize opt (fun w => w 15 s = -1) (takR n s) q = v at j1
  refine Zk.op (fun c => ?_)
  unfold wk2R
  have e3 : decB s v 3 = v 3 := by unfold decB; rw [put_rw (by omega)]
  have e15 : decB s v 15 = v 15 := by unfold decB; rw [put_rw (by omega)]
  have h0 : Zk (iv (n 0 0)) v (decB s v) := fun k _ => by rw [e3]
  have h2 := (j1.2.1 s hs c).1
  refine h0.tr (Zk.op (fun d => ?_))
  have g : iv ((decB s v) 15 s) < iv (n 0 0) := by rw [e15]; exact h2
  unfold donR
  by_cases f : 8 ≤ holeR n (decB s v) (n 1 (iv (decB s v 15 s)))
  · rw [if_pos f]
    exact (Zk.lett (t := 1) g).rw (by unfold tirB addB; rw [put_rw (by omega), put_rw (by omega)])
  · rw [if_neg f]
    exact (Zk.lett (t := 3) g).rw (by unfold tirB addB; rw [put_rw (by omega), put_rw (by omega)])
theorem Zk.it {N M : Nat} {I : Rc → Prop} {F : Nat → Rc → Rc} (hI : ∀ k w, k < M → I w → I (F k w)) (hF : ∀ k w, k < M → I w → Zk N w (F k w)) {q : Rc} (h : I q) : ∀ m, m ≤ M → I (itN F m q) ∧ Zk N q (itN F m q)
  | 0, _ => ⟨h, Zk.rf⟩
  | m + 1, hm => by
    obtain ⟨a, b⟩ := Zk.it hI hF h m (by omega)
    exact ⟨hI m _ (by omega) a, b.tr (hF m _ (by omega) a)⟩
theorem Zk.en {N : Nat} {q : Rc} {k : Nat} {t : Int32} (hk : k < N) (hx : q 3 k = 2 → iv (q 15 (iv (q 4 k))) = k) : Zk N q (endR k t q) := fun j hj => end_3 (by omega) hx
theorem Zk.ps1 {N : Nat} {n q : Rc} {st : Int32} {k : Nat} (hk : k < N) (hx : q 3 k = 2 → iv (q 15 (iv (q 4 k))) = k) : Zk N q (ps1R n st k q) := ps1_r (fun w => Zk N q w) Zk.rf (Zk.en hk hx) (Zk.en hk hx)
theorem Zk.ps2 {N : Nat} {n q : Rc} {st : Int32} {k : Nat} (hk : k < N) : Zk N q (ps2R n st k q) := by
  unfold ps2R
  by_cases c : q 3 k = 0 ∧ n 2 k = st
  · rw [if_pos c]
    by_cases d : n 1 k / 2 ≤ st
    · rw [if_pos d]
      exact Zk.en hk (fun z => absurd (c.1.symm.trans z) (by decide))
    · rw [if_neg d]; exact Zk.p3 hk
  · rw [if_neg c]; exact Zk.rf
theorem Zk.pst {n q : Rc} (okn : Ok n) {st : Int32} (hq : Ok q ∧ JR (iv (n 0 0)) (iv (n 10 0)) q) : Zk (iv (n 0 0)) q (pstR n st q) := by
  have hn := okn.n60
  have h1 := Zk.it (N := iv (n 0 0)) (I := fun w => Ok w ∧ JR (iv (n 0 0)) (iv (n 10 0)) w) (F := ps1R n st) (M := iv (n 0 0)) (fun k w hk hw => ps1_j hn okn.k4 (by omega) hw) (fun k w hk hw => Zk.ps1 hk (hw.2.hx (by omega))) hq _ (Nat.le_refl _)
  unfold pstR
  exact h1.2.tr (Zk.it (I := fun _ => True) (F := ps2R n st) (M := iv (n 0 0)) (fun _ _ _ _ => trivial) (fun k w hk _ => Zk.ps2 hk) trivial _ (Nat.le_refl _)).2
theorem Zk.shk {n q : Rc} {b : Int32} : Zk (iv (n 0 0)) q (shkR n b q) := by
  have a : itN (shB b) (iv (n 10 0)) q 3 = q 3 := it_row (fun j w => by
    unfold shB
    rw [opt_row (g := 3) (fun w => by rw [put_rw (by omega)]), opt_row (g := 3) (fun w => by rw [put_rw (by omega)])]) _ _
  have h1 : Zk (iv (n 0 0)) q (itN (shB b) (iv (n 10 0)) q) := fun k _ => by rw [a]
  unfold shkR
  refine h1.tr (Zk.op (fun c => ?_))
  refine (Zk.it (I := fun _ => True) (F := spB n _) (M := iv (n 0 0)) (fun _ _ _ _ => trivial) (fun k w hk _ => ?_) trivial _ (Nat.le_refl _)).2
  unfold spB
  exact Zk.op (fun d => Zk.p3 hk)
theorem Zk.ps {n q : Rc} (okn : Ok n) (hq : Ok q ∧ JR (iv (n 0 0)) (iv (n 10 0)) q) : Zk (iv (n 0 0)) q (psR n q) := by
  have h4 := okn.k4
  have q1 : Ok (mdR n q) ∧ JR (iv (n 0 0)) (iv (n 10 0)) (mdR n q) := md_j okn hq (Nat.le_refl _)
  have m1 : Zk (iv (n 0 0)) q (mdR n q) := (Zk.it (N := iv (n 0 0)) (I := fun w => Ok w ∧ JR (iv (n 0 0)) (iv (n 10 0)) w) (F := wrkR n) (M := iv (n 10 0)) (fun j w hj hw => ⟨(wrkR_pr okn (by omega)).ok hw.1, hw.2.wrk okn (by omega)⟩) (fun k w hk hw => Zk.wrk okn hw.2 (by omega)) hq _ (Nat.le_refl _)).2
  have s1 := Zk.it (N := iv (n 0 0)) (I := fun w => Ok w ∧ JR (iv (n 0 0)) (iv (n 10 0)) w) (F := fun st => opt (fun w => n 20 st = w 30 0) (pstR n (nI st))) (M := 8) (fun k w _ hw => by
    by_cases c : n 20 k = w 30 0
    · rw [opt_t (p := fun w => n 20 k = w 30 0) c]; exact pst_j okn hw
    · rw [opt_f (p := fun w => n 20 k = w 30 0) c]; exact hw) (fun k w _ hw => Zk.op (fun _ => Zk.pst okn hw)) q1 8 (Nat.le_refl _)
  have s2 := Zk.it (N := iv (n 0 0)) (I := fun _ => True) (F := fun st => opt (fun w => n 20 st + 5 = w 30 0) (shkR n (n 21 st))) (M := 8) (fun _ _ _ _ => trivial) (fun k w _ _ => Zk.op (fun _ => Zk.shk)) (q := itN (fun st => opt (fun w => n 20 st = w 30 0) (pstR n (nI st))) 8 (mdR n q)) trivial 8 (Nat.le_refl _)
  unfold psR incS
  exact ((m1.tr s1.2).tr s2.2).rw (put_rw (by omega))
theorem Zk.psn {n q : Rc} (okn : Ok n) (hq : Ok q ∧ JR (iv (n 0 0)) (iv (n 10 0)) q) (k : Nat) : Zk (iv (n 0 0)) q (psN n k q) := by
  unfold psN
  exact (Zk.it (I := fun w => Ok w ∧ JR (iv (n 0 0)) (iv (n 10 0)) w) (F := fun _ w => psR n w) (M := k) (fun j w hj hw => psR_j okn hw) (fun j w hj hw => Zk.ps okn hw) hq k (Nat.le_refl _)).2
