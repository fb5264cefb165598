theorem adv_eq {n q u r : Rc} (h : Sm n q u) (okn : Ok n) (hl : Ln n r) (hq : Ok q ∧ JR (iv (n 0 0)) (iv (n 10 0)) q) {s k c0 a0 : Nat} (hc0 : c0 ≤ 60) (ha0 : a0 ≤ 60) (ec0 : areR n q 4 = nI c0) (ea0 : dIAF r u s (u 12 s) k = nI a0) (es0 : sumR n (put q 12 s (u 12 s)) k = nI a0 - nI c0) : ∀ t, t ≤ 16 → (advS r u s k t).2 = (advR n q s k t).2 ∧ ∃ b, b ≤ 60 ∧ (advS r u s k t).1 = nI b ∧ (advR n q s k t).1 = nI b - nI c0 ∧ a0 ≤ b
  | 0, _ => by
    refine ⟨rfl, a0, ha0, ea0, ?_, Nat.le_refl _⟩
    show sumR n q k = _
    rw [← es0, h.1.e 12 dyn12, put_same rfl]
  | t + 1, ht => by
    obtain ⟨e2, b, hb, eb, er, hab⟩ := adv_eq h okn hl hq hc0 ha0 ec0 ea0 es0 t (by omega)
    have e12 : u 12 s = q 12 s := by rw [h.1.e 12 dyn12]
    by_cases c : hasT (u 12 s) (nI t)
    · have hs : sumR n (put q 12 s (q 12 s ||| ((1 : Int32) <<< (nI t &&& 31)))) k ≤ (advR n q s k t).1 := by
        rw [← e12, bit_has (by omega) c, es0, er]
        exact (sub_le ha0 hb hc0).mpr (nI_le hab (by omega))
      rw [adv_h c, advR, if_pos hs]
      exact ⟨e2, b, hb, eb, er, hab⟩
    · obtain ⟨a, c1, ha, hc1, ec1, ea, es⟩ := trial (r := r) h okn hl hq (s := s) (y := u 12 s ||| ((1 : Int32) <<< (nI t &&& 31))) k
      have ecc : nI c1 = nI c0 := ec1.symm.trans ec0
      rw [ecc] at es
      rw [advS, if_neg c, advR, ← e12, ea, es, eb, er]
      by_cases d : nI a ≤ nI b
      · rw [if_pos d, if_pos ((sub_le ha hb hc0).mpr d)]
        exact ⟨e2, b, hb, eb, er, hab⟩
      · rw [if_neg d, if_neg (fun z => d ((sub_le ha hb hc0).mp z))]
        refine ⟨rfl, a, ha, rfl, rfl, ?_⟩
        rcases Nat.lt_or_ge b a with g | g
        · omega
        · exact absurd (nI_le g (by omega)) d
theorem advise_eq {n q u r : Rc} (h : Sm n q u) (okn : Ok n) (hl : Ln n r) (hq : Ok q ∧ JR (iv (n 0 0)) (iv (n 10 0)) q) {s k : Nat} : (advS r u s k 16).2 = (advR n q s k 16).2 := by
  obtain ⟨a, c, ha, hc, ec, ea, es⟩ := trial (r := r) h okn hl hq (s := s) (y := u 12 s) k
  exact (adv_eq h okn hl hq hc ha ec ea es 16 (by omega)).1
/-! a late letter stays late -/
theorem st5_end {q : Rc} {k j : Nat} {t : Int32} (hx : q 3 k = 2 → iv (q 15 (iv (q 4 k))) = k) (h5 : q 3 j = 5) (hk : ¬ q 3 k = 5) : (endR k t q) 3 j = 5 := by
  rw [end_3 (fun z => hk (by rw [← z]; exact h5)) hx]
  exact h5
theorem st5_ps1 {n q : Rc} {st : Int32} {k j : Nat} (hx : q 3 k = 2 → iv (q 15 (iv (q 4 k))) = k) (h5 : q 3 j = 5) : (ps1R n st k q) 3 j = 5 := by
  unfold ps1R
  by_cases c : n 1 k / 2 = st ∧ q 3 k = 3
  · rw [if_pos c]; exact st5_end hx h5 (by rw [c.2]; decide)
  · rw [if_neg c]
    by_cases d : n 1 k / 2 = st ∧ (q 3 k = 1 ∨ q 3 k = 2)
    · rw [if_pos d]
      refine st5_end hx h5 (fun z => ?_)
      rcases d.2 with e | e
      · exact absurd (e.symm.trans z) (by decide)
      · exact absurd (e.symm.trans z) (by decide)
    · rw [if_neg d]; exact h5
theorem st5_put {q : Rc} {k j : Nat} {t : Int32} (h5 : q 3 j = 5) (hk : ¬ q 3 k = 5) : (put q 3 k t) 3 j = 5 := by
  rw [put_at, if_neg (fun z => hk (by rw [← z.2]; exact h5))]
  exact h5
theorem st5_ps2 {n q : Rc} {st : Int32} {k j : Nat} (h5 : q 3 j = 5) : (ps2R n st k q) 3 j = 5 := by
  unfold ps2R
  by_cases c : q 3 k = 0 ∧ n 2 k = st
  · rw [if_pos c]
    have hk : ¬ q 3 k = 5 := by rw [c.1]; decide
    by_cases d : n 1 k / 2 ≤ st
    · rw [if_pos d, end_n (by rw [c.1]; decide), put_ne (by omega)]
      exact st5_put h5 hk
    · rw [if_neg d]
      exact st5_put h5 hk
  · rw [if_neg c]; exact h5
theorem st5_it {I : Rc → Prop} {F : Nat → Rc → Rc} {j M : Nat} (hI : ∀ k w, k < M → I w → I (F k w)) (hF : ∀ k w, k < M → I w → w 3 j = 5 → F k w 3 j = 5) {q : Rc} (h : I q) (h5 : q 3 j = 5) : ∀ m, m ≤ M → I (itN F m q) ∧ itN F m q 3 j = 5
  | 0, _ => ⟨h, h5⟩
  | m + 1, hm => by
    obtain ⟨a, b⟩ := st5_it hI hF h h5 m (by omega)
    exact ⟨hI m _ (by omega) a, hF m _ (by omega) a b⟩
theorem st5_pst {n q : Rc} (okn : Ok n) {st : Int32} {j : Nat} (hq : Ok q ∧ JR (iv (n 0 0)) (iv (n 10 0)) q) (h5 : q 3 j = 5) : (pstR n st q) 3 j = 5 := by
  have hn := okn.n60
  have h1 := st5_it (I := fun w => Ok w ∧ JR (iv (n 0 0)) (iv (n 10 0)) w) (F := ps1R n st) (M := iv (n 0 0)) (j := j) (fun k w hk hw => ps1_j hn okn.k4 (by omega) hw) (fun k w hk hw g => st5_ps1 (hw.2.hx (by omega)) g) hq h5 _ (Nat.le_refl _)
  unfold pstR
  exact (st5_it (I := fun _ => True) (F := ps2R n st) (M := iv (n 0 0)) (j := j) (fun _ _ _ _ => trivial) (fun k w _ _ g => st5_ps2 g) trivial h1.2 _ (Nat.le_refl _)).2
theorem st5_shk {n q : Rc} {b : Int32} {j : Nat} (h5 : q 3 j = 5) : (shkR n b q) 3 j = 5 := by
  have a : itN (shB b) (iv (n 10 0)) q 3 = q 3 := it_row (fun j w => by
    unfold shB
    rw [opt_row (g := 3) (fun w => by rw [put_rw (by omega)]), opt_row (g := 3) (fun w => by rw [put_rw (by omega)])]) _ _
  have h1 : itN (shB b) (iv (n 10 0)) q 3 j = 5 := by rw [a]; exact h5
  unfold shkR
  generalize itN (shB b) (iv (n 10 0)) q = v at h1
  by_cases c : ¬ b < 2
  · rw [opt_t (p := fun _ => ¬ b < 2) c]
    refine (st5_it (I := fun _ => True) (F := spB n _) (M := iv (n 0 0)) (j := j) (fun _ _ _ _ => trivial) (fun k w _ _ g => ?_) trivial h1 _ (Nat.le_refl _)).2
    unfold spB
    by_cases d : w 3 k = 3 ∧ n 1 k = nI (fullN (fun t => holeR n v (nI t)) 15)
    · rw [opt_t (p := fun w => w 3 k = 3 ∧ n 1 k = nI (fullN (fun t => holeR n v (nI t)) 15)) d]
      exact st5_put g (by rw [d.1]; decide)
    · rw [opt_f (p := fun w => w 3 k = 3 ∧ n 1 k = nI (fullN (fun t => holeR n v (nI t)) 15)) d]
      exact g
  · rw [opt_f (p := fun _ => ¬ b < 2) c]; exact h1
theorem st5_ps {n q : Rc} (okn : Ok n) {j : Nat} (hq : Ok q ∧ JR (iv (n 0 0)) (iv (n 10 0)) q) (h5 : q 3 j = 5) : (psR n q) 3 j = 5 := by
  have q1 : Ok (mdR n q) ∧ JR (iv (n 0 0)) (iv (n 10 0)) (mdR n q) := md_j okn hq (Nat.le_refl _)
  have m1 : (mdR n q) 3 j = 5 := (K4.md (x := 5) ⟨by decide, by decide, by decide⟩ okn hq _ (Nat.le_refl _) j).mpr h5
  have s1 := st5_it (I := fun w => Ok w ∧ JR (iv (n 0 0)) (iv (n 10 0)) w) (F := fun st => opt (fun w => n 20 st = w 30 0) (pstR n (nI st))) (M := 8) (j := j) (fun k w _ hw => by
    by_cases c : n 20 k = w 30 0
    · rw [opt_t (p := fun w => n 20 k = w 30 0) c]; exact pst_j okn hw
    · rw [opt_f (p := fun w => n 20 k = w 30 0) c]; exact hw) (fun k w _ hw g => by
    by_cases c : n 20 k = w 30 0
    · rw [opt_t (p := fun w => n 20 k = w 30 0) c]; exact st5_pst okn hw g
    · rw [opt_f (p := fun w => n 20 k = w 30 0) c]; exact g) q1 m1 8 (Nat.le_refl _)
  have s2 := st5_it (I := fun _ => True) (F := fun st => opt (fun w => n 20 st + 5 = w 30 0) (shkR n (n 21 st))) (M := 8) (j := j) (fun _ _ _ _ => trivial) (fun k w _ _ g => by
    by_cases c : n 20 k + 5 = w 30 0
    · rw [opt_t (p := fun w => n 20 k + 5 = w 30 0) c]; exact st5_shk g
    · rw [opt_f (p := fun w => n 20 k + 5 = w 30 0) c]; exact g) trivial s1.2 8 (Nat.le_refl _)
  unfold psR incS
  rw [put_ne (by omega)]
  exact s2.2
theorem arrR_5 {n : Rc} (okn : Ok n) {j : Nat} : ∀ (k m : Nat) {q : Rc}, Ok q ∧ JR (iv (n 0 0)) (iv (n 10 0)) q → q 3 j = 5 → arrR n j k m q = -1
  | 0, _, _, _, _ => rfl
  | k + 1, m, q, hq, h5 => by
    rw [arrR, if_neg (by rw [h5]; decide)]
    exact arrR_5 okn k (m + 1) (psR_j okn hq) (st5_ps okn hq h5)
theorem arr_eq {n r : Rc} (okn : Ok n) (hl : Ln n r) {j : Nat} : ∀ (k m : Nat) {q u : Rc}, Sm n q u → Ok q ∧ JR (iv (n 0 0)) (iv (n 10 0)) q → arrL r j k m u = arrR n j k m q
  | 0, _, _, _, _, _ => rfl
  | k + 1, m, q, u, h, hq => by
    have e3 : u 3 j = q 3 j := by rw [h.1.e 3 dyn3]
    rw [arrL, e3]
    by_cases c : q 3 j = 4
    · rw [if_pos c, arrR, if_pos c]
    · rw [if_neg c]
      by_cases d : q 3 j = 5
      · rw [if_pos d, arrR_5 okn _ _ hq d]
      · rw [if_neg d, arrR, if_neg c]
        exact arr_eq okn hl k (m + 1) (h.min okn hl hq) (psR_j okn hq)
