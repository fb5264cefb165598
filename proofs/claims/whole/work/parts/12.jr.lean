/-! hands and letters agree, in the reference's State (N letters): what each of its steps keeps -/
def JR (N K : Nat) (q : Rc) : Prop := (∀ k, k < 60 → q 3 k = 2 → (¬ q 4 k = -1 ∧ iv (q 4 k) < K) ∧ q 15 (iv (q 4 k)) = nI k) ∧ (∀ s, s < K → ¬ q 15 s = -1 → iv (q 15 s) < N ∧ q 3 (iv (q 15 s)) = 2 ∧ q 4 (iv (q 15 s)) = nI s) ∧ (∀ k, k < N → ¬ q 3 k = 2 → q 4 k = -1)
theorem JR.cg {N K : Nat} {q w : Rc} (h : JR N K q) (h3 : w 3 = q 3) (h4 : w 4 = q 4) (h15 : w 15 = q 15) : JR N K w := by
  unfold JR
  rw [h3, h4, h15]
  exact h
theorem JR.p {N K : Nat} {q : Rc} (h : JR N K q) {f i : Nat} {v : Int32} (h3 : f ≠ 3) (h4 : f ≠ 4) (h15 : f ≠ 15) : JR N K (put q f i v) := h.cg (put_rw (Ne.symm h3)) (put_rw (Ne.symm h4)) (put_rw (Ne.symm h15))
theorem nI_inj {a b : Nat} (h : nI a = nI b) (ha : a ≤ 2147483647) (hb : b ≤ 2147483647) : a = b := by
  have h1 := congrArg iv h
  rw [iv_nI ha, iv_nI hb] at h1
  exact h1
theorem JR.lett {N K : Nat} {q : Rc} (h : JR N K q) (hN : N ≤ 60) (hK : K ≤ 4) {s : Nat} (hs : s < K) (hh : ¬ q 15 s = -1) {t : Int32} (ht : ¬ t = 2) : JR N K (letR s t q) := by
  obtain ⟨h1, h2, h3⟩ := h
  obtain ⟨a1, a2, a3⟩ := h2 s hs hh
  unfold letR
  refine JR.p ?_ (by omega) (by omega) (by omega)
  generalize hj : iv (q 15 s) = j at a1 a2 a3
  have e1 : put (put (put q 3 j t) 4 j (-1)) 15 s (-1) = put (put (put q 3 j t) 4 j (-1)) 15 s (-1) := rfl
  refine ⟨fun k hk hk2 => ?_, fun s' hs' hh' => ?_, fun k hk hk2 => ?_⟩
  · have hkj : k ≠ j := by
      intro q1
      rw [q1, put_ne (by omega), put_ne (by omega), put_eq] at hk2
      exact ht hk2
    rw [put_ne (by omega), put_ne (by omega), put_at, if_neg (fun z => hkj z.2)] at hk2
    obtain ⟨b1, b2⟩ := h1 k hk hk2
    have e4 : put (put (put q 3 j t) 4 j (-1)) 15 s (-1) 4 k = q 4 k := by
      rw [put_ne (by omega), put_at, if_neg (fun z => hkj z.2), put_ne (by omega)]
    rw [e4]
    refine ⟨b1, ?_⟩
    by_cases c : iv (q 4 k) = s
    · rw [c] at b2
      rw [b2, iv_nI (by omega)] at hj
      exact absurd hj hkj
    · rw [put_at, if_neg (fun z => c z.2), put_ne (by omega), put_ne (by omega)]
      exact b2
  · have hss : s' ≠ s := by
      intro z
      rw [z, put_eq] at hh'
      exact hh' rfl
    rw [put_at, if_neg (fun z => hss z.2), put_ne (by omega), put_ne (by omega)] at hh'
    rw [show put (put (put q 3 j t) 4 j (-1)) 15 s (-1) 15 s' = q 15 s' by rw [put_at, if_neg (fun z => hss z.2), put_ne (by omega), put_ne (by omega)]]
    obtain ⟨b1, b2, b3⟩ := h2 s' hs' hh'
    have hne : iv (q 15 s') ≠ j := by
      intro z
      rw [z, a3] at b3
      exact hss (nI_inj b3 (by omega) (by omega)).symm
    refine ⟨b1, ?_, ?_⟩
    · rw [put_ne (by omega), put_ne (by omega), put_at, if_neg (fun z => hne z.2)]
      exact b2
    · rw [put_ne (by omega), put_at, if_neg (fun z => hne z.2), put_ne (by omega)]
      exact b3
  · by_cases c : k = j
    · rw [c, put_ne (by omega), put_eq]
    · rw [put_ne (by omega), put_ne (by omega), put_at, if_neg (fun z => c z.2)] at hk2
      rw [put_ne (by omega), put_at, if_neg (fun z => c z.2), put_ne (by omega)]
      exact h3 k hk hk2
theorem JR.tk {N K : Nat} {n q : Rc} (h : JR N K q) (hN : N ≤ 60) (hK : K ≤ 4) {s i : Nat} (hs : s < K) (hh : q 15 s = -1) (hi : i < N) (h1i : q 3 i = 1) : JR N K (tkX n q s (nI i)) := by
  obtain ⟨h1, h2, h3⟩ := h
  have ei : iv (nI i) = i := iv_nI (by omega)
  have n12 : ¬ (1 : Int32) = 2 := by decide
  unfold tkX
  rw [ei]
  generalize ndR n (put q 15 s (nI i)) s = z
  have r3 : ∀ k, put (put (put (put q 15 s (nI i)) 16 s z) 3 i 2) 4 i (nI s) 3 k = if k = i then 2 else q 3 k := fun k => by
    rw [put_ne (by omega), put_at]
    by_cases c : k = i
    · rw [if_pos ⟨rfl, c⟩, if_pos c]
    · rw [if_neg (fun y => c y.2), if_neg c, put_ne (by omega), put_ne (by omega)]
  have r4 : ∀ k, put (put (put (put q 15 s (nI i)) 16 s z) 3 i 2) 4 i (nI s) 4 k = if k = i then nI s else q 4 k := fun k => by
    rw [put_at]
    by_cases c : k = i
    · rw [if_pos ⟨rfl, c⟩, if_pos c]
    · rw [if_neg (fun y => c y.2), if_neg c, put_ne (by omega), put_ne (by omega), put_ne (by omega)]
  have r15 : ∀ k, put (put (put (put q 15 s (nI i)) 16 s z) 3 i 2) 4 i (nI s) 15 k = if k = s then nI i else q 15 k := fun k => by
    rw [put_ne (by omega), put_ne (by omega), put_ne (by omega), put_at]
    by_cases c : k = s
    · rw [if_pos ⟨rfl, c⟩, if_pos c]
    · rw [if_neg (fun y => c y.2), if_neg c]
  refine ⟨fun k hk hk2 => ?_, fun s' hs' hh' => ?_, fun k hk hk2 => ?_⟩
  · rw [r3] at hk2
    rw [r4, r15]
    by_cases c : k = i
    · rw [if_pos c, iv_nI (by omega), if_pos rfl, c]
      exact ⟨⟨nI_nm1 (by omega), by exact hs⟩, rfl⟩
    · rw [if_neg c] at hk2
      obtain ⟨b1, b2⟩ := h1 k hk hk2
      rw [if_neg c]
      refine ⟨b1, ?_⟩
      rw [if_neg (fun y => by
        rw [y, hh] at b2
        exact nI_nm1 (n := k) (by omega) b2.symm)]
      exact b2
  · rw [r15] at hh'
    rw [r15]
    by_cases c : s' = s
    · rw [if_pos c, ei, r3, r4, if_pos rfl, if_pos rfl, c]
      exact ⟨hi, rfl, rfl⟩
    · rw [if_neg c] at hh'
      rw [if_neg c]
      obtain ⟨b1, b2, b3⟩ := h2 s' hs' hh'
      have hne : iv (q 15 s') ≠ i := fun y => by
        rw [y, h1i] at b2
        exact n12 b2
      rw [r3, r4, if_neg hne, if_neg hne]
      exact ⟨b1, b2, b3⟩
  · rw [r3] at hk2
    rw [r4]
    by_cases c : k = i
    · rw [if_pos c] at hk2
      exact absurd rfl hk2
    · rw [if_neg c] at hk2
      rw [if_neg c]
      exact h3 k hk hk2
theorem JR.p3 {N K : Nat} {q : Rc} (h : JR N K q) {j : Nat} {t : Int32} (hj : ¬ q 3 j = 2) (ht : ¬ t = 2) : JR N K (put q 3 j t) := by
  obtain ⟨h1, h2, h3⟩ := h
  have r3 : ∀ k, put q 3 j t 3 k = if k = j then t else q 3 k := fun k => by
    rw [put_at]
    by_cases c : k = j
    · rw [if_pos ⟨rfl, c⟩, if_pos c]
    · rw [if_neg (fun y => c y.2), if_neg c]
  have r4 : ∀ k, put q 3 j t 4 k = q 4 k := fun k => put_ne (by omega)
  have r15 : ∀ k, put q 3 j t 15 k = q 15 k := fun k => put_ne (by omega)
  refine ⟨fun k hk hk2 => ?_, fun s' hs' hh' => ?_, fun k hk hk2 => ?_⟩
  · rw [r3] at hk2
    rw [r4, r15]
    by_cases c : k = j
    · rw [if_pos c] at hk2
      exact absurd hk2 ht
    · rw [if_neg c] at hk2
      exact h1 k hk hk2
  · rw [r15] at hh'
    rw [r15]
    obtain ⟨b1, b2, b3⟩ := h2 s' hs' hh'
    rw [r3, r4, if_neg (fun y => hj (by rw [← y]; exact b2))]
    exact ⟨b1, b2, b3⟩
  · rw [r3] at hk2
    rw [r4]
    by_cases c : k = j
    · rw [c]; rw [c] at hk; exact h3 j hk hj
    · rw [if_neg c] at hk2
      exact h3 k hk hk2
theorem let_lt {N K : Nat} {q : Rc} (h : JR N K q) {j : Nat} (hj : j < 60) (h2 : q 3 j = 2) : iv (q 4 j) < K := (h.1 j hj h2).1.2
theorem let_eq {N K : Nat} {q : Rc} (h : JR N K q) {j : Nat} (hj : j < 60) (h2 : q 3 j = 2) : ¬ q 4 j = -1 ∧ q 15 (iv (q 4 j)) = nI j ∧ ¬ q 15 (iv (q 4 j)) = -1 := by
  obtain ⟨⟨a, a'⟩, b⟩ := h.1 j hj h2
  exact ⟨a, b, by rw [b]; exact nI_nm1 (by omega)⟩
theorem JR.ende {N K : Nat} {q : Rc} (ok : Ok q) (h : JR N K q) (hN : N ≤ 60) (hK : K ≤ 4) {j : Nat} (hj : j < 60) {t : Int32} (ht : ¬ t = 2) : JR N K (endR j t q) := by
  unfold endR stampB
  refine JR.p ?_ (by omega) (by omega) (by omega)
  by_cases c : q 3 j = 2
  · rw [opt_t (p := fun w => w 3 j = 2) c]
    obtain ⟨a, b, d⟩ := let_eq h hj c
    have h1 := h.lett hN hK (let_lt h hj c) d ht
    refine h1.p3 ?_ ht
    have e1 : letR (iv (q 4 j)) t q 3 j = t := by
      unfold letR
      rw [b, iv_nI (by omega), put_ne (by omega), put_ne (by omega), put_ne (by omega), put_eq]
    show ¬ letR (iv (q 4 j)) t q 3 j = 2
    rw [e1]
    exact ht
  · rw [opt_f (p := fun w => w 3 j = 2) c]
    exact h.p3 c ht
/-- Ok of the reference's steps -/
theorem let_pr {q : Rc} {s : Nat} {t : Int32} (ht : vp_in t 6) : Pr q (letR s t q) := Pr.pt 16 (Pr.p15 (Pr.p4 (Pr.p3 Pr.rf ht) (Or.inl rfl)) (Or.inl rfl)) (by omega) (fun _ => trivial)
theorem endR_pr {q : Rc} {j : Nat} {t : Int32} (ht : vp_in t 6) : Pr q (endR j t q) := by
  have h1 : Pr q (opt (fun w => w 3 j = 2) (fun w => letR (iv (w 4 j)) t w) q) := Pr.opt Pr.rf (fun _ => let_pr ht)
  exact Pr.pt 5 (Pr.p3 h1 ht) (by omega) (fun _ => trivial)
theorem ffor_in {n q : Rc} (okn : Ok n) {s : Nat} (h : ¬ fforR n q s = -1) : vp_in (fforR n q s) 60 := by
  have hn := okn.n60
  unfold fforR at h ⊢
  rcases fnd_spec (fun k => decide (q 3 k = 1 ∧ hasT (q 12 s) (n 1 k))) (iv (n 0 0)) (by omega) with ⟨h1, -⟩ | ⟨i, h1, h2, -, -⟩
  · exact absurd h1 h
  · rw [h2]; exact vi_of (by omega) (by decide)
theorem takR_pr {n q : Rc} (okn : Ok n) {s : Nat} (hs : s < 4) : Pr q (takR n s q) := by
  unfold takR
  by_cases c : fforR n q s = -1
  · rw [if_pos c]; exact Pr.rf
  · rw [if_neg c]
    unfold tkX
    exact Pr.p4 (Pr.p3 (Pr.pt 16 (Pr.p15 Pr.rf (Or.inr (ffor_in okn c))) (by omega) (fun _ => trivial)) (vp_lit (by decide))) (Or.inr (vi_of hs (by decide)))
theorem donR_pr {n q : Rc} {s : Nat} : Pr q (donR n s q) := by
  have v1 : vp_in 1 6 := vp_lit (by decide)
  have v3 : vp_in 3 6 := vp_lit (by decide)
  have h1 : Pr q (letR s 1 q) := let_pr v1
  have h3 : Pr q (letR s 3 q) := let_pr v3
  unfold donR tirB addB
  refine Pr.if (fun _ => ?_) (fun _ => ?_)
  · exact Pr.pt 13 (Pr.pt 17 h1 (by omega) (fun _ => trivial)) (by omega) (fun _ => trivial)
  · exact Pr.pt 13 (Pr.pt 17 h3 (by omega) (fun _ => trivial)) (by omega) (fun _ => trivial)
theorem wrkR_pr {n q : Rc} (okn : Ok n) {s : Nat} (hs : s < 4) : Pr q (wrkR n s q) := by
  have h1 : Pr q (opt (fun w => w 15 s = -1) (takR n s) q) := Pr.opt Pr.rf (fun _ => takR_pr okn hs)
  unfold wrkR
  refine Pr.opt h1 (fun _ => ?_)
  unfold wk2R
  exact Pr.opt decB_pr (fun _ => donR_pr)
theorem JR.tak {n q : Rc} (okn : Ok n) (h : JR (iv (n 0 0)) (iv (n 10 0)) q) {s : Nat} (hs : s < iv (n 10 0)) (hh : q 15 s = -1) : JR (iv (n 0 0)) (iv (n 10 0)) (takR n s q) := by
  have hn := okn.n60
  unfold takR
  by_cases c : fforR n q s = -1
  · rw [if_pos c]; exact h
  · rw [if_neg c]
    unfold fforR at c ⊢
    rcases fnd_spec (fun k => decide (q 3 k = 1 ∧ hasT (q 12 s) (n 1 k))) (iv (n 0 0)) (by omega) with ⟨h1, -⟩ | ⟨i, h1, h2, h3, -⟩
    · exact absurd h1 c
    · rw [h2]
      exact h.tk hn okn.k4 hs hh h1 (of_decide_eq_true h3).1
theorem JR.don {N K : Nat} {n q : Rc} (h : JR N K q) (hN : N ≤ 60) (hK : K ≤ 4) {s : Nat} (hs : s < K) (hh : ¬ q 15 s = -1) : JR N K (donR n s q) := by
  have h1 : JR N K (letR s 1 q) := h.lett hN hK hs hh (by decide)
  have h3 : JR N K (letR s 3 q) := h.lett hN hK hs hh (by decide)
  unfold donR tirB addB
  by_cases c : 8 ≤ holeR n q (n 1 (iv (q 15 s)))
  · rw [if_pos c]
    exact (h1.p (by omega) (by omega) (by omega)).p (by omega) (by omega) (by omega)
  · rw [if_neg c]
    exact (h3.p (by omega) (by omega) (by omega)).p (by omega) (by omega) (by omega)
theorem JR.wrk {n q : Rc} (okn : Ok n) (h : JR (iv (n 0 0)) (iv (n 10 0)) q) {s : Nat} (hs : s < iv (n 10 0)) : JR (iv (n 0 0)) (iv (n 10 0)) (wrkR n s q) := by
  have hn := okn.n60
  have h1 : JR (iv (n 0 0)) (iv (n 10 0)) (opt (fun w => w 15 s = -1) (takR n s) q) := by
    by_cases c : q 15 s = -1
    · rw [opt_t (p := fun w => w 15 s = -1) c]; exact h.tak okn hs c
    · rw [opt_f (p := fun w => w 15 s = -1) c]; exact h
  unfold wrkR
  generalize opt (fun w => w 15 s = -1) (takR n s) q = w at h1 ⊢
  by_cases c : w 15 s = -1
  · rw [opt_f (fun z => z c)]; exact h1
  · rw [opt_t c]
    unfold wk2R
    have h2 : JR (iv (n 0 0)) (iv (n 10 0)) (decB s w) := h1.p (by omega) (by omega) (by omega)
    have c2 : ¬ decB s w 15 s = -1 := by unfold decB; rw [put_ne (by omega)]; exact c
    generalize decB s w = v at h2 c2 ⊢
    by_cases d : v 16 s ≤ 0
    · rw [opt_t d]; exact h2.don hn okn.k4 hs c2
    · rw [opt_f d]; exact h2
theorem ps1_j {n : Rc} {st : Int32} {N K j : Nat} {w : Rc} (hN : N ≤ 60) (hK : K ≤ 4) (hj : j < 60) (h : Ok w ∧ JR N K w) : Ok (ps1R n st j w) ∧ JR N K (ps1R n st j w) := by
  have v4 : vp_in 4 6 := vp_lit (by decide)
  have v5 : vp_in 5 6 := vp_lit (by decide)
  unfold ps1R
  by_cases c : n 1 j / 2 = st ∧ w 3 j = 3
  · rw [if_pos c]; exact ⟨(endR_pr v4).ok h.1, JR.ende h.1 h.2 hN hK hj (by decide)⟩
  · rw [if_neg c]
    by_cases d : n 1 j / 2 = st ∧ (w 3 j = 1 ∨ w 3 j = 2)
    · rw [if_pos d]; exact ⟨(endR_pr v5).ok h.1, JR.ende h.1 h.2 hN hK hj (by decide)⟩
    · rw [if_neg d]; exact h
theorem ps2_j {n : Rc} {st : Int32} {N K j : Nat} {w : Rc} (hN : N ≤ 60) (hK : K ≤ 4) (hj : j < 60) (h : Ok w ∧ JR N K w) : Ok (ps2R n st j w) ∧ JR N K (ps2R n st j w) := by
  have v1 : vp_in 1 6 := vp_lit (by decide)
  have v5 : vp_in 5 6 := vp_lit (by decide)
  unfold ps2R
  by_cases c : w 3 j = 0 ∧ n 2 j = st
  · rw [if_pos c]
    by_cases d : n 1 j / 2 ≤ st
    · rw [if_pos d]; exact ⟨(endR_pr v5).ok h.1, JR.ende h.1 h.2 hN hK hj (by decide)⟩
    · rw [if_neg d]
      exact ⟨(Pr.p3 Pr.rf v1).ok h.1, h.2.p3 (by rw [c.1]; decide) (by decide)⟩
  · rw [if_neg c]; exact h
theorem it_j {N K : Nat} {F : Nat → Rc → Rc} {M : Nat} (hF : ∀ j w, j < M → Ok w ∧ JR N K w → Ok (F j w) ∧ JR N K (F j w)) {q : Rc} (h : Ok q ∧ JR N K q) : ∀ k, k ≤ M → Ok (itN F k q) ∧ JR N K (itN F k q)
  | 0, _ => h
  | k + 1, hk => hF k _ (by omega) (it_j hF h k (by omega))
theorem ps1s_j {n q : Rc} (okn : Ok n) {st : Int32} (h : Ok q ∧ JR (iv (n 0 0)) (iv (n 10 0)) q) {k : Nat} (hk : k ≤ iv (n 0 0)) : Ok (itN (ps1R n st) k q) ∧ JR (iv (n 0 0)) (iv (n 10 0)) (itN (ps1R n st) k q) := by
  have hn := okn.n60
  exact it_j (fun j w hj hw => ps1_j hn okn.k4 (by omega) hw) h k hk
theorem ps2s_j {n q : Rc} (okn : Ok n) {st : Int32} (h : Ok q ∧ JR (iv (n 0 0)) (iv (n 10 0)) q) {k : Nat} (hk : k ≤ iv (n 0 0)) : Ok (itN (ps2R n st) k q) ∧ JR (iv (n 0 0)) (iv (n 10 0)) (itN (ps2R n st) k q) := by
  have hn := okn.n60
  exact it_j (fun j w hj hw => ps2_j hn okn.k4 (by omega) hw) h k hk
theorem pst_j {n q : Rc} (okn : Ok n) {st : Int32} (h : Ok q ∧ JR (iv (n 0 0)) (iv (n 10 0)) q) : Ok (pstR n st q) ∧ JR (iv (n 0 0)) (iv (n 10 0)) (pstR n st q) := by
  unfold pstR
  exact ps2s_j okn (ps1s_j okn h (Nat.le_refl _)) (Nat.le_refl _)
theorem spB_j {n : Rc} {f : Int32} {N K j : Nat} {w : Rc} (h : Ok w ∧ JR N K w) : Ok (spB n f j w) ∧ JR N K (spB n f j w) := by
  have v1 : vp_in 1 6 := vp_lit (by decide)
  unfold spB
  by_cases c : w 3 j = 3 ∧ n 1 j = f
  · rw [opt_t (p := fun w => w 3 j = 3 ∧ n 1 j = f) c]
    exact ⟨(Pr.p3 Pr.rf v1).ok h.1, h.2.p3 (by rw [c.1]; decide) (by decide)⟩
  · rw [opt_f (p := fun w => w 3 j = 3 ∧ n 1 j = f) c]; exact h
theorem shB_j {b : Int32} {N K j : Nat} {w : Rc} (h : Ok w ∧ JR N K w) : Ok (shB b j w) ∧ JR N K (shB b j w) := by
  have h1 : Ok (opt (fun _ => ¬ b ≤ 0) (fun w => put w 14 j 0) w) ∧ JR N K (opt (fun _ => ¬ b ≤ 0) (fun w => put w 14 j 0) w) := by
    by_cases c : ¬ b ≤ 0
    · rw [opt_t (p := fun _ => ¬ b ≤ 0) c]
      exact ⟨(Pr.pt 14 Pr.rf (by omega) (fun _ => trivial)).ok h.1, h.2.p (by omega) (by omega) (by omega)⟩
    · rw [opt_f (p := fun _ => ¬ b ≤ 0) c]; exact h
  unfold shB
  generalize opt (fun _ => ¬ b ≤ 0) (fun w => put w 14 j 0) w = v at h1 ⊢
  by_cases c : b = 3
  · rw [opt_t (p := fun _ => b = 3) c]
    exact ⟨(Pr.pt 13 Pr.rf (by omega) (fun _ => trivial)).ok h1.1, h1.2.p (by omega) (by omega) (by omega)⟩
  · rw [opt_f (p := fun _ => b = 3) c]; exact h1
theorem shk_j {n q : Rc} {N K : Nat} {b : Int32} (h : Ok q ∧ JR N K q) : Ok (shkR n b q) ∧ JR N K (shkR n b q) := by
  have h1 := it_j (M := iv (n 10 0)) (F := shB b) (fun j w _ hw => shB_j hw) h _ (Nat.le_refl _)
  unfold shkR
  generalize itN (shB b) (iv (n 10 0)) q = v at h1 ⊢
  by_cases c : ¬ b < 2
  · rw [opt_t (p := fun _ => ¬ b < 2) c]
    exact it_j (M := iv (n 0 0)) (fun j w _ hw => spB_j hw) h1 _ (Nat.le_refl _)
  · rw [opt_f (p := fun _ => ¬ b < 2) c]; exact h1
theorem md_j {n q : Rc} (okn : Ok n) (h : Ok q ∧ JR (iv (n 0 0)) (iv (n 10 0)) q) {k : Nat} (hk : k ≤ iv (n 10 0)) : Ok (itN (wrkR n) k q) ∧ JR (iv (n 0 0)) (iv (n 10 0)) (itN (wrkR n) k q) := by
  have h4 := okn.k4
  exact it_j (M := iv (n 10 0)) (fun j w hj hw => ⟨(wrkR_pr okn (by omega)).ok hw.1, hw.2.wrk okn (by omega)⟩) h k hk
theorem ps_st_j {n q : Rc} (okn : Ok n) (h : Ok q ∧ JR (iv (n 0 0)) (iv (n 10 0)) q) (k : Nat) : Ok (itN (fun st => opt (fun w => n 20 st = w 30 0) (pstR n (nI st))) k q) ∧ JR (iv (n 0 0)) (iv (n 10 0)) (itN (fun st => opt (fun w => n 20 st = w 30 0) (pstR n (nI st))) k q) := by
  refine it_j (M := k) (fun j w _ hw => ?_) h k (Nat.le_refl _)
  by_cases c : n 20 j = w 30 0
  · rw [opt_t (p := fun w => n 20 j = w 30 0) c]; exact pst_j okn hw
  · rw [opt_f (p := fun w => n 20 j = w 30 0) c]; exact hw
theorem ps_sh_j {n q : Rc} {N K : Nat} (h : Ok q ∧ JR N K q) (k : Nat) : Ok (itN (fun st => opt (fun w => n 20 st + 5 = w 30 0) (shkR n (n 21 st))) k q) ∧ JR N K (itN (fun st => opt (fun w => n 20 st + 5 = w 30 0) (shkR n (n 21 st))) k q) := by
  refine it_j (M := k) (fun j w _ hw => ?_) h k (Nat.le_refl _)
  by_cases c : n 20 j + 5 = w 30 0
  · rw [opt_t (p := fun w => n 20 j + 5 = w 30 0) c]; exact shk_j hw
  · rw [opt_f (p := fun w => n 20 j + 5 = w 30 0) c]; exact hw
theorem psR_j {n q : Rc} (okn : Ok n) (h : Ok q ∧ JR (iv (n 0 0)) (iv (n 10 0)) q) : Ok (psR n q) ∧ JR (iv (n 0 0)) (iv (n 10 0)) (psR n q) := by
  have h1 := ps_sh_j (n := n) (ps_st_j okn (md_j okn h (Nat.le_refl _)) 8) 8
  unfold psR mdR
  exact ⟨(Pr.pt 30 Pr.rf (by omega) (fun _ => trivial)).ok h1.1, h1.2.p (by omega) (by omega) (by omega)⟩
theorem psN_j {n q : Rc} (okn : Ok n) (h : Ok q ∧ JR (iv (n 0 0)) (iv (n 10 0)) q) (k : Nat) : Ok (itN (fun _ w => psR n w) k q) ∧ JR (iv (n 0 0)) (iv (n 10 0)) (itN (fun _ w => psR n w) k q) := it_j (M := k) (fun _ _ _ hw => psR_j okn hw) h k (Nat.le_refl _)
theorem cnt_z {p : Nat → Bool} {n : Nat} (h : p n = false) : cntN p (n + 1) = cntN p n + 0 := by
  rw [cntN, if_neg (by rw [h]; decide)]
theorem full_t {h : Nat → Int32} {m : Nat} (c : h (m + 1) ≤ h (fullN h m)) : fullN h (m + 1) = fullN h m := by
  rw [fullN, if_pos c]
theorem full_f {h : Nat → Int32} {m : Nat} (c : ¬ h (m + 1) ≤ h (fullN h m)) : fullN h (m + 1) = m + 1 := by
  rw [fullN, if_neg c]
theorem sumR_s {n q : Rc} {k : Nat} : sumR n q (k + 1) = sumR n q k + psA n (itN (fun _ w => psR n w) k q) := rfl
