/-! the two loops of a served station are one -/
theorem opt_cm {p p' : Rc → Prop} [DecidablePred p] [DecidablePred p'] {f : Rc → Rc} {g : Rc → Rc} {q : Rc} (hp : p' (g q) ↔ p q) (hf : p q → f (g q) = g (f q)) : opt p' f (g q) = g (opt p f q) := by
  by_cases c : p q
  · rw [opt_t c, opt_t (hp.mpr c)]; exact hf c
  · rw [opt_f c, opt_f (fun z => c (hp.mp z))]
theorem end_cm {q : Rc} {k j : Nat} {t v : Int32} {f : Nat} (hf : f = 3 ∨ f = 5) (hne : j ≠ k) (hx : q 3 k = 2 → iv (q 15 (iv (q 4 k))) = k) : endR k t (put q f j v) = put (endR k t q) f j v := by
  have r : ∀ g x, g ≠ f ∨ x ≠ j → (put q f j v) g x = q g x := fun g x hg => by
    rw [put_at]
    exact if_neg (fun z => hg.elim (fun y => y z.1) (fun y => y z.2))
  have r3 : (put q f j v) 3 k = q 3 k := r 3 k (Or.inr (Ne.symm hne))
  have r4 : (put q f j v) 4 k = q 4 k := r 4 k (Or.inr (Ne.symm hne))
  have r30 : (put q f j v) 30 0 = q 30 0 := r 30 0 (Or.inl (by omega))
  have r15 : ∀ s, (put q f j v) 15 s = q 15 s := fun s => r 15 s (Or.inl (by omega))
  by_cases c : q 3 k = 2
  · rw [end_h (q := put q f j v) (by rw [r3]; exact c) (by rw [r4, r15]; exact hx c), end_h c (hx c), r4, r30]
    rw [put_comm (f := f) (f' := 4) (Or.inl (by omega)), put_comm (f := f) (f' := 15) (Or.inl (by omega)), put_comm (f := f) (f' := 16) (Or.inl (by omega)), put_comm (f := f) (i := j) (f' := 3) (i' := k) (Or.inr hne), put_comm (f := f) (i := j) (f' := 5) (i' := k) (Or.inr hne)]
  · rw [end_n (q := put q f j v) (by rw [r3]; exact c), end_n c, r30]
    rw [put_comm (f := f) (i := j) (f' := 3) (i' := k) (Or.inr hne), put_comm (f := f) (i := j) (f' := 5) (i' := k) (Or.inr hne)]
theorem ps1_cm {n q : Rc} {st : Int32} {k j : Nat} {v : Int32} {f : Nat} (hf : f = 3 ∨ f = 5) (hne : j ≠ k) (hx : q 3 k = 2 → iv (q 15 (iv (q 4 k))) = k) : ps1R n st k (put q f j v) = put (ps1R n st k q) f j v := by
  have r3 : (put q f j v) 3 k = q 3 k := by
    rw [put_at]
    exact if_neg (fun z => hne z.2.symm)
  unfold ps1R
  rw [r3, end_cm hf hne hx, end_cm hf hne hx]
  by_cases c : n 1 k / 2 = st ∧ q 3 k = 3
  · rw [if_pos c, if_pos c]
  · rw [if_neg c, if_neg c]
    by_cases d : n 1 k / 2 = st ∧ (q 3 k = 1 ∨ q 3 k = 2)
    · rw [if_pos d, if_pos d]
    · rw [if_neg d, if_neg d]
theorem end_3 {q : Rc} {k j : Nat} {t : Int32} (hne : j ≠ k) (hx : q 3 k = 2 → iv (q 15 (iv (q 4 k))) = k) : (endR k t q) 3 j = q 3 j := by
  by_cases c : q 3 k = 2
  · rw [end_h c (hx c), put_ne (by omega), put_at, if_neg (fun z => hne z.2), put_ne (by omega), put_ne (by omega), put_ne (by omega)]
  · rw [end_n c, put_ne (by omega), put_at, if_neg (fun z => hne z.2)]
theorem end_30 {q : Rc} {k : Nat} {t : Int32} (hx : q 3 k = 2 → iv (q 15 (iv (q 4 k))) = k) : (endR k t q) 30 0 = q 30 0 := by
  by_cases c : q 3 k = 2
  · rw [end_h c (hx c), put_ne (by omega), put_ne (by omega), put_ne (by omega), put_ne (by omega), put_ne (by omega)]
  · rw [end_n c, put_ne (by omega), put_ne (by omega)]
theorem ps1_r {n q : Rc} {st : Int32} {k : Nat} (P : Rc → Prop) (h0 : P q) (h4 : P (endR k 4 q)) (h5 : P (endR k 5 q)) : P (ps1R n st k q) := by
  unfold ps1R
  by_cases c : n 1 k / 2 = st ∧ q 3 k = 3
  · rw [if_pos c]; exact h4
  · rw [if_neg c]
    by_cases d : n 1 k / 2 = st ∧ (q 3 k = 1 ∨ q 3 k = 2)
    · rw [if_pos d]; exact h5
    · rw [if_neg d]; exact h0
theorem ps12 {n q : Rc} {st : Int32} {k j : Nat} (hne : j ≠ k) (hx : q 3 k = 2 → iv (q 15 (iv (q 4 k))) = k) : ps2R n st j (ps1R n st k q) = ps1R n st k (ps2R n st j q) := by
  have a3 : (ps1R n st k q) 3 j = q 3 j := ps1_r (fun w => w 3 j = q 3 j) rfl (end_3 hne hx) (end_3 hne hx)
  have a30 : (ps1R n st k q) 30 0 = q 30 0 := ps1_r (fun w => w 30 0 = q 30 0) rfl (end_30 hx) (end_30 hx)
  have n02 : ¬ (0 : Int32) = 2 := by decide
  unfold ps2R
  rw [a3]
  by_cases c : q 3 j = 0 ∧ n 2 j = st
  · rw [if_pos c, if_pos c]
    have c2 : ¬ q 3 j = 2 := by rw [c.1]; exact n02
    by_cases d : n 1 j / 2 ≤ st
    · rw [if_pos d, if_pos d, end_n (q := ps1R n st k q) (by rw [a3]; exact c2), end_n c2, a30]
      have r : ∀ g x, g ≠ 3 ∨ x ≠ j → (put q 3 j 5) g x = q g x := fun g x hg => by
        rw [put_at]
        exact if_neg (fun z => hg.elim (fun y => y z.1) (fun y => y z.2))
      rw [ps1_cm (f := 5) (Or.inr rfl) hne (by rw [r 3 k (Or.inr (Ne.symm hne)), r 4 k (Or.inl (by omega)), r 15 _ (Or.inl (by omega))]; exact hx), ps1_cm (f := 3) (Or.inl rfl) hne hx]
    · rw [if_neg d, if_neg d]
      exact (ps1_cm (Or.inl rfl) hne hx).symm
  · rw [if_neg c, if_neg c]
theorem JR.hx {N K : Nat} {q : Rc} (h : JR N K q) {k : Nat} (hk : k < 60) : q 3 k = 2 → iv (q 15 (iv (q 4 k))) = k := fun c => by
  rw [(h.1 k hk c).2, iv_nI (by omega)]
theorem it_cm {F : Nat → Rc → Rc} {g : Rc → Rc} {I : Rc → Prop} {M : Nat} (hI : ∀ j w, j < M → I w → I (F j w)) (hc : ∀ j w, j < M → I w → F j (g w) = g (F j w)) {q : Rc} (h : I q) : ∀ m, m ≤ M → itN F m (g q) = g (itN F m q) ∧ I (itN F m q)
  | 0, _ => ⟨rfl, h⟩
  | m + 1, hm => by
    obtain ⟨a, b⟩ := it_cm hI hc h m (by omega)
    refine ⟨?_, hI m _ (by omega) b⟩
    rw [itN_s, itN_s, a, hc m _ (by omega) b]
theorem pst_mg {n q : Rc} (okn : Ok n) {st : Int32} (hq : Ok q ∧ JR (iv (n 0 0)) (iv (n 10 0)) q) : ∀ m, m ≤ iv (n 0 0) → itN (ps2R n st) m (itN (ps1R n st) m q) = itN (fun j w => ps2R n st j (ps1R n st j w)) m q
  | 0, _ => rfl
  | m + 1, hm => by
    have hn := okn.n60
    rw [itN_s, itN_s, itN_s, ← pst_mg okn hq m (by omega)]
    have h1 := ps1s_j (st := st) okn hq (k := m) (by omega)
    have h2 := it_cm (F := ps2R n st) (g := ps1R n st m) (I := fun w => Ok w ∧ JR (iv (n 0 0)) (iv (n 10 0)) w) (M := m) (fun j w hj hw => ps2_j hn okn.k4 (by omega) hw) (fun j w hj hw => ps12 (by omega) (hw.2.hx (by omega))) h1 m (Nat.le_refl _)
    rw [h2.1]
theorem Sm.pst {n q u : Rc} (h : Sm n q u) (okn : Ok n) (hq : Ok q ∧ JR (iv (n 0 0)) (iv (n 10 0)) q) {st : Int32} : Sm n (pstR n st q) (srvF st u) := by
  have hn := okn.n60
  unfold pstR srvF
  rw [pst_mg okn hq _ (Nat.le_refl _), h.1.f 0 sta0]
  exact Sm.it (F := fun j w => ps2R n st j (ps1R n st j w)) (G := srvB st) (M := iv (n 0 0)) (N := iv (n 0 0)) (K := iv (n 10 0)) (fun j q u hj hs hw => Sm.srv (j := j) (st := st) hs okn hw hj) (fun j w hj hw => ps2_j hn okn.k4 (by omega) (ps1_j hn okn.k4 (by omega) hw)) h hq _ (Nat.le_refl _)
