/-! the class's record and the reference's records agree: what each step keeps -/
def dyn (g : Nat) : Prop := (3 ≤ g ∧ g ≤ 5) ∨ (12 ≤ g ∧ g ≤ 17) ∨ g = 30
def sta (g : Nat) : Prop := g ≤ 2 ∨ g = 10 ∨ g = 11
def Rl (n q u : Rc) : Prop := ∀ g, (dyn g → u g = q g) ∧ (sta g → u g = n g)
theorem put_self {u : Rc} {f i : Nat} {v : Int32} : put u f i v f = upd (u f) i v := by
  unfold put
  rw [if_pos rfl]
theorem Rl.ptt {n q u : Rc} (h : Rl n q u) {f i : Nat} {v : Int32} (hf : dyn f) : Rl n (put q f i v) (put u f i v) := by
  intro g
  by_cases c : g = f
  · subst c
    refine ⟨fun hg => ?_, fun hg => ?_⟩
    · rw [put_self, put_self, (h g).1 hg]
    · exfalso
      unfold dyn at hf
      unfold sta at hg
      omega
  · rw [put_rw c, put_rw c]
    exact h g
theorem Rl.ca {n q u : Rc} (h : Rl n q u) {f i : Nat} {v : Int32} (hf : f = 6 ∨ f = 7) : Rl n q (put u f i v) := by
  intro g
  refine ⟨fun hg => ?_, fun hg => ?_⟩
  · rw [put_rw (fun c => by unfold dyn at hg; omega)]
    exact (h g).1 hg
  · rw [put_rw (fun c => by unfold sta at hg; omega)]
    exact (h g).2 hg
theorem Rl.optt {n q u : Rc} {p : Rc → Prop} [DecidablePred p] {f : Rc → Rc} (h : Rl n q u) (hf : ∀ w, Rl n q w → Rl n q (f w)) : Rl n q (opt p f u) := by
  by_cases c : p u
  · rw [opt_t c]; exact hf u h
  · rw [opt_f c]; exact h
theorem Rl.mv {n q u : Rc} (h : Rl n q u) {j : Nat} {t : Int32} : Rl n (put (put q 4 j (-1)) 3 j t) (mvF u j t) := by
  unfold mvF
  refine Rl.ptt (Rl.ptt ?_ (by unfold dyn; omega)) (by unfold dyn; omega)
  refine Rl.optt (Rl.optt ?_ (fun w hw => ?_)) (fun w hw => ?_)
  · exact (h.ca (Or.inl rfl)).ca (Or.inl rfl)
  · exact hw.ca (Or.inr rfl)
  · exact hw.ca (Or.inr rfl)
-- puts that commute
theorem upd_upd {f : Nat → Int32} {i : Nat} {a b : Int32} : upd (upd f i a) i b = upd f i b := by
  funext k
  unfold upd
  by_cases c : k = i
  · rw [if_pos c, if_pos c]
  · rw [if_neg c, if_neg c, if_neg c]
theorem upd_same {f : Nat → Int32} {i : Nat} {a : Int32} (h : f i = a) : upd f i a = f := by
  funext k
  unfold upd
  by_cases c : k = i
  · rw [if_pos c, c, h]
  · rw [if_neg c]
theorem put_put {u : Rc} {f i : Nat} {a b : Int32} : put (put u f i a) f i b = put u f i b := by
  funext g
  by_cases c : g = f
  · subst c
    rw [put_self, put_self, put_self, upd_upd]
  · rw [put_rw c, put_rw c, put_rw c]
theorem put_same {u : Rc} {f i : Nat} {a : Int32} (h : u f i = a) : put u f i a = u := by
  funext g
  by_cases c : g = f
  · subst c
    rw [put_self, upd_same h]
  · rw [put_rw c]
theorem put_comm {u : Rc} {f i f' i' : Nat} {a b : Int32} (h : f ≠ f' ∨ i ≠ i') : put (put u f i a) f' i' b = put (put u f' i' b) f i a := by
  funext g k
  rw [put_at, put_at, put_at, put_at]
  by_cases c : g = f ∧ k = i
  · by_cases d : g = f' ∧ k = i'
    · exfalso
      rcases h with h | h
      · exact h (c.1.symm.trans d.1)
      · exact h (c.2.symm.trans d.2)
    · rw [if_neg d, if_pos c, if_pos c]
  · by_cases d : g = f' ∧ k = i'
    · rw [if_pos d, if_neg c, if_pos d]
    · rw [if_neg d, if_neg c, if_neg c, if_neg d]
-- counts
theorem cnt_cg {p q : Nat → Bool} : ∀ {n : Nat}, (∀ k, k < n → p k = q k) → cntN p n = cntN q n
  | 0, _ => rfl
  | n + 1, h => by rw [cntN, cntN, cnt_cg (fun k hk => h k (by omega)), h n (by omega)]
theorem i3 (A x y : Int32) : A + x + y = A + y + x := by rw [Int32.add_assoc, Int32.add_comm x y, ← Int32.add_assoc]
theorem cnt_upd {p q : Nat → Bool} {j : Nat} (hne : ∀ k, k ≠ j → p k = q k) : ∀ {n : Nat}, j < n → cntN q n + (if p j = true then 1 else 0) = cntN p n + (if q j = true then 1 else 0)
  | 0, h => absurd h (by omega)
  | n + 1, h => by
    rw [cntN, cntN]
    by_cases c : j = n
    · subst c
      rw [cnt_cg (p := q) (q := p) (fun k hk => (hne k (by omega)).symm), i3]
    · rw [i3, cnt_upd hne (by omega), i3, hne n (Ne.symm c)]
theorem i4 {A B b d : Int32} (h : A + b = B + d) : B - b + d = A := by
  have e : (B - b + d) + b = A + b := by rw [i3, Int32.sub_add_cancel, h]
  rw [← Int32.add_sub_cancel (B - b + d) b, e, Int32.add_sub_cancel]
theorem cnt_nat (p : Nat → Bool) : ∀ n : Nat, ∃ c, c ≤ n ∧ cntN p n = nI c ∧ (c = 0 → ∀ k, k < n → p k = false)
  | 0 => ⟨0, Nat.le_refl 0, rfl, fun _ k hk => absurd hk (by omega)⟩
  | n + 1 => by
    obtain ⟨c, h1, h2, h3⟩ := cnt_nat p n
    cases hp : p n with
    | true => exact ⟨c + 1, by omega, by rw [cnt_t hp, h2, nI_1], fun h => absurd h (by omega)⟩
    | false =>
      refine ⟨c, by omega, by rw [cnt_f hp, h2], fun h k hk => ?_⟩
      rcases Nat.lt_or_ge k n with q | q
      · exact h3 h k q
      · rw [show k = n by omega]; exact hp
theorem cnt_0 {p : Nat → Bool} {n : Nat} (hn : n ≤ 60) (h : cntN p n = 0) : ∀ k, k < n → p k = false := by
  obtain ⟨c, h1, h2, h3⟩ := cnt_nat p n
  refine h3 ?_
  rw [h2] at h
  exact (nI_eq (a := c) (b := 0) (by omega) (by decide)).mp h
-- the two caches
def Ca (u : Rc) : Prop := (∀ p, p < 6 → u 6 p = cntN (fun k => decide (u 3 k = nI p)) (iv (u 0 0))) ∧ (∀ t, t < 16 → u 7 t = cntN (fun k => decide (u 3 k = 3 ∧ u 1 k = nI t)) (iv (u 0 0)))
theorem Ca.cg {u w : Rc} (h : Ca u) (h0 : w 0 = u 0) (h1 : w 1 = u 1) (h3 : w 3 = u 3) (h6 : w 6 = u 6) (h7 : w 7 = u 7) : Ca w := by
  unfold Ca
  rw [h0, h1, h3, h6, h7]
  exact h
theorem Ca.p {u : Rc} (h : Ca u) {f i : Nat} {v : Int32} (hf : f ≠ 0 ∧ f ≠ 1 ∧ f ≠ 3 ∧ f ≠ 6 ∧ f ≠ 7) : Ca (put u f i v) := h.cg (put_rw (Ne.symm hf.1)) (put_rw (Ne.symm hf.2.1)) (put_rw (Ne.symm hf.2.2.1)) (put_rw (Ne.symm hf.2.2.2.1)) (put_rw (Ne.symm hf.2.2.2.2))
theorem opt_row {p : Rc → Prop} [DecidablePred p] {f : Rc → Rc} {u : Rc} {g : Nat} (h : ∀ w, f w g = w g) : opt p f u g = u g := by
  by_cases c : p u
  · rw [opt_t c]; exact h u
  · rw [opt_f c]
theorem mv_3 {u : Rc} {j : Nat} {t : Int32} : mvF u j t 3 = upd (u 3) j t := by
  unfold mvF
  rw [put_self, put_rw (by omega), opt_row (fun w => by unfold mvD; rw [put_rw (by omega)]), opt_row (fun w => by unfold mvC; rw [put_rw (by omega)])]
  unfold mvB mvA
  rw [put_rw (by omega), put_rw (by omega)]
theorem mv_6 {u : Rc} {j : Nat} {t : Int32} {p : Nat} : mvF u j t 6 p = u 6 p - (if iv (u 3 j) = p then 1 else 0) + (if iv t = p then 1 else 0) := by
  unfold mvF
  rw [put_ne (by omega), put_ne (by omega), opt_row (g := 6) (fun w => by unfold mvD; rw [put_rw (by omega)]), opt_row (g := 6) (fun w => by unfold mvC; rw [put_rw (by omega)])]
  unfold mvB
  rw [put_at]
  have e1 : ∀ x, mvA j u 6 x = u 6 x - (if iv (u 3 j) = x then 1 else 0) := by
    intro x
    unfold mvA
    rw [put_at]
    by_cases c : x = iv (u 3 j)
    · rw [if_pos ⟨rfl, c⟩, if_pos c.symm, c]
    · rw [if_neg (fun z => c z.2), if_neg (fun z => c z.symm), Int32.sub_zero]
  by_cases c : p = iv t
  · rw [if_pos ⟨rfl, c⟩, e1, if_pos c.symm, c]
  · rw [if_neg (fun z => c z.2), e1, if_neg (fun z => c z.symm) (c := iv t = p), Int32.add_zero]
theorem mv_7 {u : Rc} {j : Nat} {t : Int32} {p : Nat} : mvF u j t 7 p = u 7 p - (if u 3 j = 3 ∧ iv (u 1 j) = p then 1 else 0) + (if t = 3 ∧ iv (u 1 j) = p then 1 else 0) := by
  unfold mvF
  rw [put_ne (by omega), put_ne (by omega)]
  have r1 : ∀ w : Rc, w 1 = u 1 → ∀ x, (opt (fun _ => u 3 j = 3) (mvC j) w) 7 x = w 7 x - (if u 3 j = 3 ∧ iv (u 1 j) = x then 1 else 0) := by
    intro w hw x
    by_cases c : u 3 j = 3
    · rw [opt_t (p := fun _ => u 3 j = 3) c]
      unfold mvC
      rw [put_at, hw]
      by_cases d : x = iv (u 1 j)
      · rw [if_pos ⟨rfl, d⟩, if_pos ⟨c, d.symm⟩, d]
      · rw [if_neg (fun z => d z.2), if_neg (fun z => d z.2.symm), Int32.sub_zero]
    · rw [opt_f (p := fun _ => u 3 j = 3) c, if_neg (fun z => c z.1), Int32.sub_zero]
  have r2 : ∀ w : Rc, w 1 = u 1 → ∀ x, (opt (fun _ => t = 3) (mvD j) w) 7 x = w 7 x + (if t = 3 ∧ iv (u 1 j) = x then 1 else 0) := by
    intro w hw x
    by_cases c : t = 3
    · rw [opt_t (p := fun _ => t = 3) c]
      unfold mvD
      rw [put_at, hw]
      by_cases d : x = iv (u 1 j)
      · rw [if_pos ⟨rfl, d⟩, if_pos ⟨c, d.symm⟩, d]
      · rw [if_neg (fun z => d z.2), if_neg (fun z => d z.2.symm), Int32.add_zero]
    · rw [opt_f (p := fun _ => t = 3) c, if_neg (fun z => c z.1), Int32.add_zero]
  have a1 : mvB t (mvA j u) 1 = u 1 := by unfold mvB mvA; rw [put_rw (by omega), put_rw (by omega)]
  have a7 : mvB t (mvA j u) 7 = u 7 := by unfold mvB mvA; rw [put_rw (by omega), put_rw (by omega)]
  have a2 : (opt (fun _ => u 3 j = 3) (mvC j) (mvB t (mvA j u))) 1 = u 1 := by
    rw [opt_row (fun w => by unfold mvC; rw [put_rw (by omega)])]; exact a1
  rw [r2 _ a2, r1 _ a1, a7]
theorem Ca.mv {u : Rc} (h : Ca u) (ok : Ok u) {j : Nat} (hj : j < iv (u 0 0)) {t : Int32} (ht : vp_in t 6) : Ca (mvF u j t) := by
  have h0 : mvF u j t 0 = u 0 := mv_rw 0 rfl
  have h1 : mvF u j t 1 = u 1 := mv_rw 1 rfl
  have e3 : u 3 j = nI (iv (u 3 j)) := vi_eq (n := 6) (ok 3 j) (by decide)
  have l3 : iv (u 3 j) < 6 := vi_lt (n := 6) (ok 3 j)
  have e1 : u 1 j = nI (iv (u 1 j)) := vi_eq (n := 16) (ok 1 j) (by decide)
  have l1 : iv (u 1 j) < 16 := vi_lt (n := 16) (ok 1 j)
  have et : t = nI (iv t) := vi_eq ht (by decide)
  have lt := vi_lt ht
  unfold Ca
  rw [h0, h1, mv_3]
  refine ⟨fun p hp => ?_, fun s hs => ?_⟩
  · rw [mv_6, h.1 p hp]
    refine i4 ?_
    have k := cnt_upd (p := fun k => decide (u 3 k = nI p)) (q := fun k => decide (upd (u 3) j t k = nI p)) (j := j) (fun k hk => by rw [pk_un hk]) hj
    have b1 : (if (decide (u 3 j = nI p)) = true then (1 : Int32) else 0) = if iv (u 3 j) = p then 1 else 0 := by
      by_cases c : iv (u 3 j) = p
      · rw [if_pos c, if_pos (decide_eq_true (by rw [e3, c]))]
      · rw [if_neg c, if_neg (by rw [decide_eq_true_iff]; intro z; exact c (by rw [z, iv_nI (by omega)]))]
    have b2 : (if (decide (upd (u 3) j t j = nI p)) = true then (1 : Int32) else 0) = if iv t = p then 1 else 0 := by
      rw [pk_us]
      by_cases c : iv t = p
      · rw [if_pos c, if_pos (decide_eq_true (by rw [et, c]))]
      · rw [if_neg c, if_neg (by rw [decide_eq_true_iff]; intro z; exact c (by rw [z, iv_nI (by omega)]))]
    rw [b1, b2] at k
    exact k
  · rw [mv_7, h.2 s hs]
    refine i4 ?_
    have k := cnt_upd (p := fun k => decide (u 3 k = 3 ∧ u 1 k = nI s)) (q := fun k => decide (upd (u 3) j t k = 3 ∧ u 1 k = nI s)) (j := j) (fun k hk => by rw [pk_un hk]) hj
    have b1 : ∀ x : Int32, (if (decide (x = 3 ∧ u 1 j = nI s)) = true then (1 : Int32) else 0) = if x = 3 ∧ iv (u 1 j) = s then 1 else 0 := by
      intro x
      by_cases c : x = 3 ∧ iv (u 1 j) = s
      · rw [if_pos c, if_pos (decide_eq_true ⟨c.1, by rw [e1, c.2]⟩)]
      · rw [if_neg c, if_neg (by rw [decide_eq_true_iff]; intro z; exact c ⟨z.1, by rw [z.2, iv_nI (by omega)]⟩)]
    have k2 := b1 (u 3 j)
    have k3 := b1 (upd (u 3) j t j)
    rw [pk_us] at k3
    rw [k2] at k
    rw [pk_us, k3] at k
    exact k
