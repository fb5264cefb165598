/-! the minute -/
theorem selS {p : Nat → Int32 → Prop} [∀ a b, Decidable (p a b)] {F : Nat → Rc → Rc} {q : Rc} (h30 : ∀ st, (F st q) 30 0 = q 30 0) (hu : ∀ a b, a < 8 → b < 8 → p a (q 30 0) → p b (q 30 0) → a = b) : ∀ M, M ≤ 8 → itN (fun st => opt (fun w => p st (w 30 0)) (F st)) M q = (if fnd (fun st => decide (p st (q 30 0))) M = -1 then q else F (iv (fnd (fun st => decide (p st (q 30 0))) M)) q)
  | 0, _ => (if_pos rfl).symm
  | M + 1, hM => by
    rw [itN_s, selS h30 hu M (by omega)]
    rcases fnd_spec (fun st => decide (p st (q 30 0))) M (by omega) with ⟨h1, h2⟩ | ⟨i, h1, h2, h3, h4⟩
    · rw [h1, if_pos rfl, fnd, h1, if_pos rfl]
      by_cases c : p M (q 30 0)
      · rw [opt_t (p := fun w => p M (w 30 0)) c, if_pos (decide_eq_true c), if_neg (nI_nm1 (by omega)), iv_nI (by omega)]
      · have d : (if decide (p M (q 30 0)) = true then nI M else (-1 : Int32)) = -1 := if_neg (by rw [decide_eq_true_iff]; exact c)
        rw [opt_f (p := fun w => p M (w 30 0)) c, d, if_pos rfl]
    · rw [h2, if_neg (nI_nm1 (by omega)), fnd, h2, if_neg (nI_nm1 (by omega)), if_neg (nI_nm1 (by omega)), iv_nI (by omega)]
      refine opt_f (p := fun w => p M (w 30 0)) (fun c => ?_)
      rw [h30] at c
      have := hu i M (by omega) (by omega) (of_decide_eq_true h3) c
      omega
theorem ps1_30 {n q : Rc} {st : Int32} {k : Nat} (hx : q 3 k = 2 → iv (q 15 (iv (q 4 k))) = k) : (ps1R n st k q) 30 0 = q 30 0 := ps1_r (fun w => w 30 0 = q 30 0) rfl (end_30 hx) (end_30 hx)
theorem ps2_30 {n q : Rc} {st : Int32} {j : Nat} : (ps2R n st j q) 30 0 = q 30 0 := by
  unfold ps2R
  by_cases c : q 3 j = 0 ∧ n 2 j = st
  · rw [if_pos c]
    by_cases d : n 1 j / 2 ≤ st
    · rw [if_pos d, end_n (by rw [c.1]; decide), put_ne (by omega), put_ne (by omega)]
    · rw [if_neg d, put_ne (by omega)]
  · rw [if_neg c]
theorem pst_30 {n q : Rc} (okn : Ok n) {st : Int32} (hq : Ok q ∧ JR (iv (n 0 0)) (iv (n 10 0)) q) : (pstR n st q) 30 0 = q 30 0 := by
  have hn := okn.n60
  have a : ∀ m w, itN (ps2R n st) m w 30 0 = w 30 0 := fun m w => by
    induction m with
    | zero => rfl
    | succ m ih => rw [itN_s, ps2_30, ih]
  have b : ∀ m, m ≤ iv (n 0 0) → itN (ps1R n st) m q 30 0 = q 30 0 := fun m => by
    induction m with
    | zero => exact fun _ => rfl
    | succ m ih =>
      intro hm
      rw [itN_s, ps1_30 ((ps1s_j okn hq (by omega)).2.hx (by omega)), ih (by omega)]
  unfold pstR
  rw [a, b _ (Nat.le_refl _)]
theorem shk_30 {n q : Rc} {b : Int32} : (shkR n b q) 30 0 = q 30 0 := by
  have a : ∀ m w, itN (shB b) m w 30 = w 30 := it_row (fun j w => by
    unfold shB
    rw [opt_row (g := 30) (fun w => by rw [put_rw (by omega)]), opt_row (g := 30) (fun w => by rw [put_rw (by omega)])])
  have c : ∀ f m w, itN (spB n f) m w 30 = w 30 := fun f => it_row (fun j w => by
    unfold spB
    rw [opt_row (g := 30) (fun w => by rw [put_rw (by omega)])])
  unfold shkR
  rw [opt_row (g := 30) (fun w => c _ _ _), a]
theorem sub5 {a b : Int32} : a = b - 5 ↔ a + 5 = b := ⟨fun h => by rw [h, Int32.sub_add_cancel], fun h => by rw [← h, Int32.add_sub_cancel]⟩
def Inj (n : Rc) : Prop := ∀ a b, a < 8 → b < 8 → n 20 a = n 20 b → a = b
theorem add5 {a b : Int32} (h : a + 5 = b + 5) : a = b := by
  have := congrArg (fun x => x - 5) h
  simpa only [Int32.add_sub_cancel] using this
/-- the line of the class and the reference's rows -/
def Ln (n r : Rc) : Prop := r 20 = n 20 ∧ r 21 = n 21 ∧ (∀ a, vp_in (n 21 a) 4) ∧ Inj n
theorem Sm.st {n q u r : Rc} (h : Sm n q u) (okn : Ok n) (hl : Ln n r) (hq : Ok q ∧ JR (iv (n 0 0)) (iv (n 10 0)) q) : Sm n (itN (fun st => opt (fun w => n 20 st = w 30 0) (pstR n (nI st))) 8 q) (opt (fun w => ¬ psdF r (w 30 0) = -1) (fun w => srvF (psdF r (w 30 0)) w) u) := by
  rw [selS (p := fun st m => n 20 st = m) (F := fun st => pstR n (nI st)) (fun st => pst_30 okn hq) (fun a b ha hb h1 h2 => hl.2.2.2 a b ha hb (h1.trans h2.symm)) 8 (Nat.le_refl _)]
  have e : psdF r (u 30 0) = fnd (fun st => decide (n 20 st = q 30 0)) 8 := by
    unfold psdF
    rw [hl.1, h.1.e 30 dyn30]
  rcases fnd_spec (fun st => decide (n 20 st = q 30 0)) 8 (by omega) with ⟨h1, h2⟩ | ⟨i, h1, h2, h3, h4⟩
  · rw [h1] at e
    rw [h1, if_pos rfl, opt_f (p := fun w => ¬ psdF r (w 30 0) = -1) (fun z => z e)]
    exact h
  · rw [h2] at e
    rw [h2, if_neg (nI_nm1 (by omega)), opt_t (p := fun w => ¬ psdF r (w 30 0) = -1) (by rw [e]; exact nI_nm1 (by omega)), e, iv_nI (by omega)]
    exact h.pst okn hq
theorem Sm.sk {n q u r : Rc} (h : Sm n q u) (okn : Ok n) (hl : Ln n r) (hq : Ok q ∧ JR (iv (n 0 0)) (iv (n 10 0)) q) : Sm n (itN (fun st => opt (fun w => n 20 st + 5 = w 30 0) (shkR n (n 21 st))) 8 q) (opt (fun w => ¬ psdF r (w 30 0 - 5) = -1) (fun w => shkF (r 21 (iv (psdF r (w 30 0 - 5)))) w) u) := by
  rw [selS (p := fun st m => n 20 st + 5 = m) (F := fun st => shkR n (n 21 st)) (fun st => shk_30) (fun a b ha hb h1 h2 => hl.2.2.2 a b ha hb (add5 (h1.trans h2.symm))) 8 (Nat.le_refl _)]
  have e : psdF r (u 30 0 - 5) = fnd (fun st => decide (n 20 st + 5 = q 30 0)) 8 := by
    unfold psdF
    rw [hl.1, h.1.e 30 dyn30]
    exact fnd_cg (fun k _ => decide_eq_decide.mpr sub5)
  rcases fnd_spec (fun st => decide (n 20 st + 5 = q 30 0)) 8 (by omega) with ⟨h1, h2⟩ | ⟨i, h1, h2, h3, h4⟩
  · rw [h1] at e
    rw [h1, if_pos rfl, opt_f (p := fun w => ¬ psdF r (w 30 0 - 5) = -1) (fun z => z e)]
    exact h
  · rw [h2] at e
    rw [h2, if_neg (nI_nm1 (by omega)), opt_t (p := fun w => ¬ psdF r (w 30 0 - 5) = -1) (by rw [e]; exact nI_nm1 (by omega)), e, iv_nI (by omega), hl.2.1]
    exact h.shk okn hq (hl.2.2.1 i)
theorem Sm.min {n q u r : Rc} (h : Sm n q u) (okn : Ok n) (hl : Ln n r) (hq : Ok q ∧ JR (iv (n 0 0)) (iv (n 10 0)) q) : Sm n (psR n q) (minF r u) := by
  have q1 : Ok (mdR n q) ∧ JR (iv (n 0 0)) (iv (n 10 0)) (mdR n q) := md_j okn hq (Nat.le_refl _)
  have h2 := ((h.md okn hq).st okn hl q1).sk okn hl (ps_st_j okn q1 8)
  unfold psR minF incS
  exact h2.pr (by rw [h2.1.e 30 dyn30]) dyn30 (by decide) trivial
theorem Sm.run {n q u r : Rc} (h : Sm n q u) (okn : Ok n) (hl : Ln n r) (hq : Ok q ∧ JR (iv (n 0 0)) (iv (n 10 0)) q) (k : Nat) : Sm n (psN n k q) (runF r k u) := by
  unfold psN runF
  exact Sm.it (F := fun _ w => psR n w) (G := fun _ w => minF r w) (M := k) (N := iv (n 0 0)) (K := iv (n 10 0)) (fun j q u hj hs hw => Sm.min hs okn hl hw) (fun j w hj hw => psR_j okn hw) h hq k (Nat.le_refl _)
