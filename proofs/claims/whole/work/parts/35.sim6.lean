/-! the shake and the minute -/
theorem Sm.it0 {n : Rc} {F G : Nat → Rc → Rc} (hF : ∀ j q u, Sm n q u → Sm n (F j q) (G j u)) {q u : Rc} (h : Sm n q u) : ∀ k, Sm n (itN F k q) (itN G k u)
  | 0 => h
  | k + 1 => hF k _ _ (Sm.it0 hF h k)
def teaB (s : Nat) (w : Rc) : Rc := put w 14 s 0
def tr3B (s : Nat) (w : Rc) : Rc := put w 13 s (w 13 s + 3)
theorem Sm.tea {n q u : Rc} (h : Sm n q u) : Sm n (itN teaB (iv (n 10 0)) q) (spTeaF u) := by
  unfold spTeaF
  rw [h.1.f 10 sta10]
  exact Sm.it0 (F := teaB) (G := fun s w => put w 14 s 0) (fun j q u hs => hs.pt dyn14 (by decide) trivial) h _
theorem Sm.tire {n q u : Rc} (h : Sm n q u) : Sm n (itN tr3B (iv (n 10 0)) q) (tireF 3 u) := by
  unfold tireF
  rw [h.1.f 10 sta10]
  exact Sm.it0 (F := tr3B) (G := fun s w => put w 13 s (w 13 s + 3)) (fun j q u hs => hs.pr (by rw [hs.1.e 13 dyn13]) dyn13 (by decide) trivial) h _
theorem Sm.spill {n q u : Rc} (h : Sm n q u) (okn : Ok n) (hq : Ok q ∧ JR (iv (n 0 0)) (iv (n 10 0)) q) {f : Int32} : Sm n (itN (spB n f) (iv (n 0 0)) q) (spillF f u) := by
  unfold spillF
  rw [h.1.f 0 sta0]
  refine Sm.it (F := spB n f) (G := spillB f) (M := iv (n 0 0)) (N := iv (n 0 0)) (K := iv (n 10 0)) (fun j q u hj hs hw => ?_) (fun j w hj hw => spB_j hw) h hq _ (Nat.le_refl _)
  unfold spB spillB
  refine hs.opt2 (by rw [hs.1.e 3 dyn3, hs.1.f 1 sta1]) (fun c => ?_)
  have h1 := hs.mv hj v16
  rw [put_same (hw.2.2.2 j hj (by rw [c.1]; decide))] at h1
  exact h1
theorem full_cg {a b : Nat → Int32} : ∀ m, (∀ t, t ≤ m → a t = b t) → fullN a m = fullN b m
  | 0, _ => rfl
  | m + 1, h => by
    have k := full_cg m (fun t ht => h t (by omega))
    have l := fullN_le b m
    rw [fullN, fullN, k, h (m + 1) (by omega), h (fullN b m) (by omega)]
theorem full_eq {n q u : Rc} (h : Sm n q u) : fullN (u 7) 15 = fullN (fun t => holeR n q (nI t)) 15 := by
  refine full_cg 15 (fun t ht => ?_)
  rw [h.2.1.2 t (by omega)]
  unfold holeR
  rw [h.1.f 0 sta0, h.1.e 3 dyn3, h.1.f 1 sta1]
theorem it_mg {F G : Nat → Rc → Rc} (hc : ∀ j k w, j < k → F j (G k w) = G k (F j w)) : ∀ m q, itN F m (itN G m q) = itN (fun j w => F j (G j w)) m q
  | 0, _ => rfl
  | m + 1, q => by
    rw [itN_s, itN_s, itN_s, ← it_mg hc m q]
    have h2 := it_cm (F := F) (g := G m) (I := fun _ => True) (M := m) (fun _ _ _ _ => trivial) (fun j w hj _ => hc j m w hj) (q := itN G m q) trivial m (Nat.le_refl _)
    rw [h2.1]
theorem tt_cm {j k : Nat} {w : Rc} : tr3B j (teaB k w) = teaB k (tr3B j w) := by
  unfold tr3B teaB
  rw [put_ne (by omega), put_comm (f := 14) (f' := 13) (Or.inl (by decide))]
theorem tr_sp {n : Rc} {f : Int32} {j k : Nat} {w : Rc} : spB n f j (tr3B k w) = tr3B k (spB n f j w) := by
  unfold spB
  refine opt_cm (p := fun w => w 3 j = 3 ∧ n 1 j = f) (p' := fun w => w 3 j = 3 ∧ n 1 j = f) ?_ (fun _ => ?_)
  · unfold tr3B
    rw [put_ne (by omega)]
  · unfold tr3B
    rw [put_ne (i := j) (by omega), put_comm (f := 13) (f' := 3) (Or.inl (by decide))]
theorem it_id {F : Nat → Rc → Rc} (h : ∀ j w, F j w = w) : ∀ m q, itN F m q = q
  | 0, _ => rfl
  | m + 1, q => by rw [itN_s, it_id h m q, h]
theorem it_cg {F G : Nat → Rc → Rc} (h : ∀ j w, F j w = G j w) : ∀ m q, itN F m q = itN G m q
  | 0, _ => rfl
  | m + 1, q => by rw [itN_s, itN_s, it_cg h m q, h]
theorem it_row {F : Nat → Rc → Rc} {g : Nat} (h : ∀ j w, F j w g = w g) : ∀ m q, itN F m q g = q g
  | 0, _ => rfl
  | m + 1, q => by rw [itN_s, h, it_row h m q]
theorem sh0 {s : Nat} {w : Rc} : shB 0 s w = w := by
  unfold shB
  rw [opt_f (p := fun _ => (0 : Int32) = 3) (by decide), opt_f (p := fun _ => ¬ (0 : Int32) ≤ 0) (by decide)]
theorem sh1 {s : Nat} {w : Rc} : shB 1 s w = teaB s w := by
  unfold shB
  rw [opt_f (p := fun _ => (1 : Int32) = 3) (by decide), opt_t (p := fun _ => ¬ (1 : Int32) ≤ 0) (by decide)]
  rfl
theorem sh2 {s : Nat} {w : Rc} : shB 2 s w = teaB s w := by
  unfold shB
  rw [opt_f (p := fun _ => (2 : Int32) = 3) (by decide), opt_t (p := fun _ => ¬ (2 : Int32) ≤ 0) (by decide)]
  rfl
theorem sh3 {s : Nat} {w : Rc} : shB 3 s w = tr3B s (teaB s w) := by
  unfold shB
  rw [opt_t (p := fun _ => (3 : Int32) = 3) rfl, opt_t (p := fun _ => ¬ (3 : Int32) ≤ 0) (by decide)]
  rfl
def spR (n w : Rc) : Rc := itN (spB n (nI (fullN (fun t => holeR n w (nI t)) 15))) (iv (n 0 0)) w
theorem Sm.spr {n q u : Rc} (h : Sm n q u) (okn : Ok n) (hq : Ok q ∧ JR (iv (n 0 0)) (iv (n 10 0)) q) : Sm n (spR n q) (spillF (nI (fullN (u 7) 15)) u) := by
  rw [full_eq h]
  exact h.spill okn hq
theorem sp_tr {n q : Rc} {m : Nat} : spR n (itN tr3B m q) = itN tr3B m (spR n q) := by
  have e3 : ∀ w : Rc, itN tr3B m w 3 = w 3 := fun w => it_row (fun j w => by unfold tr3B; rw [put_rw (by omega)]) m w
  unfold spR holeR
  rw [e3]
  refine (it_cm (F := spB n _) (g := itN tr3B m) (I := fun _ => True) (M := iv (n 0 0)) (fun _ _ _ _ => trivial) (fun j w _ _ => ?_) trivial _ (Nat.le_refl _)).1
  exact ((it_cm (F := tr3B) (g := spB n _ j) (I := fun _ => True) (M := m) (fun _ _ _ _ => trivial) (fun k w _ _ => tr_sp.symm) trivial m (Nat.le_refl _)).1).symm
theorem tea_j {N K m : Nat} {q : Rc} (h : Ok q ∧ JR N K q) : Ok (itN teaB m q) ∧ JR N K (itN teaB m q) := it_j (F := teaB) (M := m) (fun j w _ hw => ⟨Ok.ptt (f := 14) (v := 0) hw.1 trivial, JR.p (f := 14) (i := j) (v := 0) hw.2 (by decide) (by decide) (by decide)⟩) h m (Nat.le_refl _)
theorem Sm.shk {n q u : Rc} (h : Sm n q u) (okn : Ok n) (hq : Ok q ∧ JR (iv (n 0 0)) (iv (n 10 0)) q) {b : Int32} (hb : vp_in b 4) : Sm n (shkR n b q) (shkF b u) := by
  have hb2 : b = 0 ∨ b = 1 ∨ b = 2 ∨ b = 3 := by
    have e := vi_eq hb (by decide)
    have l := vi_lt hb
    have c : iv b = 0 ∨ iv b = 1 ∨ iv b = 2 ∨ iv b = 3 := by omega
    rw [e]
    rcases c with c | c | c | c <;> rw [c]
    · exact Or.inl rfl
    · exact Or.inr (Or.inl rfl)
    · exact Or.inr (Or.inr (Or.inl rfl))
    · exact Or.inr (Or.inr (Or.inr rfl))
  unfold shkR shkF
  rcases hb2 with rfl | rfl | rfl | rfl
  · rw [opt_f (p := fun _ => ¬ (0 : Int32) < 2) (by decide), opt_f (p := fun _ => ¬ (0 : Int32) < 3) (by decide), opt_f (p := fun _ => ¬ (0 : Int32) < 2) (by decide), opt_f (p := fun _ => ¬ (0 : Int32) < 1) (by decide), it_id (fun _ _ => sh0)]
    exact h
  · rw [opt_f (p := fun _ => ¬ (1 : Int32) < 2) (by decide), opt_f (p := fun _ => ¬ (1 : Int32) < 3) (by decide), opt_f (p := fun _ => ¬ (1 : Int32) < 2) (by decide), opt_t (p := fun _ => ¬ (1 : Int32) < 1) (by decide), it_cg (fun _ _ => sh1)]
    exact h.tea
  · rw [opt_t (p := fun _ => ¬ (2 : Int32) < 2) (by decide), opt_f (p := fun _ => ¬ (2 : Int32) < 3) (by decide), opt_t (p := fun _ => ¬ (2 : Int32) < 2) (by decide), opt_t (p := fun _ => ¬ (2 : Int32) < 1) (by decide), it_cg (fun _ _ => sh2)]
    exact h.tea.spr okn (tea_j hq)
  · rw [opt_t (p := fun _ => ¬ (3 : Int32) < 2) (by decide), opt_t (p := fun _ => ¬ (3 : Int32) < 3) (by decide), opt_t (p := fun _ => ¬ (3 : Int32) < 2) (by decide), opt_t (p := fun _ => ¬ (3 : Int32) < 1) (by decide), it_cg (fun _ _ => sh3), ← it_mg (F := tr3B) (G := teaB) (fun j k w _ => tt_cm)]
    show Sm n (spR n (itN tr3B (iv (n 10 0)) (itN teaB (iv (n 10 0)) q))) _
    rw [sp_tr]
    exact (h.tea.spr okn (tea_j hq)).tire
