/-! the start -/
def z0 : Rc := fun _ _ => 0
def lnF (w : Rc) : Nat → Rc := fun k => itN (fun i w => put w 20 i (20 * nI i + 20)) k w
theorem lnF_20 : ∀ a b, a < b → b < 8 → lnF z0 8 20 a < lnF z0 8 20 b := by
  have k : ∀ b, b < 8 → ∀ a, a < b → lnF z0 8 20 a < lnF z0 8 20 b := by decide
  exact fun a b hab hb => k b hb a hab
theorem lnF_o {g : Nat} (hg : g ≠ 20) : lnF z0 8 g = fun _ => 0 := by
  unfold lnF
  rw [it_row (g := g) (fun j w => put_rw hg)]
  rfl
theorem Sim.start : Sim (lnF z0 8) z0 z0 (lnF z0 8) := by
  have i0 : iv ((lnF z0 8) 0 0) = 0 := by rw [lnF_o (by omega)]; rfl
  have i10 : iv ((lnF z0 8) 10 0) = 0 := by rw [lnF_o (by omega)]; rfl
  have gz : ∀ f, good f (0 : Int32) := fun f => by
    unfold good
    split
    · exact vp_lit (by decide)
    · exact vp_lit (by decide)
    · exact vp_lit (by decide)
    · exact vp_lit (by decide)
    · exact Or.inr (vp_lit (by decide))
    · exact vp_lit (by decide)
    · exact Or.inr (vp_lit (by decide))
    · trivial
  have okz : Ok z0 := fun f j => gz f
  refine ⟨⟨fun g => ⟨fun _ => rfl, fun hg => ?_⟩, ⟨fun p _ => rfl, fun p _ => rfl⟩, okz⟩, fun f j => ?_, ⟨okz, ?_⟩, ⟨rfl, rfl, fun a => ?_⟩, lnF_20, fun k _ => rfl⟩
  · rw [lnF_o (fun z => by unfold sta at hg; omega)]
    rfl
  · by_cases c : f = 20
    · rw [c]; trivial
    · rw [lnF_o c]; exact gz f
  · rw [i0, i10]
    exact ⟨fun k _ z => absurd z (show ¬ (0 : Int32) = 2 by decide), fun s hs => absurd hs (by omega), fun k hk => absurd hk (by omega)⟩
  · rw [lnF_o (by omega)]
    exact (vp_lit (by decide) : vp_in (0 : Int32) 4)
