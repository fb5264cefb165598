section
/-! WHAT THESE ROWS SHOW: the statement of p19, as it is printed, speaks of no launch at all. Its head says of the law's own method that it has no table of handlers; the method catches what setStation throws, so its class file has one. These rows say NOTHING of the class: they are no proof of the property (REPORT.md, 'STATEMENT'). -/
/-- the class file of the law has not what the head of the statement says of its method -/
theorem st_no : classFile.hasCode x code maxLocals ret = false := by decide +kernel
/-- what it has: one handler -/
theorem st_with : (classFile.methodOf? x).any (fun q => q.code.any (fun k => k.2.2 == 1)) = true := by decide +kernel
theorem st_any {α : Type} {a : α} {p : α → Bool} (h : (some a).any p = true) : p a = true := h
theorem st_empty (l : Launch) : ¬ Lists l classFile x code maxLocals ret tables_1 room_1 := by
  intro h
  obtain ⟨-, hf, hL, -⟩ := h
  have h1 := hL.1 (x, code, maxLocals, ret) (List.mem_append_left _ List.mem_cons_self)
  have h2 : (some classFile).any (fun f => f.hasCode x code maxLocals ret) = true := by
    rw [← hf]
    exact h1
  exact Bool.false_ne_true (st_no.symm.trans (st_any (p := fun f : ClassFile.Facts.File => f.hasCode x code maxLocals ret) h2))
/-- the owed statement, for want of a launch of which it speaks: empty -/
theorem i_vc : Claimed_1_1 ∧ Claimed_1_2 := ⟨fun l _ hL _ => absurd hL (st_empty l), fun l _ hL _ => absurd hL (st_empty l)⟩
end
