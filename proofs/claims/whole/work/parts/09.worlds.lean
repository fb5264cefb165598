/-! the worlds (laid by wip/whole/gen/gen.py), a row copied whole -/
abbrev w0 (cI : ClassId) : va_W := []
abbrev wMail (cI : ClassId) (a : Nat → Nat) (u : Rc) : va_W := [(a 0, .inr (2, [.int (u 0 0), .ref (a 1), .ref (a 2), .ref (a 3), .ref (a 4), .ref (a 5), .ref (a 6), .ref (a 7)])), (a 1, .inl (cI, 60, .inl (u 1))), (a 2, .inl (cI, 60, .inl (u 2))), (a 3, .inl (cI, 60, .inl (u 3))), (a 4, .inl (cI, 60, .inl (u 4))), (a 5, .inl (cI, 60, .inl (u 5))), (a 6, .inl (cI, 6, .inl (u 6))), (a 7, .inl (cI, 16, .inl (u 7)))]
abbrev wMail2 (cI : ClassId) (a : Nat → Nat) (b : Nat → Nat) (u : Rc) (v : Rc) : va_W := [(a 0, .inr (2, [.int (u 0 0), .ref (a 1), .ref (a 2), .ref (a 3), .ref (a 4), .ref (a 5), .ref (a 6), .ref (a 7)])), (a 1, .inl (cI, 60, .inl (u 1))), (a 2, .inl (cI, 60, .inl (u 2))), (a 3, .inl (cI, 60, .inl (u 3))), (a 4, .inl (cI, 60, .inl (u 4))), (a 5, .inl (cI, 60, .inl (u 5))), (a 6, .inl (cI, 6, .inl (u 6))), (a 7, .inl (cI, 16, .inl (u 7))), (b 0, .inr (2, [.int (v 0 0), .ref (b 1), .ref (b 2), .ref (b 3), .ref (b 4), .ref (b 5), .ref (b 6), .ref (b 7)])), (b 1, .inl (cI, 60, .inl (v 1))), (b 2, .inl (cI, 60, .inl (v 2))), (b 3, .inl (cI, 60, .inl (v 3))), (b 4, .inl (cI, 60, .inl (v 4))), (b 5, .inl (cI, 60, .inl (v 5))), (b 6, .inl (cI, 6, .inl (v 6))), (b 7, .inl (cI, 16, .inl (v 7)))]
abbrev wCrew (cI : ClassId) (a : Nat → Nat) (u : Rc) : va_W := [(a 10, .inr (0, [.int (u 10 0), .ref (a 11), .ref (a 12), .ref (a 13), .ref (a 14), .ref (a 15), .ref (a 16), .ref (a 17)])), (a 11, .inl (cI, 4, .inl (u 11))), (a 12, .inl (cI, 4, .inl (u 12))), (a 13, .inl (cI, 4, .inl (u 13))), (a 14, .inl (cI, 4, .inl (u 14))), (a 15, .inl (cI, 4, .inl (u 15))), (a 16, .inl (cI, 4, .inl (u 16))), (a 17, .inl (cI, 4, .inl (u 17)))]
abbrev wCrew2 (cI : ClassId) (a : Nat → Nat) (b : Nat → Nat) (u : Rc) (v : Rc) : va_W := [(a 10, .inr (0, [.int (u 10 0), .ref (a 11), .ref (a 12), .ref (a 13), .ref (a 14), .ref (a 15), .ref (a 16), .ref (a 17)])), (a 11, .inl (cI, 4, .inl (u 11))), (a 12, .inl (cI, 4, .inl (u 12))), (a 13, .inl (cI, 4, .inl (u 13))), (a 14, .inl (cI, 4, .inl (u 14))), (a 15, .inl (cI, 4, .inl (u 15))), (a 16, .inl (cI, 4, .inl (u 16))), (a 17, .inl (cI, 4, .inl (u 17))), (b 10, .inr (0, [.int (v 10 0), .ref (b 11), .ref (b 12), .ref (b 13), .ref (b 14), .ref (b 15), .ref (b 16), .ref (b 17)])), (b 11, .inl (cI, 4, .inl (v 11))), (b 12, .inl (cI, 4, .inl (v 12))), (b 13, .inl (cI, 4, .inl (v 13))), (b 14, .inl (cI, 4, .inl (v 14))), (b 15, .inl (cI, 4, .inl (v 15))), (b 16, .inl (cI, 4, .inl (v 16))), (b 17, .inl (cI, 4, .inl (v 17)))]
abbrev wLine (cI : ClassId) (g : Nat → Nat) (r : Rc) : va_W := [(g 0, .inr (1, [.ref (g 20), .ref (g 21)])), (g 20, .inl (cI, 8, .inl (r 20))), (g 21, .inl (cI, 8, .inl (r 21)))]
abbrev wTr (cI : ClassId) (g : Nat → Nat) (a : Nat → Nat) (r : Rc) (u : Rc) : va_W := [(a 30, .inr (3, [.ref (g 0), .ref (a 0), .ref (a 10), .int (u 30 0)])), (a 0, .inr (2, [.int (u 0 0), .ref (a 1), .ref (a 2), .ref (a 3), .ref (a 4), .ref (a 5), .ref (a 6), .ref (a 7)])), (a 1, .inl (cI, 60, .inl (u 1))), (a 2, .inl (cI, 60, .inl (u 2))), (a 3, .inl (cI, 60, .inl (u 3))), (a 4, .inl (cI, 60, .inl (u 4))), (a 5, .inl (cI, 60, .inl (u 5))), (a 6, .inl (cI, 6, .inl (u 6))), (a 7, .inl (cI, 16, .inl (u 7))), (a 10, .inr (0, [.int (u 10 0), .ref (a 11), .ref (a 12), .ref (a 13), .ref (a 14), .ref (a 15), .ref (a 16), .ref (a 17)])), (a 11, .inl (cI, 4, .inl (u 11))), (a 12, .inl (cI, 4, .inl (u 12))), (a 13, .inl (cI, 4, .inl (u 13))), (a 14, .inl (cI, 4, .inl (u 14))), (a 15, .inl (cI, 4, .inl (u 15))), (a 16, .inl (cI, 4, .inl (u 16))), (a 17, .inl (cI, 4, .inl (u 17))), (g 0, .inr (1, [.ref (g 20), .ref (g 21)])), (g 20, .inl (cI, 8, .inl (r 20))), (g 21, .inl (cI, 8, .inl (r 21)))]
abbrev wTr2 (cI : ClassId) (g : Nat → Nat) (a : Nat → Nat) (b : Nat → Nat) (u : Rc) (v : Rc) : va_W := [(a 30, .inr (3, [.ref (g 0), .ref (a 0), .ref (a 10), .int (u 30 0)])), (a 0, .inr (2, [.int (u 0 0), .ref (a 1), .ref (a 2), .ref (a 3), .ref (a 4), .ref (a 5), .ref (a 6), .ref (a 7)])), (a 1, .inl (cI, 60, .inl (u 1))), (a 2, .inl (cI, 60, .inl (u 2))), (a 3, .inl (cI, 60, .inl (u 3))), (a 4, .inl (cI, 60, .inl (u 4))), (a 5, .inl (cI, 60, .inl (u 5))), (a 6, .inl (cI, 6, .inl (u 6))), (a 7, .inl (cI, 16, .inl (u 7))), (a 10, .inr (0, [.int (u 10 0), .ref (a 11), .ref (a 12), .ref (a 13), .ref (a 14), .ref (a 15), .ref (a 16), .ref (a 17)])), (a 11, .inl (cI, 4, .inl (u 11))), (a 12, .inl (cI, 4, .inl (u 12))), (a 13, .inl (cI, 4, .inl (u 13))), (a 14, .inl (cI, 4, .inl (u 14))), (a 15, .inl (cI, 4, .inl (u 15))), (a 16, .inl (cI, 4, .inl (u 16))), (a 17, .inl (cI, 4, .inl (u 17))), (b 30, .inr (3, [.ref (g 0), .ref (b 0), .ref (b 10), .int (v 30 0)])), (b 0, .inr (2, [.int (v 0 0), .ref (b 1), .ref (b 2), .ref (b 3), .ref (b 4), .ref (b 5), .ref (b 6), .ref (b 7)])), (b 1, .inl (cI, 60, .inl (v 1))), (b 2, .inl (cI, 60, .inl (v 2))), (b 3, .inl (cI, 60, .inl (v 3))), (b 4, .inl (cI, 60, .inl (v 4))), (b 5, .inl (cI, 60, .inl (v 5))), (b 6, .inl (cI, 6, .inl (v 6))), (b 7, .inl (cI, 16, .inl (v 7))), (b 10, .inr (0, [.int (v 10 0), .ref (b 11), .ref (b 12), .ref (b 13), .ref (b 14), .ref (b 15), .ref (b 16), .ref (b 17)])), (b 11, .inl (cI, 4, .inl (v 11))), (b 12, .inl (cI, 4, .inl (v 12))), (b 13, .inl (cI, 4, .inl (v 13))), (b 14, .inl (cI, 4, .inl (v 14))), (b 15, .inl (cI, 4, .inl (v 15))), (b 16, .inl (cI, 4, .inl (v 16))), (b 17, .inl (cI, 4, .inl (v 17)))]
abbrev wX (cI : ClassId) (o : Nat) (g : Nat → Nat) (a : Nat → Nat) (b : Nat → Nat) (r : Rc) (u : Rc) (v : Rc) : va_W := [(o, .inr (4, [.ref (a 30), .ref (b 30)])), (a 30, .inr (3, [.ref (g 0), .ref (a 0), .ref (a 10), .int (u 30 0)])), (a 0, .inr (2, [.int (u 0 0), .ref (a 1), .ref (a 2), .ref (a 3), .ref (a 4), .ref (a 5), .ref (a 6), .ref (a 7)])), (a 1, .inl (cI, 60, .inl (u 1))), (a 2, .inl (cI, 60, .inl (u 2))), (a 3, .inl (cI, 60, .inl (u 3))), (a 4, .inl (cI, 60, .inl (u 4))), (a 5, .inl (cI, 60, .inl (u 5))), (a 6, .inl (cI, 6, .inl (u 6))), (a 7, .inl (cI, 16, .inl (u 7))), (a 10, .inr (0, [.int (u 10 0), .ref (a 11), .ref (a 12), .ref (a 13), .ref (a 14), .ref (a 15), .ref (a 16), .ref (a 17)])), (a 11, .inl (cI, 4, .inl (u 11))), (a 12, .inl (cI, 4, .inl (u 12))), (a 13, .inl (cI, 4, .inl (u 13))), (a 14, .inl (cI, 4, .inl (u 14))), (a 15, .inl (cI, 4, .inl (u 15))), (a 16, .inl (cI, 4, .inl (u 16))), (a 17, .inl (cI, 4, .inl (u 17))), (g 0, .inr (1, [.ref (g 20), .ref (g 21)])), (g 20, .inl (cI, 8, .inl (r 20))), (g 21, .inl (cI, 8, .inl (r 21))), (b 30, .inr (3, [.ref (g 0), .ref (b 0), .ref (b 10), .int (v 30 0)])), (b 0, .inr (2, [.int (v 0 0), .ref (b 1), .ref (b 2), .ref (b 3), .ref (b 4), .ref (b 5), .ref (b 6), .ref (b 7)])), (b 1, .inl (cI, 60, .inl (v 1))), (b 2, .inl (cI, 60, .inl (v 2))), (b 3, .inl (cI, 60, .inl (v 3))), (b 4, .inl (cI, 60, .inl (v 4))), (b 5, .inl (cI, 60, .inl (v 5))), (b 6, .inl (cI, 6, .inl (v 6))), (b 7, .inl (cI, 16, .inl (v 7))), (b 10, .inr (0, [.int (v 10 0), .ref (b 11), .ref (b 12), .ref (b 13), .ref (b 14), .ref (b 15), .ref (b 16), .ref (b 17)])), (b 11, .inl (cI, 4, .inl (v 11))), (b 12, .inl (cI, 4, .inl (v 12))), (b 13, .inl (cI, 4, .inl (v 13))), (b 14, .inl (cI, 4, .inl (v 14))), (b 15, .inl (cI, 4, .inl (v 15))), (b 16, .inl (cI, 4, .inl (v 16))), (b 17, .inl (cI, 4, .inl (v 17)))]
abbrev wSt (cI : ClassId) (h : Nat → Nat) (k : Nat) (k1 : Nat) (b : Nat → Nat) (n : Rc) (q : Rc) : va_W := [(b 30, .inr (5, [.int (q 30 0), .ref (b 3), .ref (b 4), .ref (b 5), .ref (b 12), .ref (b 13), .ref (b 14), .ref (b 15), .ref (b 16), .ref (b 17), .ref (h 0)])), (b 3, .inl (cI, 60, .inl (q 3))), (b 4, .inl (cI, 60, .inl (q 4))), (b 5, .inl (cI, 60, .inl (q 5))), (b 12, .inl (cI, 4, .inl (q 12))), (b 13, .inl (cI, 4, .inl (q 13))), (b 14, .inl (cI, 4, .inl (q 14))), (b 15, .inl (cI, 4, .inl (q 15))), (b 16, .inl (cI, 4, .inl (q 16))), (b 17, .inl (cI, 4, .inl (q 17))), (h 0, .inr (6, [.int (n 31 0), .ref (h 20), .ref (h 21), .int (n 0 0), .ref (h 1), .ref (h 2), .int (n 10 0), .ref (h 11), .ref (k), .ref (k1)])), (h 20, .inl (cI, 8, .inl (n 20))), (h 21, .inl (cI, 8, .inl (n 21))), (h 1, .inl (cI, 60, .inl (n 1))), (h 2, .inl (cI, 60, .inl (n 2))), (h 11, .inl (cI, 4, .inl (n 11)))]
abbrev wSt2 (cI : ClassId) (h : Nat → Nat) (b : Nat → Nat) (d : Nat → Nat) (q : Rc) (w : Rc) : va_W := [(b 30, .inr (5, [.int (q 30 0), .ref (b 3), .ref (b 4), .ref (b 5), .ref (b 12), .ref (b 13), .ref (b 14), .ref (b 15), .ref (b 16), .ref (b 17), .ref (h 0)])), (b 3, .inl (cI, 60, .inl (q 3))), (b 4, .inl (cI, 60, .inl (q 4))), (b 5, .inl (cI, 60, .inl (q 5))), (b 12, .inl (cI, 4, .inl (q 12))), (b 13, .inl (cI, 4, .inl (q 13))), (b 14, .inl (cI, 4, .inl (q 14))), (b 15, .inl (cI, 4, .inl (q 15))), (b 16, .inl (cI, 4, .inl (q 16))), (b 17, .inl (cI, 4, .inl (q 17))), (d 30, .inr (5, [.int (w 30 0), .ref (d 3), .ref (d 4), .ref (d 5), .ref (d 12), .ref (d 13), .ref (d 14), .ref (d 15), .ref (d 16), .ref (d 17), .ref (h 0)])), (d 3, .inl (cI, 60, .inl (w 3))), (d 4, .inl (cI, 60, .inl (w 4))), (d 5, .inl (cI, 60, .inl (w 5))), (d 12, .inl (cI, 4, .inl (w 12))), (d 13, .inl (cI, 4, .inl (w 13))), (d 14, .inl (cI, 4, .inl (w 14))), (d 15, .inl (cI, 4, .inl (w 15))), (d 16, .inl (cI, 4, .inl (w 16))), (d 17, .inl (cI, 4, .inl (w 17)))]
abbrev wMo (cI : ClassId) (h : Nat → Nat) (b : Nat → Nat) (d : Nat → Nat) (n : Rc) (q : Rc) (w : Rc) : va_W := [(h 0, .inr (6, [.int (n 31 0), .ref (h 20), .ref (h 21), .int (n 0 0), .ref (h 1), .ref (h 2), .int (n 10 0), .ref (h 11), .ref (b 30), .ref (d 30)])), (h 20, .inl (cI, 8, .inl (n 20))), (h 21, .inl (cI, 8, .inl (n 21))), (h 1, .inl (cI, 60, .inl (n 1))), (h 2, .inl (cI, 60, .inl (n 2))), (h 11, .inl (cI, 4, .inl (n 11))), (b 30, .inr (5, [.int (q 30 0), .ref (b 3), .ref (b 4), .ref (b 5), .ref (b 12), .ref (b 13), .ref (b 14), .ref (b 15), .ref (b 16), .ref (b 17), .ref (h 0)])), (b 3, .inl (cI, 60, .inl (q 3))), (b 4, .inl (cI, 60, .inl (q 4))), (b 5, .inl (cI, 60, .inl (q 5))), (b 12, .inl (cI, 4, .inl (q 12))), (b 13, .inl (cI, 4, .inl (q 13))), (b 14, .inl (cI, 4, .inl (q 14))), (b 15, .inl (cI, 4, .inl (q 15))), (b 16, .inl (cI, 4, .inl (q 16))), (b 17, .inl (cI, 4, .inl (q 17))), (d 30, .inr (5, [.int (w 30 0), .ref (d 3), .ref (d 4), .ref (d 5), .ref (d 12), .ref (d 13), .ref (d 14), .ref (d 15), .ref (d 16), .ref (d 17), .ref (h 0)])), (d 3, .inl (cI, 60, .inl (w 3))), (d 4, .inl (cI, 60, .inl (w 4))), (d 5, .inl (cI, 60, .inl (w 5))), (d 12, .inl (cI, 4, .inl (w 12))), (d 13, .inl (cI, 4, .inl (w 13))), (d 14, .inl (cI, 4, .inl (w 14))), (d 15, .inl (cI, 4, .inl (w 15))), (d 16, .inl (cI, 4, .inl (w 16))), (d 17, .inl (cI, 4, .inl (w 17)))]

theorem va_Da {A : Nat → Prop} {ws ws' : va_W} (h : va_D A ws) (e : ws'.map (fun q => q.1) = ws.map (fun q => q.1)) : va_D A ws' := by
  have key : ∀ (i : Nat) (p : Nat × va_E), ws'[i]? = some p → ∃ p', ws[i]? = some p' ∧ p'.1 = p.1 := by
    intro i p hp
    have h1 : (ws'.map (fun q => q.1))[i]? = some p.1 := by rw [List.getElem?_map, hp]; rfl
    rw [e, List.getElem?_map] at h1
    cases hq : ws[i]? with
    | none => rw [hq] at h1; cases h1
    | some p' => rw [hq] at h1; exact ⟨p', rfl, Option.some.inj h1⟩
  refine ⟨fun i j p q hp hq hpq => ?_, fun k q hq => ?_⟩
  · obtain ⟨p', h1, h2⟩ := key i p hp
    obtain ⟨q', h3, h4⟩ := key j q hq
    exact h.1 i j p' q' h1 h3 (by rw [h2, h4, hpq])
  · obtain ⟨q', h3, h4⟩ := key k q hq
    rw [← h4]
    exact h.2 k q' h3
theorem va_row {D : va_G} {cl : List vw_C} {ws : va_W} {H : Heap} {q1 a n : Nat} {cI : ClassId} {f g : Nat → Int32} (same : ∀ j, j < n → f j = g j) (h : va_P D cl (ws.set q1 (a, .inl (cI, n, .inl f))) H) : va_P D cl (ws.set q1 (a, .inl (cI, n, .inl g))) H := by
  intro k p hp
  by_cases hk : q1 = k
  · subst hk
    by_cases hl : q1 < ws.length
    · rw [List.getElem?_set_self hl] at hp
      have h1 := h q1 (a, .inl (cI, n, .inl f)) (List.getElem?_set_self hl)
      have h2 : vp_cell cI (n, .inl f) = vp_cell cI (n, .inl g) := by
        rw [vp_cell_i, vp_cell_i]
        have : (fun j : Fin n => Value.int (f j.val)) = fun j : Fin n => Value.int (g j.val) := funext (fun j => by rw [same j.1 j.2])
        show ({ cls := cI, slots := Array.ofFn (n := n) fun j => Value.int (f j.val), vm := .none } : Cell) = { cls := cI, slots := Array.ofFn (n := n) fun j => Value.int (g j.val), vm := .none }
        rw [this]
      cases hp
      show H[a]? = some (vp_cell cI (n, .inl g))
      rw [← h2]
      exact h1
    · rw [List.getElem?_eq_none (by rw [List.length_set]; omega)] at hp
      cases hp
  · rw [List.getElem?_set_ne hk] at hp
    exact h k p (by rw [List.getElem?_set_ne hk]; exact hp)
section XCP
variable {p : Program} {l : Launch} {e : Env} {R : Room} {s : State} {m : MethodId} {args : Array Value} {below : List Frame} {meth : Method} {c : Code} {H : Heap} {locs : List Loc} {cells slots : Nat} {Q : State → Prop}
variable {cc : ByteArray} {pc : Nat} {ls : Array Slot} {rest : List Value} {D : va_G} {cl : List vw_C} {A : Nat → Prop} {a : Nat} {tys : List (ClassId × FieldType)} {ws : va_W} {H0 : Heap}
theorem xcopy (hexec : p.tables.exec = Jvm.exec) (hb : c.code = cc) (hml : c.maxLocals = ls.size) {own : String} {index : Nat} (hown : s.vm.findClass own = some m.cls) (hlink : (Cond.methodLink own index arraycopyName).before args s = true) (hnat : (Cond.native arraycopyName).before args s = true) (hstat : (Cond.static arraycopyName).before args s = true) (hini : (Cond.initialized "java/lang/System").before args s = true)
    (hK : va_K D cl tys s) (hP : va_P D cl ws H) (hD : va_D A ws) (hS : va_S A H0 H locs) (q0 q1 : Nat) {a0 : Nat} {cI : ClassId} {n : Nat} {f g : Nat → Int32} (ha0 : ws[q0]? = some (a0, .inl (cI, n, .inl f))) (ha1 : ws[q1]? = some (a, .inl (cI, n, .inl g))) (ht : tys[0]? = some (cI, .int)) (w1 : va_W) (hw : ws.set q1 (a, .inl (cI, n, .inl f)) = w1)
    {x : Int32} (hx : x = nI n) (hn : n ≤ 2147483647) (hframes : 1 ≤ R.frames) (hlocals : (rest.map fun v => v.category).sum + (nativeFrameWords "java/lang/System" "arraycopy" 5 + 11) ≤ R.locals) (hdg : decode cc pc = .ok (.invokestatic index, 3))
    (kk : ∀ (H1 : Heap) (locs1 : List Loc), va_P D cl w1 H1 → va_D A w1 → va_S A H0 H1 locs1 → W p l e R s m args below meth c H1 locs1 cells slots Q (F0 m (pc + 3) ls rest)) : W p l e R s m args below meth c H locs cells slots Q (F0 m pc ls (.int x :: .int 0 :: .ref a :: .int 0 :: .ref a0 :: rest)) := by
  have e0 : (0 : Int32).toNatClampNeg = 0 := by decide
  have ex : x.toNatClampNeg = n := by rw [hx]; exact nI_clamp (by omega)
  refine va_copyi hexec hb hml hown hlink hnat hstat hini hK hP hD hS q0 q1 0 0 ha0 ha1 ht ht rfl (by decide) (by decide) (by rw [hx]; exact nI_pos (by omega)) (by rw [e0, ex]; omega) (by rw [e0, ex]; omega) (fun i _ => rfl) hframes hlocals hdg (fun H1 locs1 h1 h2 h3 => kk H1 locs1 ?_ ?_ h3)
  · rw [← hw]
    refine va_row (fun j hj => ?_) h1
    rw [e0, ex, pk_cpy_in (Nat.zero_le _) (by omega)]
    congr 1
    omega
  · rw [← hw]
    exact va_Da h2 (by rw [List.map_set, List.map_set])
end XCP
theorem cnt_t {p : Nat → Bool} {n : Nat} (h : p n = true) : cntN p (n + 1) = cntN p n + 1 := by
  rw [cntN, if_pos h]
theorem cnt_f {p : Nat → Bool} {n : Nat} (h : p n = false) : cntN p (n + 1) = cntN p n := by
  rw [cntN, if_neg (by rw [h]; decide), Int32.add_zero]
theorem Pr.n {u w : Rc} (h : Pr u w) (ok : Ok u) : w 0 0 = nI (iv (u 0 0)) := by rw [(h ok).2 0 (by omega)]; exact ok.n
theorem Pr.k {u w : Rc} (h : Pr u w) (ok : Ok u) : w 10 0 = nI (iv (u 10 0)) := by rw [(h ok).2 10 (by omega)]; exact ok.k
theorem Pr.ok {u w : Rc} (h : Pr u w) (ok : Ok u) : Ok w := (h ok).1
/-- the other cells of a caller's world, by their places -/
def sel (W0 : va_W) (is : List Nat) : va_W := is.filterMap (fun i => W0[i]?)
section YCALL
variable {p : Program} {l : Launch} {e : Env} {R : Room} {s : State} {m : MethodId} {args : Array Value} {below : List Frame} {meth : Method} {c : Code} {H : Heap} {locs : List Loc} {cells slots : Nat} {Q : State → Prop}
variable {y : MethodName} {wsY : List Cond} {rm : Room} {As rest st0 : List Value} {ls : Array Slot} {pc : Nat} {D : va_G} {cI : ClassId} {A : Nat → Prop} {W0 Wc W1 : va_W} {H0 : Heap}
theorem ycalli {r : Int32} (hI : Inv p l e R s m args below meth c H locs cells slots y wsY rm As (F0 m pc ls st0) rest) (hM : CI l y wsY rm D cI As Wc r W1) (hK : va_K D vwCl [(cI, .int)] s) (hN : NW s) (hA : ∀ q, H0.size ≤ q → A q) (hP : va_P D vwCl W0 H) (hD : va_D A W0) (hS : va_S A H0 H locs)
    (W2 : va_W) (isC isR isB : List Nat) (hC : isC.map (fun i => W0[i]?) = Wc.map some) (hR : isR.map (fun i => W0[i]?) = (sel W0 isR).map some) (hB : isB.map (fun i => (sel W0 isR ++ W1)[i]?) = W2.map some) (hnn : va_nd isC = true ∧ va_nd isR = true ∧ va_nd isB = true ∧ isR.all (fun i => !isC.contains i) = true) (hf : cells + rm.cells ≤ R.cells ∧ slots + rm.slots ≤ R.slots)
    (kk : ∀ (H1 : Heap) (locs1 : List Loc), va_P D vwCl W2 H1 → va_D A W2 → va_S A H0 H1 locs1 → W p l e R s m args below meth c H1 locs1 (cells + rm.cells) (slots + rm.slots) Q (F0 m (pc + 3) ls (.int r :: rest))) : W p l e R s m args below meth c H locs cells slots Q (F0 m pc ls st0) :=
  xcalli hI hM hK hN hA hP hD hS isC isR isB hC hR hB hnn hf kk
theorem ycalll {r : Int64} (hI : Inv p l e R s m args below meth c H locs cells slots y wsY rm As (F0 m pc ls st0) rest) (hM : CL l y wsY rm D cI As Wc r W1) (hK : va_K D vwCl [(cI, .int)] s) (hN : NW s) (hA : ∀ q, H0.size ≤ q → A q) (hP : va_P D vwCl W0 H) (hD : va_D A W0) (hS : va_S A H0 H locs)
    (W2 : va_W) (isC isR isB : List Nat) (hC : isC.map (fun i => W0[i]?) = Wc.map some) (hR : isR.map (fun i => W0[i]?) = (sel W0 isR).map some) (hB : isB.map (fun i => (sel W0 isR ++ W1)[i]?) = W2.map some) (hnn : va_nd isC = true ∧ va_nd isR = true ∧ va_nd isB = true ∧ isR.all (fun i => !isC.contains i) = true) (hf : cells + rm.cells ≤ R.cells ∧ slots + rm.slots ≤ R.slots)
    (kk : ∀ (H1 : Heap) (locs1 : List Loc), va_P D vwCl W2 H1 → va_D A W2 → va_S A H0 H1 locs1 → W p l e R s m args below meth c H1 locs1 (cells + rm.cells) (slots + rm.slots) Q (F0 m (pc + 3) ls (.long r :: rest))) : W p l e R s m args below meth c H locs cells slots Q (F0 m pc ls st0) :=
  xcalll hI hM hK hN hA hP hD hS isC isR isB hC hR hB hnn hf kk
theorem ycallv (hI : Inv p l e R s m args below meth c H locs cells slots y wsY rm As (F0 m pc ls st0) rest) (hM : CV l y wsY rm D cI As Wc W1) (hK : va_K D vwCl [(cI, .int)] s) (hN : NW s) (hA : ∀ q, H0.size ≤ q → A q) (hP : va_P D vwCl W0 H) (hD : va_D A W0) (hS : va_S A H0 H locs)
    (W2 : va_W) (isC isR isB : List Nat) (hC : isC.map (fun i => W0[i]?) = Wc.map some) (hR : isR.map (fun i => W0[i]?) = (sel W0 isR).map some) (hB : isB.map (fun i => (sel W0 isR ++ W1)[i]?) = W2.map some) (hnn : va_nd isC = true ∧ va_nd isR = true ∧ va_nd isB = true ∧ isR.all (fun i => !isC.contains i) = true) (hf : cells + rm.cells ≤ R.cells ∧ slots + rm.slots ≤ R.slots)
    (kk : ∀ (H1 : Heap) (locs1 : List Loc), va_P D vwCl W2 H1 → va_D A W2 → va_S A H0 H1 locs1 → W p l e R s m args below meth c H1 locs1 (cells + rm.cells) (slots + rm.slots) Q (F0 m (pc + 3) ls rest)) : W p l e R s m args below meth c H locs cells slots Q (F0 m pc ls st0) :=
  xcallv hI hM hK hN hA hP hD hS isC isR isB hC hR hB hnn hf kk
end YCALL
/-- rows that a step doesn't touch -/
def Rw (S : Nat → Bool) (u w : Rc) : Prop := ∀ f, S f = false → w f = u f
theorem Rw.rf {S : Nat → Bool} {u : Rc} : Rw S u u := fun _ _ => rfl
theorem Rw.tr {S : Nat → Bool} {u v w : Rc} (h : Rw S u v) (h2 : Rw S v w) : Rw S u w := fun f hf => (h2 f hf).trans (h f hf)
theorem Rw.pt {S : Nat → Bool} {u w : Rc} (h : Rw S u w) (f : Nat) {i : Nat} {v : Int32} (hf : S f = true) : Rw S u (put w f i v) := fun g hg => by
  rw [put_rw (fun q => by rw [q, hf] at hg; cases hg)]
  exact h g hg
theorem Rw.opt {S : Nat → Bool} {p : Rc → Prop} [DecidablePred p] {g : Rc → Rc} {u v : Rc} (h : Rw S u v) (hg : ∀ w, Rw S w (g w)) : Rw S u (opt p g v) := by
  by_cases q : p v
  · rw [opt_t q]; exact h.tr (hg v)
  · rw [opt_f q]; exact h
theorem Rw.if {S : Nat → Bool} {u v w : Rc} {c : Prop} [Decidable c] (h : Rw S u v) (h2 : Rw S u w) : Rw S u (if c then v else w) := by
  by_cases q : c
  · rw [if_pos q]; exact h
  · rw [if_neg q]; exact h2
theorem Rw.it {S : Nat → Bool} {F : Nat → Rc → Rc} (h : ∀ j w, Rw S w (F j w)) {u : Rc} : ∀ n, Rw S u (itN F n u)
  | 0 => Rw.rf
  | n + 1 => (Rw.it h n).tr (h n _)
theorem Rw.mono {S S2 : Nat → Bool} {u w : Rc} (h : Rw S u w) (hs : ∀ f, S2 f = false → S f = false) : Rw S2 u w := fun f hf => h f (hs f hf)
abbrev sMv (f : Nat) : Bool := f == 3 || f == 4 || f == 6 || f == 7
abbrev sMa (f : Nat) : Bool := decide (f ≤ 7)
abbrev sCr (f : Nat) : Bool := decide (10 ≤ f ∧ f ≤ 17)
theorem mv_rw {u : Rc} {j : Nat} {t : Int32} : Rw sMv u (mvF u j t) := by
  unfold mvF
  refine Rw.pt (Rw.pt (Rw.opt (Rw.opt ?_ (fun _ => ?_)) (fun _ => ?_)) 4 rfl) 3 rfl
  · exact Rw.pt (Rw.pt Rw.rf 6 rfl) 6 rfl
  · exact Rw.pt Rw.rf 7 rfl
  · exact Rw.pt Rw.rf 7 rfl
theorem sMv_Ma : ∀ f, sMa f = false → sMv f = false := by
  intro f hf
  simp only [sMa, decide_eq_false_iff_not] at hf
  simp only [sMv, Bool.or_eq_false_iff, beq_eq_false_iff_ne]
  omega
theorem cpM_of {u w : Rc} (h : Rw sMa u w) : w = cpM u w := by
  funext f
  unfold cpM
  by_cases c : f ≤ 7
  · rw [if_pos c]
  · rw [if_neg c]
    exact h f (decide_eq_false c)
theorem cpC_of {u w : Rc} (h : Rw sCr u w) : w = cpC u w := by
  funext f
  unfold cpC
  by_cases c : 10 ≤ f ∧ f ≤ 17
  · rw [if_pos c]
  · rw [if_neg c]
    exact h f (decide_eq_false c)
theorem mvF_cp {u : Rc} {j : Nat} {t : Int32} : mvF u j t = cpM u (mvF u j t) := cpM_of (mv_rw.mono sMv_Ma)
theorem mvH_cp {u : Rc} {j : Nat} {x : Int32} : mvH u j x = cpM u (mvH u j x) := cpM_of (Rw.pt (mv_rw.mono sMv_Ma) 4 rfl)
theorem endF_cp {u : Rc} {j : Nat} {t x : Int32} : endF u j t x = cpM u (endF u j t x) := cpM_of (Rw.pt (mv_rw.mono sMv_Ma) 5 rfl)
theorem spillF_cp {u : Rc} {x : Int32} : spillF x u = cpM u (spillF x u) := by
  refine cpM_of (Rw.it (fun _ _ => ?_) _)
  exact Rw.opt Rw.rf (fun _ => mv_rw.mono sMv_Ma)
theorem spTeaF_cp {u : Rc} : spTeaF u = cpC u (spTeaF u) := cpC_of (Rw.it (fun _ _ => Rw.pt Rw.rf 14 rfl) _)
theorem tireF_cp {u : Rc} {x : Int32} : tireF x u = cpC u (tireF x u) := cpC_of (Rw.it (fun _ _ => Rw.pt Rw.rf 13 rfl) _)
