/-! advise, arrives and the answers -/
theorem cnt_le {p : Nat → Bool} {N : Nat} (hN : N ≤ 60) : ∃ c, c ≤ 60 ∧ cntN p N = nI c := by
  obtain ⟨c, h1, h2, -⟩ := cnt_nat p N
  exact ⟨c, by omega, h2⟩
theorem sub_int {a c : Nat} (ha : a ≤ 60) (hc : c ≤ 60) : (nI a - nI c).toInt = (a : Int) - c := by
  rw [Int32.toInt_sub, nI_toInt (by omega), nI_toInt (by omega), Int.bmod_eq_of_le (by omega) (by omega)]
theorem sub_le {a b c : Nat} (ha : a ≤ 60) (hb : b ≤ 60) (hc : c ≤ 60) : nI a - nI c ≤ nI b - nI c ↔ nI a ≤ nI b := by
  rw [Int32.le_iff_toInt_le, Int32.le_iff_toInt_le, sub_int ha hc, sub_int hb hc, nI_toInt (by omega), nI_toInt (by omega)]
  omega
/-- what one trial answers, in the class and in the reference -/
theorem trial {n q u r : Rc} (h : Sm n q u) (okn : Ok n) (hl : Ln n r) (hq : Ok q ∧ JR (iv (n 0 0)) (iv (n 10 0)) q) {s : Nat} {y : Int32} (k : Nat) : ∃ a c, a ≤ 60 ∧ c ≤ 60 ∧ areR n q 4 = nI c ∧ dIAF r u s y k = nI a ∧ sumR n (put q 12 s y) k = nI a - nI c := by
  have hn := okn.n60
  have h1 : Sm n (put q 12 s y) (put u 12 s y) := h.pt dyn12 (by decide) trivial
  have q1 : Ok (put q 12 s y) ∧ JR (iv (n 0 0)) (iv (n 10 0)) (put q 12 s y) := ⟨Ok.ptt (f := 12) hq.1 trivial, hq.2.p (by decide) (by decide) (by decide)⟩
  obtain ⟨a, ha, ea⟩ := cnt_le (p := fun k' => decide ((psN n k (put q 12 s y)) 3 k' = 4)) hn
  obtain ⟨c, hc, ec⟩ := cnt_le (p := fun k' => decide (q 3 k' = 4)) hn
  have e0 : areR n (put q 12 s y) 4 = nI c := by
    rw [← ec]
    unfold areR
    rw [put_rw (by omega)]
  have e1 : areR n (psN n k (put q 12 s y)) 4 = nI a := ea
  refine ⟨a, c, ha, hc, ec, ?_, ?_⟩
  · unfold dIAF
    rw [are_4 (h1.run okn hl q1 k) (p := 4) (by omega)]
    exact e1
  · rw [sum_eq okn q1 k, e1, e0]
theorem bit_has {y : Int32} {t : Nat} (ht : t < 16) (h : hasT y (nI t)) : y ||| ((1 : Int32) <<< (nI t &&& 31)) = y := by
  have hc : t = 0 ∨ t = 1 ∨ t = 2 ∨ t = 3 ∨ t = 4 ∨ t = 5 ∨ t = 6 ∨ t = 7 ∨ t = 8 ∨ t = 9 ∨ t = 10 ∨ t = 11 ∨ t = 12 ∨ t = 13 ∨ t = 14 ∨ t = 15 := by omega
  have key : ∀ (m : Nat) (s1 : Int32), m < 32 → (∀ z : Int32, (z >>> s1).toBitVec = z.toBitVec.sshiftRight m) → ((1 : Int32) <<< s1).toBitVec = BitVec.twoPow 32 m → (y >>> s1) &&& 1 = 1 → y ||| ((1 : Int32) <<< s1) = y := by
    intro m s1 hm hs hb hy
    apply Int32.toBitVec_inj.mp
    rw [Int32.toBitVec_or, hb]
    have b0 : (y.toBitVec).getLsbD m = true := by
      have e := congrArg (fun z : Int32 => z.toBitVec.getLsbD 0) hy
      simp only [Int32.toBitVec_and, hs, BitVec.getLsbD_and, BitVec.getLsbD_sshiftRight] at e
      have o : (Int32.toBitVec 1).getLsbD 0 = true := by decide
      rw [o] at e
      simpa [hm] using e
    apply BitVec.eq_of_getLsbD_eq
    intro i hi
    rw [BitVec.getLsbD_or, BitVec.getLsbD_twoPow]
    by_cases c : m = i
    · subst c; rw [b0]; rfl
    · simp [c]
  rcases hc with rfl | rfl | rfl | rfl | rfl | rfl | rfl | rfl | rfl | rfl | rfl | rfl | rfl | rfl | rfl | rfl
  · exact key 0 _ (by decide) (fun z => rfl) (by decide) h
  · exact key 1 _ (by decide) (fun z => rfl) (by decide) h
  · exact key 2 _ (by decide) (fun z => rfl) (by decide) h
  · exact key 3 _ (by decide) (fun z => rfl) (by decide) h
  · exact key 4 _ (by decide) (fun z => rfl) (by decide) h
  · exact key 5 _ (by decide) (fun z => rfl) (by decide) h
  · exact key 6 _ (by decide) (fun z => rfl) (by decide) h
  · exact key 7 _ (by decide) (fun z => rfl) (by decide) h
  · exact key 8 _ (by decide) (fun z => rfl) (by decide) h
  · exact key 9 _ (by decide) (fun z => rfl) (by decide) h
  · exact key 10 _ (by decide) (fun z => rfl) (by decide) h
  · exact key 11 _ (by decide) (fun z => rfl) (by decide) h
  · exact key 12 _ (by decide) (fun z => rfl) (by decide) h
  · exact key 13 _ (by decide) (fun z => rfl) (by decide) h
  · exact key 14 _ (by decide) (fun z => rfl) (by decide) h
  · exact key 15 _ (by decide) (fun z => rfl) (by decide) h
