/-! the reference's answers -/
theorem rng {j M : Nat} {m : Int32} (hm : m = nI M) (h : j ≤ M) (hM : M ≤ 2147483647) : ¬ nI j < 0 ∧ ¬ m < nI j := ⟨nI_pos (by omega), by rw [hm]; exact nI_nlt h (by omega)⟩
def stR (n q : Rc) (st : Nat) (y : Int32) : Int32 := if y = 0 then n 20 st else if y = 1 then n 21 st else cntN (fun k => decide (q 3 k = 0 ∧ n 2 k = nI st)) (iv (n 0 0))
def cntR (n q : Rc) (x : Int32) : Int32 := if ¬ x < 3 ∧ ¬ 8 < x then areR n q (x - 3) else if x = 0 then q 30 0 else if x = 1 then n 0 0 else if x = 2 then n 10 0 else nxtF n (q 30 0)
def mfR (n q : Rc) (j : Nat) (w : Nat) : Int32 := match w with
  | 0 => q 3 j
  | 1 => n 1 j
  | 2 => n 2 j
  | 3 => q 4 j
  | _ => q 5 j
def cfR (n q : Rc) (s : Nat) (w : Nat) : Int32 := match w with
  | 0 => n 11 s
  | 1 => q 12 s
  | 2 => q 13 s
  | 3 => q 14 s
  | 4 => q 15 s
  | 5 => q 16 s
  | _ => q 17 s
def arrR (n : Rc) (j : Nat) : Nat → Nat → Rc → Int32
  | 0, _, _ => -1
  | k + 1, m, q => if q 3 j = 4 then nI m else arrR n j k (m + 1) (psR n q)
def advR (n q : Rc) (s k : Nat) : Nat → Int32 × Int32
  | 0 => (sumR n q k, -1)
  | t + 1 => if sumR n (put q 12 s (q 12 s ||| ((1 : Int32) <<< (nI t &&& 31)))) k ≤ (advR n q s k t).1 then advR n q s k t else (sumR n (put q 12 s (q 12 s ||| ((1 : Int32) <<< (nI t &&& 31)))) k, nI t)
theorem rng1 {j L M : Nat} {a m : Int32} (ha : a = nI L) (hm : m = nI M) (h0 : L ≤ j) (h : j ≤ M) (hM : M ≤ 2147483647) : ¬ nI j < a ∧ ¬ m < nI j := ⟨by rw [ha]; exact nI_nlt h0 (by omega), by rw [hm]; exact nI_nlt h (by omega)⟩
theorem psN_s {n q : Rc} {k : Nat} : psN n (k + 1) q = psR n (psN n k q) := rfl
theorem arrR_4 {n q : Rc} {j i : Nat} (hi : i < 301) (h : q 3 j = 4) : arrR n j (301 - i) i q = nI i := by
  obtain ⟨k, hk⟩ : ∃ k, 301 - i = k + 1 := ⟨300 - i, by omega⟩
  rw [hk, arrR, if_pos h]
theorem arrR_s {n q : Rc} {j i : Nat} (hi : i < 301) (h : ¬ q 3 j = 4) : arrR n j (301 - i) i q = arrR n j (301 - (i + 1)) (i + 1) (psR n q) := by
  obtain ⟨k, hk⟩ : ∃ k, 301 - i = k + 1 := ⟨300 - i, by omega⟩
  rw [show 301 - (i + 1) = k by omega, hk, arrR, if_neg h]
