/-! contracts whose world afterwards holds some record that nobody reads again; what the class's methods answer -/
def CIE (l : Launch) (y : MethodName) (ws : List Cond) (rm : Room) (D : va_G) (cI : ClassId) (av : List Value) (W0 : va_W) (r : Int32) (W1 : Rc → va_W) : Prop :=
  ∀ sz : Nat, Met l y ws rm (va_Pc av (MP D cI W0 sz)) (va_Qi (fun (r' : Int32) (_ : Rc) => r' = r) (fun v => PO D (W1 v) (va_A W0 sz)) (va_A W0 sz)) rm.cells rm.slots (va_A W0 sz)
section XE
variable {l : Launch} {y : MethodName} {ws ws' : List Cond} {rm : Room} {D : va_G} {cI : ClassId} {av : List Value} {W0 : va_W} {W1 : Rc → va_W} {cc : ByteArray} {maxL : Nat}
theorem CIE.mk {ret : Option FieldType} {rt : FieldType} {r : Int32} (hret : ret = some rt) (hnr : narrow rt (.int r) = .int r) (hy : plainName y.cls = true) (hw : ws = Cond.code y cc maxL ret :: ws') (hsz : (lg_sl av).length ≤ maxL)
    (body : ∀ (p : Program) (e : Env) (s : State) (m : MethodId) (args : Array Value) (below : List Frame) (meth : Method) (c : Code) (A : Nat → Prop) (Q : State → Prop) (ls : Array Slot), p.tables.exec = Jvm.exec → c.code = cc → (∀ w ∈ ws, w.before args s = true) → s.vm.findClass y.cls = some m.cls → c.maxLocals = maxL → va_K D vwCl [(cI, .int)] s → NW s → (∀ q, s.heap.size ≤ q → A q) → va_P D vwCl W0 s.heap → va_D A W0 → va_S A s.heap s.heap [] → lv_has ls maxL (lv_args 0 av) →
      (∀ (v : Rc) (H : Heap) (locs : List Loc) (k n pc : Nat) (ls' : Array Slot) (r' : Int32) (W1' : va_W), r' = r → W1' = W1 v → va_P D vwCl W1' H → va_D A W1' → va_S A s.heap H locs → k ≤ rm.cells → n ≤ rm.slots → decode cc pc = .ok (.ireturn, 1) → W p l e rm s m args below meth c H locs k n Q (F0 m pc ls' [.int r'])) →
      W p l e rm s m args below meth c s.heap [] 0 0 Q (F0 m 0 ls [])) : CIE l y ws rm D cI av W0 r W1 := by
  intro sz
  refine Met.ofW (cc := cc) (maxL := maxL) (ret := ret) hy hw ?_
  intro p e s m args below meth c s₁ B hml hv
  obtain ⟨rfl, hsz0, hP, ⟨hK, hN⟩, hD0⟩ := hv
  have hr := B.returns
  have hlocks := B.notSynchronized
  have hts := atoms_spec (ws := ws) B.pre
  have hown : s.vm.findClass y.cls = some m.cls := findClass_of_methodNamed B.named
  subst hsz0
  have hA : ∀ q : Nat, s.heap.size ≤ q → va_A W0 s.heap.size q := fun q h => Or.inr h
  have hl := lv_entry av (n := maxL) hsz
  rw [lg_entry_eq]
  refine body p e s m av.toArray below meth c (va_A W0 s.heap.size) _ _ B.exec B.bytes hts hown hml hK hN hA hP (hD0.self (sz := s.heap.size)) va_S.rf hl ?_
  intro v H locs k n pc ls' r' W1' e1 e2 hP1 hD1 hS1 hk hn hdg
  subst e1; subst e2
  refine W.widen hk hn ?_
  exact W.zret B.exec B.bytes (hr.trans hret) hnr (fun t ht hW => ⟨⟨r', v, rfl, rfl, by rw [ht]; exact hP1, hD1⟩, hS1.F ht⟩) hS1.2.2 hdg hlocks
end XE
section XEC
variable {p : Program} {l : Launch} {e : Env} {R : Room} {s : State} {m : MethodId} {args : Array Value} {below : List Frame} {meth : Method} {c : Code} {H : Heap} {locs : List Loc} {cells slots : Nat} {Q : State → Prop}
variable {y : MethodName} {wsY : List Cond} {rm : Room} {As rest st0 : List Value} {ls : Array Slot} {pc : Nat} {D : va_G} {cI : ClassId} {A : Nat → Prop} {W0 Wc : va_W} {W1 : Rc → va_W} {H0 : Heap}
theorem ycalle {r : Int32} (hI : Inv p l e R s m args below meth c H locs cells slots y wsY rm As (F0 m pc ls st0) rest) (hM : CIE l y wsY rm D cI As Wc r W1) (hK : va_K D vwCl [(cI, .int)] s) (hN : NW s) (hA : ∀ q, H0.size ≤ q → A q) (hP : va_P D vwCl W0 H) (hD : va_D A W0) (hS : va_S A H0 H locs)
    (W2 : Rc → va_W) (isC isR isB : List Nat) (hC : isC.map (fun i => W0[i]?) = Wc.map some) (hR : isR.map (fun i => W0[i]?) = (sel W0 isR).map some) (hB : ∀ v, isB.map (fun i => (sel W0 isR ++ W1 v)[i]?) = (W2 v).map some) (hnn : va_nd isC = true ∧ va_nd isR = true ∧ va_nd isB = true ∧ isR.all (fun i => !isC.contains i) = true) (hf : cells + rm.cells ≤ R.cells ∧ slots + rm.slots ≤ R.slots)
    (kk : ∀ (v : Rc) (H1 : Heap) (locs1 : List Loc), va_P D vwCl (W2 v) H1 → va_D A (W2 v) → va_S A H0 H1 locs1 → W p l e R s m args below meth c H1 locs1 (cells + rm.cells) (slots + rm.slots) Q (F0 m (pc + 3) ls (.int r :: rest))) : W p l e R s m args below meth c H locs cells slots Q (F0 m pc ls st0) := by
  have hdis : ∀ i ∈ isR, i ∉ isC := fun i hi h => by
    have := List.all_eq_true.mp hnn.2.2.2 i hi
    simp [h] at this
  have hF := va_free hD hS hA isC hC
  refine va_calli (hI _ _ _ (hM H.size) MP.blind (xback hK hN hA hP hD hS isC hC hnn.1) hf) hS (fun q _ h => hF q h) hF (fun r' v t H1 locs1 ht hvm hw hB1 hz1 hk1 hS1 => ?_)
  obtain ⟨h1, h2⟩ := xafter hA hP hD hS isC isR isB hC hR (hB v) hnn.2.1 hnn.2.2.1 hdis ht hB1 hk1
  rw [hw]
  exact kk v H1 locs1 h1 h2 hS1
end XEC
-- arguments of checkIndex and checkArgument
theorem ci1 {j : Nat} {x : Int32} (hx : x = nI j) (hj : j ≤ 2147483647) : ¬ x < 0 := by rw [hx]; exact nI_pos (by omega)
theorem ci2 {j N : Nat} {x y : Int32} (hx : x = nI j) (hy : y = nI N) (h : j < N) (hN : N ≤ 2147483647) : x < y := by rw [hx, hy]; exact nI_lt h (by omega)
theorem ci3 {j N : Nat} {x y : Int32} (hx : x = nI j) (hy : y = nI N) (h : N ≤ j) (hj : j ≤ 2147483647) : ¬ x < y := by rw [hx, hy]; exact nI_nlt h (by omega)
theorem ci4 {j N : Nat} {x y : Int32} (hx : x = nI j) (hy : y = nI N) (h : j ≤ N) (hN : N ≤ 2147483647) : x ≤ y := by rw [hx, hy]; exact nI_le h (by omega)
-- the class's answers
def cntF (r u : Rc) (w : Nat) : Int32 := match w with
  | 0 => u 30 0
  | 1 => u 0 0
  | 2 => u 10 0
  | 9 => nxtF r (u 30 0)
  | w => u 6 (w - 3)
def stF (r u : Rc) (st w : Nat) : Int32 := match w with
  | 0 => r 20 st
  | 1 => r 21 st
  | _ => lbagF u (nI st)
def dIAF (r u : Rc) (s : Nat) (y : Int32) (k : Nat) : Int32 := runF r k (put u 12 s y) 6 4
def arrL (r : Rc) (j : Nat) : Nat → Nat → Rc → Int32
  | 0, _, _ => -1
  | k + 1, m, u => if u 3 j = 4 then nI m else if u 3 j = 5 then -1 else arrL r j k (m + 1) (minF r u)
/-- advise: the most so far and the best town so far, behind t towns -/
def advS (r u : Rc) (s k : Nat) : Nat → Int32 × Int32
  | 0 => (dIAF r u s (u 12 s) k, -1)
  | t + 1 => if hasT (u 12 s) (nI t) then advS r u s k t else
      if dIAF r u s (u 12 s ||| ((1 : Int32) <<< (nI t &&& 31))) k ≤ (advS r u s k t).1 then advS r u s k t else (dIAF r u s (u 12 s ||| ((1 : Int32) <<< (nI t &&& 31))) k, nI t)
def dg (f : Nat → Int32) : Nat → Int64 → Int64
  | 0, d => d
  | n + 1, d => dg f n d * 31 + (f n).toInt64
def dg2 (F : Nat → Nat → Int32) (w : Nat) : Nat → Int64 → Int64
  | 0, d => d
  | n + 1, d => dg (F n) w (dg2 F w n d)
def dig1 (r u : Rc) : Int64 := dg (cntF r u) 10 1049
def dig2 (r u : Rc) : Int64 := dg2 (stF r u) 3 8 (dig1 r u)
def dig3 (r u : Rc) : Int64 := dg (u 7) 16 (dig2 r u)
def dig4 (r u : Rc) : Int64 := dg2 (cfact u) 7 (iv (u 10 0)) (dig3 r u)
def dig5 (r u : Rc) : Int64 := dg2 (mfact u) 5 (iv (u 0 0)) (dig4 r u)
theorem dg_s {f : Nat → Int32} {n : Nat} {d : Int64} : dg f (n + 1) d = dg f n d * 31 + (f n).toInt64 := rfl
theorem dg2_s {F : Nat → Nat → Int32} {w n : Nat} {d : Int64} : dg2 F w (n + 1) d = dg (F n) w (dg2 F w n d) := rfl
theorem adv_h {r u : Rc} {s k t : Nat} (c : hasT (u 12 s) (nI t)) : advS r u s k (t + 1) = advS r u s k t := by
  rw [advS, if_pos c]
theorem adv_n {r u : Rc} {s k t : Nat} (c : ¬ hasT (u 12 s) (nI t)) (d : dIAF r u s (u 12 s ||| ((1 : Int32) <<< (nI t &&& 31))) k ≤ (advS r u s k t).1) : advS r u s k (t + 1) = advS r u s k t := by
  rw [advS, if_neg c, if_pos d]
theorem adv_y {r u : Rc} {s k t : Nat} (c : ¬ hasT (u 12 s) (nI t)) (d : ¬ dIAF r u s (u 12 s ||| ((1 : Int32) <<< (nI t &&& 31))) k ≤ (advS r u s k t).1) : advS r u s k (t + 1) = (dIAF r u s (u 12 s ||| ((1 : Int32) <<< (nI t &&& 31))) k, nI t) := by
  rw [advS, if_neg c, if_neg d]
theorem run_s {r u : Rc} {k : Nat} : runF r (k + 1) u = minF r (runF r k u) := rfl
theorem lp_ge {i : Nat} (h : nI i ≤ 300) (hi : i ≤ 301) : i ≤ 300 := by
  rcases Nat.lt_or_ge 300 i with q | q
  · exact absurd h (nI_ge (a := 300) (b := i) q (by omega))
  · exact q
theorem lp_gt {i : Nat} (h : (300 : Int32) < nI i) (hi : i ≤ 301) : i = 301 := by
  rcases Nat.lt_or_ge 300 i with q | q
  · omega
  · exact absurd h (nI_nlt (a := 300) (b := i) q (by omega))
theorem arr_4 {r u : Rc} {j i : Nat} (hi : i < 301) (h : u 3 j = 4) : arrL r j (301 - i) i u = nI i := by
  obtain ⟨k, hk⟩ : ∃ k, 301 - i = k + 1 := ⟨300 - i, by omega⟩
  rw [hk, arrL, if_pos h]
theorem arr_5 {r u : Rc} {j i : Nat} (hi : i < 301) (h4 : ¬ u 3 j = 4) (h : u 3 j = 5) : arrL r j (301 - i) i u = -1 := by
  obtain ⟨k, hk⟩ : ∃ k, 301 - i = k + 1 := ⟨300 - i, by omega⟩
  rw [hk, arrL, if_neg h4, if_pos h]
theorem arr_s {r u : Rc} {j i : Nat} (hi : i < 301) (h4 : ¬ u 3 j = 4) (h : ¬ u 3 j = 5) : arrL r j (301 - i) i u = arrL r j (301 - (i + 1)) (i + 1) (minF r u) := by
  obtain ⟨k, hk⟩ : ∃ k, 301 - i = k + 1 := ⟨300 - i, by omega⟩
  rw [show 301 - (i + 1) = k by omega, hk, arrL, if_neg h4, if_neg h]
