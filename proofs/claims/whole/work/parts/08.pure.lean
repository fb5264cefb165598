/-! loops, searches and counts as functions; the class's methods as functions of the record -/
theorem nI_inc (n : Nat) : nI n + Int32.ofInt 1 = nI (n + 1) := (nI_succ n).symm
theorem b01t {P : Prop} [Decidable P] (h : (if P then (1 : Int32) else 0) = 0) : ¬ P := by
  intro hp
  rw [if_pos hp] at h
  exact absurd h (by decide)
theorem b01f {P : Prop} [Decidable P] (h : ¬ (if P then (1 : Int32) else 0) = 0) : P := by
  by_cases hp : P
  · exact hp
  · rw [if_neg hp] at h
    exact absurd rfl h
theorem lp_in {x : Int32} {i N : Nat} (hx : x = nI N) (hN : N ≤ 2147483647) (hi : i ≤ N) (h : ¬ x ≤ nI i) : i < N := by
  rcases Nat.lt_or_ge i N with q | q
  · exact q
  · exact absurd (by rw [hx]; exact nI_le q (by omega)) h
theorem lp_out {x : Int32} {i N : Nat} (hx : x = nI N) (hN : N ≤ 2147483647) (hi : i ≤ N) (h : x ≤ nI i) : i = N := by
  rcases Nat.lt_or_ge i N with q | q
  · exact absurd h (by rw [hx]; exact nI_ge q (by omega))
  · omega
theorem NW.F {s : State} {args : Array Value} (h : NW s) {a : String} {i : Nat} {b n d h9 : String} (hm : Cond.fieldLinkNest a i b n d h9 ∈ NWs) : (Cond.fieldLinkNest a i b n d h9).before args s = true := va_Nw.use rfl (h _ hm)
theorem NW.M {s : State} (h : NW s) {a : String} {i : Nat} {x : MethodName} {h9 : String} (hm : Cond.methodLinkNest a i x h9 ∈ NWs) : va_Nw (.methodLinkNest a i x h9) s := h _ hm
def itN (F : Nat → Rc → Rc) : Nat → Rc → Rc
  | 0, u => u
  | n + 1, u => F n (itN F n u)
theorem itN_s {F : Nat → Rc → Rc} {n : Nat} {u : Rc} : itN F (n + 1) u = F n (itN F n u) := rfl
def fnd (p : Nat → Bool) : Nat → Int32
  | 0 => -1
  | n + 1 => if fnd p n = -1 then (if p n = true then nI n else -1) else fnd p n
theorem nI_nm1 {n : Nat} (h : n ≤ 2147483647) : ¬ nI n = -1 := by
  intro q
  have h1 := congrArg Int32.toInt q
  rw [nI_toInt (by omega)] at h1
  have h2 : (-1 : Int32).toInt = -1 := by decide
  omega
theorem fnd_no {p : Nat → Bool} : ∀ {n : Nat}, (∀ k, k < n → p k = false) → fnd p n = -1
  | 0, _ => rfl
  | n + 1, h => by
    rw [fnd, fnd_no (fun k hk => h k (by omega)), if_pos rfl, h n (by omega)]
    rfl
theorem fnd_at {p : Nat → Bool} {i : Nat} (hp : p i = true) (hb : ∀ k, k < i → p k = false) : ∀ {n : Nat}, i < n → n ≤ 2147483647 → fnd p n = nI i
  | 0, h, _ => absurd h (by omega)
  | n + 1, h, hn => by
    rw [fnd]
    rcases Nat.lt_or_ge i n with q | q
    · rw [fnd_at hp hb q (by omega), if_neg (nI_nm1 (by omega))]
    · have e : i = n := by omega
      subst e
      rw [fnd_no hb, if_pos rfl, if_pos hp]
/-- what a search answers: none, or the first place -/
theorem fnd_spec (p : Nat → Bool) : ∀ (n : Nat), n ≤ 2147483647 → (fnd p n = -1 ∧ ∀ k, k < n → p k = false) ∨ ∃ i, i < n ∧ fnd p n = nI i ∧ p i = true ∧ ∀ k, k < i → p k = false
  | 0, _ => Or.inl ⟨rfl, fun k h => absurd h (by omega)⟩
  | n + 1, hn => by
    rcases fnd_spec p n (by omega) with ⟨h1, h2⟩ | ⟨i, h1, h2, h3, h4⟩
    · cases hp : p n with
      | true => exact Or.inr ⟨n, by omega, by rw [fnd, h1, if_pos rfl, if_pos hp], hp, h2⟩
      | false =>
        refine Or.inl ⟨by rw [fnd, h1, if_pos rfl, hp]; rfl, fun k hk => ?_⟩
        rcases Nat.lt_or_ge k n with q | q
        · exact h2 k q
        · have e : k = n := by omega
          rw [e]; exact hp
    · exact Or.inr ⟨i, by omega, by rw [fnd, h2, if_neg (nI_nm1 (by omega))], h3, h4⟩
def cntN (p : Nat → Bool) : Nat → Int32
  | 0 => 0
  | n + 1 => cntN p n + (if p n = true then 1 else 0)
abbrev hasT (a b : Int32) : Prop := (a >>> (b &&& 31)) &&& 1 = 1
def setR (u : Rc) (f : Nat) (row : Nat → Int32) : Rc := fun g => if g = f then row else u g
-- what a field may hold
def good (f : Nat) (v : Int32) : Prop := match f with
  | 0 => vp_in v 61
  | 1 => vp_in v 16
  | 2 => vp_in v 8
  | 3 => vp_in v 6
  | 4 => v = -1 ∨ vp_in v 4
  | 10 => vp_in v 5
  | 15 => v = -1 ∨ vp_in v 60
  | _ => True
def Ok (u : Rc) : Prop := ∀ f j, good f (u f j)
theorem Ok.ptt {u : Rc} (h : Ok u) {f i : Nat} {v : Int32} (hv : good f v) : Ok (put u f i v) := by
  intro g j
  rw [put_at]
  by_cases q : g = f ∧ j = i
  · rw [if_pos q, q.1]; exact hv
  · rw [if_neg q]; exact h g j
theorem Ok.n {u : Rc} (h : Ok u) : u 0 0 = nI (iv (u 0 0)) := vi_eq (n := 61) (h 0 0) (by decide)
theorem Ok.n60 {u : Rc} (h : Ok u) : iv (u 0 0) ≤ 60 := Nat.le_of_lt_succ (vi_lt (n := 61) (h 0 0))
theorem Ok.k {u : Rc} (h : Ok u) : u 10 0 = nI (iv (u 10 0)) := vi_eq (n := 5) (h 10 0) (by decide)
theorem Ok.k4 {u : Rc} (h : Ok u) : iv (u 10 0) ≤ 4 := Nat.le_of_lt_succ (vi_lt (n := 5) (h 10 0))
theorem Ok.held {u : Rc} (h : Ok u) {s : Nat} (c : ¬ u 15 s = -1) : vp_in (u 15 s) 60 := (h 15 s).resolve_left c
theorem Ok.hold {u : Rc} (h : Ok u) {s : Nat} (c : ¬ u 4 s = -1) : vp_in (u 4 s) 4 := (h 4 s).resolve_left c
def Fr (u w : Rc) : Prop := ∀ g, (g ≤ 2 ∨ (10 ≤ g ∧ g ≤ 12)) → w g = u g
theorem Fr.rf {u : Rc} : Fr u u := fun _ _ => rfl
theorem Fr.tr {u v w : Rc} (h : Fr u v) (h2 : Fr v w) : Fr u w := fun g hg => (h2 g hg).trans (h g hg)
theorem Fr.ptt {u w : Rc} (h : Fr u w) {f i : Nat} {v : Int32} (hf : ¬ (f ≤ 2 ∨ (10 ≤ f ∧ f ≤ 12))) : Fr u (put w f i v) := fun g hg => by
  rw [put_rw (fun q => hf (by rw [← q]; exact hg))]
  exact h g hg
/-- a step that keeps what the fields may hold, and the fields that no minute changes -/
def Pr (u w : Rc) : Prop := Ok u → Ok w ∧ Fr u w
theorem Pr.rf {u : Rc} : Pr u u := fun h => ⟨h, Fr.rf⟩
theorem Pr.tr {u v w : Rc} (h : Pr u v) (h2 : Pr v w) : Pr u w := fun k => ⟨(h2 (h k).1).1, (h k).2.tr (h2 (h k).1).2⟩
theorem Pr.ptt {u w : Rc} (h : Pr u w) {f i : Nat} {v : Int32} (hf : ¬ (f ≤ 2 ∨ (10 ≤ f ∧ f ≤ 12))) (hv : Ok u → good f v) : Pr u (put w f i v) := fun k => ⟨(h k).1.ptt (hv k), (h k).2.ptt hf⟩
theorem Pr.if {u v w : Rc} {c : Prop} [Decidable c] (h : c → Pr u v) (h2 : ¬ c → Pr u w) : Pr u (if c then v else w) := by
  by_cases q : c
  · rw [if_pos q]; exact h q
  · rw [if_neg q]; exact h2 q
theorem Pr.it {F : Nat → Rc → Rc} (h : ∀ j w, Pr w (F j w)) {u : Rc} : ∀ n, Pr u (itN F n u)
  | 0 => Pr.rf
  | n + 1 => (Pr.it h n).tr (h n _)
def opt (p : Rc → Prop) [DecidablePred p] (f : Rc → Rc) (u : Rc) : Rc := if p u then f u else u
theorem opt_t {p : Rc → Prop} [DecidablePred p] {f : Rc → Rc} {u : Rc} (h : p u) : opt p f u = f u := if_pos h
theorem opt_f {p : Rc → Prop} [DecidablePred p] {f : Rc → Rc} {u : Rc} (h : ¬ p u) : opt p f u = u := if_neg h
theorem Pr.opt {p : Rc → Prop} [DecidablePred p] {f : Rc → Rc} {u v : Rc} (h : Pr u v) (hf : p v → Pr v (f v)) : Pr u (opt p f v) := by
  by_cases q : p v
  · rw [opt_t q]; exact h.tr (hf q)
  · rw [opt_f q]; exact h
-- the mail
def mvA (j : Nat) (u : Rc) : Rc := put u 6 (iv (u 3 j)) (u 6 (iv (u 3 j)) - 1)
def mvB (t : Int32) (u : Rc) : Rc := put u 6 (iv t) (u 6 (iv t) + 1)
def mvC (j : Nat) (u : Rc) : Rc := put u 7 (iv (u 1 j)) (u 7 (iv (u 1 j)) - 1)
def mvD (j : Nat) (u : Rc) : Rc := put u 7 (iv (u 1 j)) (u 7 (iv (u 1 j)) + 1)
def mvF (u : Rc) (j : Nat) (t : Int32) : Rc := put (put (opt (fun _ => t = 3) (mvD j) (opt (fun _ => u 3 j = 3) (mvC j) (mvB t (mvA j u)))) 4 j (-1)) 3 j t
def mvH (u : Rc) (j : Nat) (sv : Int32) : Rc := put (mvF u j 2) 4 j sv
def endF (u : Rc) (j : Nat) (how mn : Int32) : Rc := put (mvF u j how) 5 j mn
def incS (f : Nat) (u : Rc) : Rc := put u f 0 (u f 0 + 1)
def addF (u : Rc) (st tw : Int32) : Rc := incS 0 (incS 6 (put (put (put (put (put u 1 (iv (u 0 0)) tw) 2 (iv (u 0 0)) st) 3 (iv (u 0 0)) 0) 4 (iv (u 0 0)) (-1)) 5 (iv (u 0 0)) (-1)))
def mfact (u : Rc) (j : Nat) (w : Nat) : Int32 := match w with
  | 0 => u 3 j
  | 1 => u 1 j
  | 2 => u 2 j
  | 3 => u 4 j
  | _ => u 5 j
def firstF (u : Rc) (tw : Int32) : Int32 := if u 6 1 = 0 then -1 else fnd (fun k => decide (u 3 k = 1 ∧ hasT tw (u 1 k))) (iv (u 0 0))
abbrev inBag (u : Rc) (j : Nat) (st : Int32) : Prop := u 3 j = 0 ∧ u 2 j = st
def lbagF (u : Rc) (st : Int32) : Int32 := cntN (fun k => decide (inBag u k st)) (iv (u 0 0))
def fullN (h : Nat → Int32) : Nat → Nat
  | 0 => 0
  | m + 1 => if h (m + 1) ≤ h (fullN h m) then fullN h m else m + 1
theorem fullN_le (h : Nat → Int32) : ∀ m, fullN h m ≤ m
  | 0 => Nat.le_refl 0
  | m + 1 => by
    have := fullN_le h m
    rw [fullN]
    split <;> omega
def spillB (t : Int32) (j : Nat) (w : Rc) : Rc := opt (fun w => w 3 j = 3 ∧ w 1 j = t) (fun w => mvF w j 1) w
def spillF (t : Int32) (u : Rc) : Rc := itN (spillB t) (iv (u 0 0)) u
-- the crew
def needF (u : Rc) (s : Nat) : Int32 := if 1 ≤ u 11 s + u 13 s / 5 - 2 * u 14 s then u 11 s + u 13 s / 5 - 2 * u 14 s else 1
def takeF (u : Rc) (s : Nat) (x : Int32) : Rc := put (put u 15 s x) 16 s (needF (put u 15 s x) s)
def freeF (u : Rc) (s : Nat) : Rc := put (put u 15 s (-1)) 16 s 0
def spTeaF (u : Rc) : Rc := itN (fun s w => put w 14 s 0) (iv (u 10 0)) u
def tireF (by' : Int32) (u : Rc) : Rc := itN (fun s w => put w 13 s (w 13 s + by')) (iv (u 10 0)) u
def crAddF (u : Rc) (pc tw : Int32) : Rc := incS 10 (put (put (put u 11 (iv (u 10 0)) pc) 12 (iv (u 10 0)) tw) 15 (iv (u 10 0)) (-1))
def cfact (u : Rc) (s : Nat) (w : Nat) : Int32 := match w with
  | 0 => u 11 s
  | 1 => u 12 s
  | 2 => u 13 s
  | 3 => u 14 s
  | 4 => u 15 s
  | 5 => u 16 s
  | _ => u 17 s
-- the line
abbrev riseF (r : Rc) (st : Nat) (mn : Int32) : Prop := (st = 0 ∨ ¬ mn ≤ r 20 (st - 1)) ∧ (st = 7 ∨ ¬ r 20 (st + 1) ≤ mn)
def psdF (r : Rc) (mn : Int32) : Int32 := fnd (fun k => decide (r 20 k = mn)) 8
def nxtF (r : Rc) (mn : Int32) : Int32 := if fnd (fun k => decide (¬ r 20 k < mn)) 8 = -1 then 8 else fnd (fun k => decide (¬ r 20 k < mn)) 8
-- the train
def tkF (s : Nat) (u : Rc) : Rc := if firstF u (u 12 s) = -1 then u else takeF (mvH u (iv (firstF u (u 12 s))) (nI s)) s (firstF u (u 12 s))
def addB (s : Nat) (x : Int32) (w : Rc) : Rc := put w 17 s (w 17 s + x)
def tirB (s : Nat) (w : Rc) : Rc := put w 13 s (w 13 s + 1)
def decB (s : Nat) (w : Rc) : Rc := put w 16 s (w 16 s - 1)
def putA (s : Nat) (u : Rc) : Rc := if 8 ≤ u 7 (iv (u 1 (iv (u 15 s)))) then mvF u (iv (u 15 s)) 1 else addB s 1 (mvF u (iv (u 15 s)) 3)
def putF (s : Nat) (u : Rc) : Rc := freeF (tirB s (putA s u)) s
def wkF (s : Nat) (u : Rc) : Rc := opt (fun w => w 16 s ≤ 0) (putF s) (decB s u)
def endM (how : Int32) (j : Nat) (u : Rc) : Rc := endF u j how (u 30 0)
def hinF (st : Int32) (j : Nat) (u : Rc) : Rc := if u 1 j / 2 ≤ st then endM 5 j u else mvF u j 1
def houtF (j : Nat) (u : Rc) : Rc :=
  if u 3 j = 3 then endM 4 j u
  else if u 3 j = 1 ∨ u 3 j = 2 then endM 5 j (opt (fun _ => ¬ u 4 j = -1) (fun w => freeF w (iv (u 4 j))) u)
  else u
def srvB (st : Int32) (j : Nat) (w : Rc) : Rc := if inBag w j st then hinF st j w else if w 1 j / 2 = st then houtF j w else w
def srvF (st : Int32) (u : Rc) : Rc := itN (srvB st) (iv (u 0 0)) u
def shkF (jl : Int32) (u : Rc) : Rc := opt (fun _ => ¬ jl < 3) (tireF 3) (opt (fun _ => ¬ jl < 2) (fun w => spillF (nI (fullN (w 7) 15)) w) (opt (fun _ => ¬ jl < 1) spTeaF u))
def sorB (s : Nat) (w : Rc) : Rc := opt (fun w => ¬ w 15 s = -1) (wkF s) (opt (fun w => w 15 s = -1) (tkF s) w)
def minF (r u : Rc) : Rc := incS 30 (opt (fun w => ¬ psdF r (w 30 0 - 5) = -1) (fun w => shkF (r 21 (iv (psdF r (w 30 0 - 5)))) w) (opt (fun w => ¬ psdF r (w 30 0) = -1) (fun w => srvF (psdF r (w 30 0)) w) (itN sorB (iv (u 10 0)) u)))
def runF (r : Rc) (n : Nat) (u : Rc) : Rc := itN (fun _ w => minF r w) n u
def cpM (u v : Rc) : Rc := fun g => if g ≤ 7 then v g else u g
def cpC (u v : Rc) : Rc := fun g => if 10 ≤ g ∧ g ≤ 17 then v g else u g
-- the reference: n its model, q one State
def areR (n q : Rc) (w : Int32) : Int32 := cntN (fun k => decide (q 3 k = w)) (iv (n 0 0))
def holeR (n q : Rc) (t : Int32) : Int32 := cntN (fun k => decide (q 3 k = 3 ∧ n 1 k = t)) (iv (n 0 0))
def fforR (n q : Rc) (s : Nat) : Int32 := fnd (fun k => decide (q 3 k = 1 ∧ hasT (q 12 s) (n 1 k))) (iv (n 0 0))
def ndR (n q : Rc) (s : Nat) : Int32 := if 1 < n 11 s + q 13 s / 5 - 2 * q 14 s then n 11 s + q 13 s / 5 - 2 * q 14 s else 1
def tkX (n q : Rc) (s : Nat) (x : Int32) : Rc := put (put (put (put q 15 s x) 16 s (ndR n (put q 15 s x) s)) 3 (iv x) 2) 4 (iv x) (nI s)
def takR (n : Rc) (s : Nat) (q : Rc) : Rc := if fforR n q s = -1 then q else tkX n q s (fforR n q s)
def letR (s : Nat) (t : Int32) (q : Rc) : Rc := put (put (put (put q 3 (iv (q 15 s)) t) 4 (iv (q 15 s)) (-1)) 15 s (-1)) 16 s 0
def donR (n : Rc) (s : Nat) (q : Rc) : Rc := if 8 ≤ holeR n q (n 1 (iv (q 15 s))) then tirB s (addB s 0 (letR s 1 q)) else tirB s (addB s 1 (letR s 3 q))
def wk2R (n : Rc) (s : Nat) (q : Rc) : Rc := opt (fun w => w 16 s ≤ 0) (donR n s) (decB s q)
def wrkR (n : Rc) (s : Nat) (q : Rc) : Rc := opt (fun w => ¬ w 15 s = -1) (wk2R n s) (opt (fun w => w 15 s = -1) (takR n s) q)
def stampB (j : Nat) (w : Rc) : Rc := put w 5 j (w 30 0)
def endR (j : Nat) (t : Int32) (q : Rc) : Rc := stampB j (put (opt (fun w => w 3 j = 2) (fun w => letR (iv (w 4 j)) t w) q) 3 j t)
def ps1R (n : Rc) (st : Int32) (j : Nat) (w : Rc) : Rc := if n 1 j / 2 = st ∧ w 3 j = 3 then endR j 4 w else if n 1 j / 2 = st ∧ (w 3 j = 1 ∨ w 3 j = 2) then endR j 5 w else w
def ps2R (n : Rc) (st : Int32) (j : Nat) (w : Rc) : Rc := if w 3 j = 0 ∧ n 2 j = st then (if n 1 j / 2 ≤ st then endR j 5 w else put w 3 j 1) else w
def pstR (n : Rc) (st : Int32) (q : Rc) : Rc := itN (ps2R n st) (iv (n 0 0)) (itN (ps1R n st) (iv (n 0 0)) q)
def shB (b : Int32) (s : Nat) (w : Rc) : Rc := opt (fun _ => b = 3) (fun w => put w 13 s (w 13 s + 3)) (opt (fun _ => ¬ b ≤ 0) (fun w => put w 14 s 0) w)
def spB (n : Rc) (f : Int32) (j : Nat) (w : Rc) : Rc := opt (fun w => w 3 j = 3 ∧ n 1 j = f) (fun w => put w 3 j 1) w
def shkR (n : Rc) (b : Int32) (q : Rc) : Rc := opt (fun _ => ¬ b < 2) (fun w => itN (spB n (nI (fullN (fun t => holeR n w (nI t)) 15))) (iv (n 0 0)) w) (itN (shB b) (iv (n 10 0)) q)
def mdR (n q : Rc) : Rc := itN (wrkR n) (iv (n 10 0)) q
def psR (n q : Rc) : Rc := incS 30 (itN (fun st => opt (fun w => n 20 st + 5 = w 30 0) (shkR n (n 21 st))) 8 (itN (fun st => opt (fun w => n 20 st = w 30 0) (pstR n (nI st))) 8 (mdR n q)))
def psA (n q : Rc) : Int32 := areR n (psR n q) 4 - areR n (mdR n q) 4
def psN (n : Rc) (k : Nat) (q : Rc) : Rc := itN (fun _ w => psR n w) k q
def sumR (n q : Rc) : Nat → Int32
  | 0 => 0
  | k + 1 => sumR n q k + psA n (psN n k q)
-- what each step keeps
theorem vp_lit {x : Int32} {n : Nat} (h : ¬ (x < 0 ∨ n ≤ x.toNatClampNeg)) : vp_in x n := h
theorem Pr.pt (f : Nat) {u w : Rc} {i : Nat} {v : Int32} (h : Pr u w) (hf : ¬ (f ≤ 2 ∨ (10 ≤ f ∧ f ≤ 12))) (hv : ∀ x, good f x) : Pr u (put w f i v) := Pr.ptt h hf (fun _ => hv v)
theorem Pr.p4 {u w : Rc} {i : Nat} {v : Int32} (h : Pr u w) (hv : v = -1 ∨ vp_in v 4) : Pr u (put w 4 i v) := Pr.ptt h (by omega) (fun _ => hv)
theorem Pr.p3 {u w : Rc} {i : Nat} {v : Int32} (h : Pr u w) (hv : vp_in v 6) : Pr u (put w 3 i v) := Pr.ptt h (by omega) (fun _ => hv)
theorem Pr.p15 {u w : Rc} {i : Nat} {v : Int32} (h : Pr u w) (hv : v = -1 ∨ vp_in v 60) : Pr u (put w 15 i v) := Pr.ptt h (by omega) (fun _ => hv)
theorem mv_pr {u : Rc} {j : Nat} {t : Int32} (ht : vp_in t 6) : Pr u (mvF u j t) := by
  unfold mvF
  refine Pr.p3 (Pr.p4 (Pr.opt (Pr.opt ?_ (fun _ => ?_)) (fun _ => ?_)) (Or.inl rfl)) ht
  · exact Pr.pt 6 (Pr.pt 6 Pr.rf (by omega) (fun _ => trivial)) (by omega) (fun _ => trivial)
  · exact Pr.pt 7 Pr.rf (by omega) (fun _ => trivial)
  · exact Pr.pt 7 Pr.rf (by omega) (fun _ => trivial)
theorem free_pr {u : Rc} {s : Nat} : Pr u (freeF u s) := Pr.pt 16 (Pr.p15 Pr.rf (Or.inl rfl)) (by omega) (fun _ => trivial)
theorem endF_pr {u : Rc} {j : Nat} {t mn : Int32} (ht : vp_in t 6) : Pr u (endF u j t mn) := Pr.pt 5 (mv_pr ht) (by omega) (fun _ => trivial)
theorem mvH_pr {u : Rc} {j s : Nat} (hs : s < 4) : Pr u (mvH u j (nI s)) := Pr.p4 (mv_pr (vp_lit (by decide))) (Or.inr (vi_of hs (by decide)))
theorem takeF_pr {u : Rc} {s : Nat} {x : Int32} (hx : vp_in x 60) : Pr u (takeF u s x) := Pr.pt 16 (Pr.p15 Pr.rf (Or.inr hx)) (by omega) (fun _ => trivial)
theorem firstF_in {u : Rc} (ok : Ok u) {tw : Int32} (h : ¬ firstF u tw = -1) : vp_in (firstF u tw) 60 := by
  have hn := ok.n60
  unfold firstF at h ⊢
  by_cases c : u 6 1 = 0
  · rw [if_pos c] at h; exact absurd rfl h
  · rw [if_neg c] at h ⊢
    rcases fnd_spec (fun k => decide (u 3 k = 1 ∧ hasT tw (u 1 k))) (iv (u 0 0)) (by omega) with ⟨h1, -⟩ | ⟨i, h1, h2, -, -⟩
    · exact absurd h1 h
    · rw [h2]; exact vi_of (by omega) (by decide)
theorem psd_in {r : Rc} {x : Int32} (h : ¬ psdF r x = -1) : vp_in (psdF r x) 8 := by
  unfold psdF at h ⊢
  rcases fnd_spec (fun k => decide (r 20 k = x)) 8 (by omega) with ⟨h1, -⟩ | ⟨i, h1, h2, -, -⟩
  · exact absurd h1 h
  · rw [h2]; exact vi_of h1 (by decide)
theorem tkF_pr {u : Rc} {s : Nat} (hs : s < 4) : Pr u (tkF s u) := fun ok => by
  unfold tkF
  by_cases c : firstF u (u 12 s) = -1
  · rw [if_pos c]; exact Pr.rf ok
  · rw [if_neg c]
    exact ((mvH_pr hs).tr (takeF_pr (firstF_in ok c))) ok
theorem putF_pr {u : Rc} {s : Nat} : Pr u (putF s u) := by
  unfold putF tirB putA addB
  refine Pr.tr ?_ free_pr
  refine Pr.pt 13 ?_ (by omega) (fun _ => trivial)
  exact Pr.if (fun _ => mv_pr (vp_lit (by decide))) (fun _ => Pr.pt 17 (mv_pr (vp_lit (by decide))) (by omega) (fun _ => trivial))
theorem decB_pr {u : Rc} {s : Nat} : Pr u (decB s u) := Pr.pt 16 Pr.rf (by omega) (fun _ => trivial)
theorem wkF_pr {u : Rc} {s : Nat} : Pr u (wkF s u) := Pr.opt decB_pr (fun _ => putF_pr)
theorem sorB_pr {u : Rc} {s : Nat} (hs : s < 4) : Pr u (sorB s u) := Pr.opt (Pr.opt Pr.rf (fun _ => tkF_pr hs)) (fun _ => wkF_pr)
theorem endM_pr {u : Rc} {j : Nat} {t : Int32} (ht : vp_in t 6) : Pr u (endM t j u) := endF_pr ht
theorem hinF_pr {u : Rc} {j : Nat} {st : Int32} : Pr u (hinF st j u) := Pr.if (fun _ => endM_pr (vp_lit (by decide))) (fun _ => mv_pr (vp_lit (by decide)))
theorem houtF_pr {u : Rc} {j : Nat} : Pr u (houtF j u) := by
  have v4 : vp_in 4 6 := vp_lit (by decide)
  have v5 : vp_in 5 6 := vp_lit (by decide)
  have h1 : Pr u (opt (fun _ => ¬ u 4 j = -1) (fun w => freeF w (iv (u 4 j))) u) := Pr.opt Pr.rf (fun _ => free_pr)
  have h2 : Pr u (endM 5 j (opt (fun _ => ¬ u 4 j = -1) (fun w => freeF w (iv (u 4 j))) u)) := h1.tr (endM_pr v5)
  have h3 : Pr u (endM 4 j u) := endM_pr v4
  unfold houtF
  by_cases c : u 3 j = 3
  · rw [if_pos c]; exact h3
  · rw [if_neg c]
    by_cases c2 : u 3 j = 1 ∨ u 3 j = 2
    · rw [if_pos c2]; exact h2
    · rw [if_neg c2]; exact Pr.rf
theorem srvB_pr {u : Rc} {j : Nat} {st : Int32} : Pr u (srvB st j u) := Pr.if (fun _ => hinF_pr) (fun _ => Pr.if (fun _ => houtF_pr) (fun _ => Pr.rf))
theorem srvF_pr {u : Rc} {st : Int32} : Pr u (srvF st u) := Pr.it (fun _ _ => srvB_pr) _
theorem spillB_pr {u : Rc} {j : Nat} {t : Int32} : Pr u (spillB t j u) := Pr.opt Pr.rf (fun _ => mv_pr (vp_lit (by decide)))
theorem spillF_pr {u : Rc} {t : Int32} : Pr u (spillF t u) := Pr.it (fun _ _ => spillB_pr) _
theorem spTea_pr {u : Rc} : Pr u (spTeaF u) := Pr.it (fun _ _ => Pr.pt 14 Pr.rf (by omega) (fun _ => trivial)) _
theorem tire_pr {u : Rc} {x : Int32} : Pr u (tireF x u) := Pr.it (fun _ _ => Pr.pt 13 Pr.rf (by omega) (fun _ => trivial)) _
theorem shkF_pr {u : Rc} {x : Int32} : Pr u (shkF x u) := Pr.opt (Pr.opt (Pr.opt Pr.rf (fun _ => spTea_pr)) (fun _ => spillF_pr)) (fun _ => tire_pr)
theorem sors_pr {u : Rc} : ∀ {n : Nat}, n ≤ 4 → Pr u (itN sorB n u)
  | 0, _ => Pr.rf
  | n + 1, h => (sors_pr (by omega)).tr (sorB_pr (by omega))
theorem tick_pr {u : Rc} : Pr u (incS 30 u) := Pr.pt 30 Pr.rf (by omega) (fun _ => trivial)
theorem minF_pr {r u : Rc} : Pr u (minF r u) := fun ok => by
  have h1 : Pr u (itN sorB (iv (u 10 0)) u) := sors_pr ok.k4
  unfold minF
  refine Pr.tr (Pr.opt (Pr.opt h1 (fun _ => ?_)) (fun _ => ?_)) tick_pr ok
  · exact srvF_pr
  · exact shkF_pr
theorem runF_pr {r u : Rc} {n : Nat} : Pr u (runF r n u) := Pr.it (fun _ _ => minF_pr) _
