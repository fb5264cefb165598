section
-- ===== PART A: goes FIRST, ahead of the names: the tables' words, and 'selects' of the private methods out of them =====
/-- a private method of a class that the tables say can be made, by its rows of tables_1 -/
def lw_okq (q : MethodName × Nat) : Prop := (q.1.cls ≠ "java/lang/invoke/MethodHandle" ∧ q.1.cls ≠ "java/lang/invoke/VarHandle") ∧ Cond.instantiable q.1.cls q.2 ∈ tables_1 ∧ Cond.privateMethod q.1 ∈ tables_1 ∧ Cond.instanceMethod q.1 ∈ tables_1
theorem lw_p0 : lw_okq (⟨"java/lang/Throwable", "fillInStackTrace", "(I)Ljava/lang/Throwable;"⟩, 6) := ⟨⟨by decide +kernel, by decide +kernel⟩, List.mem_of_getElem? (i := 208) (by decide +kernel), List.mem_of_getElem? (i := 206) (by decide +kernel), List.mem_of_getElem? (i := 207) (by decide +kernel)⟩
theorem lw_p1 : lw_okq (⟨"NightSorters", "deliveredIfAssigned", "(III)I"⟩, 2) := ⟨⟨by decide +kernel, by decide +kernel⟩, List.mem_of_getElem? (i := 17) (by decide +kernel), List.mem_of_getElem? (i := 520) (by decide +kernel), List.mem_of_getElem? (i := 521) (by decide +kernel)⟩
theorem lw_p2 : lw_okq (⟨"NightSortersModel", "no", "(I)I"⟩, 10) := ⟨⟨by decide +kernel, by decide +kernel⟩, List.mem_of_getElem? (i := 525) (by decide +kernel), List.mem_of_getElem? (i := 633) (by decide +kernel), List.mem_of_getElem? (i := 634) (by decide +kernel)⟩
theorem lw_p3 : lw_okq (⟨"NightSortersModel", "wouldRise", "(II)Z"⟩, 10) := ⟨⟨by decide +kernel, by decide +kernel⟩, List.mem_of_getElem? (i := 525) (by decide +kernel), List.mem_of_getElem? (i := 637) (by decide +kernel), List.mem_of_getElem? (i := 638) (by decide +kernel)⟩
theorem lw_p4 : lw_okq (⟨"NightSortersModel", "isSorter", "(I)Z"⟩, 10) := ⟨⟨by decide +kernel, by decide +kernel⟩, List.mem_of_getElem? (i := 525) (by decide +kernel), List.mem_of_getElem? (i := 660) (by decide +kernel), List.mem_of_getElem? (i := 661) (by decide +kernel)⟩
theorem lw_p5 : lw_okq (⟨"NightSortersModel", "isLetter", "(I)Z"⟩, 10) := ⟨⟨by decide +kernel, by decide +kernel⟩, List.mem_of_getElem? (i := 525) (by decide +kernel), List.mem_of_getElem? (i := 672) (by decide +kernel), List.mem_of_getElem? (i := 673) (by decide +kernel)⟩
theorem lw_p6 : lw_okq (⟨"NightSortersModel", "letterTold", "(II)I"⟩, 10) := ⟨⟨by decide +kernel, by decide +kernel⟩, List.mem_of_getElem? (i := 525) (by decide +kernel), List.mem_of_getElem? (i := 676) (by decide +kernel), List.mem_of_getElem? (i := 677) (by decide +kernel)⟩
theorem lw_p7 : lw_okq (⟨"NightSortersModel", "sorterTold", "(II)I"⟩, 10) := ⟨⟨by decide +kernel, by decide +kernel⟩, List.mem_of_getElem? (i := 525) (by decide +kernel), List.mem_of_getElem? (i := 684) (by decide +kernel), List.mem_of_getElem? (i := 685) (by decide +kernel)⟩
theorem lw_p8 : lw_okq (⟨"NightSortersModel", "stationTold", "(II)I"⟩, 10) := ⟨⟨by decide +kernel, by decide +kernel⟩, List.mem_of_getElem? (i := 525) (by decide +kernel), List.mem_of_getElem? (i := 700) (by decide +kernel), List.mem_of_getElem? (i := 701) (by decide +kernel)⟩
theorem lw_p9 : lw_okq (⟨"NightSortersModel", "counted", "(I)I"⟩, 10) := ⟨⟨by decide +kernel, by decide +kernel⟩, List.mem_of_getElem? (i := 525) (by decide +kernel), List.mem_of_getElem? (i := 708) (by decide +kernel), List.mem_of_getElem? (i := 709) (by decide +kernel)⟩
theorem lw_p10 : lw_okq (⟨"NightSortersModel$State", "work", "(I)V"⟩, 11) := ⟨⟨by decide +kernel, by decide +kernel⟩, List.mem_of_getElem? (i := 531) (by decide +kernel), List.mem_of_getElem? (i := 728) (by decide +kernel), List.mem_of_getElem? (i := 729) (by decide +kernel)⟩
theorem lw_p11 : lw_okq (⟨"NightSortersModel$State", "take", "(I)V"⟩, 11) := ⟨⟨by decide +kernel, by decide +kernel⟩, List.mem_of_getElem? (i := 531) (by decide +kernel), List.mem_of_getElem? (i := 732) (by decide +kernel), List.mem_of_getElem? (i := 733) (by decide +kernel)⟩
theorem lw_p12 : lw_okq (⟨"NightSortersModel$State", "firstFor", "(I)I"⟩, 11) := ⟨⟨by decide +kernel, by decide +kernel⟩, List.mem_of_getElem? (i := 531) (by decide +kernel), List.mem_of_getElem? (i := 736) (by decide +kernel), List.mem_of_getElem? (i := 737) (by decide +kernel)⟩
theorem lw_p13 : lw_okq (⟨"NightSortersModel$State", "let", "(II)V"⟩, 11) := ⟨⟨by decide +kernel, by decide +kernel⟩, List.mem_of_getElem? (i := 531) (by decide +kernel), List.mem_of_getElem? (i := 744) (by decide +kernel), List.mem_of_getElem? (i := 745) (by decide +kernel)⟩
theorem lw_p14 : lw_okq (⟨"NightSortersModel$State", "passStation", "(I)V"⟩, 11) := ⟨⟨by decide +kernel, by decide +kernel⟩, List.mem_of_getElem? (i := 531) (by decide +kernel), List.mem_of_getElem? (i := 749) (by decide +kernel), List.mem_of_getElem? (i := 750) (by decide +kernel)⟩
theorem lw_p15 : lw_okq (⟨"NightSortersModel$State", "end", "(II)V"⟩, 11) := ⟨⟨by decide +kernel, by decide +kernel⟩, List.mem_of_getElem? (i := 531) (by decide +kernel), List.mem_of_getElem? (i := 753) (by decide +kernel), List.mem_of_getElem? (i := 754) (by decide +kernel)⟩
def lw_privs_1 : List (MethodName × Nat) := [(⟨"java/lang/Throwable", "fillInStackTrace", "(I)Ljava/lang/Throwable;"⟩, 6), (⟨"NightSorters", "deliveredIfAssigned", "(III)I"⟩, 2), (⟨"NightSortersModel", "no", "(I)I"⟩, 10), (⟨"NightSortersModel", "wouldRise", "(II)Z"⟩, 10), (⟨"NightSortersModel", "isSorter", "(I)Z"⟩, 10), (⟨"NightSortersModel", "isLetter", "(I)Z"⟩, 10), (⟨"NightSortersModel", "letterTold", "(II)I"⟩, 10), (⟨"NightSortersModel", "sorterTold", "(II)I"⟩, 10), (⟨"NightSortersModel", "stationTold", "(II)I"⟩, 10), (⟨"NightSortersModel", "counted", "(I)I"⟩, 10), (⟨"NightSortersModel$State", "work", "(I)V"⟩, 11), (⟨"NightSortersModel$State", "take", "(I)V"⟩, 11), (⟨"NightSortersModel$State", "firstFor", "(I)I"⟩, 11), (⟨"NightSortersModel$State", "let", "(II)V"⟩, 11), (⟨"NightSortersModel$State", "passStation", "(I)V"⟩, 11), (⟨"NightSortersModel$State", "end", "(II)V"⟩, 11)]
theorem lw_r1 : ∀ q ∈ lw_privs_1, lw_okq q := List.forall_mem_cons.mpr ⟨lw_p0, List.forall_mem_cons.mpr ⟨lw_p1, List.forall_mem_cons.mpr ⟨lw_p2, List.forall_mem_cons.mpr ⟨lw_p3, List.forall_mem_cons.mpr ⟨lw_p4, List.forall_mem_cons.mpr ⟨lw_p5, List.forall_mem_cons.mpr ⟨lw_p6, List.forall_mem_cons.mpr ⟨lw_p7, List.forall_mem_cons.mpr ⟨lw_p8, List.forall_mem_cons.mpr ⟨lw_p9, List.forall_mem_cons.mpr ⟨lw_p10, List.forall_mem_cons.mpr ⟨lw_p11, List.forall_mem_cons.mpr ⟨lw_p12, List.forall_mem_cons.mpr ⟨lw_p13, List.forall_mem_cons.mpr ⟨lw_p14, List.forall_mem_cons.mpr ⟨lw_p15, fun _ h => absurd h List.not_mem_nil⟩⟩⟩⟩⟩⟩⟩⟩⟩⟩⟩⟩⟩⟩⟩⟩
theorem lw_p16 : lw_okq (⟨"NightSortersModel$State", "shake", "(I)V"⟩, 11) := ⟨⟨by decide +kernel, by decide +kernel⟩, List.mem_of_getElem? (i := 531) (by decide +kernel), List.mem_of_getElem? (i := 757) (by decide +kernel), List.mem_of_getElem? (i := 758) (by decide +kernel)⟩
theorem lw_p17 : lw_okq (⟨"NightSortersModel$State", "copy", "([I[I)V"⟩, 11) := ⟨⟨by decide +kernel, by decide +kernel⟩, List.mem_of_getElem? (i := 531) (by decide +kernel), List.mem_of_getElem? (i := 769) (by decide +kernel), List.mem_of_getElem? (i := 770) (by decide +kernel)⟩
def lw_privs_2 : List (MethodName × Nat) := [(⟨"NightSortersModel$State", "shake", "(I)V"⟩, 11), (⟨"NightSortersModel$State", "copy", "([I[I)V"⟩, 11)]
theorem lw_r2 : ∀ q ∈ lw_privs_2, lw_okq q := List.forall_mem_cons.mpr ⟨lw_p16, List.forall_mem_cons.mpr ⟨lw_p17, fun _ h => absurd h List.not_mem_nil⟩⟩
def lw_privs : List (MethodName × Nat) := lw_privs_1 ++ (lw_privs_2)
def lw_tbl : List Cond := k2_sels lw_privs ++ tables_1
theorem lw_privs_ok : ∀ q ∈ lw_privs, lw_okq q := by
  show ∀ q ∈ lw_privs_1 ++ (lw_privs_2), lw_okq q
  exact List.forall_mem_append.mpr ⟨lw_r1, lw_r2⟩
/-- the streams that the claim lets the run draw from -/
abbrev lw_cs : List Choice := [Jvm.Choice.named "NaN.bits"]
theorem lw_bits : nanBits ∈ lw_cs := by first | decide | exact List.mem_cons_self | simp [lw_cs, nanBits]
-- ===== end of PART A; then your names; then what follows =====
end
section
/-! ===== BEGIN words of one list among another's, by their places ===== -/
theorem goodIn_r {big : List Cond} (ws : List Cond) (ps : List Nat) (hp : ws = ps.filterMap (fun i => big[i]?)) (h : ws.all goodWord = true) : GoodIn big ws := by
  intro w hw
  have h1 := List.all_eq_true.mp h w hw
  rw [hp] at hw
  obtain ⟨i, -, hi⟩ := List.mem_filterMap.mp hw
  have hm : w ∈ big := by first | exact List.mem_of_getElem? hi | exact List.getElem?_mem hi
  exact ⟨hm, good_of_word h1⟩
theorem goodIn_app {big a b : List Cond} (ha : GoodIn big a) (hb : GoodIn big b) : GoodIn big (a ++ b) := fun w h => (List.mem_append.mp h).elim (ha w) (hb w)
theorem goodIn_ca {big a b : List Cond} {c : Cond} (ha : GoodIn big (c :: a)) (hb : GoodIn big b) : GoodIn big (c :: (a ++ b)) := fun w h => (List.mem_cons.mp h).elim (fun e => ha w (List.mem_cons.mpr (Or.inl e))) (fun h => (List.mem_append.mp h).elim (fun h => ha w (List.mem_cons.mpr (Or.inr h))) (hb w))
theorem goodIn_sub {big ws : List Cond} (hm : ∀ w ∈ ws, w ∈ big) (h : ws.all goodWord = true) : GoodIn big ws := fun w hw => ⟨hm w hw, good_of_word (List.all_eq_true.mp h w hw)⟩
/-! ===== END ===== -/

/-! ===== BEGIN exceptions that leave a method, and their catching by the caller (launches without stack traces) ===== -/
section VXA
/-! The laws vx_back, vx_callV, vx_callS, vx_callSW, vx_throw0, vx_throwS follow proofs of the library, with one case more: JvmDerived/Free/Laws.lean (Back.of_free), Shelf42/LK1.lean (callV, callS), Shelf/KitTraced.lean (throwNew0V, throwNewS). -/
/-- where a method has thrown q: the class by its name, the cell, what was written, the world -/
def vx_T (XC : String → State → State → Prop) (st : State) (q : Addr) (t : State) (mc ms : Nat) (free : Addr → Prop) : Prop :=
  ∃ (E : String) (ce : Cell) (L : List Loc), XC E st t ∧ t.heap[q]? = some ce ∧ ce.vm = .none ∧ st.vm.findClass E = some ce.cls ∧ st.WarmedH t.vm ∧ st.sameButNew ({ t with vm := st.vm } : State) L mc ms ∧ ∀ z ∈ L, free z.base
def vx_Q (Qc : Array Value → State → Outcome → State → Prop) (XC : String → State → State → Prop) (mc ms : Nat) (free : Addr → Prop) : Array Value → State → Outcome → State → Prop := fun a st o t =>
  (Qc a st o t ∧ ∃ L, FrameEnd st o t L mc ms ∧ ∀ q ∈ L, free q.base) ∨ ∃ q, o = .threw q ∧ vx_T XC st q t mc ms free
/-- a callee that returns or throws -/
def vx_Met (l : Launch) (y : MethodName) (ws : List Cond) (rm : Room) (Pc : Array Value → State → Prop) (Qc : Array Value → State → Outcome → State → Prop) (XC : String → State → State → Prop) (mc ms : Nat) (free : Addr → Prop) : Prop :=
  MetFree l y (headSpec ws rm) Pc (fun _ _ _ _ _ => True) (vx_Q Qc XC mc ms free)
def vx_Post (XC : String → State → State → Prop) (mc ms : Nat) (free : Addr → Prop) : Pt → Array Value → Addr → Pt → Prop := fun A a q B =>
  ∃ (g : JFrame) (mk : MethodId) (t : State) (L : List Loc) (E : String) (ce : Cell), B.U.heap = t.heap ∧ B.U.vm = t.vm ∧ XC E (A.U.calling g mk a) t ∧ t.heap[q]? = some ce ∧ ce.vm = .none ∧ A.U.vm.findClass E = some ce.cls ∧ B.locs = A.locs ++ L ∧ (∀ z ∈ L, free z.base) ∧ B.cells = A.cells + mc ∧ B.slots = A.slots + ms
def vx_Back (l : Launch) (R : Room) (p : Program) (e : Env) (below : List Frame) (s : State) (sargs : Array Value) (y : MethodName) (len W9 : Nat)
    (Pre : Pt → Array Value → Prop) (Post : Pt → Array Value → Option Value → Pt → Prop) (PostX : Pt → Array Value → Addr → Pt → Prop) : Prop :=
  ∀ (m : MethodId) (meth : Method) (c : Code) (A : Pt) (g : JFrame) (ig : Instr) (mk : MethodId) (a : Array Value),
    Stand p l e R s m sargs below meth c A.U A.locs A.cells A.slots → g.method = m → g.locals.size = c.maxLocals → decode c.code g.pc = .ok (ig, len) →
    2 * g.monitorRoom + (g.stack.map fun v => v.category).sum ≤ W9 → A.U.methodNamed? y = some mk → Pre A a →
    (∃ (v : Option Value) (B : Pt), Stand p l e R s m sargs below meth c B.U B.locs B.cells B.slots ∧ Post A a v B ∧
      Steps p.tables e below (doInvoke e (A.U.setTop g) [] mk a).1 (B.U.setTop { g with pc := g.pc + len, stack := v.toList ++ g.stack })) ∨
    (∃ (q : Addr) (B : Pt), Stand p l e R s m sargs below meth c B.U B.locs B.cells B.slots ∧ PostX A a q B ∧
      Steps p.tables e below (doInvoke e (A.U.setTop g) [] mk a).1 ((B.U.setTop g).pushFrame (.throwing q)))
section Payer
variable {l : Launch} {R : Room} {p : Program} {e : Env} {below : List Frame} {s : State} {sargs : Array Value} {y : MethodName} {len W9 : Nat}
theorem vx_back {ws : List Cond} {rm : Room} {Pc : Array Value → State → Prop} {Qc : Array Value → State → Outcome → State → Prop} {XC : String → State → State → Prop} {mc ms : Nat} {free : Addr → Prop} {bytes : ByteArray} {maxL : Nat} {ret : Option FieldType}
    (hM : vx_Met l y ws rm Pc Qc XC mc ms free) (hblind : FrameBlind Pc) (hrc : rm.cells = mc) (hrs : rm.slots = ms)
    (hframes : rm.frames + 1 ≤ R.frames) (hlocals : W9 + (maxL + 11) + rm.locals ≤ R.locals)
    (hws : ∀ w ∈ ws, ∀ a' U, s.WarmedH U.vm → w.before a' U = true) (hcode : Cond.code y bytes maxL ret ∈ ws) (hinit : ∀ a' U, s.WarmedH U.vm → (Cond.initialized y.cls).before a' U = true) :
    vx_Back l R p e below s sargs y len W9 (PreOf R mc ms Pc) (PostOf Qc mc ms free) (vx_Post XC mc ms free) := by
  intro m meth c A g ig mk a X hg hsize hdg hW hn hp
  have h1 : (headSpec ws rm).pre.before a A.U = true := atoms_intro fun w hw => hws w hw _ _ X.warmed
  have h2 : (Cond.code y bytes maxL ret).before a A.U = true := hws _ hcode _ _ X.warmed
  have h3 : (Cond.initialized y.cls).before a A.U = true := hinit _ _ X.warmed
  have h4 : A.cells + (headSpec ws rm).room.cells ≤ R.cells := by rw [show (headSpec ws rm).room.cells = mc from hrc]; exact hp.1
  have h5 : A.slots + (headSpec ws rm).room.slots ≤ R.slots := by rw [show (headSpec ws rm).room.slots = ms from hrs]; exact hp.2.1
  have hPc : Pc a (A.U.calling g mk a) := hblind _ _ _ _ hp.2.2
  obtain ⟨U, Ls, c0, s0⟩ := A
  dsimp only [Pt.U, Pt.locs, Pt.cells, Pt.slots] at h1 h2 h3 h4 h5 X hn hPc ⊢
  obtain ⟨methY, cY, hmY, hcY, -, hlY, -, -, -, -⟩ := Cond.code_spec hn h2
  obtain ⟨kY, hkY, -⟩ := className_of_methodNamed hn
  have hinitY : kY.init = .initialized := Cond.initialized_spec (findClass_of_methodNamed hn) hkY h3
  have h : At U g.method c below := by rw [hg]; exact X.here
  have hlocals9 : W9 + (maxL + 11) + (headSpec ws rm).room.locals ≤ R.locals := hlocals
  have happ : (headSpec ws rm).appliesLoose y e.platform (U.calling g mk a) = true :=
    Spec.appliesLoose_calling (g := g) h hdg hn hkY hinitY
      (X.room_calling (g := g) (R' := (headSpec ws rm).room) hsize hmY hcY hframes (by rw [hlY]; omega) h4 h5) h1
  obtain ⟨mid, hmid⟩ := h.above
  have hfr : (U.setTop g).frames = (.java g :: mid) ++ below := by rw [State.frames_setTop' g h.top, hmid]; rfl
  obtain ⟨o, s₂, hsteps, -, hend, hq⟩ := Steps.callFree hM p X.admits X.cas X.clock (acts := []) hfr happ hPc trivial
  have hq' : vx_Q Qc XC mc ms free a (U.calling g mk a) o s₂ := hq
  rw [State.frames_setTop' g h.top] at hend
  obtain ⟨g₀, hg0⟩ := Option.isSome_iff_exists.mp h.top
  obtain ⟨r, hr⟩ := State.topJava?_eq_some.mp hg0
  have hr' : (({ U with heap := s₂.heap, slotsUsed := s₂.slotsUsed } : State).setVm s₂.vm).frames = .java g₀ :: r := hr
  rcases hq' with ⟨hqc, L, hfe, hL⟩ | ⟨q, rfl, E, ce, L, hx, hce, hcv, hcl, hW₂, hsm, hL⟩
  · obtain ⟨⟨v, rfl⟩, hW₂, e2, q2, q3, q4, q5, q6⟩ := id hfe
    have e3 : s₂ = ({ (U.calling g mk a).setFrames s₂.frames with heap := s₂.heap, slotsUsed := s₂.slotsUsed } : State).setVm s₂.vm := by
      have : s₂ = ({ s₂ with vm := (U.calling g mk a).vm } : State).setVm s₂.vm := rfl
      rw [e2] at this
      exact this
    obtain ⟨c₂, i₂, len₂, hc₂, hd₂, hf₂⟩ := hend
    have hW' : U.WarmedH s₂.vm := hW₂
    have hcc : c₂ = c := by
      have h1 : s₂.code? g.method = U.code? g.method := by
        rw [State.code?_eq, State.code?_eq, hW'.alike.method?]
      exact Option.some.inj (hc₂.symm.trans (h1.trans h.code))
    subst hcc
    have hlen : len₂ = len := by rw [hdg] at hd₂; cases hd₂; rfl
    subst hlen
    have hs₂ : s₂ = (({ U with heap := s₂.heap, slotsUsed := s₂.slotsUsed } : State).setVm s₂.vm).setTop { g with pc := g.pc + len₂, stack := v.toList ++ g.stack } := by
      refine e3.trans ?_
      rw [hf₂, State.calling_eq h.top, State.setFrames_setFrames, State.setTop_of_frames _ hr', hr]
      rfl
    have hsame : U.sameButNew ({ U with heap := s₂.heap, slotsUsed := s₂.slotsUsed } : State) L mc ms := by
      refine ⟨?_, q2, q3, q4, q5, q6⟩
      obtain ⟨t, ht, -⟩ := State.frames_cons hr
      show ({ U with heap := s₂.heap, slotsUsed := s₂.slotsUsed } : State) = { U.setFrames U.frames with heap := s₂.heap, slotsUsed := s₂.slotsUsed }
      rw [State.setFrames_self ht]
    subst hg
    refine Or.inl ⟨v, ⟨(({ U with heap := s₂.heap, slotsUsed := s₂.slotsUsed } : State).setVm s₂.vm), Ls ++ L, c0 + mc, s0 + ms⟩,
      ⟨X.admits, X.cas, X.clock, X.frames, X.room, X.hears, X.method, X.code, (X.here.setHeapUsed s₂.heap s₂.slotsUsed).setVm hW'.alike, X.tail, State.WarmedH.trans X.warmed hW', X.limits, X.bytes, X.same.trans (hsame.setVm s.vm)⟩,
      ⟨g, mk, s₂, L, rfl, rfl, hqc, rfl, hL, rfl, rfl⟩, ?_⟩
    show Steps p.tables e below _ ((({ U with heap := s₂.heap, slotsUsed := s₂.slotsUsed } : State).setVm s₂.vm).setTop { g with pc := g.pc + len₂, stack := v.toList ++ g.stack })
    rw [← hs₂]
    exact hsteps
  · obtain ⟨e2, q2, q3, q4, q5, q6⟩ := id hsm
    have e3 : s₂ = ({ (U.calling g mk a).setFrames s₂.frames with heap := s₂.heap, slotsUsed := s₂.slotsUsed } : State).setVm s₂.vm := by
      have : s₂ = ({ s₂ with vm := (U.calling g mk a).vm } : State).setVm s₂.vm := rfl
      rw [e2] at this
      exact this
    have hf₂ : s₂.frames = .throwing q :: .java g :: U.frames.tail := hend
    have hW' : U.WarmedH s₂.vm := hW₂
    have hs₂ : s₂ = ((({ U with heap := s₂.heap, slotsUsed := s₂.slotsUsed } : State).setVm s₂.vm).setTop g).pushFrame (.throwing q) := by
      refine e3.trans ?_
      rw [hf₂, State.calling_eq h.top, State.setFrames_setFrames, State.pushFrame, State.frames_setTop _ hr', State.setTop_of_frames _ hr', State.setFrames_setFrames, hr]
      rfl
    have hsame : U.sameButNew ({ U with heap := s₂.heap, slotsUsed := s₂.slotsUsed } : State) L mc ms := by
      refine ⟨?_, q2, q3, q4, q5, q6⟩
      obtain ⟨t, ht, -⟩ := State.frames_cons hr
      show ({ U with heap := s₂.heap, slotsUsed := s₂.slotsUsed } : State) = { U.setFrames U.frames with heap := s₂.heap, slotsUsed := s₂.slotsUsed }
      rw [State.setFrames_self ht]
    subst hg
    refine Or.inr ⟨q, ⟨(({ U with heap := s₂.heap, slotsUsed := s₂.slotsUsed } : State).setVm s₂.vm), Ls ++ L, c0 + mc, s0 + ms⟩,
      ⟨X.admits, X.cas, X.clock, X.frames, X.room, X.hears, X.method, X.code, (X.here.setHeapUsed s₂.heap s₂.slotsUsed).setVm hW'.alike, X.tail, State.WarmedH.trans X.warmed hW', X.limits, X.bytes, X.same.trans (hsame.setVm s.vm)⟩,
      ⟨g, mk, s₂, L, E, ce, rfl, rfl, hx, hce, hcv, hcl, rfl, hL, rfl, rfl⟩, ?_⟩
    show Steps p.tables e below _ (((({ U with heap := s₂.heap, slotsUsed := s₂.slotsUsed } : State).setVm s₂.vm).setTop g).pushFrame (.throwing q))
    rw [← hs₂]
    exact hsteps
end Payer
section Calls
variable {p : Program} {l : Launch} {e : Env} {R : Room} {s : State} {m : MethodId} {args : Array Value} {below : List Frame} {meth : Method} {c : Code} {T : State} {locs : List Loc} {cells slots : Nat}
theorem vx_callV (X : Stand p l e R s m args below meth c T locs cells slots) (hexec : p.tables.exec = Jvm.exec) {own C : String} {index : Nat} {y : MethodName} {bytes : ByteArray} {maxL : Nat} {ret : Option FieldType}
    (hown : s.vm.findClass own = some m.cls) (hlink : (Cond.methodLink own index y).before args s = true) (hinst : (Cond.instanceMethod y).before args s = true) (hsel : (Cond.selects C y y).before args s = true)
    (hcode : (Cond.code y bytes maxL ret).before args s = true) (hy : y.cls ≠ "java/lang/invoke/MethodHandle" ∧ y.cls ≠ "java/lang/invoke/VarHandle")
    {W9 : Nat} {Pre : Pt → Array Value → Prop} {Post : Pt → Array Value → Option Value → Pt → Prop} {PostX : Pt → Array Value → Addr → Pt → Prop} (hK : vx_Back l R p e below s args y 3 W9 Pre Post PostX)
    {b : Addr} {cellB : Cell} (hcell : T.heap[b]? = some cellB) (hobj : cellB.vm.isStatics = false) (hcls : s.vm.findClass C = some cellB.cls)
    {g : JFrame} (hg : g.method = m) (hsize : g.locals.size = c.maxLocals) {argsL rest : List Value} (hlen : ∀ sig, parseMethodDescriptor y.desc = some sig → argsL.length = sig.parameters.length)
    (hstack : g.stack = argsL.reverse ++ .ref b :: rest) (hW : 2 * g.monitorRoom + (rest.map fun v => v.category).sum ≤ W9) (hdg : decode c.code g.pc = .ok (.invokevirtual index, 3))
    (hpre : ∀ vm₁, s.WarmedH vm₁ → Pre ⟨T.setVm vm₁, locs, cells, slots⟩ (Value.ref b :: argsL).toArray) :
    (∃ (v : Option Value) (vm₁ : Vm) (B : Pt), s.WarmedH vm₁ ∧ Stand p l e R s m args below meth c B.U B.locs B.cells B.slots ∧ Post ⟨T.setVm vm₁, locs, cells, slots⟩ (Value.ref b :: argsL).toArray v B ∧
      ∀ target, Steps p.tables e below (B.U.setTop { g with pc := g.pc + 3, stack := v.toList ++ rest }) target → Steps p.tables e below (T.setTop g) target) ∨
    (∃ (q : Addr) (vm₁ : Vm) (B : Pt), s.WarmedH vm₁ ∧ Stand p l e R s m args below meth c B.U B.locs B.cells B.slots ∧ PostX ⟨T.setVm vm₁, locs, cells, slots⟩ (Value.ref b :: argsL).toArray q B ∧
      Steps p.tables e below (T.setTop g) ((B.U.setTop { g with stack := rest }).pushFrame (.throwing q))) := by
  obtain ⟨mk, methM, hnamed, hmethM, hstM, habM⟩ := Cond.instanceMethod_spec hinst
  obtain ⟨methM', cM, hmethM', -, -, -, -, -, -, hsigM⟩ := Cond.code_spec hnamed hcode
  cases hmethM.symm.trans hmethM'
  obtain ⟨c2, r2, m2, q1, q2, q3, q4, kP, hkP, hkPi⟩ := Cond.selects_spec hsel
  cases hcls.symm.trans q1
  cases (State.methodFound?_of_named hnamed hy).symm.trans q2
  cases hnamed.symm.trans q3
  have hselP : selectMethod e.platform s.vm cellB.cls mk = .method mk := by rw [Launch.admits_selectMethod X.admits]; exact q4
  obtain ⟨vm₁, X₁, hstep₁⟩ := X.invokevirtual hexec hown hlink hnamed hmethM hstM hkP hkPi hy (a := b) (cell := cellB) hcell
    (fun z h => by rw [h] at hobj; cases hobj) hselP hmethM habM hkP hkPi (g := g) hg (argsL := argsL) (rest := rest) (hlen _ hsigM) hstack hdg
  rcases hK m meth c ⟨T.setVm vm₁, locs, cells, slots⟩ { g with stack := rest } (.invokevirtual index) mk (Value.ref b :: argsL).toArray X₁ hg hsize hdg hW (X₁.named hnamed) (hpre vm₁ X₁.warmed) with ⟨v, B, X', hpost, hsteps⟩ | ⟨q, B, X', hpost, hsteps⟩
  · exact Or.inl ⟨v, vm₁, B, X₁.warmed, X', hpost, fun target h => hstep₁ _ fun acts => by rw [doInvoke_state]; exact hsteps.trans h⟩
  · exact Or.inr ⟨q, vm₁, B, X₁.warmed, X', hpost, hstep₁ _ fun acts => by rw [doInvoke_state]; exact hsteps⟩
theorem vx_callS (X : Stand p l e R s m args below meth c T locs cells slots) (hexec : p.tables.exec = Jvm.exec) {own : String} {index : Nat} {y : MethodName} {bytes : ByteArray} {maxL : Nat} {ret : Option FieldType}
    (hown : s.vm.findClass own = some m.cls) (hlink : (Cond.methodLink own index y).before args s = true) (hstat : (Cond.static y).before args s = true) (hinit : (Cond.initialized y.cls).before args s = true)
    (hcode : (Cond.code y bytes maxL ret).before args s = true) (hy : y.cls ≠ "java/lang/invoke/MethodHandle" ∧ y.cls ≠ "java/lang/invoke/VarHandle")
    {W9 : Nat} {Pre : Pt → Array Value → Prop} {Post : Pt → Array Value → Option Value → Pt → Prop} {PostX : Pt → Array Value → Addr → Pt → Prop} (hK : vx_Back l R p e below s args y 3 W9 Pre Post PostX)
    {g : JFrame} (hg : g.method = m) (hsize : g.locals.size = c.maxLocals) {argsL rest : List Value} (hlen : ∀ sig, parseMethodDescriptor y.desc = some sig → argsL.length = sig.parameters.length)
    (hstack : g.stack = argsL.reverse ++ rest) (hW : 2 * g.monitorRoom + (rest.map fun v => v.category).sum ≤ W9) (hdg : decode c.code g.pc = .ok (.invokestatic index, 3))
    (hpre : ∀ vm₁, s.WarmedH vm₁ → Pre ⟨T.setVm vm₁, locs, cells, slots⟩ argsL.toArray) :
    (∃ (v : Option Value) (vm₁ : Vm) (B : Pt), s.WarmedH vm₁ ∧ Stand p l e R s m args below meth c B.U B.locs B.cells B.slots ∧ Post ⟨T.setVm vm₁, locs, cells, slots⟩ argsL.toArray v B ∧
      ∀ target, Steps p.tables e below (B.U.setTop { g with pc := g.pc + 3, stack := v.toList ++ rest }) target → Steps p.tables e below (T.setTop g) target) ∨
    (∃ (q : Addr) (vm₁ : Vm) (B : Pt), s.WarmedH vm₁ ∧ Stand p l e R s m args below meth c B.U B.locs B.cells B.slots ∧ PostX ⟨T.setVm vm₁, locs, cells, slots⟩ argsL.toArray q B ∧
      Steps p.tables e below (T.setTop g) ((B.U.setTop { g with stack := rest }).pushFrame (.throwing q))) := by
  obtain ⟨mk, hnamed⟩ := Cond.code_named hcode
  obtain ⟨methM, cM, hmethM, -, -, -, -, -, -, hsigM⟩ := Cond.code_spec hnamed hcode
  have hstatic : methM.isStatic = true := Cond.static_spec hnamed hmethM hstat
  obtain ⟨kP, hkP, -⟩ := className_of_methodNamed hnamed
  have hinitP : kP.init = .initialized := Cond.initialized_spec (findClass_of_methodNamed hnamed) hkP hinit
  obtain ⟨vm₁, X₁, hstep₁⟩ := X.invokestatic hexec hown hlink hnamed hmethM hstatic hkP hinitP hy (g := g) hg (argsL := argsL) (rest := rest) (hlen _ hsigM) hstack hdg
  rcases hK m meth c ⟨T.setVm vm₁, locs, cells, slots⟩ { g with stack := rest } (.invokestatic index) mk argsL.toArray X₁ hg hsize hdg hW (X₁.named hnamed) (hpre vm₁ X₁.warmed) with ⟨v, B, X', hpost, hsteps⟩ | ⟨q, B, X', hpost, hsteps⟩
  · exact Or.inl ⟨v, vm₁, B, X₁.warmed, X', hpost, fun target h => hstep₁ _ fun acts => by rw [doInvoke_state]; exact hsteps.trans h⟩
  · exact Or.inr ⟨q, vm₁, B, X₁.warmed, X', hpost, hstep₁ _ fun acts => by rw [doInvoke_state]; exact hsteps⟩
end Calls
theorem vx_cls {s : State} {T : State} {vm₁ : Vm} {E : String} {k : ClassId} (hW : s.WarmedH vm₁) (h : (T.setVm vm₁).vm.findClass E = some k) : s.vm.findClass E = some k := by
  have h1 : vm₁.findClass E = some k := h
  rw [hW.alike.findClass] at h1
  exact h1
/-- the method's frame g, with q thrown over it -/
def vx_W (p : Program) (l : Launch) (e : Env) (R : Room) (s : State) (m : MethodId) (args : Array Value) (below : List Frame) (meth : Method) (c : Code) (H : Heap) (locs : List Loc) (cells slots : Nat) (Q : State → Prop) (g : JFrame) (q : Addr) : Prop :=
  ∀ T : State, T.heap = H → Stand p l e R s m args below meth c T locs cells slots → ∃ t, Steps p.tables e below ((T.setTop g).pushFrame (.throwing q)) t ∧ Q t
def vx_Run (p : Program) (l : Launch) (e : Env) (R : Room) (s : State) (m : MethodId) (args : Array Value) (below : List Frame) (meth : Method) (c : Code) (H : Heap) (locs : List Loc) (cells slots mc ms : Nat) (g : JFrame) (rest : List Value) (Qa : State → Outcome → State → Prop) (XC : String → State → State → Prop) (free : Addr → Prop) : Prop :=
  ∀ T : State, T.heap = H → Stand p l e R s m args below meth c T locs cells slots →
    (∃ (v : Option Value) (st₀ t T' : State) (L : List Loc), st₀.heap = H ∧ Stand p l e R s m args below meth c T' (locs ++ L) (cells + mc) (slots + ms) ∧ (∀ q ∈ L, free q.base) ∧ T'.heap = t.heap ∧ T'.vm = t.vm ∧ Qa st₀ (.returned v) t ∧
      Goes p e below T g T' { g with pc := g.pc + 3, stack := v.toList ++ rest }) ∨
    (∃ (q : Addr) (st₀ t T' : State) (L : List Loc) (E : String) (ce : Cell), st₀.heap = H ∧ Stand p l e R s m args below meth c T' (locs ++ L) (cells + mc) (slots + ms) ∧ (∀ z ∈ L, free z.base) ∧ T'.heap = t.heap ∧ T'.vm = t.vm ∧ XC E st₀ t ∧ t.heap[q]? = some ce ∧ ce.vm = .none ∧ s.vm.findClass E = some ce.cls ∧
      Steps p.tables e below (T.setTop g) ((T'.setTop { g with stack := rest }).pushFrame (.throwing q)))
def vx_X {S : Type} (px : S → Prop) (B : String → S → State → Prop) (A : Nat → Prop) : String → State → State → Prop := fun E st t => ∃ u : S, px u ∧ B E u t ∧ va_F A st t
section Runs
variable {p : Program} {l : Launch} {e : Env} {R : Room} {s : State} {m : MethodId} {args : Array Value} {below : List Frame} {meth : Method} {c : Code} {H : Heap} {locs : List Loc} {cells slots : Nat}
variable {y : MethodName} {bytes cc : ByteArray} {maxL nL mc ms n index : Nat} {ret : Option FieldType} {ws : List Cond} {rm : Room} {Pc : Array Value → State → Prop} {Qc : Array Value → State → Outcome → State → Prop} {XC : String → State → State → Prop} {free : Addr → Prop} {Ts : List Cond} {own C : String} {b : Addr} {As rest : List Value} {g : JFrame}
theorem vx_callBack (cb : CallB R s args own index y bytes maxL ret ws rm mc ms n) (hM : vx_Met l y ws rm Pc Qc XC mc ms free) (hbl : FrameBlind Pc) : vx_Back l R p e below s args y 3 8 (PreOf R mc ms Pc) (PostOf Qc mc ms free) (vx_Post XC mc ms free) := by
  obtain ⟨hrc, hrs, hfr, hlo, hws, hcw, -, hini, -⟩ := cb
  exact vx_back (bytes := bytes) (maxL := maxL) (ret := ret) hM hbl hrc hrs hfr hlo hws hcw (fun a' U hW => word_at hW (Or.inl (by first | rfl | simp [Cond.onTables, Cond.keeps, Cond.steady])) hini)
theorem vx_runV (S : CallFix p m c cc nL s args Ts own) (hM : vx_Met l y ws rm Pc Qc XC mc ms free) (cw : CallW R s args own C index y bytes maxL ret ws rm mc ms n) (hp : PreV s H C b Pc As)
    (hg : g.method = m) (hn : As.length = n) (hsize : g.locals.size = nL) (hstack : g.stack = As.reverse ++ .ref b :: rest) (hW : 2 * g.monitorRoom + (rest.map fun v => v.category).sum ≤ 8) (hdg : decode cc g.pc = .ok (.invokevirtual index, 3)) (hf : cells + mc ≤ R.cells ∧ slots + ms ≤ R.slots) :
    vx_Run p l e R s m args below meth c H locs cells slots mc ms g rest (Qc (Value.ref b :: As).toArray) XC free := by
  have hK : vx_Back l R p e below s args y 3 8 (PreOf R mc ms Pc) (PostOf Qc mc ms free) (vx_Post XC mc ms free) := vx_callBack cw.1 hM hp.1
  obtain ⟨⟨-, -, -, -, -, -, hcode, -, hy, hlen, hl⟩, hin, hse⟩ := cw
  obtain ⟨hx, hb, hml, ho, -⟩ := S
  obtain ⟨-, ⟨cellB, hcB, hoB, hclB⟩, hPc⟩ := hp
  intro T hT X
  rcases vx_callV X hx (C := C) (bytes := bytes) (maxL := maxL) (ret := ret) ho hl hin hse hcode hy hK (by rw [hT]; exact hcB) hoB hclB hg (hsize.trans hml.symm) (argsL := As) (rest := rest) (fun sig h => hn.trans (hlen sig h)) hstack hW (by rw [hb]; exact hdg)
    (fun vm₁ hW₁ => ⟨hf.1, hf.2, hPc (T.setVm vm₁) hT hW₁⟩) with ⟨v, vm₁, ⟨U', l2, c2, s2⟩, hW₁, X', ⟨g', mk, t, L, e1, e2, hq, h1, hL, h2, h3⟩, st⟩ | ⟨q, vm₁, ⟨U', l2, c2, s2⟩, hW₁, X', ⟨g', mk, t, L, E, ce, e1, e2, hq, hce, hcv, hcl, h1, hL, h2, h3⟩, st⟩
  · dsimp only [Pt.U, Pt.locs, Pt.cells, Pt.slots] at X' e1 e2 h1 h2 h3 st
    subst h1; subst h2; subst h3
    exact Or.inl ⟨v, (T.setVm vm₁).calling g' mk (Value.ref b :: As).toArray, t, U', L, hT, X', hL, e1, e2, hq, st⟩
  · dsimp only [Pt.U, Pt.locs, Pt.cells, Pt.slots] at X' e1 e2 h1 h2 h3 st hcl
    subst h1; subst h2; subst h3
    exact Or.inr ⟨q, (T.setVm vm₁).calling g' mk (Value.ref b :: As).toArray, t, U', L, E, ce, hT, X', hL, e1, e2, hq, hce, hcv, vx_cls hW₁ hcl, st⟩
theorem vx_runS (S : CallFix p m c cc nL s args Ts own) (hM : vx_Met l y ws rm Pc Qc XC mc ms free) (cw : CallB R s args own index y bytes maxL ret ws rm mc ms n ∧ (Cond.static y).before args s = true) (hp : PreS s H Pc As)
    (hg : g.method = m) (hn : As.length = n) (hsize : g.locals.size = nL) (hstack : g.stack = As.reverse ++ rest) (hW : 2 * g.monitorRoom + (rest.map fun v => v.category).sum ≤ 8) (hdg : decode cc g.pc = .ok (.invokestatic index, 3)) (hf : cells + mc ≤ R.cells ∧ slots + ms ≤ R.slots) :
    vx_Run p l e R s m args below meth c H locs cells slots mc ms g rest (Qc As.toArray) XC free := by
  have hK : vx_Back l R p e below s args y 3 8 (PreOf R mc ms Pc) (PostOf Qc mc ms free) (vx_Post XC mc ms free) := vx_callBack cw.1 hM hp.1
  obtain ⟨⟨-, -, -, -, -, -, hcode, hini, hy, hlen, hl⟩, hstt⟩ := cw
  obtain ⟨hx, hb, hml, ho, -⟩ := S
  intro T hT X
  rcases vx_callS X hx (bytes := bytes) (maxL := maxL) (ret := ret) ho hl hstt hini hcode hy hK hg (hsize.trans hml.symm) (argsL := As) (rest := rest) (fun sig h => hn.trans (hlen sig h)) hstack hW (by rw [hb]; exact hdg)
    (fun vm₁ hW₁ => ⟨hf.1, hf.2, hp.2 (T.setVm vm₁) hT hW₁⟩) with ⟨v, vm₁, ⟨U', l2, c2, s2⟩, hW₁, X', ⟨g', mk, t, L, e1, e2, hq, h1, hL, h2, h3⟩, st⟩ | ⟨q, vm₁, ⟨U', l2, c2, s2⟩, hW₁, X', ⟨g', mk, t, L, E, ce, e1, e2, hq, hce, hcv, hcl, h1, hL, h2, h3⟩, st⟩
  · dsimp only [Pt.U, Pt.locs, Pt.cells, Pt.slots] at X' e1 e2 h1 h2 h3 st
    subst h1; subst h2; subst h3
    exact Or.inl ⟨v, (T.setVm vm₁).calling g' mk As.toArray, t, U', L, hT, X', hL, e1, e2, hq, st⟩
  · dsimp only [Pt.U, Pt.locs, Pt.cells, Pt.slots] at X' e1 e2 h1 h2 h3 st hcl
    subst h1; subst h2; subst h3
    exact Or.inr ⟨q, (T.setVm vm₁).calling g' mk As.toArray, t, U', L, E, ce, hT, X', hL, e1, e2, hq, hce, hcv, vx_cls hW₁ hcl, st⟩
end Runs
section Rows
variable {p : Program} {l : Launch} {e : Env} {R : Room} {s : State} {m : MethodId} {args : Array Value} {below : List Frame} {meth : Method} {c : Code} {H : Heap} {locs : List Loc} {cells slots : Nat} {Q : State → Prop}
variable {mc ms : Nat} {free : Addr → Prop} {A0 A1 : Nat → Prop} {H0 : Heap} {a : Array Value} {pc : Nat} {ls : Array Slot} {st0 rest : List Value}
theorem vx_keep {st₀ t T' : State} {L : List Loc} (h0 : st₀.heap = H) (e1 : T'.heap = t.heap) (hS : va_S A0 H0 H locs) (hA : ∀ q, q < H.size → A1 q → A0 q) (hf : ∀ q, free q → A0 q) (hL : ∀ q ∈ L, free q.base) (hF : va_F A1 st₀ t) :
    H.size ≤ T'.heap.size ∧ (∀ q : Nat, q < H.size → ¬ A1 q → T'.heap[q]? = H[q]?) ∧ va_S A0 H0 T'.heap (locs ++ L) := by
  obtain ⟨hz, hk⟩ := hF
  rw [h0] at hz hk
  exact ⟨by rw [e1]; exact hz, fun q h1 h2 => by rw [e1]; exact hk q h1 h2,
    ⟨Nat.le_trans hS.1 (by rw [e1]; exact hz), fun q h1 h2 => by rw [e1, hk q (Nat.lt_of_lt_of_le h1 hS.1) (fun z => h2 (hA q (Nat.lt_of_lt_of_le h1 hS.1) z))]; exact hS.2.1 q h1 h2, fun q hq => by
      rcases List.mem_append.mp hq with h | h
      · exact hS.2.2 q h
      · exact hf _ (hL q h)⟩⟩
theorem vx_calli {S SX : Type} {post : Int32 → S → Prop} {px : SX → Prop} {B : S → State → Prop} {BX : String → SX → State → Prop} {AX : Nat → Prop} (hr : vx_Run p l e R s m args below meth c H locs cells slots mc ms (F0 m pc ls st0) rest (va_Qi post B A1 a) (vx_X px BX AX) free) (hS : va_S A0 H0 H locs) (hA : ∀ q, q < H.size → A1 q → A0 q) (hf : ∀ q, free q → A0 q) (hAX : ∀ q, q < H.size → AX q → A0 q)
    (kx : ∀ (E : String) (ce : Cell) (q9 : Addr) (u : SX) (t : State) (H1 : Heap) (locs1 : List Loc), t.heap = H1 → s.vm.Alike t.vm → px u → BX E u t → H.size ≤ H1.size → (∀ q : Nat, q < H.size → ¬ AX q → H1[q]? = H[q]?) → va_S A0 H0 H1 locs1 → H1[q9]? = some ce → ce.vm = .none → s.vm.findClass E = some ce.cls → vx_W p l e R s m args below meth c H1 locs1 (cells + mc) (slots + ms) Q (F0 m pc ls rest) q9)
    (kk : ∀ (r : Int32) (u : S) (t : State) (H1 : Heap) (locs1 : List Loc), t.heap = H1 → s.vm.Alike t.vm → post r u → B u t → H.size ≤ H1.size → (∀ q : Nat, q < H.size → ¬ A1 q → H1[q]? = H[q]?) → va_S A0 H0 H1 locs1 → W p l e R s m args below meth c H1 locs1 (cells + mc) (slots + ms) Q (F0 m (pc + 3) ls (.int r :: rest))) : W p l e R s m args below meth c H locs cells slots Q (F0 m pc ls st0) := by
  intro T hT X
  rcases hr T hT X with ⟨v, st₀, t, T', L, h0, X', hL, e1, e2, ⟨⟨r, u, hv, hp, hb⟩, hF⟩, st⟩ | ⟨q, st₀, t, T', L, E, ce, h0, X', hL, e1, e2, ⟨u, hp, hb, hF⟩, hce, hcv, hcl, st⟩
  · cases hv
    obtain ⟨k1, k2, k3⟩ := vx_keep h0 e1 hS hA hf hL hF
    obtain ⟨t2, a1, b1⟩ := kk r u t T'.heap (locs ++ L) e1.symm (by rw [← e2]; exact X'.warmed.alike) hp hb k1 k2 k3 T' rfl X'
    exact ⟨t2, st t2 a1, b1⟩
  · obtain ⟨k1, k2, k3⟩ := vx_keep h0 e1 hS hAX hf hL hF
    obtain ⟨t2, a1, b1⟩ := kx E ce q u t T'.heap (locs ++ L) e1.symm (by rw [← e2]; exact X'.warmed.alike) hp hb k1 k2 k3 (by rw [e1]; exact hce) hcv hcl T' rfl X'
    exact ⟨t2, st.trans a1, b1⟩
theorem vx_calll {S SX : Type} {post : Int64 → S → Prop} {px : SX → Prop} {B : S → State → Prop} {BX : String → SX → State → Prop} {AX : Nat → Prop} (hr : vx_Run p l e R s m args below meth c H locs cells slots mc ms (F0 m pc ls st0) rest (va_Ql post B A1 a) (vx_X px BX AX) free) (hS : va_S A0 H0 H locs) (hA : ∀ q, q < H.size → A1 q → A0 q) (hf : ∀ q, free q → A0 q) (hAX : ∀ q, q < H.size → AX q → A0 q)
    (kx : ∀ (E : String) (ce : Cell) (q9 : Addr) (u : SX) (t : State) (H1 : Heap) (locs1 : List Loc), t.heap = H1 → s.vm.Alike t.vm → px u → BX E u t → H.size ≤ H1.size → (∀ q : Nat, q < H.size → ¬ AX q → H1[q]? = H[q]?) → va_S A0 H0 H1 locs1 → H1[q9]? = some ce → ce.vm = .none → s.vm.findClass E = some ce.cls → vx_W p l e R s m args below meth c H1 locs1 (cells + mc) (slots + ms) Q (F0 m pc ls rest) q9)
    (kk : ∀ (r : Int64) (u : S) (t : State) (H1 : Heap) (locs1 : List Loc), t.heap = H1 → s.vm.Alike t.vm → post r u → B u t → H.size ≤ H1.size → (∀ q : Nat, q < H.size → ¬ A1 q → H1[q]? = H[q]?) → va_S A0 H0 H1 locs1 → W p l e R s m args below meth c H1 locs1 (cells + mc) (slots + ms) Q (F0 m (pc + 3) ls (.long r :: rest))) : W p l e R s m args below meth c H locs cells slots Q (F0 m pc ls st0) := by
  intro T hT X
  rcases hr T hT X with ⟨v, st₀, t, T', L, h0, X', hL, e1, e2, ⟨⟨r, u, hv, hp, hb⟩, hF⟩, st⟩ | ⟨q, st₀, t, T', L, E, ce, h0, X', hL, e1, e2, ⟨u, hp, hb, hF⟩, hce, hcv, hcl, st⟩
  · cases hv
    obtain ⟨k1, k2, k3⟩ := vx_keep h0 e1 hS hA hf hL hF
    obtain ⟨t2, a1, b1⟩ := kk r u t T'.heap (locs ++ L) e1.symm (by rw [← e2]; exact X'.warmed.alike) hp hb k1 k2 k3 T' rfl X'
    exact ⟨t2, st t2 a1, b1⟩
  · obtain ⟨k1, k2, k3⟩ := vx_keep h0 e1 hS hAX hf hL hF
    obtain ⟨t2, a1, b1⟩ := kx E ce q u t T'.heap (locs ++ L) e1.symm (by rw [← e2]; exact X'.warmed.alike) hp hb k1 k2 k3 (by rw [e1]; exact hce) hcv hcl T' rfl X'
    exact ⟨t2, st.trans a1, b1⟩
theorem vx_callf {S SX : Type} {post : UInt32 → S → Prop} {px : SX → Prop} {B : S → State → Prop} {BX : String → SX → State → Prop} {AX : Nat → Prop} (hr : vx_Run p l e R s m args below meth c H locs cells slots mc ms (F0 m pc ls st0) rest (va_Qf post B A1 a) (vx_X px BX AX) free) (hS : va_S A0 H0 H locs) (hA : ∀ q, q < H.size → A1 q → A0 q) (hf : ∀ q, free q → A0 q) (hAX : ∀ q, q < H.size → AX q → A0 q)
    (kx : ∀ (E : String) (ce : Cell) (q9 : Addr) (u : SX) (t : State) (H1 : Heap) (locs1 : List Loc), t.heap = H1 → s.vm.Alike t.vm → px u → BX E u t → H.size ≤ H1.size → (∀ q : Nat, q < H.size → ¬ AX q → H1[q]? = H[q]?) → va_S A0 H0 H1 locs1 → H1[q9]? = some ce → ce.vm = .none → s.vm.findClass E = some ce.cls → vx_W p l e R s m args below meth c H1 locs1 (cells + mc) (slots + ms) Q (F0 m pc ls rest) q9)
    (kk : ∀ (r : UInt32) (u : S) (t : State) (H1 : Heap) (locs1 : List Loc), t.heap = H1 → s.vm.Alike t.vm → post r u → B u t → H.size ≤ H1.size → (∀ q : Nat, q < H.size → ¬ A1 q → H1[q]? = H[q]?) → va_S A0 H0 H1 locs1 → W p l e R s m args below meth c H1 locs1 (cells + mc) (slots + ms) Q (F0 m (pc + 3) ls (.float r :: rest))) : W p l e R s m args below meth c H locs cells slots Q (F0 m pc ls st0) := by
  intro T hT X
  rcases hr T hT X with ⟨v, st₀, t, T', L, h0, X', hL, e1, e2, ⟨⟨r, u, hv, hp, hb⟩, hF⟩, st⟩ | ⟨q, st₀, t, T', L, E, ce, h0, X', hL, e1, e2, ⟨u, hp, hb, hF⟩, hce, hcv, hcl, st⟩
  · cases hv
    obtain ⟨k1, k2, k3⟩ := vx_keep h0 e1 hS hA hf hL hF
    obtain ⟨t2, a1, b1⟩ := kk r u t T'.heap (locs ++ L) e1.symm (by rw [← e2]; exact X'.warmed.alike) hp hb k1 k2 k3 T' rfl X'
    exact ⟨t2, st t2 a1, b1⟩
  · obtain ⟨k1, k2, k3⟩ := vx_keep h0 e1 hS hAX hf hL hF
    obtain ⟨t2, a1, b1⟩ := kx E ce q u t T'.heap (locs ++ L) e1.symm (by rw [← e2]; exact X'.warmed.alike) hp hb k1 k2 k3 (by rw [e1]; exact hce) hcv hcl T' rfl X'
    exact ⟨t2, st.trans a1, b1⟩
theorem vx_calld {S SX : Type} {post : UInt64 → S → Prop} {px : SX → Prop} {B : S → State → Prop} {BX : String → SX → State → Prop} {AX : Nat → Prop} (hr : vx_Run p l e R s m args below meth c H locs cells slots mc ms (F0 m pc ls st0) rest (va_Qd post B A1 a) (vx_X px BX AX) free) (hS : va_S A0 H0 H locs) (hA : ∀ q, q < H.size → A1 q → A0 q) (hf : ∀ q, free q → A0 q) (hAX : ∀ q, q < H.size → AX q → A0 q)
    (kx : ∀ (E : String) (ce : Cell) (q9 : Addr) (u : SX) (t : State) (H1 : Heap) (locs1 : List Loc), t.heap = H1 → s.vm.Alike t.vm → px u → BX E u t → H.size ≤ H1.size → (∀ q : Nat, q < H.size → ¬ AX q → H1[q]? = H[q]?) → va_S A0 H0 H1 locs1 → H1[q9]? = some ce → ce.vm = .none → s.vm.findClass E = some ce.cls → vx_W p l e R s m args below meth c H1 locs1 (cells + mc) (slots + ms) Q (F0 m pc ls rest) q9)
    (kk : ∀ (r : UInt64) (u : S) (t : State) (H1 : Heap) (locs1 : List Loc), t.heap = H1 → s.vm.Alike t.vm → post r u → B u t → H.size ≤ H1.size → (∀ q : Nat, q < H.size → ¬ A1 q → H1[q]? = H[q]?) → va_S A0 H0 H1 locs1 → W p l e R s m args below meth c H1 locs1 (cells + mc) (slots + ms) Q (F0 m (pc + 3) ls (.double r :: rest))) : W p l e R s m args below meth c H locs cells slots Q (F0 m pc ls st0) := by
  intro T hT X
  rcases hr T hT X with ⟨v, st₀, t, T', L, h0, X', hL, e1, e2, ⟨⟨r, u, hv, hp, hb⟩, hF⟩, st⟩ | ⟨q, st₀, t, T', L, E, ce, h0, X', hL, e1, e2, ⟨u, hp, hb, hF⟩, hce, hcv, hcl, st⟩
  · cases hv
    obtain ⟨k1, k2, k3⟩ := vx_keep h0 e1 hS hA hf hL hF
    obtain ⟨t2, a1, b1⟩ := kk r u t T'.heap (locs ++ L) e1.symm (by rw [← e2]; exact X'.warmed.alike) hp hb k1 k2 k3 T' rfl X'
    exact ⟨t2, st t2 a1, b1⟩
  · obtain ⟨k1, k2, k3⟩ := vx_keep h0 e1 hS hAX hf hL hF
    obtain ⟨t2, a1, b1⟩ := kx E ce q u t T'.heap (locs ++ L) e1.symm (by rw [← e2]; exact X'.warmed.alike) hp hb k1 k2 k3 (by rw [e1]; exact hce) hcv hcl T' rfl X'
    exact ⟨t2, st.trans a1, b1⟩
theorem vx_callv {S SX : Type} {post : S → Prop} {px : SX → Prop} {B : S → State → Prop} {BX : String → SX → State → Prop} {AX : Nat → Prop} (hr : vx_Run p l e R s m args below meth c H locs cells slots mc ms (F0 m pc ls st0) rest (va_Qv post B A1 a) (vx_X px BX AX) free) (hS : va_S A0 H0 H locs) (hA : ∀ q, q < H.size → A1 q → A0 q) (hf : ∀ q, free q → A0 q) (hAX : ∀ q, q < H.size → AX q → A0 q)
    (kx : ∀ (E : String) (ce : Cell) (q9 : Addr) (u : SX) (t : State) (H1 : Heap) (locs1 : List Loc), t.heap = H1 → s.vm.Alike t.vm → px u → BX E u t → H.size ≤ H1.size → (∀ q : Nat, q < H.size → ¬ AX q → H1[q]? = H[q]?) → va_S A0 H0 H1 locs1 → H1[q9]? = some ce → ce.vm = .none → s.vm.findClass E = some ce.cls → vx_W p l e R s m args below meth c H1 locs1 (cells + mc) (slots + ms) Q (F0 m pc ls rest) q9)
    (kk : ∀ (u : S) (t : State) (H1 : Heap) (locs1 : List Loc), t.heap = H1 → s.vm.Alike t.vm → post u → B u t → H.size ≤ H1.size → (∀ q : Nat, q < H.size → ¬ A1 q → H1[q]? = H[q]?) → va_S A0 H0 H1 locs1 → W p l e R s m args below meth c H1 locs1 (cells + mc) (slots + ms) Q (F0 m (pc + 3) ls (rest))) : W p l e R s m args below meth c H locs cells slots Q (F0 m pc ls st0) := by
  intro T hT X
  rcases hr T hT X with ⟨v, st₀, t, T', L, h0, X', hL, e1, e2, ⟨⟨u, hv, hp, hb⟩, hF⟩, st⟩ | ⟨q, st₀, t, T', L, E, ce, h0, X', hL, e1, e2, ⟨u, hp, hb, hF⟩, hce, hcv, hcl, st⟩
  · cases hv
    obtain ⟨k1, k2, k3⟩ := vx_keep h0 e1 hS hA hf hL hF
    obtain ⟨t2, a1, b1⟩ := kk u t T'.heap (locs ++ L) e1.symm (by rw [← e2]; exact X'.warmed.alike) hp hb k1 k2 k3 T' rfl X'
    exact ⟨t2, st t2 a1, b1⟩
  · obtain ⟨k1, k2, k3⟩ := vx_keep h0 e1 hS hAX hf hL hF
    obtain ⟨t2, a1, b1⟩ := kx E ce q u t T'.heap (locs ++ L) e1.symm (by rw [← e2]; exact X'.warmed.alike) hp hb k1 k2 k3 (by rw [e1]; exact hce) hcv hcl T' rfl X'
    exact ⟨t2, st.trans a1, b1⟩
/-- caught by the row x of this method's table; the rows ahead don't take it -/
theorem vx_catch {own name : String} {E : String} {ce : Cell} {q : Addr} (hown : s.vm.findClass own = some m.cls) (pre : List ExceptionTableEntry) (x : ExceptionTableEntry) (suf : List ExceptionTableEntry) (hsplit : c.exceptionTable.toList = pre ++ x :: suf)
    (hpass : ∀ z ∈ pre, covers z pc = false ∨ (z.catchType ≠ 0 ∧ ∃ nm : String, (Cond.classLink own z.catchType nm).before args s = true ∧ va_Nc E nm s)) (hx : covers x pc = true) (h0 : x.catchType ≠ 0)
    (hlink : (Cond.classLink own x.catchType name).before args s = true) (hcast : (Cond.castable E name).before args s = true) (hcell : H[q]? = some ce) (hv : ce.vm = .none) (hcl : s.vm.findClass E = some ce.cls)
    (kk : W p l e R s m args below meth c H locs cells slots Q (F0 m x.handlerPc ls [.ref q])) : vx_W p l e R s m args below meth c H locs cells slots Q (F0 m pc ls rest) q := by
  intro T hT X
  have hpl : e.platform.magicAccessors = ({} : Platform).magicAccessors := by rw [X.admits.platform]
  obtain ⟨c3, c4, hc3, hc4, hasg⟩ := Cond.castable_spec hcast
  cases Option.some.inj (hc3.symm.trans hcl)
  obtain ⟨c5, hc5, hcl5⟩ := Cond.classLink_spec hown hlink e.platform hpl
  cases Option.some.inj (hc4.symm.trans hc5)
  obtain ⟨vm', X', st⟩ := X.thenCaughtThrough q (g := F0 m pc ls rest) rfl (Steps.refl _) (by rw [hT]; exact hcell) (by rw [hv]; rfl) (by obtain ⟨k9, h9, -⟩ := Vm.findClass_spec hcl; exact ⟨k9, h9⟩) pre x suf hsplit
    (fun z hz => by
      rcases hpass z hz with h | ⟨hz0, nm, hl1, hn1⟩
      · exact Or.inl h
      · obtain ⟨c6, hc6, hcl6⟩ := Cond.classLink_spec hown hl1 e.platform hpl
        obtain ⟨a8, b8, h1, h2, h3⟩ := hn1
        cases Option.some.inj (h1.symm.trans hcl)
        cases Option.some.inj (h2.symm.trans hc6)
        exact Or.inr ⟨hz0, _, hcl6, h3⟩) hx (Or.inr ⟨h0, c4, hcl5, hasg⟩)
  obtain ⟨t, a1, b1⟩ := kk (T.setVm vm') hT X'
  exact ⟨t, st.trans a1, b1⟩
end Rows
section Ends
variable {p : Program} {l : Launch} {e : Env} {R : Room} {s : State} {m : MethodId} {args : Array Value} {below : List Frame} {meth : Method} {c : Code} {H : Heap} {locs : List Loc} {cells slots : Nat} {Q : State → Prop}
variable {mc ms : Nat} {free : Addr → Prop} {A0 A1 : Nat → Prop} {H0 : Heap} {a : Array Value} {ls : Array Slot} {st0 rest : List Value}
variable {Qc : Array Value → State → Outcome → State → Prop} {XC : String → State → State → Prop}
/-- what a body that may throw owes at its end -/
def vx_MQ (below : List Frame) (Qc : Array Value → State → Outcome → State → Prop) (XC : String → State → State → Prop) (a : Array Value) (s : State) (mc ms : Nat) (free : Addr → Prop) : State → Prop := fun t =>
  ∃ o, t.status = .running ∧ Ended t below o ∧ vx_Q Qc XC mc ms free a s o t
theorem vx_ret {g : JFrame} {mc ms : Nat} (k : W p l e R s m args below meth c H locs cells slots (MQ below Qc args s mc ms free) g) : W p l e R s m args below meth c H locs cells slots (vx_MQ below Qc XC args s mc ms free) g := by
  intro T hT X
  obtain ⟨t, a1, o, b1, b2, b3, b4⟩ := k T hT X
  exact ⟨t, a1, o, b1, b2, Or.inl ⟨b3, b4⟩⟩
/-- not caught here: it goes on to the caller -/
theorem vx_widen {g : JFrame} {q : Addr} {k n : Nat} (h1 : cells ≤ k) (h2 : slots ≤ n) (kk : vx_W p l e R s m args below meth c H locs k n Q g q) : vx_W p l e R s m args below meth c H locs cells slots Q g q := fun T hT X => kk T hT (stand_widen X h1 h2)
theorem vx_out {pc : Nat} {E : String} {ce : Cell} {q : Addr} {mc ms : Nat} (hout : ∀ x ∈ c.exceptionTable.toList, covers x pc = false) (hlocks : meth.locks = false) (hcell : H[q]? = some ce) (hv : ce.vm = .none) (hcl : s.vm.findClass E = some ce.cls)
    (hx : ∀ t : State, t.heap = H → s.vm.Alike t.vm → XC E s t) (hf : ∀ z ∈ locs, free z.base) (hc : cells ≤ mc) (hs : slots ≤ ms) :
    vx_W p l e R s m args below meth c H locs cells slots (vx_MQ below Qc XC args s mc ms free) (F0 m pc ls rest) q := by
  intro T hT X
  obtain ⟨st1, hrun, hend, hW, hsm⟩ := X.leaveThrown q (g := F0 m pc ls rest) rfl rfl rfl hout hlocks
  have hcell9 : (T.setFrames (.throwing q :: below)).heap[q]? = some ce := by
    show T.heap[q]? = some ce
    rw [hT]; exact hcell
  exact ⟨_, st1, .threw q, hrun, hend, Or.inr ⟨q, rfl, E, ce, locs, hx _ hT hW.alike, hcell9, hv, hcl, hW, hsm.mono hc hs, hf⟩⟩
theorem vx_frame {U : State} {k n : Nat} (h : s.sameButNew ({ U with vm := s.vm } : State) locs k n) : s.heap.size ≤ U.heap.size ∧ ∀ q : Nat, q < s.heap.size → (∀ z ∈ locs, z.base ≠ q) → U.heap[q]? = s.heap[q]? := by
  obtain ⟨-, h2, -, -, -, h6⟩ := h
  refine ⟨h2, fun q hq hz => ?_⟩
  obtain ⟨c9, e1, e2, e3, e4⟩ := h6 q _ (Array.getElem?_eq_getElem hq)
  have hs : c9.slots = (s.heap[q]).slots := Array.ext_getElem? fun i => e4 i fun hm => hz _ hm rfl
  have h9 : c9 = s.heap[q] := by
    rw [hs] at e2
    exact e2
  have e5 : U.heap[q]? = some c9 := e1
  rw [e5, h9, Array.getElem?_eq_getElem hq]
/-- the words of a throw but the four that speak of the heap -/
def vx_no (w : Cond) : Bool := decide (w ≠ .isRef (.static Bundle.tN "UNASSIGNED_STACK" Bundle.steD)) && decide (w ≠ .isRef (.static Bundle.tN "SUPPRESSED_SENTINEL" Bundle.listD)) && decide (w ≠ .laysStatic Bundle.tN "UNASSIGNED_STACK" Bundle.steD) && decide (w ≠ .laysStatic Bundle.tN "SUPPRESSED_SENTINEL" Bundle.listD)
def vx_at0 (own : String) (ic : Nat) (X : String) (names : List String) : List Cond := (Bundle.ownAtoms0 own ic X names).filter vx_no
def vx_atS (own : String) (ic : Nat) (X : String) (names : List String) : List Cond := (Bundle.ownAtoms own ic X names).filter vx_no
/-- a word that the tables alone decide, or a good one -/
def vx_ot (w : Cond) : Bool := w.onTables || goodWord w
theorem vx_ot_at {args a' : Array Value} {s U : State} {w : Cond} (hW : s.WarmedH U.vm) (hvm : s.vm = U.vm) (hg : vx_ot w = true) (h : w.before args s = true) : w.before a' U = true := by
  simp only [vx_ot, Bool.or_eq_true] at hg
  rcases hg with hg | hg
  · exact va_tabs hg hvm h
  · exact word_at hW (good_of_word hg) h
/-- a list's words: the good ones out of the method's own list, the others by premises of their own -/
theorem vx_hat {args : Array Value} {s : State} {L B : List Cond} (h1 : ∀ w ∈ L.filter goodWord, w.before args s = true) (h2 : ∀ w ∈ L.filter (fun w => !goodWord w), w ∈ B) (h3 : ∀ w ∈ B, w.before args s = true) : ∀ w ∈ L, w.before args s = true := by
  intro w hw
  by_cases g : goodWord w = true
  · exact h1 w (List.mem_filter.mpr ⟨hw, g⟩)
  · refine h3 w (h2 w (List.mem_filter.mpr ⟨hw, ?_⟩))
    show (!goodWord w) = true
    cases hgw : goodWord w
    · rfl
    · exact absurd hgw g
theorem vx_c {args : Array Value} {s : State} {w : Cond} {B : List Cond} (h : w.before args s = true) (t : ∀ w ∈ B, w.before args s = true) : ∀ w' ∈ w :: B, w'.before args s = true := fun w' h' => (List.mem_cons.mp h').elim (fun e => by rw [e]; exact h) (t w')
theorem vx_n {args : Array Value} {s : State} : ∀ w ∈ ([] : List Cond), w.before args s = true := fun _ h => nomatch h
theorem vx_own {args : Array Value} {s : State} {L : List Cond} (h1 : ∀ w ∈ L.filter vx_no, w.before args s = true)
    (hU : (Cond.isRef (.static Bundle.tN "UNASSIGNED_STACK" Bundle.steD)).before args s = true) (hN : (Cond.isRef (.static Bundle.tN "SUPPRESSED_SENTINEL" Bundle.listD)).before args s = true)
    (lU : (Cond.laysStatic Bundle.tN "UNASSIGNED_STACK" Bundle.steD).before args s = true) (lN : (Cond.laysStatic Bundle.tN "SUPPRESSED_SENTINEL" Bundle.listD).before args s = true) : ∀ w ∈ L, w.before args s = true := by
  intro w hw
  by_cases e1 : w = .isRef (.static Bundle.tN "UNASSIGNED_STACK" Bundle.steD)
  · rw [e1]; exact hU
  · by_cases e2 : w = .isRef (.static Bundle.tN "SUPPRESSED_SENTINEL" Bundle.listD)
    · rw [e2]; exact hN
    · by_cases e3 : w = .laysStatic Bundle.tN "UNASSIGNED_STACK" Bundle.steD
      · rw [e3]; exact lU
      · by_cases e4 : w = .laysStatic Bundle.tN "SUPPRESSED_SENTINEL" Bundle.listD
        · rw [e4]; exact lN
        · exact h1 w (List.mem_filter.mpr ⟨hw, by unfold vx_no; rw [decide_eq_true e1, decide_eq_true e2, decide_eq_true e3, decide_eq_true e4]; rfl⟩)
/-- where a static field lies, its class's statics cell in H -/
def vx_L (C n d : String) (A : Nat → Prop) (U : State) (H : Heap) : Prop := ∃ (c : ClassId) (k : Class) (i : Nat) (f : Field) (a : Nat) (cell : Cell), U.vm.findClass C = some c ∧ U.fieldFound? C n d = some (c, k, i, f) ∧ f.isStatic = true ∧ k.statics = some a ∧ H[a]? = some cell ∧ cell.vm.isStatics = true ∧ cell.cls = c ∧ f.slot < cell.slots.size ∧ k.staticTypes[f.slot]? = some f.type ∧ ¬ A a
theorem vx_L.moved {C n d : String} {A : Nat → Prop} {u U : State} {H : Heap} (hvm : u.vm.Alike U.vm) (h : vx_L C n d A u H) : vx_L C n d A U H := by
  obtain ⟨c, k, i, f, a, cell, h1, h2, h3, h4, h5, h6, h7, h8, h9, h10⟩ := h
  obtain ⟨k', hi', he⟩ := State.fieldFound?_setVm hvm h2
  exact ⟨c, k', i, f, a, cell, by rw [hvm.findClass]; exact h1, hi', h3, by rw [he]; exact h4, h5, h6, h7, h8, by rw [he]; exact h9, h10⟩
theorem vx_L.kept {C n d : String} {A : Nat → Prop} {U : State} {H H1 : Heap} (h : vx_L C n d A U H) (hq : ∀ a : Nat, a < H.size → ¬ A a → H1[a]? = H[a]?) : vx_L C n d A U H1 := by
  obtain ⟨c, k, i, f, a, cell, h1, h2, h3, h4, h5, h6, h7, h8, h9, h10⟩ := h
  exact ⟨c, k, i, f, a, cell, h1, h2, h3, h4, by rw [hq a (Array.getElem?_eq_some_iff.mp h5).1 h10]; exact h5, h6, h7, h8, h9, h10⟩
theorem vx_L.narrow {C n d : String} {A B : Nat → Prop} {U : State} {H : Heap} (h : vx_L C n d A U H) (hAB : ∀ q, B q → A q) : vx_L C n d B U H := by
  obtain ⟨c, k, i, f, a, cell, h1, h2, h3, h4, h5, h6, h7, h8, h9, h10⟩ := h
  exact ⟨c, k, i, f, a, cell, h1, h2, h3, h4, h5, h6, h7, h8, h9, fun z => h10 (hAB _ z)⟩
theorem vx_L.word {C n d : String} {A : Nat → Prop} {s : State} {args : Array Value} (h : vx_L C n d A s s.heap) : (Cond.laysStatic C n d).before args s = true := by
  obtain ⟨c, k, i, f, a, cell, h1, h2, h3, h4, h5, h6, h7, h8, h9, -⟩ := h
  show (Cond.laysStatic C n d).holds args s none s [] = true
  exact Cond.laysStatic_of h1 h2 h3 h4 h5 h6 h7 h8 h9
/-- .. and what it holds: null or some reference -/
def vx_Zq (C n d : String) (A : Nat → Prop) (U : State) (H : Heap) : Prop := va_Zq C n d A U H ∧ vx_L C n d A U H
theorem vx_Zq.moved {C n d : String} {A : Nat → Prop} {u U : State} {H : Heap} (hvm : u.vm.Alike U.vm) (h : vx_Zq C n d A u H) : vx_Zq C n d A U H := ⟨va_Zq.moved hvm h.1, vx_L.moved hvm h.2⟩
theorem vx_Zq.kept {C n d : String} {A : Nat → Prop} {U : State} {H H1 : Heap} (h : vx_Zq C n d A U H) (hq : ∀ a : Nat, a < H.size → ¬ A a → H1[a]? = H[a]?) : vx_Zq C n d A U H1 := ⟨va_Zq.kept h.1 hq, vx_L.kept h.2 hq⟩
theorem vx_Zq.narrow {C n d : String} {A B : Nat → Prop} {U : State} {H : Heap} (h : vx_Zq C n d A U H) (hAB : ∀ q, B q → A q) : vx_Zq C n d B U H := ⟨va_Zq.narrow h.1 hAB, vx_L.narrow h.2 hAB⟩
theorem vx_Zqof {args : Array Value} {s : State} {C n d : String} {A : Nat → Prop} (hl : (Cond.laysStatic C n d).before args s = true) (hini : (Cond.initialized C).before args s = true) (h : (Cond.isRef (.static C n d)).before args s = true) (hA : ∀ a : Nat, a < s.heap.size → ¬ A a) : vx_Zq C n d A s s.heap := by
  refine ⟨va_Zqof hl hini h hA, ?_⟩
  obtain ⟨c, k, i, f, a, cell, h1, h2, h3, h4, h5, h6, h7, h8, h9⟩ := Cond.laysStatic_spec hl
  exact ⟨c, k, i, f, a, cell, h1, h2, h3, h4, h5, h6, h7, h8, h9, hA a (Array.getElem?_eq_some_iff.mp h5).1⟩
theorem vx_isRef {C n d : String} {v : Value} {A : Nat → Prop} {s : State} {args : Array Value} (h : va_Z C n d v A s s.heap) (hv : v.isRef = true) : (Cond.isRef (.static C n d)).before args s = true := by
  obtain ⟨cf, kf, fi, f, a, cell, h1, h2, h3, h4, h5, h6, h7, -⟩ := h
  have he : (Term.static C n d).eval args s none [] s = some v := by
    simp [Term.eval, State.fieldNamed?, h1, h2, h4, h5, h6, h7]
  simp only [Cond.before, Cond.holds, Cond.value, he]
  cases v <;> simp_all [Value.isRef]
theorem vx_isRefq {C n d : String} {A : Nat → Prop} {s : State} {args : Array Value} (h : va_Zq C n d A s s.heap) : (Cond.isRef (.static C n d)).before args s = true := by
  rcases h with h | ⟨t, h⟩
  · exact vx_isRef h rfl
  · exact vx_isRef h rfl
/-- the same frame, seen from here: as if the method were called anew in this heap -/
theorem vx_rebase {T : State} (X : Stand p l e R s m args below meth c T locs cells slots) {R' : Room} (hf : R'.frames ≤ R.frames) (hl : R'.locals ≤ R.locals) (hc : cells + R'.cells ≤ R.cells) (hs : slots + R'.slots ≤ R.slots) :
    Stand p l e R' ((T.setVm s.vm).setFrames (.invoking m args :: below)) m args below meth c T [] 0 0 := by
  have htop : (T.setVm s.vm).topJava?.isSome := X.here.top
  have hF : ((T.setVm s.vm).setFrames (.invoking m args :: below)).frames = .invoking m args :: below := State.frames_setFrames _ (State.cur_lt_of_top htop)
  obtain ⟨g₀, hg0⟩ := Option.isSome_iff_exists.mp htop
  obtain ⟨r, hr⟩ := State.topJava?_eq_some.mp hg0
  have hl9 : e.platform.stackLimits (T.setVm s.vm).me = e.platform.stackLimits s.me := X.limits
  have hb9 : (T.setVm s.vm).me.stackBytes = s.me.stackBytes := X.bytes
  refine ⟨X.admits, X.cas, X.clock, hF, ?_, X.hears, X.method, X.code, X.here, X.tail, X.warmed, ?_, ?_, ?_⟩
  · have h := X.room
    have hU : ((T.setVm s.vm).setFrames (.invoking m args :: below)).localsInUse = s.localsInUse := by
      rw [State.localsInUse_invoking hF (meth := meth) (c := c) X.method X.code, State.localsInUse_invoking X.frames X.method X.code]
    simp only [State.hasRoom, Bool.and_eq_true, decide_eq_true_eq] at h ⊢
    obtain ⟨⟨⟨⟨h1, h2, h3, h4, h5, h6⟩, h7⟩, h8⟩, h9⟩ := h
    rw [X.frames, List.length_cons] at h2 h3
    have q1 := X.heapSize
    have q2 := X.used
    simp only [hF, hU, List.length_cons, State.stackLimits_setFrames, State.stackBytes_setFrames, hl9, hb9]
    refine ⟨⟨⟨⟨by omega, by omega, by omega, by omega, by omega, h6⟩, ?_⟩, ?_⟩, X.book⟩
    · show T.heap.size + R'.cells ≤ e.platform.maxCells
      omega
    · show T.slotsUsed + R'.slots ≤ e.platform.maxSlots
      omega
  · rw [State.stackLimits_setFrames]; rfl
  · rw [State.stackBytes_setFrames]; rfl
  · refine ⟨?_, Nat.le_refl _, Nat.le_refl _, ?_, ?_, fun a c9 h9 => ⟨c9, h9, rfl, rfl, fun _ _ => rfl⟩⟩
    · obtain ⟨t, ht, -⟩ := State.frames_cons hr
      show T.setVm s.vm = { ((T.setVm s.vm).setFrames (.invoking m args :: below)).setFrames (T.setVm s.vm).frames with heap := T.heap, slotsUsed := T.slotsUsed }
      rw [State.setFrames_setFrames, State.setFrames_self ht]
      rfl
    · show T.slotsUsed = T.slotsUsed + ((T.heap.toList.drop T.heap.size).map (·.slots.size)).sum
      rw [List.drop_eq_nil_of_le (Nat.le_of_eq Array.length_toList)]
      rfl
    · show ((T.heap.toList.drop T.heap.size).map (·.slots.size)).sum ≤ 0
      rw [List.drop_eq_nil_of_le (Nat.le_of_eq Array.length_toList)]
      exact Nat.le_refl _
/-- 'throw new E()': new; dup; invokespecial; athrow -/
theorem vx_throw0 {cc : ByteArray} {pc : Nat} (hexec : p.tables.exec = Jvm.exec) (hb : c.code = cc) (hl : l.stackTraces = false) {own cls : String} {names : List String} {ik ic mc ms : Nat} {A : Nat → Prop}
    (hown : s.vm.findClass own = some m.cls) (hcls : Bundle.fit cls = true) (hnames : ∀ n ∈ names, Bundle.fit n = true)
    (hk : (Cond.classLink own ik cls).before args s = true) (hini : (Cond.initialized cls).before args s = true) (hat : ∀ w ∈ vx_at0 own ic cls names, w.before args s = true)
    (hgood : ∀ w ∈ Cond.classLink own ik cls :: Cond.initialized cls :: vx_at0 own ic cls names, vx_ot w = true)
    (hU : vx_Zq Bundle.tN "UNASSIGNED_STACK" Bundle.steD A s s.heap) (hN : vx_Zq Bundle.tN "SUPPRESSED_SENTINEL" Bundle.listD A s s.heap) (hS : va_S A s.heap H locs) (hsize : ls.size = c.maxLocals)
    (d0 : decode cc pc = .ok (.new ik, 3)) (d3 : decode cc (pc + 3) = .ok (.dup, 1)) (d4 : decode cc (pc + 4) = .ok (.invokespecial ic, 3)) (d7 : decode cc (pc + 7) = .ok (.athrow, 1))
    (hout : ∀ x ∈ c.exceptionTable.toList, covers x (pc + 7) = false)
    (hRframes : names.length + 3 < R.frames) (hRlocals : (rest.map fun v => v.category).sum + (13 * (names.length + 1) + 42) ≤ R.locals) (hRcells : cells + 1 ≤ R.cells) (hRslots : slots + 6 ≤ R.slots) (hlocks : meth.locks = false)
    (hx : ∀ t : State, s.vm.Alike t.vm → H.size ≤ t.heap.size → (∀ q : Nat, q < H.size → t.heap[q]? = H[q]?) → XC cls s t)
    (hf : ∀ z ∈ locs, free z.base) (hc : cells + 1 ≤ mc) (hs : slots + 6 ≤ ms) :
    W p l e R s m args below meth c H locs cells slots (vx_MQ below Qc XC args s mc ms free) (F0 m pc ls rest) := by
  intro T hT X
  have htr : e.platform.stackTraces = false := (show e.platform.stackTraces = l.stackTraces by rw [X.admits.platform]).trans hl
  have Y := vx_rebase X (R' := { frames := R.frames, locals := R.locals, cells := 1, slots := 6 }) (Nat.le_refl _) (Nat.le_refl _) hRcells hRslots
  obtain ⟨s', hA⟩ : ∃ z, z = (T.setVm s.vm).setFrames (.invoking m args :: below) := ⟨_, rfl⟩
  rw [← hA] at Y
  have hvm : s'.vm = s.vm := by rw [hA]; rfl
  have hhp : s'.heap = H := by rw [hA]; exact hT
  have hW0 : s.WarmedH s'.vm := by rw [hvm]; exact State.WarmedH.refl s
  have hat' : ∀ w ∈ vx_at0 own ic cls names, w.before args s' = true := fun w hw => vx_ot_at hW0 hvm.symm (hgood w (List.mem_cons_of_mem _ (List.mem_cons_of_mem _ hw))) (hat w hw)
  have hk' : (Cond.classLink own ik cls).before args s' = true := vx_ot_at hW0 hvm.symm (hgood _ List.mem_cons_self) hk
  have hini' : (Cond.initialized cls).before args s' = true := vx_ot_at hW0 hvm.symm (hgood _ (List.mem_cons_of_mem _ List.mem_cons_self)) hini
  have hU' : vx_Zq Bundle.tN "UNASSIGNED_STACK" Bundle.steD A s' s'.heap := by rw [hhp]; exact vx_Zq.moved hW0.alike (hU.kept hS.2.1)
  have hN' : vx_Zq Bundle.tN "SUPPRESSED_SENTINEL" Bundle.listD A s' s'.heap := by rw [hhp]; exact vx_Zq.moved hW0.alike (hN.kept hS.2.1)
  have h : ∀ w ∈ Bundle.ownAtoms0 own ic cls names, w.before args s' = true := vx_own hat' (vx_isRefq hU'.1) (vx_isRefq hN'.1) hU'.2.word hN'.2.word
  have hown' : s'.vm.findClass own = some m.cls := by rw [hvm]; exact hown
  have hins : (Cond.instantiable cls 6).before args s' = true := h _ (by simp [Bundle.ownAtoms0])
  obtain ⟨vm₁, cX, kX, hfX, hkX, -, -, X₁, st1⟩ := Y.newCold hexec (own := own) (C := cls) (index := ik) (n := 6) hown' hk' hins hini'
    (g := F0 m pc ls rest) rfl (by rw [hb]; exact d0) (Nat.le_refl _) (Nat.le_refl _)
  generalize hT1 : (T.setVm vm₁).pushCell { cls := cX, slots := kX.instanceTypes.map defaultValue, vm := .none } = T1 at X₁ st1
  have hcat : (Value.ref T.heap.size).category = 1 := rfl
  have hcellA : T1.heap[T.heap.size]? = some (freshCell cX kX) := by rw [← hT1]; exact State.heap_pushCell_size _ _
  have d3' : decode c.code (pc + 3) = .ok (.dup, 1) := by rw [hb]; exact d3
  obtain ⟨U, hsteps, hrun, hend, hW, hsame, ce, hce, hO⟩ := X₁.ctorThrow0 hexec htr (own := own) (cls := cls) (names := names) (ic := ic) hown' hcls hnames h (fun x hx => nomatch hx) hfX hkX hcellA (by rw [hhp, hT]; exact Nat.le_refl _)
    (g := { method := m, pc := pc + 4, locals := ls, stack := .ref T.heap.size :: .ref T.heap.size :: rest, locked := none }) rfl hsize rfl rfl (rest := rest) rfl
    (by rw [hb]; exact d4) (by rw [hb]; exact d7) hout hRframes (by simp only [List.map_cons, List.sum_cons, hcat]; omega) hlocks
  obtain ⟨f1, f2⟩ := vx_frame hsame
  rw [hhp] at f1 f2
  have hWs : s.WarmedH U.vm := State.WarmedH.trans hW0 hW
  have hcl : s.vm.findClass cls = some ce.cls := by
    have h9 := hO.cls
    rw [hvm] at h9
    exact h9
  have hall : s.sameButNew ({ U with vm := s.vm } : State) locs mc ms := by
    subst hA
    obtain ⟨e1, e2⟩ := hsame
    rw [State.setFrames_setFrames] at e1
    have h2 : (T.setVm s.vm).sameButNew ({ U with vm := s.vm } : State) [] (0 + 1) (0 + 6) := ⟨e1, e2⟩
    have h3 := X.same.trans h2
    rw [List.append_nil] at h3
    exact h3.mono hc hs
  refine ⟨U, ?_, .threw T.heap.size, hrun, hend, Or.inr ⟨T.heap.size, rfl, cls, ce, locs, hx U hWs.alike f1 (fun q hq => f2 q hq (fun z hz => nomatch hz)), hce, hO.vm, hcl, hWs, hall, hf⟩⟩
  refine st1 _ ?_
  show Steps p.tables e below (T1.setTop { method := m, pc := pc + 3, locals := ls, stack := .ref T.heap.size :: rest, locked := none }) _
  jvm_step X₁.here [X₁.here.top, hexec, d3', Value.category]
  exact hsteps
/-- 'throw new E("text")': new; dup; ldc; invokespecial; athrow -/
theorem vx_throwS {cc : ByteArray} {pc : Nat} (hexec : p.tables.exec = Jvm.exec) (hb : c.code = cc) (hl : l.stackTraces = false) {own cls text : String} {names : List String} {ik is ic mc ms sa : Nat} {A : Nat → Prop}
    (hown : s.vm.findClass own = some m.cls) (hcls : Bundle.fit cls = true) (hnames : ∀ n ∈ names, Bundle.fit n = true)
    (hk : (Cond.classLink own ik cls).before args s = true) (hini : (Cond.initialized cls).before args s = true) (hstr : vk_R own is text sa s) (hat : ∀ w ∈ vx_atS own ic cls names, w.before args s = true)
    (hgood : ∀ w ∈ Cond.classLink own ik cls :: Cond.initialized cls :: vx_atS own ic cls names, vx_ot w = true)
    (hU : vx_Zq Bundle.tN "UNASSIGNED_STACK" Bundle.steD A s s.heap) (hN : vx_Zq Bundle.tN "SUPPRESSED_SENTINEL" Bundle.listD A s s.heap) (hS : va_S A s.heap H locs) (hsize : ls.size = c.maxLocals)
    (d0 : decode cc pc = .ok (.new ik, 3)) (d3 : decode cc (pc + 3) = .ok (.dup, 1)) (d4 : decode cc (pc + 4) = .ok (.ldc is, 2)) (d6 : decode cc (pc + 6) = .ok (.invokespecial ic, 3)) (d9 : decode cc (pc + 9) = .ok (.athrow, 1))
    (hout : ∀ x ∈ c.exceptionTable.toList, covers x (pc + 9) = false)
    (hRframes : names.length + 3 < R.frames) (hRlocals : (rest.map fun v => v.category).sum + (13 * (names.length + 1) + 43) ≤ R.locals) (hRcells : cells + 1 ≤ R.cells) (hRslots : slots + 6 ≤ R.slots) (hlocks : meth.locks = false)
    (hx : ∀ t : State, s.vm.Alike t.vm → H.size ≤ t.heap.size → (∀ q : Nat, q < H.size → t.heap[q]? = H[q]?) → XC cls s t)
    (hf : ∀ z ∈ locs, free z.base) (hc : cells + 1 ≤ mc) (hs : slots + 6 ≤ ms) :
    W p l e R s m args below meth c H locs cells slots (vx_MQ below Qc XC args s mc ms free) (F0 m pc ls rest) := by
  intro T hT X
  have htr : e.platform.stackTraces = false := (show e.platform.stackTraces = l.stackTraces by rw [X.admits.platform]).trans hl
  have Y := vx_rebase X (R' := { frames := R.frames, locals := R.locals, cells := 1, slots := 6 }) (Nat.le_refl _) (Nat.le_refl _) hRcells hRslots
  obtain ⟨s', hA⟩ : ∃ z, z = (T.setVm s.vm).setFrames (.invoking m args :: below) := ⟨_, rfl⟩
  rw [← hA] at Y
  have hvm : s'.vm = s.vm := by rw [hA]; rfl
  have hhp : s'.heap = H := by rw [hA]; exact hT
  have hW0 : s.WarmedH s'.vm := by rw [hvm]; exact State.WarmedH.refl s
  have hat' : ∀ w ∈ vx_atS own ic cls names, w.before args s' = true := fun w hw => vx_ot_at hW0 hvm.symm (hgood w (List.mem_cons_of_mem _ (List.mem_cons_of_mem _ hw))) (hat w hw)
  have hk' : (Cond.classLink own ik cls).before args s' = true := vx_ot_at hW0 hvm.symm (hgood _ List.mem_cons_self) hk
  have hini' : (Cond.initialized cls).before args s' = true := vx_ot_at hW0 hvm.symm (hgood _ (List.mem_cons_of_mem _ List.mem_cons_self)) hini
  have hU' : vx_Zq Bundle.tN "UNASSIGNED_STACK" Bundle.steD A s' s'.heap := by rw [hhp]; exact vx_Zq.moved hW0.alike (hU.kept hS.2.1)
  have hN' : vx_Zq Bundle.tN "SUPPRESSED_SENTINEL" Bundle.listD A s' s'.heap := by rw [hhp]; exact vx_Zq.moved hW0.alike (hN.kept hS.2.1)
  have h : ∀ w ∈ Bundle.ownAtoms own ic cls names, w.before args s' = true := vx_own hat' (vx_isRefq hU'.1) (vx_isRefq hN'.1) hU'.2.word hN'.2.word
  have hown' : s'.vm.findClass own = some m.cls := by rw [hvm]; exact hown
  have hins : (Cond.instantiable cls 6).before args s' = true := h _ (by simp [Bundle.ownAtoms])
  obtain ⟨vm₁, cX, kX, hfX, hkX, -, -, X₁, st1⟩ := Y.newCold hexec (own := own) (C := cls) (index := ik) (n := 6) hown' hk' hins hini'
    (g := F0 m pc ls rest) rfl (by rw [hb]; exact d0) (Nat.le_refl _) (Nat.le_refl _)
  generalize hT1 : (T.setVm vm₁).pushCell { cls := cX, slots := kX.instanceTypes.map defaultValue, vm := .none } = T1 at X₁ st1
  have hcat : (Value.ref T.heap.size).category = 1 := rfl
  have hcellA : T1.heap[T.heap.size]? = some (freshCell cX kX) := by rw [← hT1]; exact State.heap_pushCell_size _ _
  have d3' : decode c.code (pc + 3) = .ok (.dup, 1) := by rw [hb]; exact d3
  have d4' : decode c.code (pc + 4) = .ok (.ldc is, 2) := by rw [hb]; exact d4
  have hstr' : vk_R own is text sa s' := vk_R.warm hW0 hstr
  obtain ⟨U, hsteps, hrun, hend, hW, hsame, ce, hce, hO⟩ := X₁.ctorThrowS hexec htr (own := own) (cls := cls) (names := names) (ic := ic) hown' hcls hnames h (fun x hx => nomatch hx) hfX hkX hcellA (by rw [hhp, hT]; exact Nat.le_refl _) (msg := .ref sa) rfl
    (g := { method := m, pc := pc + 6, locals := ls, stack := .ref sa :: .ref T.heap.size :: .ref T.heap.size :: rest, locked := none }) rfl hsize rfl rfl (rest := rest) rfl
    (by rw [hb]; exact d6) (by rw [hb]; exact d9) hout hRframes (by simp only [List.map_cons, List.sum_cons, hcat]; omega) hlocks
  obtain ⟨f1, f2⟩ := vx_frame hsame
  rw [hhp] at f1 f2
  have hWs : s.WarmedH U.vm := State.WarmedH.trans hW0 hW
  have hcl : s.vm.findClass cls = some ce.cls := by
    have h9 := hO.cls
    rw [hvm] at h9
    exact h9
  have hall : s.sameButNew ({ U with vm := s.vm } : State) locs mc ms := by
    subst hA
    obtain ⟨e1, e2⟩ := hsame
    rw [State.setFrames_setFrames] at e1
    have h2 : (T.setVm s.vm).sameButNew ({ U with vm := s.vm } : State) [] (0 + 1) (0 + 6) := ⟨e1, e2⟩
    have h3 := X.same.trans h2
    rw [List.append_nil] at h3
    exact h3.mono hc hs
  refine ⟨U, ?_, .threw T.heap.size, hrun, hend, Or.inr ⟨T.heap.size, rfl, cls, ce, locs, hx U hWs.alike f1 (fun q hq => f2 q hq (fun z hz => nomatch hz)), hce, hO.vm, hcl, hWs, hall, hf⟩⟩
  refine st1 _ ?_
  show Steps p.tables e below (T1.setTop { method := m, pc := pc + 3, locals := ls, stack := .ref T.heap.size :: rest, locked := none }) _
  jvm_step X₁.here [X₁.here.top, hexec, d3', Value.category]
  exact X₁.ldcString hexec (own := own) (text := text) (index := is) (a := sa) hown' hstr'.1 hstr'.2
    (g := { method := m, pc := pc + 4, locals := ls, stack := .ref T.heap.size :: .ref T.heap.size :: rest, locked := none }) rfl d4' _ hsteps
/-- 'throw new E("text")', the text by a wide index -/
theorem vx_throwSW {cc : ByteArray} {pc : Nat} (hexec : p.tables.exec = Jvm.exec) (hb : c.code = cc) (hl : l.stackTraces = false) {own cls text : String} {names : List String} {ik is ic mc ms sa : Nat} {A : Nat → Prop}
    (hown : s.vm.findClass own = some m.cls) (hcls : Bundle.fit cls = true) (hnames : ∀ n ∈ names, Bundle.fit n = true)
    (hk : (Cond.classLink own ik cls).before args s = true) (hini : (Cond.initialized cls).before args s = true) (hstr : vk_R own is text sa s) (hat : ∀ w ∈ vx_atS own ic cls names, w.before args s = true)
    (hgood : ∀ w ∈ Cond.classLink own ik cls :: Cond.initialized cls :: vx_atS own ic cls names, vx_ot w = true)
    (hU : vx_Zq Bundle.tN "UNASSIGNED_STACK" Bundle.steD A s s.heap) (hN : vx_Zq Bundle.tN "SUPPRESSED_SENTINEL" Bundle.listD A s s.heap) (hS : va_S A s.heap H locs) (hsize : ls.size = c.maxLocals)
    (d0 : decode cc pc = .ok (.new ik, 3)) (d3 : decode cc (pc + 3) = .ok (.dup, 1)) (d4 : decode cc (pc + 4) = .ok (.ldc_w is, 3)) (d7 : decode cc (pc + 7) = .ok (.invokespecial ic, 3)) (d10 : decode cc (pc + 10) = .ok (.athrow, 1))
    (hout : ∀ x ∈ c.exceptionTable.toList, covers x (pc + 10) = false)
    (hRframes : names.length + 3 < R.frames) (hRlocals : (rest.map fun v => v.category).sum + (13 * (names.length + 1) + 43) ≤ R.locals) (hRcells : cells + 1 ≤ R.cells) (hRslots : slots + 6 ≤ R.slots) (hlocks : meth.locks = false)
    (hx : ∀ t : State, s.vm.Alike t.vm → H.size ≤ t.heap.size → (∀ q : Nat, q < H.size → t.heap[q]? = H[q]?) → XC cls s t)
    (hf : ∀ z ∈ locs, free z.base) (hc : cells + 1 ≤ mc) (hs : slots + 6 ≤ ms) :
    W p l e R s m args below meth c H locs cells slots (vx_MQ below Qc XC args s mc ms free) (F0 m pc ls rest) := by
  intro T hT X
  have htr : e.platform.stackTraces = false := (show e.platform.stackTraces = l.stackTraces by rw [X.admits.platform]).trans hl
  have Y := vx_rebase X (R' := { frames := R.frames, locals := R.locals, cells := 1, slots := 6 }) (Nat.le_refl _) (Nat.le_refl _) hRcells hRslots
  obtain ⟨s', hA⟩ : ∃ z, z = (T.setVm s.vm).setFrames (.invoking m args :: below) := ⟨_, rfl⟩
  rw [← hA] at Y
  have hvm : s'.vm = s.vm := by rw [hA]; rfl
  have hhp : s'.heap = H := by rw [hA]; exact hT
  have hW0 : s.WarmedH s'.vm := by rw [hvm]; exact State.WarmedH.refl s
  have hat' : ∀ w ∈ vx_atS own ic cls names, w.before args s' = true := fun w hw => vx_ot_at hW0 hvm.symm (hgood w (List.mem_cons_of_mem _ (List.mem_cons_of_mem _ hw))) (hat w hw)
  have hk' : (Cond.classLink own ik cls).before args s' = true := vx_ot_at hW0 hvm.symm (hgood _ List.mem_cons_self) hk
  have hini' : (Cond.initialized cls).before args s' = true := vx_ot_at hW0 hvm.symm (hgood _ (List.mem_cons_of_mem _ List.mem_cons_self)) hini
  have hU' : vx_Zq Bundle.tN "UNASSIGNED_STACK" Bundle.steD A s' s'.heap := by rw [hhp]; exact vx_Zq.moved hW0.alike (hU.kept hS.2.1)
  have hN' : vx_Zq Bundle.tN "SUPPRESSED_SENTINEL" Bundle.listD A s' s'.heap := by rw [hhp]; exact vx_Zq.moved hW0.alike (hN.kept hS.2.1)
  have h : ∀ w ∈ Bundle.ownAtoms own ic cls names, w.before args s' = true := vx_own hat' (vx_isRefq hU'.1) (vx_isRefq hN'.1) hU'.2.word hN'.2.word
  have hown' : s'.vm.findClass own = some m.cls := by rw [hvm]; exact hown
  have hins : (Cond.instantiable cls 6).before args s' = true := h _ (by simp [Bundle.ownAtoms])
  obtain ⟨vm₁, cX, kX, hfX, hkX, -, -, X₁, st1⟩ := Y.newCold hexec (own := own) (C := cls) (index := ik) (n := 6) hown' hk' hins hini'
    (g := F0 m pc ls rest) rfl (by rw [hb]; exact d0) (Nat.le_refl _) (Nat.le_refl _)
  generalize hT1 : (T.setVm vm₁).pushCell { cls := cX, slots := kX.instanceTypes.map defaultValue, vm := .none } = T1 at X₁ st1
  have hcat : (Value.ref T.heap.size).category = 1 := rfl
  have hcellA : T1.heap[T.heap.size]? = some (freshCell cX kX) := by rw [← hT1]; exact State.heap_pushCell_size _ _
  have d3' : decode c.code (pc + 3) = .ok (.dup, 1) := by rw [hb]; exact d3
  have d4' : decode c.code (pc + 4) = .ok (.ldc_w is, 3) := by rw [hb]; exact d4
  have hstr' : vk_R own is text sa s' := vk_R.warm hW0 hstr
  obtain ⟨U, hsteps, hrun, hend, hW, hsame, ce, hce, hO⟩ := X₁.ctorThrowS hexec htr (own := own) (cls := cls) (names := names) (ic := ic) hown' hcls hnames h (fun x hx => nomatch hx) hfX hkX hcellA (by rw [hhp, hT]; exact Nat.le_refl _) (msg := .ref sa) rfl
    (g := { method := m, pc := pc + 7, locals := ls, stack := .ref sa :: .ref T.heap.size :: .ref T.heap.size :: rest, locked := none }) rfl hsize rfl rfl (rest := rest) rfl
    (by rw [hb]; exact d7) (by rw [hb]; exact d10) hout hRframes (by simp only [List.map_cons, List.sum_cons, hcat]; omega) hlocks
  obtain ⟨f1, f2⟩ := vx_frame hsame
  rw [hhp] at f1 f2
  have hWs : s.WarmedH U.vm := State.WarmedH.trans hW0 hW
  have hcl : s.vm.findClass cls = some ce.cls := by
    have h9 := hO.cls
    rw [hvm] at h9
    exact h9
  have hall : s.sameButNew ({ U with vm := s.vm } : State) locs mc ms := by
    subst hA
    obtain ⟨e1, e2⟩ := hsame
    rw [State.setFrames_setFrames] at e1
    have h2 : (T.setVm s.vm).sameButNew ({ U with vm := s.vm } : State) [] (0 + 1) (0 + 6) := ⟨e1, e2⟩
    have h3 := X.same.trans h2
    rw [List.append_nil] at h3
    exact h3.mono hc hs
  refine ⟨U, ?_, .threw T.heap.size, hrun, hend, Or.inr ⟨T.heap.size, rfl, cls, ce, locs, hx U hWs.alike f1 (fun q hq => f2 q hq (fun z hz => nomatch hz)), hce, hO.vm, hcl, hWs, hall, hf⟩⟩
  refine st1 _ ?_
  show Steps p.tables e below (T1.setTop { method := m, pc := pc + 3, locals := ls, stack := .ref T.heap.size :: rest, locked := none }) _
  jvm_step X₁.here [X₁.here.top, hexec, d3', Value.category]
  exact X₁.ldcStringW hexec (own := own) (text := text) (index := is) (a := sa) hown' hstr'.1 hstr'.2
    (g := { method := m, pc := pc + 4, locals := ls, stack := .ref T.heap.size :: .ref T.heap.size :: rest, locked := none }) rfl d4' _ hsteps
end Ends
section Bodies
variable {l : Launch}
theorem vx_ofW {y : MethodName} {ws ws' : List Cond} {rm : Room} {Pc : Array Value → State → Prop} {Qc : Array Value → State → Outcome → State → Prop} {XC : String → State → State → Prop} {mc ms : Nat} {free : Addr → Prop} {cc : ByteArray} {maxL : Nat} {ret : Option FieldType}
    (hy : plainName y.cls = true) (hw : ws = Cond.code y cc maxL ret :: ws')
    (body : ∀ p e s m args below meth c s₁, BodyLoose p l y (headSpec ws rm) cc maxL ret e s m args below meth c s₁ → c.maxLocals = maxL → (∀ x ∈ c.exceptionTable.toList, False) → Pc args s →
      W p l e (headSpec ws rm).room s m args below meth c s.heap [] 0 0 (vx_MQ below Qc XC args s mc ms free) (entryFrame m args maxL)) : vx_Met l y ws rm Pc Qc XC mc ms free := by
  refine MetFree.of_bodyS (code := cc) (maxLocals := maxL) (ret := ret) hy ?_ ?_
  · intro args s m h hn
    obtain ⟨meth, c, h1, h2, h3, h4, h5, h6, -, -⟩ := Cond.code_spec hn (atoms_spec (ws := ws) h _ (by rw [hw]; exact List.mem_cons_self))
    exact ⟨meth, c, h1, h2, h3, h4, h5, h6⟩
  · intro p e s m args below meth c s₁ B hml hP _
    have hh0 : s₁.heap = s.heap := by rw [B.state]; rfl
    have ht : ∀ x ∈ c.exceptionTable.toList, False := by
      obtain ⟨meth9, c9, h1, h2, -, -, -, -, h7, -⟩ := Cond.code_spec B.named (atoms_spec (ws := ws) B.pre _ (by rw [hw]; exact List.mem_cons_self))
      cases Option.some.inj (h1.symm.trans B.method)
      cases Option.some.inj (h2.symm.trans (Stand.of_body B).code)
      intro x hx
      rw [Array.isEmpty_iff.mp h7] at hx
      cases hx
    obtain ⟨t, a1, o, b1, b2, b3⟩ := body p e s m args below meth c s₁ B hml ht hP s₁ hh0 (Stand.of_body B)
    exact ⟨t, o, a1, b1, b2, b3⟩
/-- the table of a body with handlers -/
theorem vx_table {p : Program} {x y : MethodName} {S : Spec} {cc bytes : ByteArray} {maxL maxL' : Nat} {ret ret' : Option FieldType} {e : Env} {s s₁ : State} {m : MethodId} {args : Array Value} {below : List Frame} {meth : Method} {c : Code} {hh : List (Nat × Nat × Nat × Nat)}
    (B : BodyLoose p l y S cc maxL ret e s m args below meth c s₁) (h : (Cond.codeWith y bytes maxL' ret' hh).before args s = true) : c.exceptionTable.toList = tableOf hh := by
  obtain ⟨m9, meth9, c9, hn9, h1, h2, -, -, h6, -⟩ := Cond.codeWith_spec h
  cases Option.some.inj (hn9.symm.trans B.named)
  cases Option.some.inj (h1.symm.trans B.method)
  cases Option.some.inj (h2.symm.trans (Stand.of_body B).code)
  rw [← h6, table_eq]
end Bodies
end VXA
/-! ===== END ===== -/
/-! ===== BEGIN a static call of a method with an exception table ===== -/
section VXS
variable {p : Program} {l : Launch} {e : Env} {R : Room} {s : State} {m : MethodId} {args : Array Value} {below : List Frame} {meth : Method} {c : Code} {T : State} {H : Heap} {locs : List Loc} {cells slots : Nat}
abbrev vx_CSW (R : Room) (s : State) (args : Array Value) (own : String) (index : Nat) (y : MethodName) (bytes : ByteArray) (maxL : Nat) (ret : Option FieldType) (hh : List (Nat × Nat × Nat × Nat)) (ws : List Cond) (rm : Room) (mc ms n : Nat) : Prop :=
  (rm.cells = mc ∧ rm.slots = ms ∧ rm.frames + 1 ≤ R.frames ∧ 8 + (maxL + 11) + rm.locals ≤ R.locals ∧ (∀ w ∈ ws, ∀ (a' : Array Value) (U : State), s.WarmedH U.vm → w.before a' U = true) ∧ Cond.codeWith y bytes maxL ret hh ∈ ws) ∧
  (Cond.codeWith y bytes maxL ret hh).before args s = true ∧ (Cond.initialized y.cls).before args s = true ∧ (y.cls ≠ "java/lang/invoke/MethodHandle" ∧ y.cls ≠ "java/lang/invoke/VarHandle") ∧
  (∀ sig, parseMethodDescriptor y.desc = some sig → n = sig.parameters.length) ∧ (Cond.methodLink own index y).before args s = true ∧ (Cond.static y).before args s = true
theorem vx_cwSW {own : String} {index maxL mc ms : Nat} {y : MethodName} {bytes : ByteArray} {ret : Option FieldType} {hh : List (Nat × Nat × Nat × Nat)} {Ts ws ws' : List Cond} {rm : Room} (n : Nat) (ht : ∀ w ∈ Ts, w.before args s = true) (hT : GoodIn Ts (va_wsS own index y ws)) (hw : ws = Cond.codeWith y bytes maxL ret hh :: ws') (hrc : rm.cells = mc) (hrs : rm.slots = ms)
    (hd : y.cls ≠ "java/lang/invoke/MethodHandle" ∧ y.cls ≠ "java/lang/invoke/VarHandle" ∧ (parseMethodDescriptor y.desc).map (fun d => d.parameters.length) = some n) (hR : rm.frames + 1 ≤ R.frames ∧ 8 + (maxL + 11) + rm.locals ≤ R.locals) :
    vx_CSW R s args own index y bytes maxL ret hh ws rm mc ms n := by
  have ok : ∀ w ∈ va_wsS own index y ws, w.before args s = true := fun w h => ht w (hT w h).1
  have hG : GoodIn Ts ws := fun w h => hT w (by unfold va_wsS; exact List.mem_append_right _ h)
  have hc : Cond.codeWith y bytes maxL ret hh ∈ ws := by rw [hw]; exact List.mem_cons_self
  refine ⟨⟨hrc, hrs, hR.1, hR.2, pay_in ht hG, hc⟩, ht _ (hG _ hc).1, ok _ (by simp [va_wsS]), ⟨hd.1, hd.2.1⟩, fun sig h => ?_, ok _ (by simp [va_wsS]), ok _ (by simp [va_wsS])⟩
  have h2 := hd.2.2
  rw [h] at h2
  exact (Option.some.inj h2).symm
theorem vx_callSW (X : Stand p l e R s m args below meth c T locs cells slots) (hexec : p.tables.exec = Jvm.exec) {own : String} {index : Nat} {y : MethodName} {bytes : ByteArray} {maxL : Nat} {ret : Option FieldType} {hh : List (Nat × Nat × Nat × Nat)}
    (hown : s.vm.findClass own = some m.cls) (hlink : (Cond.methodLink own index y).before args s = true) (hstat : (Cond.static y).before args s = true) (hinit : (Cond.initialized y.cls).before args s = true)
    (hcode : (Cond.codeWith y bytes maxL ret hh).before args s = true) (hy : y.cls ≠ "java/lang/invoke/MethodHandle" ∧ y.cls ≠ "java/lang/invoke/VarHandle")
    {W9 : Nat} {Pre : Pt → Array Value → Prop} {Post : Pt → Array Value → Option Value → Pt → Prop} (hK : Back l R p e below s args y 3 W9 Pre Post)
    {g : JFrame} (hg : g.method = m) (hsize : g.locals.size = c.maxLocals) {argsL rest : List Value} (hlen : ∀ sig, parseMethodDescriptor y.desc = some sig → argsL.length = sig.parameters.length)
    (hstack : g.stack = argsL.reverse ++ rest) (hW : 2 * g.monitorRoom + (rest.map fun v => v.category).sum ≤ W9) (hdg : decode c.code g.pc = .ok (.invokestatic index, 3))
    (hpre : ∀ vm₁, s.WarmedH vm₁ → Pre ⟨T.setVm vm₁, locs, cells, slots⟩ argsL.toArray) :
    ∃ (v : Option Value) (vm₁ : Vm) (B : Pt), s.WarmedH vm₁ ∧ Stand p l e R s m args below meth c B.U B.locs B.cells B.slots ∧ Post ⟨T.setVm vm₁, locs, cells, slots⟩ argsL.toArray v B ∧
      ∀ target, Steps p.tables e below (B.U.setTop { g with pc := g.pc + 3, stack := v.toList ++ rest }) target → Steps p.tables e below (T.setTop g) target := by
  obtain ⟨mk, methM, cM, hnamed, hmethM, -, -, -, -, -, -, hsigM⟩ := Cond.codeWith_spec hcode
  have hstatic : methM.isStatic = true := Cond.static_spec hnamed hmethM hstat
  obtain ⟨kP, hkP, -⟩ := className_of_methodNamed hnamed
  have hinitP : kP.init = .initialized := Cond.initialized_spec (findClass_of_methodNamed hnamed) hkP hinit
  obtain ⟨vm₁, X₁, hstep₁⟩ := X.invokestatic hexec hown hlink hnamed hmethM hstatic hkP hinitP hy (g := g) hg (argsL := argsL) (rest := rest) (hlen _ hsigM) hstack hdg
  obtain ⟨v, B, X', hpost, hsteps⟩ := hK m meth c ⟨T.setVm vm₁, locs, cells, slots⟩ { g with stack := rest } (.invokestatic index) mk argsL.toArray X₁ hg hsize hdg hW (X₁.named hnamed) (hpre vm₁ X₁.warmed)
  exact ⟨v, vm₁, B, X₁.warmed, X', hpost, fun target h => hstep₁ _ fun acts => by rw [doInvoke_state]; exact hsteps.trans h⟩
theorem vx_runSW {y : MethodName} {bytes cc : ByteArray} {maxL nL mc ms n index : Nat} {ret : Option FieldType} {hh : List (Nat × Nat × Nat × Nat)} {ws : List Cond} {rm : Room} {Pc : Array Value → State → Prop} {Qc : Array Value → State → Outcome → State → Prop} {free : Addr → Prop} {Ts : List Cond} {own : String} {As rest : List Value} {g : JFrame}
    (S : CallFix p m c cc nL s args Ts own) (hM : Met l y ws rm Pc Qc mc ms free) (cw : vx_CSW R s args own index y bytes maxL ret hh ws rm mc ms n) (hp : PreS s H Pc As)
    (hg : g.method = m) (hn : As.length = n) (hsize : g.locals.size = nL) (hstack : g.stack = As.reverse ++ rest) (hW : 2 * g.monitorRoom + (rest.map fun v => v.category).sum ≤ 8) (hdg : decode cc g.pc = .ok (.invokestatic index, 3)) (hf : cells + mc ≤ R.cells ∧ slots + ms ≤ R.slots) :
    va_Run p l e R s m args below meth c H locs cells slots mc ms g rest (Qc As.toArray) (free) := by
  obtain ⟨⟨hrc, hrs, hfr, hlo, hws, hcw⟩, hcode, hini, hy, hlen, hl, hstt⟩ := cw
  have hK : Back l R p e below s args y 3 8 (PreOf R mc ms Pc) (PostOf Qc mc ms free) := va_backW (hh := hh) (bytes := bytes) (maxL := maxL) (ret := ret) hM hp.1 hrc hrs hfr hlo hws hcw (fun a' U hW => word_at hW (Or.inl (by first | rfl | simp [Cond.onTables, Cond.keeps, Cond.steady])) hini)
  obtain ⟨hx, hb, hml, ho, -⟩ := S
  intro T hT X
  obtain ⟨v, vm₁, ⟨U', l2, c2, s2⟩, hW₁, X', ⟨g', mk, t, L, e1, e2, hq, h1, hL, h2, h3⟩, st⟩ := vx_callSW X hx (hh := hh) (bytes := bytes) (maxL := maxL) (ret := ret) ho hl hstt hini hcode hy hK hg (hsize.trans hml.symm) (argsL := As) (rest := rest) (fun sig h => hn.trans (hlen sig h)) hstack hW (by rw [hb]; exact hdg)
    (fun vm₁ hW₁ => ⟨hf.1, hf.2, hp.2 (T.setVm vm₁) hT hW₁⟩)
  dsimp only [Pt.U, Pt.locs, Pt.cells, Pt.slots] at X' e1 e2 h1 h2 h3 st
  subst h1; subst h2; subst h3
  exact ⟨v, (T.setVm vm₁).calling g' mk As.toArray, t, U', L, hT, X', hL, e1, e2, hq, st⟩
/-- not caught here, past rows that name other classes: it goes on to the caller -/
theorem vx_outP {p : Program} {l : Launch} {e : Env} {R : Room} {s : State} {m : MethodId} {args : Array Value} {below : List Frame} {meth : Method} {c : Code} {H : Heap} {locs : List Loc} {cells slots : Nat} {free : Addr → Prop} {ls : Array Slot} {rest : List Value} {Qc : Array Value → State → Outcome → State → Prop} {XC : String → State → State → Prop}
    {pc : Nat} {own E : String} {ce : Cell} {q : Addr} {mc ms : Nat} (hown : s.vm.findClass own = some m.cls) (hlocks : meth.locks = false)
    (hpass : ∀ z ∈ c.exceptionTable.toList, covers z pc = false ∨ (z.catchType ≠ 0 ∧ ∃ nm : String, (Cond.classLink own z.catchType nm).before args s = true ∧ va_Nc E nm s)) (hcell : H[q]? = some ce) (hv : ce.vm = .none) (hcl : s.vm.findClass E = some ce.cls)
    (hx : ∀ t : State, t.heap = H → s.vm.Alike t.vm → XC E s t) (hf : ∀ z ∈ locs, free z.base) (hc : cells ≤ mc) (hs : slots ≤ ms) :
    vx_W p l e R s m args below meth c H locs cells slots (vx_MQ below Qc XC args s mc ms free) (F0 m pc ls rest) q := by
  intro T hT X
  have hpl : e.platform.magicAccessors = ({} : Platform).magicAccessors := by rw [X.admits.platform]
  obtain ⟨vm', hW', X', st⟩ := X.outThrough hlocks q (g := F0 m pc ls rest) rfl rfl rfl (cell := ce) (by rw [hT]; exact hcell) (by rw [hv]; rfl)
    (by obtain ⟨k9, h9, -⟩ := Vm.findClass_spec hcl; exact ⟨k9, h9⟩) (fun z hz => by
      rcases hpass z hz with h | ⟨hz0, nm, hl1, hn1⟩
      · exact Or.inl h
      · obtain ⟨c6, hc6, hcl6⟩ := Cond.classLink_spec hown hl1 e.platform hpl
        obtain ⟨a8, b8, h1, h2, h3⟩ := hn1
        cases Option.some.inj (h1.symm.trans hcl)
        cases Option.some.inj (h2.symm.trans hc6)
        exact Or.inr ⟨hz0, _, hcl6, h3⟩)
  obtain ⟨g₀, hfr⟩ := X'.frames_eq
  have hcell9 : ((T.setVm vm').setFrames (.throwing q :: below)).heap[q]? = some ce := by
    show T.heap[q]? = some ce
    rw [hT]; exact hcell
  have hend : Ended ((T.setVm vm').setFrames (.throwing q :: below)) below (.threw q) := State.frames_setFrames _ (State.cur_lt_of_frames hfr)
  refine ⟨(T.setVm vm').setFrames (.throwing q :: below), ?_, .threw q, X'.here.running, hend, Or.inr ⟨q, rfl, E, ce, locs, hx _ hT (X'.ends _).1.alike, hcell9, hv, hcl, (X'.ends _).1, (X'.ends _).2.mono hc hs, hf⟩⟩
  rw [X.pushThrowing_eq]
  exact st
/-- a thing of a world lies in the heap -/
theorem vx_lt {D : va_G} {cl : List vw_C} {ws : va_W} {H1 : Heap} (h : va_P D cl ws H1) {k : Nat} {q : Nat × va_E} (hk : ws[k]? = some q) : q.1 < H1.size := (h k q hk).lt
end VXS
/-! ===== END ===== -/
/-! ===== BEGIN methods with a table of their own: called by a name, returning or throwing ===== -/
section VXH
/-! vx_backW, vx_callVX, vx_callSX, vx_callVW, vx_runVW, vx_runVX, vx_runSX, vx_ofWH follow the same proofs as their sisters above (Free/Laws.lean, Shelf42/LK1.lean); vx_outP calls Shelf42/NT130.lean (outThrough). -/
section
variable {l : Launch} {R : Room} {p : Program} {e : Env} {below : List Frame} {s : State} {sargs : Array Value} {y : MethodName} {len W9 : Nat}
theorem vx_backW {ws : List Cond} {rm : Room} {Pc : Array Value → State → Prop} {Qc : Array Value → State → Outcome → State → Prop} {XC : String → State → State → Prop} {mc ms : Nat} {free : Addr → Prop} {bytes : ByteArray} {maxL : Nat} {ret : Option FieldType} {hh : List (Nat × Nat × Nat × Nat)}
    (hM : vx_Met l y ws rm Pc Qc XC mc ms free) (hblind : FrameBlind Pc) (hrc : rm.cells = mc) (hrs : rm.slots = ms)
    (hframes : rm.frames + 1 ≤ R.frames) (hlocals : W9 + (maxL + 11) + rm.locals ≤ R.locals)
    (hws : ∀ w ∈ ws, ∀ a' U, s.WarmedH U.vm → w.before a' U = true) (hcode : Cond.codeWith y bytes maxL ret hh ∈ ws) (hinit : ∀ a' U, s.WarmedH U.vm → (Cond.initialized y.cls).before a' U = true) :
    vx_Back l R p e below s sargs y len W9 (PreOf R mc ms Pc) (PostOf Qc mc ms free) (vx_Post XC mc ms free) := by
  intro m meth c A g ig mk a X hg hsize hdg hW hn hp
  have h1 : (headSpec ws rm).pre.before a A.U = true := atoms_intro fun w hw => hws w hw _ _ X.warmed
  have h2 : (Cond.codeWith y bytes maxL ret hh).before a A.U = true := hws _ hcode _ _ X.warmed
  have h3 : (Cond.initialized y.cls).before a A.U = true := hinit _ _ X.warmed
  have h4 : A.cells + (headSpec ws rm).room.cells ≤ R.cells := by rw [show (headSpec ws rm).room.cells = mc from hrc]; exact hp.1
  have h5 : A.slots + (headSpec ws rm).room.slots ≤ R.slots := by rw [show (headSpec ws rm).room.slots = ms from hrs]; exact hp.2.1
  have hPc : Pc a (A.U.calling g mk a) := hblind _ _ _ _ hp.2.2
  obtain ⟨U, Ls, c0, s0⟩ := A
  dsimp only [Pt.U, Pt.locs, Pt.cells, Pt.slots] at h1 h2 h3 h4 h5 X hn hPc ⊢
  obtain ⟨m9, methY, cY, hn9, hmY, hcY, -, hlY, -⟩ := Cond.codeWith_spec h2
  cases Option.some.inj (hn9.symm.trans hn)
  obtain ⟨kY, hkY, -⟩ := className_of_methodNamed hn
  have hinitY : kY.init = .initialized := Cond.initialized_spec (findClass_of_methodNamed hn) hkY h3
  have h : At U g.method c below := by rw [hg]; exact X.here
  have hlocals9 : W9 + (maxL + 11) + (headSpec ws rm).room.locals ≤ R.locals := hlocals
  have happ : (headSpec ws rm).appliesLoose y e.platform (U.calling g mk a) = true :=
    Spec.appliesLoose_calling (g := g) h hdg hn hkY hinitY
      (X.room_calling (g := g) (R' := (headSpec ws rm).room) hsize hmY hcY hframes (by rw [hlY]; omega) h4 h5) h1
  obtain ⟨mid, hmid⟩ := h.above
  have hfr : (U.setTop g).frames = (.java g :: mid) ++ below := by rw [State.frames_setTop' g h.top, hmid]; rfl
  obtain ⟨o, s₂, hsteps, -, hend, hq⟩ := Steps.callFree hM p X.admits X.cas X.clock (acts := []) hfr happ hPc trivial
  have hq' : vx_Q Qc XC mc ms free a (U.calling g mk a) o s₂ := hq
  rw [State.frames_setTop' g h.top] at hend
  obtain ⟨g₀, hg0⟩ := Option.isSome_iff_exists.mp h.top
  obtain ⟨r, hr⟩ := State.topJava?_eq_some.mp hg0
  have hr' : (({ U with heap := s₂.heap, slotsUsed := s₂.slotsUsed } : State).setVm s₂.vm).frames = .java g₀ :: r := hr
  rcases hq' with ⟨hqc, L, hfe, hL⟩ | ⟨q, rfl, E, ce, L, hx, hce, hcv, hcl, hW₂, hsm, hL⟩
  · obtain ⟨⟨v, rfl⟩, hW₂, e2, q2, q3, q4, q5, q6⟩ := id hfe
    have e3 : s₂ = ({ (U.calling g mk a).setFrames s₂.frames with heap := s₂.heap, slotsUsed := s₂.slotsUsed } : State).setVm s₂.vm := by
      have : s₂ = ({ s₂ with vm := (U.calling g mk a).vm } : State).setVm s₂.vm := rfl
      rw [e2] at this
      exact this
    obtain ⟨c₂, i₂, len₂, hc₂, hd₂, hf₂⟩ := hend
    have hW' : U.WarmedH s₂.vm := hW₂
    have hcc : c₂ = c := by
      have h1 : s₂.code? g.method = U.code? g.method := by
        rw [State.code?_eq, State.code?_eq, hW'.alike.method?]
      exact Option.some.inj (hc₂.symm.trans (h1.trans h.code))
    subst hcc
    have hlen : len₂ = len := by rw [hdg] at hd₂; cases hd₂; rfl
    subst hlen
    have hs₂ : s₂ = (({ U with heap := s₂.heap, slotsUsed := s₂.slotsUsed } : State).setVm s₂.vm).setTop { g with pc := g.pc + len₂, stack := v.toList ++ g.stack } := by
      refine e3.trans ?_
      rw [hf₂, State.calling_eq h.top, State.setFrames_setFrames, State.setTop_of_frames _ hr', hr]
      rfl
    have hsame : U.sameButNew ({ U with heap := s₂.heap, slotsUsed := s₂.slotsUsed } : State) L mc ms := by
      refine ⟨?_, q2, q3, q4, q5, q6⟩
      obtain ⟨t, ht, -⟩ := State.frames_cons hr
      show ({ U with heap := s₂.heap, slotsUsed := s₂.slotsUsed } : State) = { U.setFrames U.frames with heap := s₂.heap, slotsUsed := s₂.slotsUsed }
      rw [State.setFrames_self ht]
    subst hg
    refine Or.inl ⟨v, ⟨(({ U with heap := s₂.heap, slotsUsed := s₂.slotsUsed } : State).setVm s₂.vm), Ls ++ L, c0 + mc, s0 + ms⟩,
      ⟨X.admits, X.cas, X.clock, X.frames, X.room, X.hears, X.method, X.code, (X.here.setHeapUsed s₂.heap s₂.slotsUsed).setVm hW'.alike, X.tail, State.WarmedH.trans X.warmed hW', X.limits, X.bytes, X.same.trans (hsame.setVm s.vm)⟩,
      ⟨g, mk, s₂, L, rfl, rfl, hqc, rfl, hL, rfl, rfl⟩, ?_⟩
    show Steps p.tables e below _ ((({ U with heap := s₂.heap, slotsUsed := s₂.slotsUsed } : State).setVm s₂.vm).setTop { g with pc := g.pc + len₂, stack := v.toList ++ g.stack })
    rw [← hs₂]
    exact hsteps
  · obtain ⟨e2, q2, q3, q4, q5, q6⟩ := id hsm
    have e3 : s₂ = ({ (U.calling g mk a).setFrames s₂.frames with heap := s₂.heap, slotsUsed := s₂.slotsUsed } : State).setVm s₂.vm := by
      have : s₂ = ({ s₂ with vm := (U.calling g mk a).vm } : State).setVm s₂.vm := rfl
      rw [e2] at this
      exact this
    have hf₂ : s₂.frames = .throwing q :: .java g :: U.frames.tail := hend
    have hW' : U.WarmedH s₂.vm := hW₂
    have hs₂ : s₂ = ((({ U with heap := s₂.heap, slotsUsed := s₂.slotsUsed } : State).setVm s₂.vm).setTop g).pushFrame (.throwing q) := by
      refine e3.trans ?_
      rw [hf₂, State.calling_eq h.top, State.setFrames_setFrames, State.pushFrame, State.frames_setTop _ hr', State.setTop_of_frames _ hr', State.setFrames_setFrames, hr]
      rfl
    have hsame : U.sameButNew ({ U with heap := s₂.heap, slotsUsed := s₂.slotsUsed } : State) L mc ms := by
      refine ⟨?_, q2, q3, q4, q5, q6⟩
      obtain ⟨t, ht, -⟩ := State.frames_cons hr
      show ({ U with heap := s₂.heap, slotsUsed := s₂.slotsUsed } : State) = { U.setFrames U.frames with heap := s₂.heap, slotsUsed := s₂.slotsUsed }
      rw [State.setFrames_self ht]
    subst hg
    refine Or.inr ⟨q, ⟨(({ U with heap := s₂.heap, slotsUsed := s₂.slotsUsed } : State).setVm s₂.vm), Ls ++ L, c0 + mc, s0 + ms⟩,
      ⟨X.admits, X.cas, X.clock, X.frames, X.room, X.hears, X.method, X.code, (X.here.setHeapUsed s₂.heap s₂.slotsUsed).setVm hW'.alike, X.tail, State.WarmedH.trans X.warmed hW', X.limits, X.bytes, X.same.trans (hsame.setVm s.vm)⟩,
      ⟨g, mk, s₂, L, E, ce, rfl, rfl, hx, hce, hcv, hcl, rfl, hL, rfl, rfl⟩, ?_⟩
    show Steps p.tables e below _ (((({ U with heap := s₂.heap, slotsUsed := s₂.slotsUsed } : State).setVm s₂.vm).setTop g).pushFrame (.throwing q))
    rw [← hs₂]
    exact hsteps
end
variable {p : Program} {l : Launch} {e : Env} {R : Room} {s : State} {m : MethodId} {args : Array Value} {below : List Frame} {meth : Method} {c : Code} {T : State} {H : Heap} {locs : List Loc} {cells slots : Nat}
theorem vx_callVX (X : Stand p l e R s m args below meth c T locs cells slots) (hexec : p.tables.exec = Jvm.exec) {own C : String} {index : Nat} {y : MethodName} {bytes : ByteArray} {maxL : Nat} {ret : Option FieldType} {hh : List (Nat × Nat × Nat × Nat)}
    (hown : s.vm.findClass own = some m.cls) (hlink : (Cond.methodLink own index y).before args s = true) (hinst : (Cond.instanceMethod y).before args s = true) (hsel : (Cond.selects C y y).before args s = true)
    (hcode : (Cond.codeWith y bytes maxL ret hh).before args s = true) (hy : y.cls ≠ "java/lang/invoke/MethodHandle" ∧ y.cls ≠ "java/lang/invoke/VarHandle")
    {W9 : Nat} {Pre : Pt → Array Value → Prop} {Post : Pt → Array Value → Option Value → Pt → Prop} {PostX : Pt → Array Value → Addr → Pt → Prop} (hK : vx_Back l R p e below s args y 3 W9 Pre Post PostX)
    {b : Addr} {cellB : Cell} (hcell : T.heap[b]? = some cellB) (hobj : cellB.vm.isStatics = false) (hcls : s.vm.findClass C = some cellB.cls)
    {g : JFrame} (hg : g.method = m) (hsize : g.locals.size = c.maxLocals) {argsL rest : List Value} (hlen : ∀ sig, parseMethodDescriptor y.desc = some sig → argsL.length = sig.parameters.length)
    (hstack : g.stack = argsL.reverse ++ .ref b :: rest) (hW : 2 * g.monitorRoom + (rest.map fun v => v.category).sum ≤ W9) (hdg : decode c.code g.pc = .ok (.invokevirtual index, 3))
    (hpre : ∀ vm₁, s.WarmedH vm₁ → Pre ⟨T.setVm vm₁, locs, cells, slots⟩ (Value.ref b :: argsL).toArray) :
    (∃ (v : Option Value) (vm₁ : Vm) (B : Pt), s.WarmedH vm₁ ∧ Stand p l e R s m args below meth c B.U B.locs B.cells B.slots ∧ Post ⟨T.setVm vm₁, locs, cells, slots⟩ (Value.ref b :: argsL).toArray v B ∧
      ∀ target, Steps p.tables e below (B.U.setTop { g with pc := g.pc + 3, stack := v.toList ++ rest }) target → Steps p.tables e below (T.setTop g) target) ∨
    (∃ (q : Addr) (vm₁ : Vm) (B : Pt), s.WarmedH vm₁ ∧ Stand p l e R s m args below meth c B.U B.locs B.cells B.slots ∧ PostX ⟨T.setVm vm₁, locs, cells, slots⟩ (Value.ref b :: argsL).toArray q B ∧
      Steps p.tables e below (T.setTop g) ((B.U.setTop { g with stack := rest }).pushFrame (.throwing q))) := by
  obtain ⟨mk, methM, hnamed, hmethM, hstM, habM⟩ := Cond.instanceMethod_spec hinst
  obtain ⟨m8, methM', cM, hn8, hmethM', -, -, -, -, -, -, hsigM⟩ := Cond.codeWith_spec hcode
  cases Option.some.inj (hn8.symm.trans hnamed)
  cases hmethM.symm.trans hmethM'
  obtain ⟨c2, r2, m2, q1, q2, q3, q4, kP, hkP, hkPi⟩ := Cond.selects_spec hsel
  cases hcls.symm.trans q1
  cases (State.methodFound?_of_named hnamed hy).symm.trans q2
  cases hnamed.symm.trans q3
  have hselP : selectMethod e.platform s.vm cellB.cls mk = .method mk := by rw [Launch.admits_selectMethod X.admits]; exact q4
  obtain ⟨vm₁, X₁, hstep₁⟩ := X.invokevirtual hexec hown hlink hnamed hmethM hstM hkP hkPi hy (a := b) (cell := cellB) hcell
    (fun z h => by rw [h] at hobj; cases hobj) hselP hmethM habM hkP hkPi (g := g) hg (argsL := argsL) (rest := rest) (hlen _ hsigM) hstack hdg
  rcases hK m meth c ⟨T.setVm vm₁, locs, cells, slots⟩ { g with stack := rest } (.invokevirtual index) mk (Value.ref b :: argsL).toArray X₁ hg hsize hdg hW (X₁.named hnamed) (hpre vm₁ X₁.warmed) with ⟨v, B, X', hpost, hsteps⟩ | ⟨q, B, X', hpost, hsteps⟩
  · exact Or.inl ⟨v, vm₁, B, X₁.warmed, X', hpost, fun target h => hstep₁ _ fun acts => by rw [doInvoke_state]; exact hsteps.trans h⟩
  · exact Or.inr ⟨q, vm₁, B, X₁.warmed, X', hpost, hstep₁ _ fun acts => by rw [doInvoke_state]; exact hsteps⟩
theorem vx_callSX (X : Stand p l e R s m args below meth c T locs cells slots) (hexec : p.tables.exec = Jvm.exec) {own : String} {index : Nat} {y : MethodName} {bytes : ByteArray} {maxL : Nat} {ret : Option FieldType} {hh : List (Nat × Nat × Nat × Nat)}
    (hown : s.vm.findClass own = some m.cls) (hlink : (Cond.methodLink own index y).before args s = true) (hstat : (Cond.static y).before args s = true) (hinit : (Cond.initialized y.cls).before args s = true)
    (hcode : (Cond.codeWith y bytes maxL ret hh).before args s = true) (hy : y.cls ≠ "java/lang/invoke/MethodHandle" ∧ y.cls ≠ "java/lang/invoke/VarHandle")
    {W9 : Nat} {Pre : Pt → Array Value → Prop} {Post : Pt → Array Value → Option Value → Pt → Prop} {PostX : Pt → Array Value → Addr → Pt → Prop} (hK : vx_Back l R p e below s args y 3 W9 Pre Post PostX)
    {g : JFrame} (hg : g.method = m) (hsize : g.locals.size = c.maxLocals) {argsL rest : List Value} (hlen : ∀ sig, parseMethodDescriptor y.desc = some sig → argsL.length = sig.parameters.length)
    (hstack : g.stack = argsL.reverse ++ rest) (hW : 2 * g.monitorRoom + (rest.map fun v => v.category).sum ≤ W9) (hdg : decode c.code g.pc = .ok (.invokestatic index, 3))
    (hpre : ∀ vm₁, s.WarmedH vm₁ → Pre ⟨T.setVm vm₁, locs, cells, slots⟩ argsL.toArray) :
    (∃ (v : Option Value) (vm₁ : Vm) (B : Pt), s.WarmedH vm₁ ∧ Stand p l e R s m args below meth c B.U B.locs B.cells B.slots ∧ Post ⟨T.setVm vm₁, locs, cells, slots⟩ argsL.toArray v B ∧
      ∀ target, Steps p.tables e below (B.U.setTop { g with pc := g.pc + 3, stack := v.toList ++ rest }) target → Steps p.tables e below (T.setTop g) target) ∨
    (∃ (q : Addr) (vm₁ : Vm) (B : Pt), s.WarmedH vm₁ ∧ Stand p l e R s m args below meth c B.U B.locs B.cells B.slots ∧ PostX ⟨T.setVm vm₁, locs, cells, slots⟩ argsL.toArray q B ∧
      Steps p.tables e below (T.setTop g) ((B.U.setTop { g with stack := rest }).pushFrame (.throwing q))) := by
  obtain ⟨mk, methM, cM, hnamed, hmethM, -, -, -, -, -, -, hsigM⟩ := Cond.codeWith_spec hcode
  have hstatic : methM.isStatic = true := Cond.static_spec hnamed hmethM hstat
  obtain ⟨kP, hkP, -⟩ := className_of_methodNamed hnamed
  have hinitP : kP.init = .initialized := Cond.initialized_spec (findClass_of_methodNamed hnamed) hkP hinit
  obtain ⟨vm₁, X₁, hstep₁⟩ := X.invokestatic hexec hown hlink hnamed hmethM hstatic hkP hinitP hy (g := g) hg (argsL := argsL) (rest := rest) (hlen _ hsigM) hstack hdg
  rcases hK m meth c ⟨T.setVm vm₁, locs, cells, slots⟩ { g with stack := rest } (.invokestatic index) mk argsL.toArray X₁ hg hsize hdg hW (X₁.named hnamed) (hpre vm₁ X₁.warmed) with ⟨v, B, X', hpost, hsteps⟩ | ⟨q, B, X', hpost, hsteps⟩
  · exact Or.inl ⟨v, vm₁, B, X₁.warmed, X', hpost, fun target h => hstep₁ _ fun acts => by rw [doInvoke_state]; exact hsteps.trans h⟩
  · exact Or.inr ⟨q, vm₁, B, X₁.warmed, X', hpost, hstep₁ _ fun acts => by rw [doInvoke_state]; exact hsteps⟩
theorem vx_callVW (X : Stand p l e R s m args below meth c T locs cells slots) (hexec : p.tables.exec = Jvm.exec) {own C : String} {index : Nat} {y : MethodName} {bytes : ByteArray} {maxL : Nat} {ret : Option FieldType} {hh : List (Nat × Nat × Nat × Nat)}
    (hown : s.vm.findClass own = some m.cls) (hlink : (Cond.methodLink own index y).before args s = true) (hinst : (Cond.instanceMethod y).before args s = true) (hsel : (Cond.selects C y y).before args s = true)
    (hcode : (Cond.codeWith y bytes maxL ret hh).before args s = true) (hy : y.cls ≠ "java/lang/invoke/MethodHandle" ∧ y.cls ≠ "java/lang/invoke/VarHandle")
    {W9 : Nat} {Pre : Pt → Array Value → Prop} {Post : Pt → Array Value → Option Value → Pt → Prop} (hK : Back l R p e below s args y 3 W9 Pre Post)
    {b : Addr} {cellB : Cell} (hcell : T.heap[b]? = some cellB) (hobj : cellB.vm.isStatics = false) (hcls : s.vm.findClass C = some cellB.cls)
    {g : JFrame} (hg : g.method = m) (hsize : g.locals.size = c.maxLocals) {argsL rest : List Value} (hlen : ∀ sig, parseMethodDescriptor y.desc = some sig → argsL.length = sig.parameters.length)
    (hstack : g.stack = argsL.reverse ++ .ref b :: rest) (hW : 2 * g.monitorRoom + (rest.map fun v => v.category).sum ≤ W9) (hdg : decode c.code g.pc = .ok (.invokevirtual index, 3))
    (hpre : ∀ vm₁, s.WarmedH vm₁ → Pre ⟨T.setVm vm₁, locs, cells, slots⟩ (Value.ref b :: argsL).toArray) :
    ∃ (v : Option Value) (vm₁ : Vm) (B : Pt), s.WarmedH vm₁ ∧ Stand p l e R s m args below meth c B.U B.locs B.cells B.slots ∧ Post ⟨T.setVm vm₁, locs, cells, slots⟩ (Value.ref b :: argsL).toArray v B ∧
      ∀ target, Steps p.tables e below (B.U.setTop { g with pc := g.pc + 3, stack := v.toList ++ rest }) target → Steps p.tables e below (T.setTop g) target := by
  obtain ⟨mk, methM, hnamed, hmethM, hstM, habM⟩ := Cond.instanceMethod_spec hinst
  obtain ⟨m8, methM', cM, hn8, hmethM', -, -, -, -, -, -, hsigM⟩ := Cond.codeWith_spec hcode
  cases Option.some.inj (hn8.symm.trans hnamed)
  cases hmethM.symm.trans hmethM'
  obtain ⟨c2, r2, m2, q1, q2, q3, q4, kP, hkP, hkPi⟩ := Cond.selects_spec hsel
  cases hcls.symm.trans q1
  cases (State.methodFound?_of_named hnamed hy).symm.trans q2
  cases hnamed.symm.trans q3
  have hselP : selectMethod e.platform s.vm cellB.cls mk = .method mk := by rw [Launch.admits_selectMethod X.admits]; exact q4
  obtain ⟨vm₁, X₁, hstep₁⟩ := X.invokevirtual hexec hown hlink hnamed hmethM hstM hkP hkPi hy (a := b) (cell := cellB) hcell
    (fun z h => by rw [h] at hobj; cases hobj) hselP hmethM habM hkP hkPi (g := g) hg (argsL := argsL) (rest := rest) (hlen _ hsigM) hstack hdg
  obtain ⟨v, B, X', hpost, hsteps⟩ := hK m meth c ⟨T.setVm vm₁, locs, cells, slots⟩ { g with stack := rest } (.invokevirtual index) mk (Value.ref b :: argsL).toArray X₁ hg hsize hdg hW (X₁.named hnamed) (hpre vm₁ X₁.warmed)
  exact ⟨v, vm₁, B, X₁.warmed, X', hpost, fun target h => hstep₁ _ fun acts => by rw [doInvoke_state]; exact hsteps.trans h⟩
abbrev vx_CVW (R : Room) (s : State) (args : Array Value) (own C : String) (index : Nat) (y : MethodName) (bytes : ByteArray) (maxL : Nat) (ret : Option FieldType) (hh : List (Nat × Nat × Nat × Nat)) (ws : List Cond) (rm : Room) (mc ms n : Nat) : Prop :=
  (rm.cells = mc ∧ rm.slots = ms ∧ rm.frames + 1 ≤ R.frames ∧ 8 + (maxL + 11) + rm.locals ≤ R.locals ∧ (∀ w ∈ ws, ∀ (a' : Array Value) (U : State), s.WarmedH U.vm → w.before a' U = true) ∧ Cond.codeWith y bytes maxL ret hh ∈ ws) ∧
  (Cond.codeWith y bytes maxL ret hh).before args s = true ∧ (Cond.initialized y.cls).before args s = true ∧ (y.cls ≠ "java/lang/invoke/MethodHandle" ∧ y.cls ≠ "java/lang/invoke/VarHandle") ∧
  (∀ sig, parseMethodDescriptor y.desc = some sig → n = sig.parameters.length) ∧ (Cond.methodLink own index y).before args s = true ∧ (Cond.instanceMethod y).before args s = true ∧ (Cond.selects C y y).before args s = true
theorem vx_cwVW {own C : String} {index maxL mc ms : Nat} {y : MethodName} {bytes : ByteArray} {ret : Option FieldType} {hh : List (Nat × Nat × Nat × Nat)} {Ts ws ws' : List Cond} {rm : Room} (n : Nat) (ht : ∀ w ∈ Ts, w.before args s = true) (hT : GoodIn Ts (wsV own index C y ws)) (hw : ws = Cond.codeWith y bytes maxL ret hh :: ws') (hrc : rm.cells = mc) (hrs : rm.slots = ms)
    (hd : y.cls = C ∧ y.cls ≠ "java/lang/invoke/MethodHandle" ∧ y.cls ≠ "java/lang/invoke/VarHandle" ∧ (parseMethodDescriptor y.desc).map (fun d => d.parameters.length) = some n) (hR : rm.frames + 1 ≤ R.frames ∧ 8 + (maxL + 11) + rm.locals ≤ R.locals) :
    vx_CVW R s args own C index y bytes maxL ret hh ws rm mc ms n := by
  obtain ⟨hC, hd⟩ := hd
  subst hC
  have ok : ∀ w ∈ wsV own index y.cls y ws, w.before args s = true := fun w h => ht w (hT w h).1
  have hG : GoodIn Ts ws := fun w h => hT w (by unfold wsV; exact List.mem_append_right _ h)
  have hc : Cond.codeWith y bytes maxL ret hh ∈ ws := by rw [hw]; exact List.mem_cons_self
  refine ⟨⟨hrc, hrs, hR.1, hR.2, pay_in ht hG, hc⟩, ht _ (hG _ hc).1, ok _ (by simp [wsV]), ⟨hd.1, hd.2.1⟩, fun sig h => ?_, ok _ (by simp [wsV]), ok _ (by simp [wsV]), ok _ (by simp [wsV])⟩
  have h2 := hd.2.2
  rw [h] at h2
  exact (Option.some.inj h2).symm
theorem vx_runVW {y : MethodName} {bytes cc : ByteArray} {maxL nL mc ms n index : Nat} {ret : Option FieldType} {hh : List (Nat × Nat × Nat × Nat)} {ws : List Cond} {rm : Room} {Pc : Array Value → State → Prop} {Qc : Array Value → State → Outcome → State → Prop} {free : Addr → Prop} {Ts : List Cond} {own C : String} {b : Addr} {As rest : List Value} {g : JFrame}
    (S : CallFix p m c cc nL s args Ts own) (hM : Met l y ws rm Pc Qc mc ms free) (cw : vx_CVW R s args own C index y bytes maxL ret hh ws rm mc ms n) (hp : PreV s H C b Pc As)
    (hg : g.method = m) (hn : As.length = n) (hsize : g.locals.size = nL) (hstack : g.stack = As.reverse ++ .ref b :: rest) (hW : 2 * g.monitorRoom + (rest.map fun v => v.category).sum ≤ 8) (hdg : decode cc g.pc = .ok (.invokevirtual index, 3)) (hf : cells + mc ≤ R.cells ∧ slots + ms ≤ R.slots) :
    va_Run p l e R s m args below meth c H locs cells slots mc ms g rest (Qc (Value.ref b :: As).toArray) free := by
  obtain ⟨⟨hrc, hrs, hfr, hlo, hws, hcw⟩, hcode, hini, hy, hlen, hl, hin, hse⟩ := cw
  have hK : Back l R p e below s args y 3 8 (PreOf R mc ms Pc) (PostOf Qc mc ms free) := va_backW (hh := hh) (bytes := bytes) (maxL := maxL) (ret := ret) hM hp.1 hrc hrs hfr hlo hws hcw (fun a' U hW => word_at hW (Or.inl (by first | rfl | simp [Cond.onTables, Cond.keeps, Cond.steady])) hini)
  obtain ⟨hx, hb, hml, ho, -⟩ := S
  obtain ⟨-, ⟨cellB, hcB, hoB, hclB⟩, hPc⟩ := hp
  intro T hT X
  obtain ⟨v, vm₁, ⟨U', l2, c2, s2⟩, hW₁, X', ⟨g', mk, t, L, e1, e2, hq, h1, hL, h2, h3⟩, st⟩ := vx_callVW X hx (C := C) (hh := hh) (bytes := bytes) (maxL := maxL) (ret := ret) ho hl hin hse hcode hy hK (by rw [hT]; exact hcB) hoB hclB hg (hsize.trans hml.symm) (argsL := As) (rest := rest) (fun sig h => hn.trans (hlen sig h)) hstack hW (by rw [hb]; exact hdg)
    (fun vm₁ hW₁ => ⟨hf.1, hf.2, hPc (T.setVm vm₁) hT hW₁⟩)
  dsimp only [Pt.U, Pt.locs, Pt.cells, Pt.slots] at X' e1 e2 h1 h2 h3 st
  subst h1; subst h2; subst h3
  exact ⟨v, (T.setVm vm₁).calling g' mk (Value.ref b :: As).toArray, t, U', L, hT, X', hL, e1, e2, hq, st⟩
section
variable {y : MethodName} {bytes cc : ByteArray} {maxL nL mc ms n index : Nat} {ret : Option FieldType} {ws : List Cond} {rm : Room} {Pc : Array Value → State → Prop} {Qc : Array Value → State → Outcome → State → Prop} {XC : String → State → State → Prop} {free : Addr → Prop} {Ts : List Cond} {own C : String} {b : Addr} {As rest : List Value} {g : JFrame}
theorem vx_runVX {hh : List (Nat × Nat × Nat × Nat)} (S : CallFix p m c cc nL s args Ts own) (hM : vx_Met l y ws rm Pc Qc XC mc ms free) (cw : vx_CVW R s args own C index y bytes maxL ret hh ws rm mc ms n) (hp : PreV s H C b Pc As)
    (hg : g.method = m) (hn : As.length = n) (hsize : g.locals.size = nL) (hstack : g.stack = As.reverse ++ .ref b :: rest) (hW : 2 * g.monitorRoom + (rest.map fun v => v.category).sum ≤ 8) (hdg : decode cc g.pc = .ok (.invokevirtual index, 3)) (hf : cells + mc ≤ R.cells ∧ slots + ms ≤ R.slots) :
    vx_Run p l e R s m args below meth c H locs cells slots mc ms g rest (Qc (Value.ref b :: As).toArray) XC free := by
  obtain ⟨⟨hrc, hrs, hfr, hlo, hws, hcw⟩, hcode, hini, hy, hlen, hl, hin, hse⟩ := cw
  have hK : vx_Back l R p e below s args y 3 8 (PreOf R mc ms Pc) (PostOf Qc mc ms free) (vx_Post XC mc ms free) := vx_backW (hh := hh) (bytes := bytes) (maxL := maxL) (ret := ret) hM hp.1 hrc hrs hfr hlo hws hcw (fun a' U hW => word_at hW (Or.inl (by first | rfl | simp [Cond.onTables, Cond.keeps, Cond.steady])) hini)
  obtain ⟨hx, hb, hml, ho, -⟩ := S
  obtain ⟨-, ⟨cellB, hcB, hoB, hclB⟩, hPc⟩ := hp
  intro T hT X
  rcases vx_callVX X hx (C := C) (hh := hh) (bytes := bytes) (maxL := maxL) (ret := ret) ho hl hin hse hcode hy hK (by rw [hT]; exact hcB) hoB hclB hg (hsize.trans hml.symm) (argsL := As) (rest := rest) (fun sig h => hn.trans (hlen sig h)) hstack hW (by rw [hb]; exact hdg)
    (fun vm₁ hW₁ => ⟨hf.1, hf.2, hPc (T.setVm vm₁) hT hW₁⟩) with ⟨v, vm₁, ⟨U', l2, c2, s2⟩, hW₁, X', ⟨g', mk, t, L, e1, e2, hq, h1, hL, h2, h3⟩, st⟩ | ⟨q, vm₁, ⟨U', l2, c2, s2⟩, hW₁, X', ⟨g', mk, t, L, E, ce, e1, e2, hq, hce, hcv, hcl, h1, hL, h2, h3⟩, st⟩
  · dsimp only [Pt.U, Pt.locs, Pt.cells, Pt.slots] at X' e1 e2 h1 h2 h3 st
    subst h1; subst h2; subst h3
    exact Or.inl ⟨v, (T.setVm vm₁).calling g' mk (Value.ref b :: As).toArray, t, U', L, hT, X', hL, e1, e2, hq, st⟩
  · dsimp only [Pt.U, Pt.locs, Pt.cells, Pt.slots] at X' e1 e2 h1 h2 h3 st hcl
    subst h1; subst h2; subst h3
    exact Or.inr ⟨q, (T.setVm vm₁).calling g' mk (Value.ref b :: As).toArray, t, U', L, E, ce, hT, X', hL, e1, e2, hq, hce, hcv, vx_cls hW₁ hcl, st⟩
theorem vx_runSX {hh : List (Nat × Nat × Nat × Nat)} (S : CallFix p m c cc nL s args Ts own) (hM : vx_Met l y ws rm Pc Qc XC mc ms free) (cw : vx_CSW R s args own index y bytes maxL ret hh ws rm mc ms n) (hp : PreS s H Pc As)
    (hg : g.method = m) (hn : As.length = n) (hsize : g.locals.size = nL) (hstack : g.stack = As.reverse ++ rest) (hW : 2 * g.monitorRoom + (rest.map fun v => v.category).sum ≤ 8) (hdg : decode cc g.pc = .ok (.invokestatic index, 3)) (hf : cells + mc ≤ R.cells ∧ slots + ms ≤ R.slots) :
    vx_Run p l e R s m args below meth c H locs cells slots mc ms g rest (Qc As.toArray) XC free := by
  obtain ⟨⟨hrc, hrs, hfr, hlo, hws, hcw⟩, hcode, hini, hy, hlen, hl, hstt⟩ := cw
  have hK : vx_Back l R p e below s args y 3 8 (PreOf R mc ms Pc) (PostOf Qc mc ms free) (vx_Post XC mc ms free) := vx_backW (hh := hh) (bytes := bytes) (maxL := maxL) (ret := ret) hM hp.1 hrc hrs hfr hlo hws hcw (fun a' U hW => word_at hW (Or.inl (by first | rfl | simp [Cond.onTables, Cond.keeps, Cond.steady])) hini)
  obtain ⟨hx, hb, hml, ho, -⟩ := S
  intro T hT X
  rcases vx_callSX X hx (hh := hh) (bytes := bytes) (maxL := maxL) (ret := ret) ho hl hstt hini hcode hy hK hg (hsize.trans hml.symm) (argsL := As) (rest := rest) (fun sig h => hn.trans (hlen sig h)) hstack hW (by rw [hb]; exact hdg)
    (fun vm₁ hW₁ => ⟨hf.1, hf.2, hp.2 (T.setVm vm₁) hT hW₁⟩) with ⟨v, vm₁, ⟨U', l2, c2, s2⟩, hW₁, X', ⟨g', mk, t, L, e1, e2, hq, h1, hL, h2, h3⟩, st⟩ | ⟨q, vm₁, ⟨U', l2, c2, s2⟩, hW₁, X', ⟨g', mk, t, L, E, ce, e1, e2, hq, hce, hcv, hcl, h1, hL, h2, h3⟩, st⟩
  · dsimp only [Pt.U, Pt.locs, Pt.cells, Pt.slots] at X' e1 e2 h1 h2 h3 st
    subst h1; subst h2; subst h3
    exact Or.inl ⟨v, (T.setVm vm₁).calling g' mk As.toArray, t, U', L, hT, X', hL, e1, e2, hq, st⟩
  · dsimp only [Pt.U, Pt.locs, Pt.cells, Pt.slots] at X' e1 e2 h1 h2 h3 st hcl
    subst h1; subst h2; subst h3
    exact Or.inr ⟨q, (T.setVm vm₁).calling g' mk As.toArray, t, U', L, E, ce, hT, X', hL, e1, e2, hq, hce, hcv, vx_cls hW₁ hcl, st⟩
end
end VXH
theorem vx_ofWH {l : Launch} {y : MethodName} {ws ws' : List Cond} {rm : Room} {Pc : Array Value → State → Prop} {Qc : Array Value → State → Outcome → State → Prop} {XC : String → State → State → Prop} {mc ms : Nat} {free : Addr → Prop} {cc : ByteArray} {maxL : Nat} {ret : Option FieldType} {hh : List (Nat × Nat × Nat × Nat)}
    (hy : plainName y.cls = true) (hw : ws = Cond.codeWith y cc maxL ret hh :: ws')
    (body : ∀ p e s m args below meth c s₁, BodyLoose p l y (headSpec ws rm) cc maxL ret e s m args below meth c s₁ → c.maxLocals = maxL → Pc args s →
      W p l e (headSpec ws rm).room s m args below meth c s.heap [] 0 0 (vx_MQ below Qc XC args s mc ms free) (entryFrame m args maxL)) : vx_Met l y ws rm Pc Qc XC mc ms free := by
  refine MetFree.of_bodyS (code := cc) (maxLocals := maxL) (ret := ret) hy ?_ ?_
  · intro args s m h hn
    obtain ⟨m9, meth, c, hn9, h1, h2, h3, h4, -, h5, h6, -⟩ := Cond.codeWith_spec (atoms_spec (ws := ws) h _ (by rw [hw]; exact List.mem_cons_self))
    cases hn.symm.trans hn9
    exact ⟨meth, c, h1, h2, h3, h4, h5, h6⟩
  · intro p e s m args below meth c s₁ B hml hP _
    have hh0 : s₁.heap = s.heap := by rw [B.state]; rfl
    obtain ⟨t, a1, o, b1, b2, b3⟩ := body p e s m args below meth c s₁ B hml hP s₁ hh0 (Stand.of_body B)
    exact ⟨t, o, a1, b1, b2, b3⟩
/-! ===== END ===== -/
end
section
/-! ===== BEGIN printed: names, fields, word lists, decode rows ===== -/
def RX0 : String := "NightSorters$Crew"
def TX0 : u_T := fun k => match k with
  | 0 => ("NightSorters$Crew", "size", "I", false)
  | 1 => ("NightSorters$Crew", "pace", "[I", true)
  | 2 => ("NightSorters$Crew", "towns", "[I", true)
  | 3 => ("NightSorters$Crew", "tired", "[I", true)
  | 4 => ("NightSorters$Crew", "withTea", "[I", true)
  | 5 => ("NightSorters$Crew", "held", "[I", true)
  | 6 => ("NightSorters$Crew", "minutesLeft", "[I", true)
  | _ => ("NightSorters$Crew", "sorted", "[I", true)
def tyX0 : Nat → FieldType := fun k => match k with
  | 0 => .int
  | 1 => .array .int
  | 2 => .array .int
  | 3 => .array .int
  | 4 => .array .int
  | 5 => .array .int
  | 6 => .array .int
  | _ => .array .int
abbrev wsX00 : List Cond := u_ws RX0 TX0 8
theorem nmX0 : ∀ a, a < 8 → ∀ b, b < 8 → a ≠ b → (TX0 a).2.1 ≠ (TX0 b).2.1 := by decide +kernel
theorem tyX0_ok : ∀ k, k < 8 → parseFieldDescriptor (TX0 k).2.2.1 = some (tyX0 k) := by decide +kernel
abbrev cX0_init : ByteArray := prog_2_method_1_code
def yX0_init : MethodName := ⟨RX0, "<init>", "()V"⟩
abbrev cX0_add : ByteArray := prog_2_method_2_code
def yX0_add : MethodName := ⟨RX0, "add", "(II)I"⟩
abbrev cX0_fact : ByteArray := prog_2_method_3_code
def yX0_fact : MethodName := ⟨RX0, "fact", "(II)I"⟩
abbrev cX0_minutesNeeded : ByteArray := prog_2_method_4_code
def yX0_minutesNeeded : MethodName := ⟨RX0, "minutesNeeded", "(I)I"⟩
abbrev cX0_takeUp : ByteArray := prog_2_method_5_code
def yX0_takeUp : MethodName := ⟨RX0, "takeUp", "(II)V"⟩
abbrev cX0_freeHands : ByteArray := prog_2_method_6_code
def yX0_freeHands : MethodName := ⟨RX0, "freeHands", "(I)V"⟩
abbrev cX0_spillTea : ByteArray := prog_2_method_7_code
def yX0_spillTea : MethodName := ⟨RX0, "spillTea", "()V"⟩
abbrev cX0_tireAll : ByteArray := prog_2_method_8_code
def yX0_tireAll : MethodName := ⟨RX0, "tireAll", "(I)V"⟩
abbrev cX0_copyFrom : ByteArray := prog_2_method_9_code
def yX0_copyFrom : MethodName := ⟨RX0, "copyFrom", "(LNightSorters$Crew;)V"⟩
def RX1 : String := "NightSorters$Line"
def TX1 : u_T := fun k => match k with
  | 0 => ("NightSorters$Line", "minutes", "[I", true)
  | _ => ("NightSorters$Line", "jolts", "[I", true)
def tyX1 : Nat → FieldType := fun k => match k with
  | 0 => .array .int
  | _ => .array .int
abbrev wsX10 : List Cond := u_ws RX1 TX1 2
theorem nmX1 : ∀ a, a < 2 → ∀ b, b < 2 → a ≠ b → (TX1 a).2.1 ≠ (TX1 b).2.1 := by decide +kernel
theorem tyX1_ok : ∀ k, k < 2 → parseFieldDescriptor (TX1 k).2.2.1 = some (tyX1 k) := by decide +kernel
abbrev cX1_init : ByteArray := prog_3_method_1_code
def yX1_init : MethodName := ⟨RX1, "<init>", "()V"⟩
abbrev cX1_wouldRise : ByteArray := prog_3_method_2_code
def yX1_wouldRise : MethodName := ⟨RX1, "wouldRise", "(II)Z"⟩
abbrev cX1_passedIn : ByteArray := prog_3_method_3_code
def yX1_passedIn : MethodName := ⟨RX1, "passedIn", "(I)I"⟩
abbrev cX1_nextFrom : ByteArray := prog_3_method_4_code
def yX1_nextFrom : MethodName := ⟨RX1, "nextFrom", "(I)I"⟩
def RX2 : String := "NightSorters$Mail"
def TX2 : u_T := fun k => match k with
  | 0 => ("NightSorters$Mail", "size", "I", false)
  | 1 => ("NightSorters$Mail", "town", "[I", true)
  | 2 => ("NightSorters$Mail", "postedAt", "[I", true)
  | 3 => ("NightSorters$Mail", "place", "[I", true)
  | 4 => ("NightSorters$Mail", "holder", "[I", true)
  | 5 => ("NightSorters$Mail", "endMinute", "[I", true)
  | 6 => ("NightSorters$Mail", "inPlace", "[I", true)
  | _ => ("NightSorters$Mail", "inHole", "[I", true)
def tyX2 : Nat → FieldType := fun k => match k with
  | 0 => .int
  | 1 => .array .int
  | 2 => .array .int
  | 3 => .array .int
  | 4 => .array .int
  | 5 => .array .int
  | 6 => .array .int
  | _ => .array .int
abbrev wsX20 : List Cond := u_ws RX2 TX2 8
theorem nmX2 : ∀ a, a < 8 → ∀ b, b < 8 → a ≠ b → (TX2 a).2.1 ≠ (TX2 b).2.1 := by decide +kernel
theorem tyX2_ok : ∀ k, k < 8 → parseFieldDescriptor (TX2 k).2.2.1 = some (tyX2 k) := by decide +kernel
abbrev cX2_init : ByteArray := prog_4_method_1_code
def yX2_init : MethodName := ⟨RX2, "<init>", "()V"⟩
abbrev cX2_addToBag : ByteArray := prog_4_method_2_code
def yX2_addToBag : MethodName := ⟨RX2, "addToBag", "(II)I"⟩
abbrev cX2_fact : ByteArray := prog_4_method_3_code
def yX2_fact : MethodName := ⟨RX2, "fact", "(II)I"⟩
abbrev cX2_move : ByteArray := prog_4_method_4_code
def yX2_move : MethodName := ⟨RX2, "move", "(II)V"⟩
abbrev cX2_moveToHands : ByteArray := prog_4_method_5_code
def yX2_moveToHands : MethodName := ⟨RX2, "moveToHands", "(II)V"⟩
abbrev cX2_end : ByteArray := prog_4_method_6_code
def yX2_end : MethodName := ⟨RX2, "end", "(III)V"⟩
abbrev cX2_firstOnTable : ByteArray := prog_4_method_7_code
def yX2_firstOnTable : MethodName := ⟨RX2, "firstOnTable", "(I)I"⟩
abbrev cX2_isInBag : ByteArray := prog_4_method_8_code
def yX2_isInBag : MethodName := ⟨RX2, "isInBag", "(II)Z"⟩
abbrev cX2_lettersInBag : ByteArray := prog_4_method_9_code
def yX2_lettersInBag : MethodName := ⟨RX2, "lettersInBag", "(I)I"⟩
abbrev cX2_fullestHole : ByteArray := prog_4_method_10_code
def yX2_fullestHole : MethodName := ⟨RX2, "fullestHole", "()I"⟩
abbrev cX2_spillHole : ByteArray := prog_4_method_11_code
def yX2_spillHole : MethodName := ⟨RX2, "spillHole", "(I)V"⟩
abbrev cX2_copyFrom : ByteArray := prog_4_method_12_code
def yX2_copyFrom : MethodName := ⟨RX2, "copyFrom", "(LNightSorters$Mail;)V"⟩
def RX3 : String := "NightSorters$Train"
def TX3 : u_T := fun k => match k with
  | 0 => ("NightSorters$Train", "line", "LNightSorters$Line;", true)
  | 1 => ("NightSorters$Train", "mail", "LNightSorters$Mail;", true)
  | 2 => ("NightSorters$Train", "crew", "LNightSorters$Crew;", true)
  | _ => ("NightSorters$Train", "minute", "I", false)
def tyX3 : Nat → FieldType := fun k => match k with
  | 0 => .object "NightSorters$Line"
  | 1 => .object "NightSorters$Mail"
  | 2 => .object "NightSorters$Crew"
  | _ => .int
abbrev wsX30 : List Cond := u_ws RX3 TX3 4
theorem nmX3 : ∀ a, a < 4 → ∀ b, b < 4 → a ≠ b → (TX3 a).2.1 ≠ (TX3 b).2.1 := by decide +kernel
theorem tyX3_ok : ∀ k, k < 4 → parseFieldDescriptor (TX3 k).2.2.1 = some (tyX3 k) := by decide +kernel
abbrev cX3_init : ByteArray := prog_5_method_1_code
def yX3_init : MethodName := ⟨RX3, "<init>", "(LNightSorters$Line;)V"⟩
abbrev cX3_copyFrom : ByteArray := prog_5_method_2_code
def yX3_copyFrom : MethodName := ⟨RX3, "copyFrom", "(LNightSorters$Train;)V"⟩
abbrev cX3_run : ByteArray := prog_5_method_3_code
def yX3_run : MethodName := ⟨RX3, "run", "(I)V"⟩
abbrev cX3_runMinute : ByteArray := prog_5_method_4_code
def yX3_runMinute : MethodName := ⟨RX3, "runMinute", "()V"⟩
abbrev cX3_takeLetter : ByteArray := prog_5_method_5_code
def yX3_takeLetter : MethodName := ⟨RX3, "takeLetter", "(I)V"⟩
abbrev cX3_workOn : ByteArray := prog_5_method_6_code
def yX3_workOn : MethodName := ⟨RX3, "workOn", "(I)V"⟩
abbrev cX3_putLetter : ByteArray := prog_5_method_7_code
def yX3_putLetter : MethodName := ⟨RX3, "putLetter", "(I)V"⟩
abbrev cX3_serve : ByteArray := prog_5_method_8_code
def yX3_serve : MethodName := ⟨RX3, "serve", "(I)V"⟩
abbrev cX3_hookIn : ByteArray := prog_5_method_9_code
def yX3_hookIn : MethodName := ⟨RX3, "hookIn", "(II)V"⟩
abbrev cX3_hookOut : ByteArray := prog_5_method_10_code
def yX3_hookOut : MethodName := ⟨RX3, "hookOut", "(I)V"⟩
abbrev cX3_shake : ByteArray := prog_5_method_11_code
def yX3_shake : MethodName := ⟨RX3, "shake", "(I)V"⟩
def RX4 : String := "NightSorters"
def TX4 : u_T := fun k => match k with
  | 0 => ("NightSorters", "train", "LNightSorters$Train;", true)
  | _ => ("NightSorters", "trial", "LNightSorters$Train;", true)
def tyX4 : Nat → FieldType := fun k => match k with
  | 0 => .object "NightSorters$Train"
  | _ => .object "NightSorters$Train"
abbrev wsX40 : List Cond := u_ws RX4 TX4 2
theorem nmX4 : ∀ a, a < 2 → ∀ b, b < 2 → a ≠ b → (TX4 a).2.1 ≠ (TX4 b).2.1 := by decide +kernel
theorem tyX4_ok : ∀ k, k < 2 → parseFieldDescriptor (TX4 k).2.2.1 = some (tyX4 k) := by decide +kernel
abbrev cX4_init : ByteArray := prog_1_method_1_code
def yX4_init : MethodName := ⟨RX4, "<init>", "()V"⟩
abbrev cX4_setStation : ByteArray := prog_1_method_2_code
def yX4_setStation : MethodName := ⟨RX4, "setStation", "(III)I"⟩
abbrev cX4_post : ByteArray := prog_1_method_3_code
def yX4_post : MethodName := ⟨RX4, "post", "(II)I"⟩
abbrev cX4_hire : ByteArray := prog_1_method_4_code
def yX4_hire : MethodName := ⟨RX4, "hire", "(II)I"⟩
abbrev cX4_assign : ByteArray := prog_1_method_5_code
def yX4_assign : MethodName := ⟨RX4, "assign", "(II)I"⟩
abbrev cX4_tea : ByteArray := prog_1_method_6_code
def yX4_tea : MethodName := ⟨RX4, "tea", "(I)I"⟩
abbrev cX4_letter : ByteArray := prog_1_method_7_code
def yX4_letter : MethodName := ⟨RX4, "letter", "(II)I"⟩
abbrev cX4_sorter : ByteArray := prog_1_method_8_code
def yX4_sorter : MethodName := ⟨RX4, "sorter", "(II)I"⟩
abbrev cX4_hole : ByteArray := prog_1_method_9_code
def yX4_hole : MethodName := ⟨RX4, "hole", "(I)I"⟩
abbrev cX4_station : ByteArray := prog_1_method_10_code
def yX4_station : MethodName := ⟨RX4, "station", "(II)I"⟩
abbrev cX4_count : ByteArray := prog_1_method_11_code
def yX4_count : MethodName := ⟨RX4, "count", "(I)I"⟩
abbrev cX4_pass : ByteArray := prog_1_method_12_code
def yX4_pass : MethodName := ⟨RX4, "pass", "(I)I"⟩
abbrev cX4_arrives : ByteArray := prog_1_method_13_code
def yX4_arrives : MethodName := ⟨RX4, "arrives", "(I)I"⟩
abbrev cX4_foresee : ByteArray := prog_1_method_14_code
def yX4_foresee : MethodName := ⟨RX4, "foresee", "(II)I"⟩
abbrev cX4_advise : ByteArray := prog_1_method_15_code
def yX4_advise : MethodName := ⟨RX4, "advise", "(II)I"⟩
abbrev cX4_share : ByteArray := prog_1_method_16_code
def yX4_share : MethodName := ⟨RX4, "share", "()D"⟩
abbrev cX4_digest : ByteArray := prog_1_method_17_code
def yX4_digest : MethodName := ⟨RX4, "digest", "()J"⟩
abbrev cX4_deliveredIfAssigned : ByteArray := prog_1_method_18_code
def yX4_deliveredIfAssigned : MethodName := ⟨RX4, "deliveredIfAssigned", "(III)I"⟩
abbrev cX4_checkIndex : ByteArray := prog_1_method_19_code
def yX4_checkIndex : MethodName := ⟨RX4, "checkIndex", "(II)V"⟩
abbrev cX4_checkArgument : ByteArray := prog_1_method_20_code
def yX4_checkArgument : MethodName := ⟨RX4, "checkArgument", "(III)V"⟩
abbrev cX4_hasTown : ByteArray := prog_1_method_21_code
def yX4_hasTown : MethodName := ⟨RX4, "hasTown", "(II)Z"⟩
abbrev cX4_stationOf : ByteArray := prog_1_method_22_code
def yX4_stationOf : MethodName := ⟨RX4, "stationOf", "(I)I"⟩
def RX5 : String := "NightSortersModel$State"
def TX5 : u_T := fun k => match k with
  | 0 => ("NightSortersModel$State", "minute", "I", false)
  | 1 => ("NightSortersModel$State", "where", "[I", true)
  | 2 => ("NightSortersModel$State", "who", "[I", true)
  | 3 => ("NightSortersModel$State", "when", "[I", true)
  | 4 => ("NightSortersModel$State", "towns", "[I", true)
  | 5 => ("NightSortersModel$State", "tired", "[I", true)
  | 6 => ("NightSortersModel$State", "tea", "[I", true)
  | 7 => ("NightSortersModel$State", "holds", "[I", true)
  | 8 => ("NightSortersModel$State", "left", "[I", true)
  | 9 => ("NightSortersModel$State", "sorted", "[I", true)
  | _ => ("NightSortersModel$State", "this$0", "LNightSortersModel;", true)
def tyX5 : Nat → FieldType := fun k => match k with
  | 0 => .int
  | 1 => .array .int
  | 2 => .array .int
  | 3 => .array .int
  | 4 => .array .int
  | 5 => .array .int
  | 6 => .array .int
  | 7 => .array .int
  | 8 => .array .int
  | 9 => .array .int
  | _ => .object "NightSortersModel"
abbrev wsX50 : List Cond := u_ws RX5 TX5 11
theorem nmX5 : ∀ a, a < 11 → ∀ b, b < 11 → a ≠ b → (TX5 a).2.1 ≠ (TX5 b).2.1 := by decide +kernel
theorem tyX5_ok : ∀ k, k < 11 → parseFieldDescriptor (TX5 k).2.2.1 = some (tyX5 k) := by decide +kernel
abbrev cX5_init : ByteArray := prog_8_method_1_code
def yX5_init : MethodName := ⟨RX5, "<init>", "(LNightSortersModel;)V"⟩
abbrev cX5_copy : ByteArray := prog_8_method_2_code
def yX5_copy : MethodName := ⟨RX5, "copy", "([I[I)V"⟩
abbrev cX5_become : ByteArray := prog_8_method_3_code
def yX5_become : MethodName := ⟨RX5, "become", "(LNightSortersModel$State;)V"⟩
abbrev cX5_are : ByteArray := prog_8_method_4_code
def yX5_are : MethodName := ⟨RX5, "are", "(I)I"⟩
abbrev cX5_inHole : ByteArray := prog_8_method_5_code
def yX5_inHole : MethodName := ⟨RX5, "inHole", "(I)I"⟩
abbrev cX5_firstFor : ByteArray := prog_8_method_6_code
def yX5_firstFor : MethodName := ⟨RX5, "firstFor", "(I)I"⟩
abbrev cX5_take : ByteArray := prog_8_method_7_code
def yX5_take : MethodName := ⟨RX5, "take", "(I)V"⟩
abbrev cX5_let : ByteArray := prog_8_method_8_code
def yX5_let : MethodName := ⟨RX5, "let", "(II)V"⟩
abbrev cX5_work : ByteArray := prog_8_method_9_code
def yX5_work : MethodName := ⟨RX5, "work", "(I)V"⟩
abbrev cX5_end : ByteArray := prog_8_method_10_code
def yX5_end : MethodName := ⟨RX5, "end", "(II)V"⟩
abbrev cX5_passStation : ByteArray := prog_8_method_11_code
def yX5_passStation : MethodName := ⟨RX5, "passStation", "(I)V"⟩
abbrev cX5_shake : ByteArray := prog_8_method_12_code
def yX5_shake : MethodName := ⟨RX5, "shake", "(I)V"⟩
abbrev cX5_pass : ByteArray := prog_8_method_13_code
def yX5_pass : MethodName := ⟨RX5, "pass", "()I"⟩
abbrev cX5_pass_ : ByteArray := prog_8_method_14_code
def yX5_pass_ : MethodName := ⟨RX5, "pass", "(I)I"⟩
def RX6 : String := "NightSortersModel"
def TX6 : u_T := fun k => match k with
  | 0 => ("NightSortersModel", "thrown", "I", false)
  | 1 => ("NightSortersModel", "passes", "[I", true)
  | 2 => ("NightSortersModel", "jolt", "[I", true)
  | 3 => ("NightSortersModel", "letters", "I", false)
  | 4 => ("NightSortersModel", "town", "[I", true)
  | 5 => ("NightSortersModel", "station", "[I", true)
  | 6 => ("NightSortersModel", "sorters", "I", false)
  | 7 => ("NightSortersModel", "pace", "[I", true)
  | 8 => ("NightSortersModel", "s", "LNightSortersModel$State;", true)
  | _ => ("NightSortersModel", "ahead", "LNightSortersModel$State;", true)
def tyX6 : Nat → FieldType := fun k => match k with
  | 0 => .int
  | 1 => .array .int
  | 2 => .array .int
  | 3 => .int
  | 4 => .array .int
  | 5 => .array .int
  | 6 => .int
  | 7 => .array .int
  | 8 => .object "NightSortersModel$State"
  | _ => .object "NightSortersModel$State"
abbrev wsX60 : List Cond := u_ws RX6 TX6 10
theorem nmX6 : ∀ a, a < 10 → ∀ b, b < 10 → a ≠ b → (TX6 a).2.1 ≠ (TX6 b).2.1 := by decide +kernel
theorem tyX6_ok : ∀ k, k < 10 → parseFieldDescriptor (TX6 k).2.2.1 = some (tyX6 k) := by decide +kernel
abbrev cX6_init : ByteArray := prog_7_method_1_code
def yX6_init : MethodName := ⟨RX6, "<init>", "()V"⟩
abbrev cX6_thrown : ByteArray := prog_7_method_2_code
def yX6_thrown : MethodName := ⟨RX6, "thrown", "()I"⟩
abbrev cX6_no : ByteArray := prog_7_method_3_code
def yX6_no : MethodName := ⟨RX6, "no", "(I)I"⟩
abbrev cX6_isIn : ByteArray := prog_7_method_4_code
def yX6_isIn : MethodName := ⟨RX6, "isIn", "(III)Z"⟩
abbrev cX6_isStation : ByteArray := prog_7_method_5_code
def yX6_isStation : MethodName := ⟨RX6, "isStation", "(I)Z"⟩
abbrev cX6_isTown : ByteArray := prog_7_method_6_code
def yX6_isTown : MethodName := ⟨RX6, "isTown", "(I)Z"⟩
abbrev cX6_isSet : ByteArray := prog_7_method_7_code
def yX6_isSet : MethodName := ⟨RX6, "isSet", "(I)Z"⟩
abbrev cX6_isLetter : ByteArray := prog_7_method_8_code
def yX6_isLetter : MethodName := ⟨RX6, "isLetter", "(I)Z"⟩
abbrev cX6_isSorter : ByteArray := prog_7_method_9_code
def yX6_isSorter : MethodName := ⟨RX6, "isSorter", "(I)Z"⟩
abbrev cX6_wouldRise : ByteArray := prog_7_method_10_code
def yX6_wouldRise : MethodName := ⟨RX6, "wouldRise", "(II)Z"⟩
abbrev cX6_setStation : ByteArray := prog_7_method_11_code
def yX6_setStation : MethodName := ⟨RX6, "setStation", "(III)I"⟩
abbrev cX6_post : ByteArray := prog_7_method_12_code
def yX6_post : MethodName := ⟨RX6, "post", "(II)I"⟩
abbrev cX6_hire : ByteArray := prog_7_method_13_code
def yX6_hire : MethodName := ⟨RX6, "hire", "(II)I"⟩
abbrev cX6_assign : ByteArray := prog_7_method_14_code
def yX6_assign : MethodName := ⟨RX6, "assign", "(II)I"⟩
abbrev cX6_tea : ByteArray := prog_7_method_15_code
def yX6_tea : MethodName := ⟨RX6, "tea", "(I)I"⟩
abbrev cX6_letterTold : ByteArray := prog_7_method_16_code
def yX6_letterTold : MethodName := ⟨RX6, "letterTold", "(II)I"⟩
abbrev cX6_letter : ByteArray := prog_7_method_17_code
def yX6_letter : MethodName := ⟨RX6, "letter", "(II)I"⟩
abbrev cX6_sorterTold : ByteArray := prog_7_method_18_code
def yX6_sorterTold : MethodName := ⟨RX6, "sorterTold", "(II)I"⟩
abbrev cX6_sorter : ByteArray := prog_7_method_19_code
def yX6_sorter : MethodName := ⟨RX6, "sorter", "(II)I"⟩
abbrev cX6_hole : ByteArray := prog_7_method_20_code
def yX6_hole : MethodName := ⟨RX6, "hole", "(I)I"⟩
abbrev cX6_stationTold : ByteArray := prog_7_method_21_code
def yX6_stationTold : MethodName := ⟨RX6, "stationTold", "(II)I"⟩
abbrev cX6_station : ByteArray := prog_7_method_22_code
def yX6_station : MethodName := ⟨RX6, "station", "(II)I"⟩
abbrev cX6_counted : ByteArray := prog_7_method_23_code
def yX6_counted : MethodName := ⟨RX6, "counted", "(I)I"⟩
abbrev cX6_count : ByteArray := prog_7_method_24_code
def yX6_count : MethodName := ⟨RX6, "count", "(I)I"⟩
abbrev cX6_pass : ByteArray := prog_7_method_25_code
def yX6_pass : MethodName := ⟨RX6, "pass", "(I)I"⟩
abbrev cX6_arrives : ByteArray := prog_7_method_26_code
def yX6_arrives : MethodName := ⟨RX6, "arrives", "(I)I"⟩
abbrev cX6_foresee : ByteArray := prog_7_method_27_code
def yX6_foresee : MethodName := ⟨RX6, "foresee", "(II)I"⟩
abbrev cX6_advise : ByteArray := prog_7_method_28_code
def yX6_advise : MethodName := ⟨RX6, "advise", "(II)I"⟩
abbrev cX6_share : ByteArray := prog_7_method_29_code
def yX6_share : MethodName := ⟨RX6, "share", "()D"⟩
abbrev cX6_digest : ByteArray := prog_7_method_30_code
def yX6_digest : MethodName := ⟨RX6, "digest", "()J"⟩
def RJ9 : String := "java/lang/Math"
def TJ9 : u_T := fun k => match k with
  | _ => ("", "", "", false)
def tyJ9 : Nat → FieldType := fun k => match k with
  | _ => .int
abbrev wsJ90 : List Cond := u_ws RJ9 TJ9 0
theorem nmJ9 : ∀ a, a < 0 → ∀ b, b < 0 → a ≠ b → (TJ9 a).2.1 ≠ (TJ9 b).2.1 := by decide +kernel
theorem tyJ9_ok : ∀ k, k < 0 → parseFieldDescriptor (TJ9 k).2.2.1 = some (tyJ9 k) := by decide +kernel
abbrev cJ9_max_7cf53 : ByteArray := prog_13_method_65_code
def yJ9_max_7cf53 : MethodName := ⟨RJ9, "max", "(II)I"⟩
def RJ0 : String := "java/lang/String"
def TJ0 : u_T := fun k => match k with
  | _ => ("", "", "", false)
def tyJ0 : Nat → FieldType := fun k => match k with
  | _ => .int
abbrev wsJ00 : List Cond := u_ws RJ0 TJ0 0
theorem nmJ0 : ∀ a, a < 0 → ∀ b, b < 0 → a ≠ b → (TJ0 a).2.1 ≠ (TJ0 b).2.1 := by decide +kernel
theorem tyJ0_ok : ∀ k, k < 0 → parseFieldDescriptor (TJ0 k).2.2.1 = some (tyJ0 k) := by decide +kernel
def RJ10 : String := "java/lang/System"
def TJ10 : u_T := fun k => match k with
  | _ => ("", "", "", false)
def tyJ10 : Nat → FieldType := fun k => match k with
  | _ => .int
abbrev wsJ100 : List Cond := u_ws RJ10 TJ10 0
theorem nmJ10 : ∀ a, a < 0 → ∀ b, b < 0 → a ≠ b → (TJ10 a).2.1 ≠ (TJ10 b).2.1 := by decide +kernel
theorem tyJ10_ok : ∀ k, k < 0 → parseFieldDescriptor (TJ10 k).2.2.1 = some (tyJ10 k) := by decide +kernel
def RL : String := "NightSortersLaw"
abbrev cL_setStation : ByteArray := method_3_code
def yL_setStation : MethodName := ⟨RL, "setStation", "(LNightSorters;III[J)I"⟩
abbrev cL_post : ByteArray := method_4_code
def yL_post : MethodName := ⟨RL, "post", "(LNightSorters;II[J)I"⟩
abbrev cL_hire : ByteArray := method_5_code
def yL_hire : MethodName := ⟨RL, "hire", "(LNightSorters;II[J)I"⟩
abbrev cL_assign : ByteArray := method_6_code
def yL_assign : MethodName := ⟨RL, "assign", "(LNightSorters;II[J)I"⟩
abbrev cL_tea : ByteArray := method_7_code
def yL_tea : MethodName := ⟨RL, "tea", "(LNightSorters;I[J)I"⟩
abbrev cL_letter : ByteArray := method_8_code
def yL_letter : MethodName := ⟨RL, "letter", "(LNightSorters;II[J)I"⟩
abbrev cL_sorter : ByteArray := method_9_code
def yL_sorter : MethodName := ⟨RL, "sorter", "(LNightSorters;II[J)I"⟩
abbrev cL_hole : ByteArray := method_10_code
def yL_hole : MethodName := ⟨RL, "hole", "(LNightSorters;I[J)I"⟩
abbrev cL_station : ByteArray := method_11_code
def yL_station : MethodName := ⟨RL, "station", "(LNightSorters;II[J)I"⟩
abbrev cL_count : ByteArray := method_12_code
def yL_count : MethodName := ⟨RL, "count", "(LNightSorters;I[J)I"⟩
abbrev cL_pass : ByteArray := method_13_code
def yL_pass : MethodName := ⟨RL, "pass", "(LNightSorters;I[J)I"⟩
abbrev cL_arrives : ByteArray := method_14_code
def yL_arrives : MethodName := ⟨RL, "arrives", "(LNightSorters;I[J)I"⟩
abbrev cL_foresee : ByteArray := method_15_code
def yL_foresee : MethodName := ⟨RL, "foresee", "(LNightSorters;II[J)I"⟩
abbrev cL_advise : ByteArray := method_16_code
def yL_advise : MethodName := ⟨RL, "advise", "(LNightSorters;II[J)I"⟩
abbrev cL_law : ByteArray := code
def yL_law : MethodName := ⟨RL, "law", "([I)Z"⟩
def wsX0_init : List Cond := .code yX0_init cX0_init 1 none :: ([.methodLink RX0 3 objectInit, .instanceMethod objectInit, .code objectInit ⟨#[0xb1]⟩ 1 none, .fieldLink RX0 9 "NightSorters$Crew" "size" "I", .arrayClass .int, .fieldLink RX0 15 "NightSorters$Crew" "pace" "[I", .fieldLink RX0 19 "NightSorters$Crew" "towns" "[I", .fieldLink RX0 22 "NightSorters$Crew" "tired" "[I", .fieldLink RX0 25 "NightSorters$Crew" "withTea" "[I", .fieldLink RX0 28 "NightSorters$Crew" "held" "[I", .fieldLink RX0 31 "NightSorters$Crew" "minutesLeft" "[I", .fieldLink RX0 34 "NightSorters$Crew" "sorted" "[I"] ++ wsX00)
def wsX0_add : List Cond := .code yX0_add cX0_add 4 (some .int) :: ([.fieldLink RX0 9 "NightSorters$Crew" "size" "I", .fieldLink RX0 15 "NightSorters$Crew" "pace" "[I", .fieldLink RX0 19 "NightSorters$Crew" "towns" "[I", .fieldLink RX0 28 "NightSorters$Crew" "held" "[I"] ++ wsX00)
def wsX0_fact : List Cond := .code yX0_fact cX0_fact 3 (some .int) :: ([.fieldLink RX0 15 "NightSorters$Crew" "pace" "[I", .fieldLink RX0 19 "NightSorters$Crew" "towns" "[I", .fieldLink RX0 22 "NightSorters$Crew" "tired" "[I", .fieldLink RX0 25 "NightSorters$Crew" "withTea" "[I", .fieldLink RX0 28 "NightSorters$Crew" "held" "[I", .fieldLink RX0 31 "NightSorters$Crew" "minutesLeft" "[I", .fieldLink RX0 34 "NightSorters$Crew" "sorted" "[I"] ++ wsX00)
def wsX0_minutesNeeded : List Cond := .code yX0_minutesNeeded cX0_minutesNeeded 3 (some .int) :: ([.fieldLink RX0 15 "NightSorters$Crew" "pace" "[I", .fieldLink RX0 22 "NightSorters$Crew" "tired" "[I", .fieldLink RX0 25 "NightSorters$Crew" "withTea" "[I"] ++ wsX00)
def wsX0_takeUp : List Cond := .code yX0_takeUp cX0_takeUp 3 none :: ([.fieldLink RX0 28 "NightSorters$Crew" "held" "[I", .fieldLink RX0 31 "NightSorters$Crew" "minutesLeft" "[I", .methodLink RX0 37 yX0_minutesNeeded, .instanceMethod yX0_minutesNeeded, .selects RX0 yX0_minutesNeeded yX0_minutesNeeded, .initialized RX0, .code yX0_minutesNeeded cX0_minutesNeeded 3 (some .int), .fieldLink RX0 15 "NightSorters$Crew" "pace" "[I", .fieldLink RX0 22 "NightSorters$Crew" "tired" "[I", .fieldLink RX0 25 "NightSorters$Crew" "withTea" "[I"] ++ wsX00)
def wsX0_freeHands : List Cond := .code yX0_freeHands cX0_freeHands 2 none :: ([.fieldLink RX0 28 "NightSorters$Crew" "held" "[I", .fieldLink RX0 31 "NightSorters$Crew" "minutesLeft" "[I"] ++ wsX00)
def wsX0_spillTea : List Cond := .code yX0_spillTea cX0_spillTea 2 none :: ([.fieldLink RX0 9 "NightSorters$Crew" "size" "I", .fieldLink RX0 25 "NightSorters$Crew" "withTea" "[I"] ++ wsX00)
def wsX0_tireAll : List Cond := .code yX0_tireAll cX0_tireAll 3 none :: ([.fieldLink RX0 9 "NightSorters$Crew" "size" "I", .fieldLink RX0 22 "NightSorters$Crew" "tired" "[I"] ++ wsX00)
def wsX0_copyFrom : List Cond := .code yX0_copyFrom cX0_copyFrom 2 none :: ([.fieldLink RX0 9 "NightSorters$Crew" "size" "I", .fieldLink RX0 15 "NightSorters$Crew" "pace" "[I", .methodLink RX0 41 arraycopyName, .native arraycopyName, .static arraycopyName, .initialized "java/lang/System", .fieldLink RX0 19 "NightSorters$Crew" "towns" "[I", .fieldLink RX0 22 "NightSorters$Crew" "tired" "[I", .fieldLink RX0 25 "NightSorters$Crew" "withTea" "[I", .fieldLink RX0 28 "NightSorters$Crew" "held" "[I", .fieldLink RX0 31 "NightSorters$Crew" "minutesLeft" "[I", .fieldLink RX0 34 "NightSorters$Crew" "sorted" "[I"] ++ wsX00)
def wsX1_init : List Cond := .code yX1_init cX1_init 2 none :: ([.methodLink RX1 3 objectInit, .instanceMethod objectInit, .code objectInit ⟨#[0xb1]⟩ 1 none, .arrayClass .int, .fieldLink RX1 9 "NightSorters$Line" "minutes" "[I", .fieldLink RX1 15 "NightSorters$Line" "jolts" "[I"] ++ wsX10)
def wsX1_wouldRise : List Cond := .code yX1_wouldRise cX1_wouldRise 5 (some .boolean) :: ([.fieldLink RX1 9 "NightSorters$Line" "minutes" "[I"] ++ wsX10)
def wsX1_passedIn : List Cond := .code yX1_passedIn cX1_passedIn 3 (some .int) :: ([.fieldLink RX1 9 "NightSorters$Line" "minutes" "[I"] ++ wsX10)
def wsX1_nextFrom : List Cond := .code yX1_nextFrom cX1_nextFrom 3 (some .int) :: ([.fieldLink RX1 9 "NightSorters$Line" "minutes" "[I"] ++ wsX10)
def wsX2_init : List Cond := .code yX2_init cX2_init 1 none :: ([.methodLink RX2 3 objectInit, .instanceMethod objectInit, .code objectInit ⟨#[0xb1]⟩ 1 none, .fieldLink RX2 9 "NightSorters$Mail" "size" "I", .arrayClass .int, .fieldLink RX2 15 "NightSorters$Mail" "town" "[I", .fieldLink RX2 19 "NightSorters$Mail" "postedAt" "[I", .fieldLink RX2 22 "NightSorters$Mail" "place" "[I", .fieldLink RX2 25 "NightSorters$Mail" "holder" "[I", .fieldLink RX2 28 "NightSorters$Mail" "endMinute" "[I", .fieldLink RX2 31 "NightSorters$Mail" "inPlace" "[I", .fieldLink RX2 34 "NightSorters$Mail" "inHole" "[I"] ++ wsX20)
def wsX2_addToBag : List Cond := .code yX2_addToBag cX2_addToBag 4 (some .int) :: ([.fieldLink RX2 9 "NightSorters$Mail" "size" "I", .fieldLink RX2 15 "NightSorters$Mail" "town" "[I", .fieldLink RX2 19 "NightSorters$Mail" "postedAt" "[I", .fieldLink RX2 22 "NightSorters$Mail" "place" "[I", .fieldLink RX2 25 "NightSorters$Mail" "holder" "[I", .fieldLink RX2 28 "NightSorters$Mail" "endMinute" "[I", .fieldLink RX2 31 "NightSorters$Mail" "inPlace" "[I"] ++ wsX20)
def wsX2_fact : List Cond := .code yX2_fact cX2_fact 3 (some .int) :: ([.fieldLink RX2 22 "NightSorters$Mail" "place" "[I", .fieldLink RX2 15 "NightSorters$Mail" "town" "[I", .fieldLink RX2 19 "NightSorters$Mail" "postedAt" "[I", .fieldLink RX2 25 "NightSorters$Mail" "holder" "[I", .fieldLink RX2 28 "NightSorters$Mail" "endMinute" "[I"] ++ wsX20)
def wsX2_move : List Cond := .code yX2_move cX2_move 4 none :: ([.fieldLink RX2 22 "NightSorters$Mail" "place" "[I", .fieldLink RX2 31 "NightSorters$Mail" "inPlace" "[I", .fieldLink RX2 34 "NightSorters$Mail" "inHole" "[I", .fieldLink RX2 15 "NightSorters$Mail" "town" "[I", .fieldLink RX2 25 "NightSorters$Mail" "holder" "[I"] ++ wsX20)
def wsX2_moveToHands : List Cond := .code yX2_moveToHands cX2_moveToHands 3 none :: ([.fieldLink RX2 25 "NightSorters$Mail" "holder" "[I", .methodLink RX2 37 yX2_move, .instanceMethod yX2_move, .selects RX2 yX2_move yX2_move, .initialized RX2, .code yX2_move cX2_move 4 none, .fieldLink RX2 22 "NightSorters$Mail" "place" "[I", .fieldLink RX2 31 "NightSorters$Mail" "inPlace" "[I", .fieldLink RX2 34 "NightSorters$Mail" "inHole" "[I", .fieldLink RX2 15 "NightSorters$Mail" "town" "[I"] ++ wsX20)
def wsX2_end : List Cond := .code yX2_end cX2_end 4 none :: ([.fieldLink RX2 28 "NightSorters$Mail" "endMinute" "[I", .methodLink RX2 37 yX2_move, .instanceMethod yX2_move, .selects RX2 yX2_move yX2_move, .initialized RX2, .code yX2_move cX2_move 4 none, .fieldLink RX2 22 "NightSorters$Mail" "place" "[I", .fieldLink RX2 31 "NightSorters$Mail" "inPlace" "[I", .fieldLink RX2 34 "NightSorters$Mail" "inHole" "[I", .fieldLink RX2 15 "NightSorters$Mail" "town" "[I", .fieldLink RX2 25 "NightSorters$Mail" "holder" "[I"] ++ wsX20)
def wsX4_hasTown : List Cond := .code yX4_hasTown cX4_hasTown 2 (some .boolean) :: ([])
def wsX2_firstOnTable : List Cond := .code yX2_firstOnTable cX2_firstOnTable 3 (some .int) :: ([.fieldLink RX2 31 "NightSorters$Mail" "inPlace" "[I", .fieldLink RX2 9 "NightSorters$Mail" "size" "I", .fieldLink RX2 22 "NightSorters$Mail" "place" "[I", .fieldLink RX2 15 "NightSorters$Mail" "town" "[I", .static yX4_hasTown, .initialized RX4, .code yX4_hasTown cX4_hasTown 2 (some .boolean)] ++ wsX20)
def wsX2_isInBag : List Cond := .code yX2_isInBag cX2_isInBag 3 (some .boolean) :: ([.fieldLink RX2 22 "NightSorters$Mail" "place" "[I", .fieldLink RX2 19 "NightSorters$Mail" "postedAt" "[I"] ++ wsX20)
def wsX2_lettersInBag : List Cond := .code yX2_lettersInBag cX2_lettersInBag 4 (some .int) :: ([.fieldLink RX2 9 "NightSorters$Mail" "size" "I", .methodLink RX2 45 yX2_isInBag, .instanceMethod yX2_isInBag, .selects RX2 yX2_isInBag yX2_isInBag, .initialized RX2, .code yX2_isInBag cX2_isInBag 3 (some .boolean), .fieldLink RX2 22 "NightSorters$Mail" "place" "[I", .fieldLink RX2 19 "NightSorters$Mail" "postedAt" "[I"] ++ wsX20)
def wsX2_fullestHole : List Cond := .code yX2_fullestHole cX2_fullestHole 3 (some .int) :: ([.fieldLink RX2 34 "NightSorters$Mail" "inHole" "[I"] ++ wsX20)
def wsX2_spillHole : List Cond := .code yX2_spillHole cX2_spillHole 3 none :: ([.fieldLink RX2 9 "NightSorters$Mail" "size" "I", .fieldLink RX2 22 "NightSorters$Mail" "place" "[I", .fieldLink RX2 15 "NightSorters$Mail" "town" "[I", .methodLink RX2 37 yX2_move, .instanceMethod yX2_move, .selects RX2 yX2_move yX2_move, .initialized RX2, .code yX2_move cX2_move 4 none, .fieldLink RX2 31 "NightSorters$Mail" "inPlace" "[I", .fieldLink RX2 34 "NightSorters$Mail" "inHole" "[I", .fieldLink RX2 25 "NightSorters$Mail" "holder" "[I"] ++ wsX20)
def wsX2_copyFrom : List Cond := .code yX2_copyFrom cX2_copyFrom 2 none :: ([.fieldLink RX2 9 "NightSorters$Mail" "size" "I", .fieldLink RX2 15 "NightSorters$Mail" "town" "[I", .methodLink RX2 48 arraycopyName, .native arraycopyName, .static arraycopyName, .initialized "java/lang/System", .fieldLink RX2 19 "NightSorters$Mail" "postedAt" "[I", .fieldLink RX2 22 "NightSorters$Mail" "place" "[I", .fieldLink RX2 25 "NightSorters$Mail" "holder" "[I", .fieldLink RX2 28 "NightSorters$Mail" "endMinute" "[I", .fieldLink RX2 31 "NightSorters$Mail" "inPlace" "[I", .fieldLink RX2 34 "NightSorters$Mail" "inHole" "[I"] ++ wsX20)
def wsX3_init_r1 : List Cond := [Cond.methodLink RX3 3 objectInit, Cond.instanceMethod objectInit, Cond.code objectInit ⟨#[0xb1]⟩ 1 none, Cond.classLink RX3 9 RX2, Cond.instantiable RX2 8, Cond.initialized RX2, Cond.fieldLink RX3 12 "NightSorters$Train" "mail" "LNightSorters$Mail;", Cond.classLink RX3 18 RX0, Cond.instantiable RX0 8, Cond.initialized RX0, Cond.fieldLink RX3 21 "NightSorters$Train" "crew" "LNightSorters$Crew;", Cond.fieldLink RX3 25 "NightSorters$Train" "minute" "I", Cond.fieldLink RX3 29 "NightSorters$Train" "line" "LNightSorters$Line;", Cond.instanceMethod yX2_init, Cond.code yX2_init cX2_init 1 none, Cond.methodLink RX2 3 objectInit, Cond.fieldLink RX2 9 "NightSorters$Mail" "size" "I", Cond.arrayClass .int, Cond.fieldLink RX2 15 "NightSorters$Mail" "town" "[I", Cond.fieldLink RX2 19 "NightSorters$Mail" "postedAt" "[I", Cond.fieldLink RX2 22 "NightSorters$Mail" "place" "[I", Cond.fieldLink RX2 25 "NightSorters$Mail" "holder" "[I", Cond.fieldLink RX2 28 "NightSorters$Mail" "endMinute" "[I", Cond.fieldLink RX2 31 "NightSorters$Mail" "inPlace" "[I"]
def wsX3_init_r2 : List Cond := [Cond.fieldLink RX2 34 "NightSorters$Mail" "inHole" "[I", Cond.instanceMethod yX0_init, Cond.code yX0_init cX0_init 1 none, Cond.methodLink RX0 3 objectInit, Cond.fieldLink RX0 9 "NightSorters$Crew" "size" "I", Cond.fieldLink RX0 15 "NightSorters$Crew" "pace" "[I", Cond.fieldLink RX0 19 "NightSorters$Crew" "towns" "[I", Cond.fieldLink RX0 22 "NightSorters$Crew" "tired" "[I", Cond.fieldLink RX0 25 "NightSorters$Crew" "withTea" "[I", Cond.fieldLink RX0 28 "NightSorters$Crew" "held" "[I", Cond.fieldLink RX0 31 "NightSorters$Crew" "minutesLeft" "[I", Cond.fieldLink RX0 34 "NightSorters$Crew" "sorted" "[I"]
def wsX3_init : List Cond := .code yX3_init cX3_init 2 none :: ((wsX3_init_r1 ++ wsX3_init_r2) ++ wsX20 ++ wsX30 ++ wsX00)
def wsX3_copyFrom_r1 : List Cond := [Cond.fieldLink RX3 25 "NightSorters$Train" "minute" "I", Cond.fieldLink RX3 12 "NightSorters$Train" "mail" "LNightSorters$Mail;", Cond.fieldLink RX3 21 "NightSorters$Train" "crew" "LNightSorters$Crew;", Cond.methodLink RX3 33 yX2_copyFrom, Cond.instanceMethod yX2_copyFrom, Cond.selects RX2 yX2_copyFrom yX2_copyFrom, Cond.initialized RX2, Cond.code yX2_copyFrom cX2_copyFrom 2 none, Cond.fieldLink RX2 9 "NightSorters$Mail" "size" "I", Cond.fieldLink RX2 15 "NightSorters$Mail" "town" "[I", Cond.methodLink RX2 48 arraycopyName, Cond.native arraycopyName, Cond.static arraycopyName, Cond.initialized "java/lang/System", Cond.fieldLink RX2 19 "NightSorters$Mail" "postedAt" "[I", Cond.fieldLink RX2 22 "NightSorters$Mail" "place" "[I", Cond.fieldLink RX2 25 "NightSorters$Mail" "holder" "[I", Cond.fieldLink RX2 28 "NightSorters$Mail" "endMinute" "[I", Cond.fieldLink RX2 31 "NightSorters$Mail" "inPlace" "[I", Cond.fieldLink RX2 34 "NightSorters$Mail" "inHole" "[I", Cond.methodLink RX3 37 yX0_copyFrom, Cond.instanceMethod yX0_copyFrom, Cond.selects RX0 yX0_copyFrom yX0_copyFrom, Cond.initialized RX0]
def wsX3_copyFrom_r2 : List Cond := [Cond.code yX0_copyFrom cX0_copyFrom 2 none, Cond.fieldLink RX0 9 "NightSorters$Crew" "size" "I", Cond.fieldLink RX0 15 "NightSorters$Crew" "pace" "[I", Cond.methodLink RX0 41 arraycopyName, Cond.fieldLink RX0 19 "NightSorters$Crew" "towns" "[I", Cond.fieldLink RX0 22 "NightSorters$Crew" "tired" "[I", Cond.fieldLink RX0 25 "NightSorters$Crew" "withTea" "[I", Cond.fieldLink RX0 28 "NightSorters$Crew" "held" "[I", Cond.fieldLink RX0 31 "NightSorters$Crew" "minutesLeft" "[I", Cond.fieldLink RX0 34 "NightSorters$Crew" "sorted" "[I"]
def wsX3_copyFrom : List Cond := .code yX3_copyFrom cX3_copyFrom 2 none :: ((wsX3_copyFrom_r1 ++ wsX3_copyFrom_r2) ++ wsX30 ++ wsX20 ++ wsX00)
def wsX3_takeLetter_r1 : List Cond := [Cond.fieldLink RX3 12 "NightSorters$Train" "mail" "LNightSorters$Mail;", Cond.fieldLink RX3 21 "NightSorters$Train" "crew" "LNightSorters$Crew;", Cond.fieldLink RX3 72 "NightSorters$Crew" "towns" "[I", Cond.methodLink RX3 75 yX2_firstOnTable, Cond.instanceMethod yX2_firstOnTable, Cond.selects RX2 yX2_firstOnTable yX2_firstOnTable, Cond.initialized RX2, Cond.code yX2_firstOnTable cX2_firstOnTable 3 (some .int), Cond.fieldLink RX2 31 "NightSorters$Mail" "inPlace" "[I", Cond.fieldLink RX2 9 "NightSorters$Mail" "size" "I", Cond.fieldLink RX2 22 "NightSorters$Mail" "place" "[I", Cond.fieldLink RX2 15 "NightSorters$Mail" "town" "[I", Cond.static yX4_hasTown, Cond.initialized RX4, Cond.code yX4_hasTown cX4_hasTown 2 (some .boolean), Cond.methodLink RX3 78 yX2_moveToHands, Cond.instanceMethod yX2_moveToHands, Cond.selects RX2 yX2_moveToHands yX2_moveToHands, Cond.code yX2_moveToHands cX2_moveToHands 3 none, Cond.fieldLink RX2 25 "NightSorters$Mail" "holder" "[I", Cond.methodLink RX2 37 yX2_move, Cond.instanceMethod yX2_move, Cond.selects RX2 yX2_move yX2_move, Cond.code yX2_move cX2_move 4 none]
def wsX3_takeLetter_r2 : List Cond := [Cond.fieldLink RX2 34 "NightSorters$Mail" "inHole" "[I", Cond.methodLink RX3 82 yX0_takeUp, Cond.instanceMethod yX0_takeUp, Cond.selects RX0 yX0_takeUp yX0_takeUp, Cond.initialized RX0, Cond.code yX0_takeUp cX0_takeUp 3 none, Cond.fieldLink RX0 28 "NightSorters$Crew" "held" "[I", Cond.fieldLink RX0 31 "NightSorters$Crew" "minutesLeft" "[I", Cond.methodLink RX0 37 yX0_minutesNeeded, Cond.instanceMethod yX0_minutesNeeded, Cond.selects RX0 yX0_minutesNeeded yX0_minutesNeeded, Cond.code yX0_minutesNeeded cX0_minutesNeeded 3 (some .int), Cond.fieldLink RX0 15 "NightSorters$Crew" "pace" "[I", Cond.fieldLink RX0 22 "NightSorters$Crew" "tired" "[I", Cond.fieldLink RX0 25 "NightSorters$Crew" "withTea" "[I"]
def wsX3_takeLetter : List Cond := .code yX3_takeLetter cX3_takeLetter 3 none :: ((wsX3_takeLetter_r1 ++ wsX3_takeLetter_r2) ++ wsX30 ++ wsX00 ++ wsX20)
def wsX3_putLetter : List Cond := .code yX3_putLetter cX3_putLetter 3 none :: ([.fieldLink RX3 21 "NightSorters$Train" "crew" "LNightSorters$Crew;", .fieldLink RX3 46 "NightSorters$Crew" "held" "[I", .fieldLink RX3 12 "NightSorters$Train" "mail" "LNightSorters$Mail;", .fieldLink RX3 91 "NightSorters$Mail" "inHole" "[I", .fieldLink RX3 94 "NightSorters$Mail" "town" "[I", .fieldLink RX3 100 "NightSorters$Crew" "sorted" "[I", .fieldLink RX3 103 "NightSorters$Crew" "tired" "[I", .methodLink RX3 97 yX2_move, .instanceMethod yX2_move, .selects RX2 yX2_move yX2_move, .initialized RX2, .code yX2_move cX2_move 4 none, .fieldLink RX2 22 "NightSorters$Mail" "place" "[I", .fieldLink RX2 31 "NightSorters$Mail" "inPlace" "[I", .fieldLink RX2 34 "NightSorters$Mail" "inHole" "[I", .fieldLink RX2 15 "NightSorters$Mail" "town" "[I", .fieldLink RX2 25 "NightSorters$Mail" "holder" "[I", .methodLink RX3 106 yX0_freeHands, .instanceMethod yX0_freeHands, .selects RX0 yX0_freeHands yX0_freeHands, .initialized RX0, .code yX0_freeHands cX0_freeHands 2 none, .fieldLink RX0 28 "NightSorters$Crew" "held" "[I", .fieldLink RX0 31 "NightSorters$Crew" "minutesLeft" "[I"] ++ wsX30 ++ wsX00 ++ wsX20)
def wsX3_workOn_r1 : List Cond := [Cond.fieldLink RX3 21 "NightSorters$Train" "crew" "LNightSorters$Crew;", Cond.fieldLink RX3 85 "NightSorters$Crew" "minutesLeft" "[I", Cond.methodLink RX3 88 yX3_putLetter, Cond.instanceMethod yX3_putLetter, Cond.selects RX3 yX3_putLetter yX3_putLetter, Cond.initialized RX3, Cond.code yX3_putLetter cX3_putLetter 3 none, Cond.fieldLink RX3 46 "NightSorters$Crew" "held" "[I", Cond.fieldLink RX3 12 "NightSorters$Train" "mail" "LNightSorters$Mail;", Cond.fieldLink RX3 91 "NightSorters$Mail" "inHole" "[I", Cond.fieldLink RX3 94 "NightSorters$Mail" "town" "[I", Cond.fieldLink RX3 100 "NightSorters$Crew" "sorted" "[I", Cond.fieldLink RX3 103 "NightSorters$Crew" "tired" "[I", Cond.methodLink RX3 97 yX2_move, Cond.instanceMethod yX2_move, Cond.selects RX2 yX2_move yX2_move, Cond.initialized RX2, Cond.code yX2_move cX2_move 4 none, Cond.fieldLink RX2 22 "NightSorters$Mail" "place" "[I", Cond.fieldLink RX2 31 "NightSorters$Mail" "inPlace" "[I", Cond.fieldLink RX2 34 "NightSorters$Mail" "inHole" "[I", Cond.fieldLink RX2 15 "NightSorters$Mail" "town" "[I", Cond.fieldLink RX2 25 "NightSorters$Mail" "holder" "[I", Cond.methodLink RX3 106 yX0_freeHands]
def wsX3_workOn_r2 : List Cond := [Cond.instanceMethod yX0_freeHands, Cond.selects RX0 yX0_freeHands yX0_freeHands, Cond.initialized RX0, Cond.code yX0_freeHands cX0_freeHands 2 none, Cond.fieldLink RX0 28 "NightSorters$Crew" "held" "[I", Cond.fieldLink RX0 31 "NightSorters$Crew" "minutesLeft" "[I"]
def wsX3_workOn : List Cond := .code yX3_workOn cX3_workOn 2 none :: ((wsX3_workOn_r1 ++ wsX3_workOn_r2) ++ wsX30 ++ wsX00 ++ wsX20)
def wsX4_stationOf : List Cond := .code yX4_stationOf cX4_stationOf 1 (some .int) :: ([])
def wsX3_hookIn : List Cond := .code yX3_hookIn cX3_hookIn 3 none :: ([.fieldLink RX3 12 "NightSorters$Train" "mail" "LNightSorters$Mail;", .fieldLink RX3 94 "NightSorters$Mail" "town" "[I", .fieldLink RX3 25 "NightSorters$Train" "minute" "I", .static yX4_stationOf, .initialized RX4, .code yX4_stationOf cX4_stationOf 1 (some .int), .methodLink RX3 123 yX2_end, .instanceMethod yX2_end, .selects RX2 yX2_end yX2_end, .initialized RX2, .code yX2_end cX2_end 4 none, .fieldLink RX2 28 "NightSorters$Mail" "endMinute" "[I", .methodLink RX2 37 yX2_move, .instanceMethod yX2_move, .selects RX2 yX2_move yX2_move, .code yX2_move cX2_move 4 none, .fieldLink RX2 22 "NightSorters$Mail" "place" "[I", .fieldLink RX2 31 "NightSorters$Mail" "inPlace" "[I", .fieldLink RX2 34 "NightSorters$Mail" "inHole" "[I", .fieldLink RX2 15 "NightSorters$Mail" "town" "[I", .fieldLink RX2 25 "NightSorters$Mail" "holder" "[I", .methodLink RX3 97 yX2_move] ++ wsX30 ++ wsX20)
def wsX3_hookOut_r1 : List Cond := [Cond.fieldLink RX3 12 "NightSorters$Train" "mail" "LNightSorters$Mail;", Cond.fieldLink RX3 127 "NightSorters$Mail" "place" "[I", Cond.fieldLink RX3 25 "NightSorters$Train" "minute" "I", Cond.fieldLink RX3 130 "NightSorters$Mail" "holder" "[I", Cond.fieldLink RX3 21 "NightSorters$Train" "crew" "LNightSorters$Crew;", Cond.methodLink RX3 123 yX2_end, Cond.instanceMethod yX2_end, Cond.selects RX2 yX2_end yX2_end, Cond.initialized RX2, Cond.code yX2_end cX2_end 4 none, Cond.fieldLink RX2 28 "NightSorters$Mail" "endMinute" "[I", Cond.methodLink RX2 37 yX2_move, Cond.instanceMethod yX2_move, Cond.selects RX2 yX2_move yX2_move, Cond.code yX2_move cX2_move 4 none, Cond.fieldLink RX2 22 "NightSorters$Mail" "place" "[I", Cond.fieldLink RX2 31 "NightSorters$Mail" "inPlace" "[I", Cond.fieldLink RX2 34 "NightSorters$Mail" "inHole" "[I", Cond.fieldLink RX2 15 "NightSorters$Mail" "town" "[I", Cond.fieldLink RX2 25 "NightSorters$Mail" "holder" "[I", Cond.methodLink RX3 106 yX0_freeHands, Cond.instanceMethod yX0_freeHands, Cond.selects RX0 yX0_freeHands yX0_freeHands, Cond.initialized RX0]
def wsX3_hookOut_r2 : List Cond := [Cond.code yX0_freeHands cX0_freeHands 2 none, Cond.fieldLink RX0 28 "NightSorters$Crew" "held" "[I", Cond.fieldLink RX0 31 "NightSorters$Crew" "minutesLeft" "[I"]
def wsX3_hookOut : List Cond := .code yX3_hookOut cX3_hookOut 4 none :: ((wsX3_hookOut_r1 ++ wsX3_hookOut_r2) ++ wsX30 ++ wsX20 ++ wsX00)
def wsX3_serve_r1 : List Cond := [Cond.fieldLink RX3 12 "NightSorters$Train" "mail" "LNightSorters$Mail;", Cond.fieldLink RX3 109 "NightSorters$Mail" "size" "I", Cond.fieldLink RX3 94 "NightSorters$Mail" "town" "[I", Cond.methodLink RX3 110 yX2_isInBag, Cond.instanceMethod yX2_isInBag, Cond.selects RX2 yX2_isInBag yX2_isInBag, Cond.initialized RX2, Cond.code yX2_isInBag cX2_isInBag 3 (some .boolean), Cond.fieldLink RX2 22 "NightSorters$Mail" "place" "[I", Cond.fieldLink RX2 19 "NightSorters$Mail" "postedAt" "[I", Cond.methodLink RX3 114 yX3_hookIn, Cond.instanceMethod yX3_hookIn, Cond.selects RX3 yX3_hookIn yX3_hookIn, Cond.initialized RX3, Cond.code yX3_hookIn cX3_hookIn 3 none, Cond.fieldLink RX3 25 "NightSorters$Train" "minute" "I", Cond.static yX4_stationOf, Cond.initialized RX4, Cond.code yX4_stationOf cX4_stationOf 1 (some .int), Cond.methodLink RX3 123 yX2_end, Cond.instanceMethod yX2_end, Cond.selects RX2 yX2_end yX2_end, Cond.code yX2_end cX2_end 4 none, Cond.fieldLink RX2 28 "NightSorters$Mail" "endMinute" "[I"]
def wsX3_serve_r2 : List Cond := [Cond.methodLink RX2 37 yX2_move, Cond.instanceMethod yX2_move, Cond.selects RX2 yX2_move yX2_move, Cond.code yX2_move cX2_move 4 none, Cond.fieldLink RX2 31 "NightSorters$Mail" "inPlace" "[I", Cond.fieldLink RX2 34 "NightSorters$Mail" "inHole" "[I", Cond.fieldLink RX2 15 "NightSorters$Mail" "town" "[I", Cond.fieldLink RX2 25 "NightSorters$Mail" "holder" "[I", Cond.methodLink RX3 97 yX2_move, Cond.methodLink RX3 120 yX3_hookOut, Cond.instanceMethod yX3_hookOut, Cond.selects RX3 yX3_hookOut yX3_hookOut, Cond.code yX3_hookOut cX3_hookOut 4 none, Cond.fieldLink RX3 127 "NightSorters$Mail" "place" "[I", Cond.fieldLink RX3 130 "NightSorters$Mail" "holder" "[I", Cond.fieldLink RX3 21 "NightSorters$Train" "crew" "LNightSorters$Crew;", Cond.methodLink RX3 106 yX0_freeHands, Cond.instanceMethod yX0_freeHands, Cond.selects RX0 yX0_freeHands yX0_freeHands, Cond.initialized RX0, Cond.code yX0_freeHands cX0_freeHands 2 none, Cond.fieldLink RX0 28 "NightSorters$Crew" "held" "[I", Cond.fieldLink RX0 31 "NightSorters$Crew" "minutesLeft" "[I"]
def wsX3_serve : List Cond := .code yX3_serve cX3_serve 3 none :: ((wsX3_serve_r1 ++ wsX3_serve_r2) ++ wsX30 ++ wsX20 ++ wsX00)
def wsX3_shake_r1 : List Cond := [Cond.fieldLink RX3 21 "NightSorters$Train" "crew" "LNightSorters$Crew;", Cond.fieldLink RX3 12 "NightSorters$Train" "mail" "LNightSorters$Mail;", Cond.methodLink RX3 133 yX0_spillTea, Cond.instanceMethod yX0_spillTea, Cond.selects RX0 yX0_spillTea yX0_spillTea, Cond.initialized RX0, Cond.code yX0_spillTea cX0_spillTea 2 none, Cond.fieldLink RX0 9 "NightSorters$Crew" "size" "I", Cond.fieldLink RX0 25 "NightSorters$Crew" "withTea" "[I", Cond.methodLink RX3 136 yX2_fullestHole, Cond.instanceMethod yX2_fullestHole, Cond.selects RX2 yX2_fullestHole yX2_fullestHole, Cond.initialized RX2, Cond.code yX2_fullestHole cX2_fullestHole 3 (some .int), Cond.fieldLink RX2 34 "NightSorters$Mail" "inHole" "[I", Cond.methodLink RX3 140 yX2_spillHole, Cond.instanceMethod yX2_spillHole, Cond.selects RX2 yX2_spillHole yX2_spillHole, Cond.code yX2_spillHole cX2_spillHole 3 none, Cond.fieldLink RX2 9 "NightSorters$Mail" "size" "I", Cond.fieldLink RX2 22 "NightSorters$Mail" "place" "[I", Cond.fieldLink RX2 15 "NightSorters$Mail" "town" "[I", Cond.methodLink RX2 37 yX2_move, Cond.instanceMethod yX2_move]
def wsX3_shake_r2 : List Cond := [Cond.selects RX2 yX2_move yX2_move, Cond.code yX2_move cX2_move 4 none, Cond.fieldLink RX2 31 "NightSorters$Mail" "inPlace" "[I", Cond.fieldLink RX2 25 "NightSorters$Mail" "holder" "[I", Cond.methodLink RX3 143 yX0_tireAll, Cond.instanceMethod yX0_tireAll, Cond.selects RX0 yX0_tireAll yX0_tireAll, Cond.code yX0_tireAll cX0_tireAll 3 none, Cond.fieldLink RX0 22 "NightSorters$Crew" "tired" "[I"]
def wsX3_shake : List Cond := .code yX3_shake cX3_shake 2 none :: ((wsX3_shake_r1 ++ wsX3_shake_r2) ++ wsX30 ++ wsX00 ++ wsX20)
def wsX3_runMinute_r1 : List Cond := [Cond.fieldLink RX3 21 "NightSorters$Train" "crew" "LNightSorters$Crew;", Cond.fieldLink RX3 43 "NightSorters$Crew" "size" "I", Cond.fieldLink RX3 46 "NightSorters$Crew" "held" "[I", Cond.fieldLink RX3 29 "NightSorters$Train" "line" "LNightSorters$Line;", Cond.fieldLink RX3 25 "NightSorters$Train" "minute" "I", Cond.fieldLink RX3 66 "NightSorters$Line" "jolts" "[I", Cond.methodLink RX3 50 yX3_takeLetter, Cond.instanceMethod yX3_takeLetter, Cond.selects RX3 yX3_takeLetter yX3_takeLetter, Cond.initialized RX3, Cond.code yX3_takeLetter cX3_takeLetter 3 none, Cond.fieldLink RX3 12 "NightSorters$Train" "mail" "LNightSorters$Mail;", Cond.fieldLink RX3 72 "NightSorters$Crew" "towns" "[I", Cond.methodLink RX3 75 yX2_firstOnTable, Cond.instanceMethod yX2_firstOnTable, Cond.selects RX2 yX2_firstOnTable yX2_firstOnTable, Cond.initialized RX2, Cond.code yX2_firstOnTable cX2_firstOnTable 3 (some .int), Cond.fieldLink RX2 31 "NightSorters$Mail" "inPlace" "[I", Cond.fieldLink RX2 9 "NightSorters$Mail" "size" "I", Cond.fieldLink RX2 22 "NightSorters$Mail" "place" "[I", Cond.fieldLink RX2 15 "NightSorters$Mail" "town" "[I", Cond.static yX4_hasTown, Cond.initialized RX4]
def wsX3_runMinute_r2 : List Cond := [Cond.code yX4_hasTown cX4_hasTown 2 (some .boolean), Cond.methodLink RX3 78 yX2_moveToHands, Cond.instanceMethod yX2_moveToHands, Cond.selects RX2 yX2_moveToHands yX2_moveToHands, Cond.code yX2_moveToHands cX2_moveToHands 3 none, Cond.fieldLink RX2 25 "NightSorters$Mail" "holder" "[I", Cond.methodLink RX2 37 yX2_move, Cond.instanceMethod yX2_move, Cond.selects RX2 yX2_move yX2_move, Cond.code yX2_move cX2_move 4 none, Cond.fieldLink RX2 34 "NightSorters$Mail" "inHole" "[I", Cond.methodLink RX3 82 yX0_takeUp, Cond.instanceMethod yX0_takeUp, Cond.selects RX0 yX0_takeUp yX0_takeUp, Cond.initialized RX0, Cond.code yX0_takeUp cX0_takeUp 3 none, Cond.fieldLink RX0 28 "NightSorters$Crew" "held" "[I", Cond.fieldLink RX0 31 "NightSorters$Crew" "minutesLeft" "[I", Cond.methodLink RX0 37 yX0_minutesNeeded, Cond.instanceMethod yX0_minutesNeeded, Cond.selects RX0 yX0_minutesNeeded yX0_minutesNeeded, Cond.code yX0_minutesNeeded cX0_minutesNeeded 3 (some .int), Cond.fieldLink RX0 15 "NightSorters$Crew" "pace" "[I", Cond.fieldLink RX0 22 "NightSorters$Crew" "tired" "[I"]
def wsX3_runMinute_r3 : List Cond := [Cond.fieldLink RX0 25 "NightSorters$Crew" "withTea" "[I", Cond.methodLink RX3 54 yX3_workOn, Cond.instanceMethod yX3_workOn, Cond.selects RX3 yX3_workOn yX3_workOn, Cond.code yX3_workOn cX3_workOn 2 none, Cond.fieldLink RX3 85 "NightSorters$Crew" "minutesLeft" "[I", Cond.methodLink RX3 88 yX3_putLetter, Cond.instanceMethod yX3_putLetter, Cond.selects RX3 yX3_putLetter yX3_putLetter, Cond.code yX3_putLetter cX3_putLetter 3 none, Cond.fieldLink RX3 91 "NightSorters$Mail" "inHole" "[I", Cond.fieldLink RX3 94 "NightSorters$Mail" "town" "[I", Cond.fieldLink RX3 100 "NightSorters$Crew" "sorted" "[I", Cond.fieldLink RX3 103 "NightSorters$Crew" "tired" "[I", Cond.methodLink RX3 97 yX2_move, Cond.methodLink RX3 106 yX0_freeHands, Cond.instanceMethod yX0_freeHands, Cond.selects RX0 yX0_freeHands yX0_freeHands, Cond.code yX0_freeHands cX0_freeHands 2 none, Cond.methodLink RX3 57 yX1_passedIn, Cond.instanceMethod yX1_passedIn, Cond.selects RX1 yX1_passedIn yX1_passedIn, Cond.initialized RX1, Cond.code yX1_passedIn cX1_passedIn 3 (some .int)]
def wsX3_runMinute_r4 : List Cond := [Cond.fieldLink RX1 9 "NightSorters$Line" "minutes" "[I", Cond.methodLink RX3 63 yX3_serve, Cond.instanceMethod yX3_serve, Cond.selects RX3 yX3_serve yX3_serve, Cond.code yX3_serve cX3_serve 3 none, Cond.fieldLink RX3 109 "NightSorters$Mail" "size" "I", Cond.methodLink RX3 110 yX2_isInBag, Cond.instanceMethod yX2_isInBag, Cond.selects RX2 yX2_isInBag yX2_isInBag, Cond.code yX2_isInBag cX2_isInBag 3 (some .boolean), Cond.fieldLink RX2 19 "NightSorters$Mail" "postedAt" "[I", Cond.methodLink RX3 114 yX3_hookIn, Cond.instanceMethod yX3_hookIn, Cond.selects RX3 yX3_hookIn yX3_hookIn, Cond.code yX3_hookIn cX3_hookIn 3 none, Cond.static yX4_stationOf, Cond.code yX4_stationOf cX4_stationOf 1 (some .int), Cond.methodLink RX3 123 yX2_end, Cond.instanceMethod yX2_end, Cond.selects RX2 yX2_end yX2_end, Cond.code yX2_end cX2_end 4 none, Cond.fieldLink RX2 28 "NightSorters$Mail" "endMinute" "[I", Cond.methodLink RX3 120 yX3_hookOut, Cond.instanceMethod yX3_hookOut]
def wsX3_runMinute_r5 : List Cond := [Cond.selects RX3 yX3_hookOut yX3_hookOut, Cond.code yX3_hookOut cX3_hookOut 4 none, Cond.fieldLink RX3 127 "NightSorters$Mail" "place" "[I", Cond.fieldLink RX3 130 "NightSorters$Mail" "holder" "[I", Cond.methodLink RX3 69 yX3_shake, Cond.instanceMethod yX3_shake, Cond.selects RX3 yX3_shake yX3_shake, Cond.code yX3_shake cX3_shake 2 none, Cond.methodLink RX3 133 yX0_spillTea, Cond.instanceMethod yX0_spillTea, Cond.selects RX0 yX0_spillTea yX0_spillTea, Cond.code yX0_spillTea cX0_spillTea 2 none, Cond.fieldLink RX0 9 "NightSorters$Crew" "size" "I", Cond.methodLink RX3 136 yX2_fullestHole, Cond.instanceMethod yX2_fullestHole, Cond.selects RX2 yX2_fullestHole yX2_fullestHole, Cond.code yX2_fullestHole cX2_fullestHole 3 (some .int), Cond.methodLink RX3 140 yX2_spillHole, Cond.instanceMethod yX2_spillHole, Cond.selects RX2 yX2_spillHole yX2_spillHole, Cond.code yX2_spillHole cX2_spillHole 3 none, Cond.methodLink RX3 143 yX0_tireAll, Cond.instanceMethod yX0_tireAll, Cond.selects RX0 yX0_tireAll yX0_tireAll]
def wsX3_runMinute_r6 : List Cond := [Cond.code yX0_tireAll cX0_tireAll 3 none]
def wsX3_runMinute : List Cond := .code yX3_runMinute cX3_runMinute 3 none :: ((wsX3_runMinute_r1 ++ (wsX3_runMinute_r2 ++ (wsX3_runMinute_r3 ++ (wsX3_runMinute_r4 ++ (wsX3_runMinute_r5 ++ wsX3_runMinute_r6))))) ++ wsX30 ++ wsX00 ++ wsX10 ++ wsX20)
def wsX3_run_r1 : List Cond := [Cond.methodLink RX3 40 yX3_runMinute, Cond.instanceMethod yX3_runMinute, Cond.selects RX3 yX3_runMinute yX3_runMinute, Cond.initialized RX3, Cond.code yX3_runMinute cX3_runMinute 3 none, Cond.fieldLink RX3 21 "NightSorters$Train" "crew" "LNightSorters$Crew;", Cond.fieldLink RX3 43 "NightSorters$Crew" "size" "I", Cond.fieldLink RX3 46 "NightSorters$Crew" "held" "[I", Cond.fieldLink RX3 29 "NightSorters$Train" "line" "LNightSorters$Line;", Cond.fieldLink RX3 25 "NightSorters$Train" "minute" "I", Cond.fieldLink RX3 66 "NightSorters$Line" "jolts" "[I", Cond.methodLink RX3 50 yX3_takeLetter, Cond.instanceMethod yX3_takeLetter, Cond.selects RX3 yX3_takeLetter yX3_takeLetter, Cond.code yX3_takeLetter cX3_takeLetter 3 none, Cond.fieldLink RX3 12 "NightSorters$Train" "mail" "LNightSorters$Mail;", Cond.fieldLink RX3 72 "NightSorters$Crew" "towns" "[I", Cond.methodLink RX3 75 yX2_firstOnTable, Cond.instanceMethod yX2_firstOnTable, Cond.selects RX2 yX2_firstOnTable yX2_firstOnTable, Cond.initialized RX2, Cond.code yX2_firstOnTable cX2_firstOnTable 3 (some .int), Cond.fieldLink RX2 31 "NightSorters$Mail" "inPlace" "[I", Cond.fieldLink RX2 9 "NightSorters$Mail" "size" "I"]
def wsX3_run_r2 : List Cond := [Cond.fieldLink RX2 22 "NightSorters$Mail" "place" "[I", Cond.fieldLink RX2 15 "NightSorters$Mail" "town" "[I", Cond.static yX4_hasTown, Cond.initialized RX4, Cond.code yX4_hasTown cX4_hasTown 2 (some .boolean), Cond.methodLink RX3 78 yX2_moveToHands, Cond.instanceMethod yX2_moveToHands, Cond.selects RX2 yX2_moveToHands yX2_moveToHands, Cond.code yX2_moveToHands cX2_moveToHands 3 none, Cond.fieldLink RX2 25 "NightSorters$Mail" "holder" "[I", Cond.methodLink RX2 37 yX2_move, Cond.instanceMethod yX2_move, Cond.selects RX2 yX2_move yX2_move, Cond.code yX2_move cX2_move 4 none, Cond.fieldLink RX2 34 "NightSorters$Mail" "inHole" "[I", Cond.methodLink RX3 82 yX0_takeUp, Cond.instanceMethod yX0_takeUp, Cond.selects RX0 yX0_takeUp yX0_takeUp, Cond.initialized RX0, Cond.code yX0_takeUp cX0_takeUp 3 none, Cond.fieldLink RX0 28 "NightSorters$Crew" "held" "[I", Cond.fieldLink RX0 31 "NightSorters$Crew" "minutesLeft" "[I", Cond.methodLink RX0 37 yX0_minutesNeeded, Cond.instanceMethod yX0_minutesNeeded]
def wsX3_run_r3 : List Cond := [Cond.selects RX0 yX0_minutesNeeded yX0_minutesNeeded, Cond.code yX0_minutesNeeded cX0_minutesNeeded 3 (some .int), Cond.fieldLink RX0 15 "NightSorters$Crew" "pace" "[I", Cond.fieldLink RX0 22 "NightSorters$Crew" "tired" "[I", Cond.fieldLink RX0 25 "NightSorters$Crew" "withTea" "[I", Cond.methodLink RX3 54 yX3_workOn, Cond.instanceMethod yX3_workOn, Cond.selects RX3 yX3_workOn yX3_workOn, Cond.code yX3_workOn cX3_workOn 2 none, Cond.fieldLink RX3 85 "NightSorters$Crew" "minutesLeft" "[I", Cond.methodLink RX3 88 yX3_putLetter, Cond.instanceMethod yX3_putLetter, Cond.selects RX3 yX3_putLetter yX3_putLetter, Cond.code yX3_putLetter cX3_putLetter 3 none, Cond.fieldLink RX3 91 "NightSorters$Mail" "inHole" "[I", Cond.fieldLink RX3 94 "NightSorters$Mail" "town" "[I", Cond.fieldLink RX3 100 "NightSorters$Crew" "sorted" "[I", Cond.fieldLink RX3 103 "NightSorters$Crew" "tired" "[I", Cond.methodLink RX3 97 yX2_move, Cond.methodLink RX3 106 yX0_freeHands, Cond.instanceMethod yX0_freeHands, Cond.selects RX0 yX0_freeHands yX0_freeHands, Cond.code yX0_freeHands cX0_freeHands 2 none, Cond.methodLink RX3 57 yX1_passedIn]
def wsX3_run_r4 : List Cond := [Cond.instanceMethod yX1_passedIn, Cond.selects RX1 yX1_passedIn yX1_passedIn, Cond.initialized RX1, Cond.code yX1_passedIn cX1_passedIn 3 (some .int), Cond.fieldLink RX1 9 "NightSorters$Line" "minutes" "[I", Cond.methodLink RX3 63 yX3_serve, Cond.instanceMethod yX3_serve, Cond.selects RX3 yX3_serve yX3_serve, Cond.code yX3_serve cX3_serve 3 none, Cond.fieldLink RX3 109 "NightSorters$Mail" "size" "I", Cond.methodLink RX3 110 yX2_isInBag, Cond.instanceMethod yX2_isInBag, Cond.selects RX2 yX2_isInBag yX2_isInBag, Cond.code yX2_isInBag cX2_isInBag 3 (some .boolean), Cond.fieldLink RX2 19 "NightSorters$Mail" "postedAt" "[I", Cond.methodLink RX3 114 yX3_hookIn, Cond.instanceMethod yX3_hookIn, Cond.selects RX3 yX3_hookIn yX3_hookIn, Cond.code yX3_hookIn cX3_hookIn 3 none, Cond.static yX4_stationOf, Cond.code yX4_stationOf cX4_stationOf 1 (some .int), Cond.methodLink RX3 123 yX2_end, Cond.instanceMethod yX2_end, Cond.selects RX2 yX2_end yX2_end]
def wsX3_run_r5 : List Cond := [Cond.code yX2_end cX2_end 4 none, Cond.fieldLink RX2 28 "NightSorters$Mail" "endMinute" "[I", Cond.methodLink RX3 120 yX3_hookOut, Cond.instanceMethod yX3_hookOut, Cond.selects RX3 yX3_hookOut yX3_hookOut, Cond.code yX3_hookOut cX3_hookOut 4 none, Cond.fieldLink RX3 127 "NightSorters$Mail" "place" "[I", Cond.fieldLink RX3 130 "NightSorters$Mail" "holder" "[I", Cond.methodLink RX3 69 yX3_shake, Cond.instanceMethod yX3_shake, Cond.selects RX3 yX3_shake yX3_shake, Cond.code yX3_shake cX3_shake 2 none, Cond.methodLink RX3 133 yX0_spillTea, Cond.instanceMethod yX0_spillTea, Cond.selects RX0 yX0_spillTea yX0_spillTea, Cond.code yX0_spillTea cX0_spillTea 2 none, Cond.fieldLink RX0 9 "NightSorters$Crew" "size" "I", Cond.methodLink RX3 136 yX2_fullestHole, Cond.instanceMethod yX2_fullestHole, Cond.selects RX2 yX2_fullestHole yX2_fullestHole, Cond.code yX2_fullestHole cX2_fullestHole 3 (some .int), Cond.methodLink RX3 140 yX2_spillHole, Cond.instanceMethod yX2_spillHole, Cond.selects RX2 yX2_spillHole yX2_spillHole]
def wsX3_run_r6 : List Cond := [Cond.code yX2_spillHole cX2_spillHole 3 none, Cond.methodLink RX3 143 yX0_tireAll, Cond.instanceMethod yX0_tireAll, Cond.selects RX0 yX0_tireAll yX0_tireAll, Cond.code yX0_tireAll cX0_tireAll 3 none]
def wsX3_run : List Cond := .code yX3_run cX3_run 3 none :: ((wsX3_run_r1 ++ (wsX3_run_r2 ++ (wsX3_run_r3 ++ (wsX3_run_r4 ++ (wsX3_run_r5 ++ wsX3_run_r6))))) ++ wsX30 ++ wsX00 ++ wsX10 ++ wsX20)
def wsX4_init_r1 : List Cond := [Cond.methodLink RX4 3 objectInit, Cond.instanceMethod objectInit, Cond.code objectInit ⟨#[0xb1]⟩ 1 none, Cond.classLink RX4 9 RX1, Cond.instantiable RX1 2, Cond.initialized RX1, Cond.classLink RX4 12 RX3, Cond.instantiable RX3 4, Cond.initialized RX3, Cond.fieldLink RX4 17 "NightSorters" "train" "LNightSorters$Train;", Cond.fieldLink RX4 21 "NightSorters" "trial" "LNightSorters$Train;", Cond.methodLink RX4 11 yX1_init, Cond.instanceMethod yX1_init, Cond.code yX1_init cX1_init 2 none, Cond.methodLink RX1 3 objectInit, Cond.arrayClass .int, Cond.fieldLink RX1 9 "NightSorters$Line" "minutes" "[I", Cond.fieldLink RX1 15 "NightSorters$Line" "jolts" "[I", Cond.methodLink RX4 14 yX3_init, Cond.instanceMethod yX3_init, Cond.code yX3_init cX3_init 2 none, Cond.methodLink RX3 3 objectInit, Cond.classLink RX3 9 RX2, Cond.instantiable RX2 8]
def wsX4_init_r2 : List Cond := [Cond.initialized RX2, Cond.fieldLink RX3 12 "NightSorters$Train" "mail" "LNightSorters$Mail;", Cond.classLink RX3 18 RX0, Cond.instantiable RX0 8, Cond.initialized RX0, Cond.fieldLink RX3 21 "NightSorters$Train" "crew" "LNightSorters$Crew;", Cond.fieldLink RX3 25 "NightSorters$Train" "minute" "I", Cond.fieldLink RX3 29 "NightSorters$Train" "line" "LNightSorters$Line;", Cond.instanceMethod yX2_init, Cond.code yX2_init cX2_init 1 none, Cond.methodLink RX2 3 objectInit, Cond.fieldLink RX2 9 "NightSorters$Mail" "size" "I", Cond.fieldLink RX2 15 "NightSorters$Mail" "town" "[I", Cond.fieldLink RX2 19 "NightSorters$Mail" "postedAt" "[I", Cond.fieldLink RX2 22 "NightSorters$Mail" "place" "[I", Cond.fieldLink RX2 25 "NightSorters$Mail" "holder" "[I", Cond.fieldLink RX2 28 "NightSorters$Mail" "endMinute" "[I", Cond.fieldLink RX2 31 "NightSorters$Mail" "inPlace" "[I", Cond.fieldLink RX2 34 "NightSorters$Mail" "inHole" "[I", Cond.instanceMethod yX0_init, Cond.code yX0_init cX0_init 1 none, Cond.methodLink RX0 3 objectInit, Cond.fieldLink RX0 9 "NightSorters$Crew" "size" "I", Cond.fieldLink RX0 15 "NightSorters$Crew" "pace" "[I"]
def wsX4_init_r3 : List Cond := [Cond.fieldLink RX0 19 "NightSorters$Crew" "towns" "[I", Cond.fieldLink RX0 22 "NightSorters$Crew" "tired" "[I", Cond.fieldLink RX0 25 "NightSorters$Crew" "withTea" "[I", Cond.fieldLink RX0 28 "NightSorters$Crew" "held" "[I", Cond.fieldLink RX0 31 "NightSorters$Crew" "minutesLeft" "[I", Cond.fieldLink RX0 34 "NightSorters$Crew" "sorted" "[I"]
def wsX4_init : List Cond := .code yX4_init cX4_init 2 none :: ((wsX4_init_r1 ++ (wsX4_init_r2 ++ wsX4_init_r3)) ++ wsX10 ++ wsX30 ++ wsX40 ++ wsX20 ++ wsX00)
def wsX4_checkIndex : List Cond := .code yX4_checkIndex cX4_checkIndex 2 none :: ([.classLink RX4 126 "java/lang/IndexOutOfBoundsException", .initialized "java/lang/IndexOutOfBoundsException"] ++ (vx_atS RX4 130 "java/lang/IndexOutOfBoundsException" ["java/lang/RuntimeException", "java/lang/Exception"]).filter goodWord)
def wsX4_checkArgument : List Cond := .code yX4_checkArgument cX4_checkArgument 3 none :: ([.classLink RX4 159 "java/lang/IllegalArgumentException", .initialized "java/lang/IllegalArgumentException"] ++ (vx_atS RX4 163 "java/lang/IllegalArgumentException" ["java/lang/RuntimeException", "java/lang/Exception"]).filter goodWord)
def wsX4_setStation : List Cond := .code yX4_setStation cX4_setStation 6 (some .int) :: ([.classLink RX4 48 "java/lang/IllegalStateException", .initialized "java/lang/IllegalStateException", .fieldLink RX4 17 "NightSorters" "train" "LNightSorters$Train;", .fieldLink RX4 32 "NightSorters$Train" "line" "LNightSorters$Line;", .fieldLink RX4 36 "NightSorters$Train" "minute" "I", .fieldLink RX4 40 "NightSorters$Line" "minutes" "[I", .fieldLink RX4 55 "NightSorters$Line" "jolts" "[I", .methodLink RX4 24 yX4_checkIndex, .static yX4_checkIndex, .initialized RX4, .code yX4_checkIndex cX4_checkIndex 2 none, .classLink RX4 126 "java/lang/IndexOutOfBoundsException", .initialized "java/lang/IndexOutOfBoundsException", .methodLink RX4 28 yX4_checkArgument, .static yX4_checkArgument, .code yX4_checkArgument cX4_checkArgument 3 none, .classLink RX4 159 "java/lang/IllegalArgumentException", .initialized "java/lang/IllegalArgumentException", .methodLink RX4 44 yX1_wouldRise, .instanceMethod yX1_wouldRise, .selects RX1 yX1_wouldRise yX1_wouldRise, .initialized RX1, .code yX1_wouldRise cX1_wouldRise 5 (some .boolean), .fieldLink RX1 9 "NightSorters$Line" "minutes" "[I"] ++ wsX40 ++ wsX30 ++ wsX10 ++ (vx_atS RX4 52 "java/lang/IllegalStateException" ["java/lang/RuntimeException", "java/lang/Exception"]).filter goodWord ++ (vx_atS RX4 130 "java/lang/IndexOutOfBoundsException" ["java/lang/RuntimeException", "java/lang/Exception"]).filter goodWord ++ (vx_atS RX4 163 "java/lang/IllegalArgumentException" ["java/lang/RuntimeException", "java/lang/Exception"]).filter goodWord)
def wsX4_post : List Cond := .code yX4_post cX4_post 3 (some .int) :: ([.classLink RX4 48 "java/lang/IllegalStateException", .initialized "java/lang/IllegalStateException", .fieldLink RX4 17 "NightSorters" "train" "LNightSorters$Train;", .fieldLink RX4 58 "NightSorters$Train" "mail" "LNightSorters$Mail;", .fieldLink RX4 62 "NightSorters$Mail" "size" "I", .methodLink RX4 24 yX4_checkIndex, .static yX4_checkIndex, .initialized RX4, .code yX4_checkIndex cX4_checkIndex 2 none, .classLink RX4 126 "java/lang/IndexOutOfBoundsException", .initialized "java/lang/IndexOutOfBoundsException", .methodLink RX4 69 yX2_addToBag, .instanceMethod yX2_addToBag, .selects RX2 yX2_addToBag yX2_addToBag, .initialized RX2, .code yX2_addToBag cX2_addToBag 4 (some .int), .fieldLink RX2 9 "NightSorters$Mail" "size" "I", .fieldLink RX2 15 "NightSorters$Mail" "town" "[I", .fieldLink RX2 19 "NightSorters$Mail" "postedAt" "[I", .fieldLink RX2 22 "NightSorters$Mail" "place" "[I", .fieldLink RX2 25 "NightSorters$Mail" "holder" "[I", .fieldLink RX2 28 "NightSorters$Mail" "endMinute" "[I", .fieldLink RX2 31 "NightSorters$Mail" "inPlace" "[I"] ++ wsX40 ++ wsX30 ++ wsX20 ++ (vx_atS RX4 52 "java/lang/IllegalStateException" ["java/lang/RuntimeException", "java/lang/Exception"]).filter goodWord ++ (vx_atS RX4 130 "java/lang/IndexOutOfBoundsException" ["java/lang/RuntimeException", "java/lang/Exception"]).filter goodWord)
def wsX4_hire : List Cond := .code yX4_hire cX4_hire 3 (some .int) :: ([.classLink RX4 48 "java/lang/IllegalStateException", .initialized "java/lang/IllegalStateException", .constant RX4 73 (65535), .fieldLink RX4 17 "NightSorters" "train" "LNightSorters$Train;", .fieldLink RX4 74 "NightSorters$Train" "crew" "LNightSorters$Crew;", .fieldLink RX4 78 "NightSorters$Crew" "size" "I", .methodLink RX4 28 yX4_checkArgument, .static yX4_checkArgument, .initialized RX4, .code yX4_checkArgument cX4_checkArgument 3 none, .classLink RX4 159 "java/lang/IllegalArgumentException", .initialized "java/lang/IllegalArgumentException", .methodLink RX4 83 yX0_add, .instanceMethod yX0_add, .selects RX0 yX0_add yX0_add, .initialized RX0, .code yX0_add cX0_add 4 (some .int), .fieldLink RX0 9 "NightSorters$Crew" "size" "I", .fieldLink RX0 15 "NightSorters$Crew" "pace" "[I", .fieldLink RX0 19 "NightSorters$Crew" "towns" "[I", .fieldLink RX0 28 "NightSorters$Crew" "held" "[I"] ++ wsX40 ++ wsX30 ++ wsX00 ++ (vx_atS RX4 52 "java/lang/IllegalStateException" ["java/lang/RuntimeException", "java/lang/Exception"]).filter goodWord ++ (vx_atS RX4 163 "java/lang/IllegalArgumentException" ["java/lang/RuntimeException", "java/lang/Exception"]).filter goodWord)
def wsX4_assign : List Cond := .code yX4_assign cX4_assign 4 (some .int) :: ([.fieldLink RX4 17 "NightSorters" "train" "LNightSorters$Train;", .fieldLink RX4 74 "NightSorters$Train" "crew" "LNightSorters$Crew;", .fieldLink RX4 78 "NightSorters$Crew" "size" "I", .constant RX4 73 (65535), .fieldLink RX4 86 "NightSorters$Crew" "towns" "[I", .methodLink RX4 24 yX4_checkIndex, .static yX4_checkIndex, .initialized RX4, .code yX4_checkIndex cX4_checkIndex 2 none, .classLink RX4 126 "java/lang/IndexOutOfBoundsException", .initialized "java/lang/IndexOutOfBoundsException", .methodLink RX4 28 yX4_checkArgument, .static yX4_checkArgument, .code yX4_checkArgument cX4_checkArgument 3 none, .classLink RX4 159 "java/lang/IllegalArgumentException", .initialized "java/lang/IllegalArgumentException"] ++ wsX40 ++ wsX30 ++ wsX00 ++ (vx_atS RX4 130 "java/lang/IndexOutOfBoundsException" ["java/lang/RuntimeException", "java/lang/Exception"]).filter goodWord ++ (vx_atS RX4 163 "java/lang/IllegalArgumentException" ["java/lang/RuntimeException", "java/lang/Exception"]).filter goodWord)
def wsX4_tea : List Cond := .code yX4_tea cX4_tea 3 (some .int) :: ([.fieldLink RX4 17 "NightSorters" "train" "LNightSorters$Train;", .fieldLink RX4 74 "NightSorters$Train" "crew" "LNightSorters$Crew;", .fieldLink RX4 78 "NightSorters$Crew" "size" "I", .fieldLink RX4 89 "NightSorters$Crew" "tired" "[I", .fieldLink RX4 92 "NightSorters$Crew" "withTea" "[I", .methodLink RX4 24 yX4_checkIndex, .static yX4_checkIndex, .initialized RX4, .code yX4_checkIndex cX4_checkIndex 2 none, .classLink RX4 126 "java/lang/IndexOutOfBoundsException", .initialized "java/lang/IndexOutOfBoundsException"] ++ wsX40 ++ wsX30 ++ wsX00 ++ (vx_atS RX4 130 "java/lang/IndexOutOfBoundsException" ["java/lang/RuntimeException", "java/lang/Exception"]).filter goodWord)
def wsX4_letter : List Cond := .code yX4_letter cX4_letter 3 (some .int) :: ([.fieldLink RX4 17 "NightSorters" "train" "LNightSorters$Train;", .fieldLink RX4 58 "NightSorters$Train" "mail" "LNightSorters$Mail;", .fieldLink RX4 62 "NightSorters$Mail" "size" "I", .methodLink RX4 24 yX4_checkIndex, .static yX4_checkIndex, .initialized RX4, .code yX4_checkIndex cX4_checkIndex 2 none, .classLink RX4 126 "java/lang/IndexOutOfBoundsException", .initialized "java/lang/IndexOutOfBoundsException", .methodLink RX4 95 yX2_fact, .instanceMethod yX2_fact, .selects RX2 yX2_fact yX2_fact, .initialized RX2, .code yX2_fact cX2_fact 3 (some .int), .fieldLink RX2 22 "NightSorters$Mail" "place" "[I", .fieldLink RX2 15 "NightSorters$Mail" "town" "[I", .fieldLink RX2 19 "NightSorters$Mail" "postedAt" "[I", .fieldLink RX2 25 "NightSorters$Mail" "holder" "[I", .fieldLink RX2 28 "NightSorters$Mail" "endMinute" "[I"] ++ wsX40 ++ wsX30 ++ wsX20 ++ (vx_atS RX4 130 "java/lang/IndexOutOfBoundsException" ["java/lang/RuntimeException", "java/lang/Exception"]).filter goodWord)
def wsX4_sorter : List Cond := .code yX4_sorter cX4_sorter 3 (some .int) :: ([.fieldLink RX4 17 "NightSorters" "train" "LNightSorters$Train;", .fieldLink RX4 74 "NightSorters$Train" "crew" "LNightSorters$Crew;", .fieldLink RX4 78 "NightSorters$Crew" "size" "I", .methodLink RX4 24 yX4_checkIndex, .static yX4_checkIndex, .initialized RX4, .code yX4_checkIndex cX4_checkIndex 2 none, .classLink RX4 126 "java/lang/IndexOutOfBoundsException", .initialized "java/lang/IndexOutOfBoundsException", .methodLink RX4 98 yX0_fact, .instanceMethod yX0_fact, .selects RX0 yX0_fact yX0_fact, .initialized RX0, .code yX0_fact cX0_fact 3 (some .int), .fieldLink RX0 15 "NightSorters$Crew" "pace" "[I", .fieldLink RX0 19 "NightSorters$Crew" "towns" "[I", .fieldLink RX0 22 "NightSorters$Crew" "tired" "[I", .fieldLink RX0 25 "NightSorters$Crew" "withTea" "[I", .fieldLink RX0 28 "NightSorters$Crew" "held" "[I", .fieldLink RX0 31 "NightSorters$Crew" "minutesLeft" "[I", .fieldLink RX0 34 "NightSorters$Crew" "sorted" "[I"] ++ wsX40 ++ wsX30 ++ wsX00 ++ (vx_atS RX4 130 "java/lang/IndexOutOfBoundsException" ["java/lang/RuntimeException", "java/lang/Exception"]).filter goodWord)
def wsX4_hole : List Cond := .code yX4_hole cX4_hole 2 (some .int) :: ([.fieldLink RX4 17 "NightSorters" "train" "LNightSorters$Train;", .fieldLink RX4 58 "NightSorters$Train" "mail" "LNightSorters$Mail;", .fieldLink RX4 99 "NightSorters$Mail" "inHole" "[I", .methodLink RX4 24 yX4_checkIndex, .static yX4_checkIndex, .initialized RX4, .code yX4_checkIndex cX4_checkIndex 2 none, .classLink RX4 126 "java/lang/IndexOutOfBoundsException", .initialized "java/lang/IndexOutOfBoundsException"] ++ wsX40 ++ wsX30 ++ wsX20 ++ (vx_atS RX4 130 "java/lang/IndexOutOfBoundsException" ["java/lang/RuntimeException", "java/lang/Exception"]).filter goodWord)
def wsX4_station : List Cond := .code yX4_station cX4_station 3 (some .int) :: ([.fieldLink RX4 17 "NightSorters" "train" "LNightSorters$Train;", .fieldLink RX4 32 "NightSorters$Train" "line" "LNightSorters$Line;", .fieldLink RX4 40 "NightSorters$Line" "minutes" "[I", .fieldLink RX4 55 "NightSorters$Line" "jolts" "[I", .fieldLink RX4 58 "NightSorters$Train" "mail" "LNightSorters$Mail;", .methodLink RX4 24 yX4_checkIndex, .static yX4_checkIndex, .initialized RX4, .code yX4_checkIndex cX4_checkIndex 2 none, .classLink RX4 126 "java/lang/IndexOutOfBoundsException", .initialized "java/lang/IndexOutOfBoundsException", .methodLink RX4 102 yX2_lettersInBag, .instanceMethod yX2_lettersInBag, .selects RX2 yX2_lettersInBag yX2_lettersInBag, .initialized RX2, .code yX2_lettersInBag cX2_lettersInBag 4 (some .int), .fieldLink RX2 9 "NightSorters$Mail" "size" "I", .methodLink RX2 45 yX2_isInBag, .instanceMethod yX2_isInBag, .selects RX2 yX2_isInBag yX2_isInBag, .code yX2_isInBag cX2_isInBag 3 (some .boolean), .fieldLink RX2 22 "NightSorters$Mail" "place" "[I", .fieldLink RX2 19 "NightSorters$Mail" "postedAt" "[I"] ++ wsX40 ++ wsX30 ++ wsX10 ++ wsX20 ++ (vx_atS RX4 130 "java/lang/IndexOutOfBoundsException" ["java/lang/RuntimeException", "java/lang/Exception"]).filter goodWord)
def wsX4_count : List Cond := .code yX4_count cX4_count 2 (some .int) :: ([.fieldLink RX4 17 "NightSorters" "train" "LNightSorters$Train;", .fieldLink RX4 36 "NightSorters$Train" "minute" "I", .fieldLink RX4 58 "NightSorters$Train" "mail" "LNightSorters$Mail;", .fieldLink RX4 62 "NightSorters$Mail" "size" "I", .fieldLink RX4 74 "NightSorters$Train" "crew" "LNightSorters$Crew;", .fieldLink RX4 78 "NightSorters$Crew" "size" "I", .fieldLink RX4 32 "NightSorters$Train" "line" "LNightSorters$Line;", .fieldLink RX4 109 "NightSorters$Mail" "inPlace" "[I", .methodLink RX4 24 yX4_checkIndex, .static yX4_checkIndex, .initialized RX4, .code yX4_checkIndex cX4_checkIndex 2 none, .classLink RX4 126 "java/lang/IndexOutOfBoundsException", .initialized "java/lang/IndexOutOfBoundsException", .methodLink RX4 106 yX1_nextFrom, .instanceMethod yX1_nextFrom, .selects RX1 yX1_nextFrom yX1_nextFrom, .initialized RX1, .code yX1_nextFrom cX1_nextFrom 3 (some .int), .fieldLink RX1 9 "NightSorters$Line" "minutes" "[I"] ++ wsX40 ++ wsX30 ++ wsX20 ++ wsX00 ++ wsX10 ++ (vx_atS RX4 130 "java/lang/IndexOutOfBoundsException" ["java/lang/RuntimeException", "java/lang/Exception"]).filter goodWord)
def wsX4_pass_r1 : List Cond := [Cond.fieldLink RX4 17 "NightSorters" "train" "LNightSorters$Train;", Cond.fieldLink RX4 58 "NightSorters$Train" "mail" "LNightSorters$Mail;", Cond.fieldLink RX4 109 "NightSorters$Mail" "inPlace" "[I", Cond.methodLink RX4 28 yX4_checkArgument, Cond.static yX4_checkArgument, Cond.initialized RX4, Cond.code yX4_checkArgument cX4_checkArgument 3 none, Cond.classLink RX4 159 "java/lang/IllegalArgumentException", Cond.initialized "java/lang/IllegalArgumentException", Cond.methodLink RX4 112 yX3_run, Cond.instanceMethod yX3_run, Cond.selects RX3 yX3_run yX3_run, Cond.initialized RX3, Cond.code yX3_run cX3_run 3 none, Cond.methodLink RX3 40 yX3_runMinute, Cond.instanceMethod yX3_runMinute, Cond.selects RX3 yX3_runMinute yX3_runMinute, Cond.code yX3_runMinute cX3_runMinute 3 none, Cond.fieldLink RX3 21 "NightSorters$Train" "crew" "LNightSorters$Crew;", Cond.fieldLink RX3 43 "NightSorters$Crew" "size" "I", Cond.fieldLink RX3 46 "NightSorters$Crew" "held" "[I", Cond.fieldLink RX3 29 "NightSorters$Train" "line" "LNightSorters$Line;", Cond.fieldLink RX3 25 "NightSorters$Train" "minute" "I", Cond.fieldLink RX3 66 "NightSorters$Line" "jolts" "[I"]
def wsX4_pass_r2 : List Cond := [Cond.methodLink RX3 50 yX3_takeLetter, Cond.instanceMethod yX3_takeLetter, Cond.selects RX3 yX3_takeLetter yX3_takeLetter, Cond.code yX3_takeLetter cX3_takeLetter 3 none, Cond.fieldLink RX3 12 "NightSorters$Train" "mail" "LNightSorters$Mail;", Cond.fieldLink RX3 72 "NightSorters$Crew" "towns" "[I", Cond.methodLink RX3 75 yX2_firstOnTable, Cond.instanceMethod yX2_firstOnTable, Cond.selects RX2 yX2_firstOnTable yX2_firstOnTable, Cond.initialized RX2, Cond.code yX2_firstOnTable cX2_firstOnTable 3 (some .int), Cond.fieldLink RX2 31 "NightSorters$Mail" "inPlace" "[I", Cond.fieldLink RX2 9 "NightSorters$Mail" "size" "I", Cond.fieldLink RX2 22 "NightSorters$Mail" "place" "[I", Cond.fieldLink RX2 15 "NightSorters$Mail" "town" "[I", Cond.static yX4_hasTown, Cond.code yX4_hasTown cX4_hasTown 2 (some .boolean), Cond.methodLink RX3 78 yX2_moveToHands, Cond.instanceMethod yX2_moveToHands, Cond.selects RX2 yX2_moveToHands yX2_moveToHands, Cond.code yX2_moveToHands cX2_moveToHands 3 none, Cond.fieldLink RX2 25 "NightSorters$Mail" "holder" "[I", Cond.methodLink RX2 37 yX2_move, Cond.instanceMethod yX2_move]
def wsX4_pass_r3 : List Cond := [Cond.selects RX2 yX2_move yX2_move, Cond.code yX2_move cX2_move 4 none, Cond.fieldLink RX2 34 "NightSorters$Mail" "inHole" "[I", Cond.methodLink RX3 82 yX0_takeUp, Cond.instanceMethod yX0_takeUp, Cond.selects RX0 yX0_takeUp yX0_takeUp, Cond.initialized RX0, Cond.code yX0_takeUp cX0_takeUp 3 none, Cond.fieldLink RX0 28 "NightSorters$Crew" "held" "[I", Cond.fieldLink RX0 31 "NightSorters$Crew" "minutesLeft" "[I", Cond.methodLink RX0 37 yX0_minutesNeeded, Cond.instanceMethod yX0_minutesNeeded, Cond.selects RX0 yX0_minutesNeeded yX0_minutesNeeded, Cond.code yX0_minutesNeeded cX0_minutesNeeded 3 (some .int), Cond.fieldLink RX0 15 "NightSorters$Crew" "pace" "[I", Cond.fieldLink RX0 22 "NightSorters$Crew" "tired" "[I", Cond.fieldLink RX0 25 "NightSorters$Crew" "withTea" "[I", Cond.methodLink RX3 54 yX3_workOn, Cond.instanceMethod yX3_workOn, Cond.selects RX3 yX3_workOn yX3_workOn, Cond.code yX3_workOn cX3_workOn 2 none, Cond.fieldLink RX3 85 "NightSorters$Crew" "minutesLeft" "[I", Cond.methodLink RX3 88 yX3_putLetter, Cond.instanceMethod yX3_putLetter]
def wsX4_pass_r4 : List Cond := [Cond.selects RX3 yX3_putLetter yX3_putLetter, Cond.code yX3_putLetter cX3_putLetter 3 none, Cond.fieldLink RX3 91 "NightSorters$Mail" "inHole" "[I", Cond.fieldLink RX3 94 "NightSorters$Mail" "town" "[I", Cond.fieldLink RX3 100 "NightSorters$Crew" "sorted" "[I", Cond.fieldLink RX3 103 "NightSorters$Crew" "tired" "[I", Cond.methodLink RX3 97 yX2_move, Cond.methodLink RX3 106 yX0_freeHands, Cond.instanceMethod yX0_freeHands, Cond.selects RX0 yX0_freeHands yX0_freeHands, Cond.code yX0_freeHands cX0_freeHands 2 none, Cond.methodLink RX3 57 yX1_passedIn, Cond.instanceMethod yX1_passedIn, Cond.selects RX1 yX1_passedIn yX1_passedIn, Cond.initialized RX1, Cond.code yX1_passedIn cX1_passedIn 3 (some .int), Cond.fieldLink RX1 9 "NightSorters$Line" "minutes" "[I", Cond.methodLink RX3 63 yX3_serve, Cond.instanceMethod yX3_serve, Cond.selects RX3 yX3_serve yX3_serve, Cond.code yX3_serve cX3_serve 3 none, Cond.fieldLink RX3 109 "NightSorters$Mail" "size" "I", Cond.methodLink RX3 110 yX2_isInBag, Cond.instanceMethod yX2_isInBag]
def wsX4_pass_r5 : List Cond := [Cond.selects RX2 yX2_isInBag yX2_isInBag, Cond.code yX2_isInBag cX2_isInBag 3 (some .boolean), Cond.fieldLink RX2 19 "NightSorters$Mail" "postedAt" "[I", Cond.methodLink RX3 114 yX3_hookIn, Cond.instanceMethod yX3_hookIn, Cond.selects RX3 yX3_hookIn yX3_hookIn, Cond.code yX3_hookIn cX3_hookIn 3 none, Cond.static yX4_stationOf, Cond.code yX4_stationOf cX4_stationOf 1 (some .int), Cond.methodLink RX3 123 yX2_end, Cond.instanceMethod yX2_end, Cond.selects RX2 yX2_end yX2_end, Cond.code yX2_end cX2_end 4 none, Cond.fieldLink RX2 28 "NightSorters$Mail" "endMinute" "[I", Cond.methodLink RX3 120 yX3_hookOut, Cond.instanceMethod yX3_hookOut, Cond.selects RX3 yX3_hookOut yX3_hookOut, Cond.code yX3_hookOut cX3_hookOut 4 none, Cond.fieldLink RX3 127 "NightSorters$Mail" "place" "[I", Cond.fieldLink RX3 130 "NightSorters$Mail" "holder" "[I", Cond.methodLink RX3 69 yX3_shake, Cond.instanceMethod yX3_shake, Cond.selects RX3 yX3_shake yX3_shake, Cond.code yX3_shake cX3_shake 2 none]
def wsX4_pass_r6 : List Cond := [Cond.methodLink RX3 133 yX0_spillTea, Cond.instanceMethod yX0_spillTea, Cond.selects RX0 yX0_spillTea yX0_spillTea, Cond.code yX0_spillTea cX0_spillTea 2 none, Cond.fieldLink RX0 9 "NightSorters$Crew" "size" "I", Cond.methodLink RX3 136 yX2_fullestHole, Cond.instanceMethod yX2_fullestHole, Cond.selects RX2 yX2_fullestHole yX2_fullestHole, Cond.code yX2_fullestHole cX2_fullestHole 3 (some .int), Cond.methodLink RX3 140 yX2_spillHole, Cond.instanceMethod yX2_spillHole, Cond.selects RX2 yX2_spillHole yX2_spillHole, Cond.code yX2_spillHole cX2_spillHole 3 none, Cond.methodLink RX3 143 yX0_tireAll, Cond.instanceMethod yX0_tireAll, Cond.selects RX0 yX0_tireAll yX0_tireAll, Cond.code yX0_tireAll cX0_tireAll 3 none]
def wsX4_pass : List Cond := .code yX4_pass cX4_pass 3 (some .int) :: ((wsX4_pass_r1 ++ (wsX4_pass_r2 ++ (wsX4_pass_r3 ++ (wsX4_pass_r4 ++ (wsX4_pass_r5 ++ wsX4_pass_r6))))) ++ wsX40 ++ wsX30 ++ wsX20 ++ wsX00 ++ wsX10 ++ (vx_atS RX4 163 "java/lang/IllegalArgumentException" ["java/lang/RuntimeException", "java/lang/Exception"]).filter goodWord)
def wsX4_arrives_r1 : List Cond := [Cond.fieldLink RX4 17 "NightSorters" "train" "LNightSorters$Train;", Cond.fieldLink RX4 58 "NightSorters$Train" "mail" "LNightSorters$Mail;", Cond.fieldLink RX4 62 "NightSorters$Mail" "size" "I", Cond.fieldLink RX4 21 "NightSorters" "trial" "LNightSorters$Train;", Cond.fieldLink RX4 120 "NightSorters$Mail" "place" "[I", Cond.methodLink RX4 24 yX4_checkIndex, Cond.static yX4_checkIndex, Cond.initialized RX4, Cond.code yX4_checkIndex cX4_checkIndex 2 none, Cond.classLink RX4 126 "java/lang/IndexOutOfBoundsException", Cond.initialized "java/lang/IndexOutOfBoundsException", Cond.methodLink RX4 116 yX3_copyFrom, Cond.instanceMethod yX3_copyFrom, Cond.selects RX3 yX3_copyFrom yX3_copyFrom, Cond.initialized RX3, Cond.code yX3_copyFrom cX3_copyFrom 2 none, Cond.fieldLink RX3 25 "NightSorters$Train" "minute" "I", Cond.fieldLink RX3 12 "NightSorters$Train" "mail" "LNightSorters$Mail;", Cond.fieldLink RX3 21 "NightSorters$Train" "crew" "LNightSorters$Crew;", Cond.methodLink RX3 33 yX2_copyFrom, Cond.instanceMethod yX2_copyFrom, Cond.selects RX2 yX2_copyFrom yX2_copyFrom, Cond.initialized RX2, Cond.code yX2_copyFrom cX2_copyFrom 2 none]
def wsX4_arrives_r2 : List Cond := [Cond.fieldLink RX2 9 "NightSorters$Mail" "size" "I", Cond.fieldLink RX2 15 "NightSorters$Mail" "town" "[I", Cond.methodLink RX2 48 arraycopyName, Cond.native arraycopyName, Cond.static arraycopyName, Cond.initialized "java/lang/System", Cond.fieldLink RX2 19 "NightSorters$Mail" "postedAt" "[I", Cond.fieldLink RX2 22 "NightSorters$Mail" "place" "[I", Cond.fieldLink RX2 25 "NightSorters$Mail" "holder" "[I", Cond.fieldLink RX2 28 "NightSorters$Mail" "endMinute" "[I", Cond.fieldLink RX2 31 "NightSorters$Mail" "inPlace" "[I", Cond.fieldLink RX2 34 "NightSorters$Mail" "inHole" "[I", Cond.methodLink RX3 37 yX0_copyFrom, Cond.instanceMethod yX0_copyFrom, Cond.selects RX0 yX0_copyFrom yX0_copyFrom, Cond.initialized RX0, Cond.code yX0_copyFrom cX0_copyFrom 2 none, Cond.fieldLink RX0 9 "NightSorters$Crew" "size" "I", Cond.fieldLink RX0 15 "NightSorters$Crew" "pace" "[I", Cond.methodLink RX0 41 arraycopyName, Cond.fieldLink RX0 19 "NightSorters$Crew" "towns" "[I", Cond.fieldLink RX0 22 "NightSorters$Crew" "tired" "[I", Cond.fieldLink RX0 25 "NightSorters$Crew" "withTea" "[I", Cond.fieldLink RX0 28 "NightSorters$Crew" "held" "[I"]
def wsX4_arrives_r3 : List Cond := [Cond.fieldLink RX0 31 "NightSorters$Crew" "minutesLeft" "[I", Cond.fieldLink RX0 34 "NightSorters$Crew" "sorted" "[I", Cond.methodLink RX4 123 yX3_runMinute, Cond.instanceMethod yX3_runMinute, Cond.selects RX3 yX3_runMinute yX3_runMinute, Cond.code yX3_runMinute cX3_runMinute 3 none, Cond.fieldLink RX3 43 "NightSorters$Crew" "size" "I", Cond.fieldLink RX3 46 "NightSorters$Crew" "held" "[I", Cond.fieldLink RX3 29 "NightSorters$Train" "line" "LNightSorters$Line;", Cond.fieldLink RX3 66 "NightSorters$Line" "jolts" "[I", Cond.methodLink RX3 50 yX3_takeLetter, Cond.instanceMethod yX3_takeLetter, Cond.selects RX3 yX3_takeLetter yX3_takeLetter, Cond.code yX3_takeLetter cX3_takeLetter 3 none, Cond.fieldLink RX3 72 "NightSorters$Crew" "towns" "[I", Cond.methodLink RX3 75 yX2_firstOnTable, Cond.instanceMethod yX2_firstOnTable, Cond.selects RX2 yX2_firstOnTable yX2_firstOnTable, Cond.code yX2_firstOnTable cX2_firstOnTable 3 (some .int), Cond.static yX4_hasTown, Cond.code yX4_hasTown cX4_hasTown 2 (some .boolean), Cond.methodLink RX3 78 yX2_moveToHands, Cond.instanceMethod yX2_moveToHands, Cond.selects RX2 yX2_moveToHands yX2_moveToHands]
def wsX4_arrives_r4 : List Cond := [Cond.code yX2_moveToHands cX2_moveToHands 3 none, Cond.methodLink RX2 37 yX2_move, Cond.instanceMethod yX2_move, Cond.selects RX2 yX2_move yX2_move, Cond.code yX2_move cX2_move 4 none, Cond.methodLink RX3 82 yX0_takeUp, Cond.instanceMethod yX0_takeUp, Cond.selects RX0 yX0_takeUp yX0_takeUp, Cond.code yX0_takeUp cX0_takeUp 3 none, Cond.methodLink RX0 37 yX0_minutesNeeded, Cond.instanceMethod yX0_minutesNeeded, Cond.selects RX0 yX0_minutesNeeded yX0_minutesNeeded, Cond.code yX0_minutesNeeded cX0_minutesNeeded 3 (some .int), Cond.methodLink RX3 54 yX3_workOn, Cond.instanceMethod yX3_workOn, Cond.selects RX3 yX3_workOn yX3_workOn, Cond.code yX3_workOn cX3_workOn 2 none, Cond.fieldLink RX3 85 "NightSorters$Crew" "minutesLeft" "[I", Cond.methodLink RX3 88 yX3_putLetter, Cond.instanceMethod yX3_putLetter, Cond.selects RX3 yX3_putLetter yX3_putLetter, Cond.code yX3_putLetter cX3_putLetter 3 none, Cond.fieldLink RX3 91 "NightSorters$Mail" "inHole" "[I", Cond.fieldLink RX3 94 "NightSorters$Mail" "town" "[I"]
def wsX4_arrives_r5 : List Cond := [Cond.fieldLink RX3 100 "NightSorters$Crew" "sorted" "[I", Cond.fieldLink RX3 103 "NightSorters$Crew" "tired" "[I", Cond.methodLink RX3 97 yX2_move, Cond.methodLink RX3 106 yX0_freeHands, Cond.instanceMethod yX0_freeHands, Cond.selects RX0 yX0_freeHands yX0_freeHands, Cond.code yX0_freeHands cX0_freeHands 2 none, Cond.methodLink RX3 57 yX1_passedIn, Cond.instanceMethod yX1_passedIn, Cond.selects RX1 yX1_passedIn yX1_passedIn, Cond.initialized RX1, Cond.code yX1_passedIn cX1_passedIn 3 (some .int), Cond.fieldLink RX1 9 "NightSorters$Line" "minutes" "[I", Cond.methodLink RX3 63 yX3_serve, Cond.instanceMethod yX3_serve, Cond.selects RX3 yX3_serve yX3_serve, Cond.code yX3_serve cX3_serve 3 none, Cond.fieldLink RX3 109 "NightSorters$Mail" "size" "I", Cond.methodLink RX3 110 yX2_isInBag, Cond.instanceMethod yX2_isInBag, Cond.selects RX2 yX2_isInBag yX2_isInBag, Cond.code yX2_isInBag cX2_isInBag 3 (some .boolean), Cond.methodLink RX3 114 yX3_hookIn, Cond.instanceMethod yX3_hookIn]
def wsX4_arrives_r6 : List Cond := [Cond.selects RX3 yX3_hookIn yX3_hookIn, Cond.code yX3_hookIn cX3_hookIn 3 none, Cond.static yX4_stationOf, Cond.code yX4_stationOf cX4_stationOf 1 (some .int), Cond.methodLink RX3 123 yX2_end, Cond.instanceMethod yX2_end, Cond.selects RX2 yX2_end yX2_end, Cond.code yX2_end cX2_end 4 none, Cond.methodLink RX3 120 yX3_hookOut, Cond.instanceMethod yX3_hookOut, Cond.selects RX3 yX3_hookOut yX3_hookOut, Cond.code yX3_hookOut cX3_hookOut 4 none, Cond.fieldLink RX3 127 "NightSorters$Mail" "place" "[I", Cond.fieldLink RX3 130 "NightSorters$Mail" "holder" "[I", Cond.methodLink RX3 69 yX3_shake, Cond.instanceMethod yX3_shake, Cond.selects RX3 yX3_shake yX3_shake, Cond.code yX3_shake cX3_shake 2 none, Cond.methodLink RX3 133 yX0_spillTea, Cond.instanceMethod yX0_spillTea, Cond.selects RX0 yX0_spillTea yX0_spillTea, Cond.code yX0_spillTea cX0_spillTea 2 none, Cond.methodLink RX3 136 yX2_fullestHole, Cond.instanceMethod yX2_fullestHole]
def wsX4_arrives_r7 : List Cond := [Cond.selects RX2 yX2_fullestHole yX2_fullestHole, Cond.code yX2_fullestHole cX2_fullestHole 3 (some .int), Cond.methodLink RX3 140 yX2_spillHole, Cond.instanceMethod yX2_spillHole, Cond.selects RX2 yX2_spillHole yX2_spillHole, Cond.code yX2_spillHole cX2_spillHole 3 none, Cond.methodLink RX3 143 yX0_tireAll, Cond.instanceMethod yX0_tireAll, Cond.selects RX0 yX0_tireAll yX0_tireAll, Cond.code yX0_tireAll cX0_tireAll 3 none]
def wsX4_arrives : List Cond := .code yX4_arrives cX4_arrives 4 (some .int) :: ((wsX4_arrives_r1 ++ (wsX4_arrives_r2 ++ (wsX4_arrives_r3 ++ (wsX4_arrives_r4 ++ (wsX4_arrives_r5 ++ (wsX4_arrives_r6 ++ wsX4_arrives_r7)))))) ++ wsX40 ++ wsX30 ++ wsX20 ++ wsX00 ++ wsX10 ++ (vx_atS RX4 130 "java/lang/IndexOutOfBoundsException" ["java/lang/RuntimeException", "java/lang/Exception"]).filter goodWord)
def wsX4_foresee_r1 : List Cond := [Cond.classLink RX4 126 "java/lang/IndexOutOfBoundsException", Cond.initialized "java/lang/IndexOutOfBoundsException", Cond.fieldLink RX4 21 "NightSorters" "trial" "LNightSorters$Train;", Cond.fieldLink RX4 17 "NightSorters" "train" "LNightSorters$Train;", Cond.fieldLink RX4 58 "NightSorters$Train" "mail" "LNightSorters$Mail;", Cond.fieldLink RX4 109 "NightSorters$Mail" "inPlace" "[I", Cond.methodLink RX4 28 yX4_checkArgument, Cond.static yX4_checkArgument, Cond.initialized RX4, Cond.code yX4_checkArgument cX4_checkArgument 3 none, Cond.classLink RX4 159 "java/lang/IllegalArgumentException", Cond.initialized "java/lang/IllegalArgumentException", Cond.methodLink RX4 116 yX3_copyFrom, Cond.instanceMethod yX3_copyFrom, Cond.selects RX3 yX3_copyFrom yX3_copyFrom, Cond.initialized RX3, Cond.code yX3_copyFrom cX3_copyFrom 2 none, Cond.fieldLink RX3 25 "NightSorters$Train" "minute" "I", Cond.fieldLink RX3 12 "NightSorters$Train" "mail" "LNightSorters$Mail;", Cond.fieldLink RX3 21 "NightSorters$Train" "crew" "LNightSorters$Crew;", Cond.methodLink RX3 33 yX2_copyFrom, Cond.instanceMethod yX2_copyFrom, Cond.selects RX2 yX2_copyFrom yX2_copyFrom, Cond.initialized RX2]
def wsX4_foresee_r2 : List Cond := [Cond.code yX2_copyFrom cX2_copyFrom 2 none, Cond.fieldLink RX2 9 "NightSorters$Mail" "size" "I", Cond.fieldLink RX2 15 "NightSorters$Mail" "town" "[I", Cond.methodLink RX2 48 arraycopyName, Cond.native arraycopyName, Cond.static arraycopyName, Cond.initialized "java/lang/System", Cond.fieldLink RX2 19 "NightSorters$Mail" "postedAt" "[I", Cond.fieldLink RX2 22 "NightSorters$Mail" "place" "[I", Cond.fieldLink RX2 25 "NightSorters$Mail" "holder" "[I", Cond.fieldLink RX2 28 "NightSorters$Mail" "endMinute" "[I", Cond.fieldLink RX2 31 "NightSorters$Mail" "inPlace" "[I", Cond.fieldLink RX2 34 "NightSorters$Mail" "inHole" "[I", Cond.methodLink RX3 37 yX0_copyFrom, Cond.instanceMethod yX0_copyFrom, Cond.selects RX0 yX0_copyFrom yX0_copyFrom, Cond.initialized RX0, Cond.code yX0_copyFrom cX0_copyFrom 2 none, Cond.fieldLink RX0 9 "NightSorters$Crew" "size" "I", Cond.fieldLink RX0 15 "NightSorters$Crew" "pace" "[I", Cond.methodLink RX0 41 arraycopyName, Cond.fieldLink RX0 19 "NightSorters$Crew" "towns" "[I", Cond.fieldLink RX0 22 "NightSorters$Crew" "tired" "[I", Cond.fieldLink RX0 25 "NightSorters$Crew" "withTea" "[I"]
def wsX4_foresee_r3 : List Cond := [Cond.fieldLink RX0 28 "NightSorters$Crew" "held" "[I", Cond.fieldLink RX0 31 "NightSorters$Crew" "minutesLeft" "[I", Cond.fieldLink RX0 34 "NightSorters$Crew" "sorted" "[I", Cond.methodLink RX4 112 yX3_run, Cond.instanceMethod yX3_run, Cond.selects RX3 yX3_run yX3_run, Cond.code yX3_run cX3_run 3 none, Cond.methodLink RX3 40 yX3_runMinute, Cond.instanceMethod yX3_runMinute, Cond.selects RX3 yX3_runMinute yX3_runMinute, Cond.code yX3_runMinute cX3_runMinute 3 none, Cond.fieldLink RX3 43 "NightSorters$Crew" "size" "I", Cond.fieldLink RX3 46 "NightSorters$Crew" "held" "[I", Cond.fieldLink RX3 29 "NightSorters$Train" "line" "LNightSorters$Line;", Cond.fieldLink RX3 66 "NightSorters$Line" "jolts" "[I", Cond.methodLink RX3 50 yX3_takeLetter, Cond.instanceMethod yX3_takeLetter, Cond.selects RX3 yX3_takeLetter yX3_takeLetter, Cond.code yX3_takeLetter cX3_takeLetter 3 none, Cond.fieldLink RX3 72 "NightSorters$Crew" "towns" "[I", Cond.methodLink RX3 75 yX2_firstOnTable, Cond.instanceMethod yX2_firstOnTable, Cond.selects RX2 yX2_firstOnTable yX2_firstOnTable, Cond.code yX2_firstOnTable cX2_firstOnTable 3 (some .int)]
def wsX4_foresee_r4 : List Cond := [Cond.static yX4_hasTown, Cond.code yX4_hasTown cX4_hasTown 2 (some .boolean), Cond.methodLink RX3 78 yX2_moveToHands, Cond.instanceMethod yX2_moveToHands, Cond.selects RX2 yX2_moveToHands yX2_moveToHands, Cond.code yX2_moveToHands cX2_moveToHands 3 none, Cond.methodLink RX2 37 yX2_move, Cond.instanceMethod yX2_move, Cond.selects RX2 yX2_move yX2_move, Cond.code yX2_move cX2_move 4 none, Cond.methodLink RX3 82 yX0_takeUp, Cond.instanceMethod yX0_takeUp, Cond.selects RX0 yX0_takeUp yX0_takeUp, Cond.code yX0_takeUp cX0_takeUp 3 none, Cond.methodLink RX0 37 yX0_minutesNeeded, Cond.instanceMethod yX0_minutesNeeded, Cond.selects RX0 yX0_minutesNeeded yX0_minutesNeeded, Cond.code yX0_minutesNeeded cX0_minutesNeeded 3 (some .int), Cond.methodLink RX3 54 yX3_workOn, Cond.instanceMethod yX3_workOn, Cond.selects RX3 yX3_workOn yX3_workOn, Cond.code yX3_workOn cX3_workOn 2 none, Cond.fieldLink RX3 85 "NightSorters$Crew" "minutesLeft" "[I", Cond.methodLink RX3 88 yX3_putLetter]
def wsX4_foresee_r5 : List Cond := [Cond.instanceMethod yX3_putLetter, Cond.selects RX3 yX3_putLetter yX3_putLetter, Cond.code yX3_putLetter cX3_putLetter 3 none, Cond.fieldLink RX3 91 "NightSorters$Mail" "inHole" "[I", Cond.fieldLink RX3 94 "NightSorters$Mail" "town" "[I", Cond.fieldLink RX3 100 "NightSorters$Crew" "sorted" "[I", Cond.fieldLink RX3 103 "NightSorters$Crew" "tired" "[I", Cond.methodLink RX3 97 yX2_move, Cond.methodLink RX3 106 yX0_freeHands, Cond.instanceMethod yX0_freeHands, Cond.selects RX0 yX0_freeHands yX0_freeHands, Cond.code yX0_freeHands cX0_freeHands 2 none, Cond.methodLink RX3 57 yX1_passedIn, Cond.instanceMethod yX1_passedIn, Cond.selects RX1 yX1_passedIn yX1_passedIn, Cond.initialized RX1, Cond.code yX1_passedIn cX1_passedIn 3 (some .int), Cond.fieldLink RX1 9 "NightSorters$Line" "minutes" "[I", Cond.methodLink RX3 63 yX3_serve, Cond.instanceMethod yX3_serve, Cond.selects RX3 yX3_serve yX3_serve, Cond.code yX3_serve cX3_serve 3 none, Cond.fieldLink RX3 109 "NightSorters$Mail" "size" "I", Cond.methodLink RX3 110 yX2_isInBag]
def wsX4_foresee_r6 : List Cond := [Cond.instanceMethod yX2_isInBag, Cond.selects RX2 yX2_isInBag yX2_isInBag, Cond.code yX2_isInBag cX2_isInBag 3 (some .boolean), Cond.methodLink RX3 114 yX3_hookIn, Cond.instanceMethod yX3_hookIn, Cond.selects RX3 yX3_hookIn yX3_hookIn, Cond.code yX3_hookIn cX3_hookIn 3 none, Cond.static yX4_stationOf, Cond.code yX4_stationOf cX4_stationOf 1 (some .int), Cond.methodLink RX3 123 yX2_end, Cond.instanceMethod yX2_end, Cond.selects RX2 yX2_end yX2_end, Cond.code yX2_end cX2_end 4 none, Cond.methodLink RX3 120 yX3_hookOut, Cond.instanceMethod yX3_hookOut, Cond.selects RX3 yX3_hookOut yX3_hookOut, Cond.code yX3_hookOut cX3_hookOut 4 none, Cond.fieldLink RX3 127 "NightSorters$Mail" "place" "[I", Cond.fieldLink RX3 130 "NightSorters$Mail" "holder" "[I", Cond.methodLink RX3 69 yX3_shake, Cond.instanceMethod yX3_shake, Cond.selects RX3 yX3_shake yX3_shake, Cond.code yX3_shake cX3_shake 2 none, Cond.methodLink RX3 133 yX0_spillTea]
def wsX4_foresee_r7 : List Cond := [Cond.instanceMethod yX0_spillTea, Cond.selects RX0 yX0_spillTea yX0_spillTea, Cond.code yX0_spillTea cX0_spillTea 2 none, Cond.methodLink RX3 136 yX2_fullestHole, Cond.instanceMethod yX2_fullestHole, Cond.selects RX2 yX2_fullestHole yX2_fullestHole, Cond.code yX2_fullestHole cX2_fullestHole 3 (some .int), Cond.methodLink RX3 140 yX2_spillHole, Cond.instanceMethod yX2_spillHole, Cond.selects RX2 yX2_spillHole yX2_spillHole, Cond.code yX2_spillHole cX2_spillHole 3 none, Cond.methodLink RX3 143 yX0_tireAll, Cond.instanceMethod yX0_tireAll, Cond.selects RX0 yX0_tireAll yX0_tireAll, Cond.code yX0_tireAll cX0_tireAll 3 none]
def wsX4_foresee : List Cond := .code yX4_foresee cX4_foresee 3 (some .int) :: ((wsX4_foresee_r1 ++ (wsX4_foresee_r2 ++ (wsX4_foresee_r3 ++ (wsX4_foresee_r4 ++ (wsX4_foresee_r5 ++ (wsX4_foresee_r6 ++ wsX4_foresee_r7)))))) ++ wsX40 ++ wsX30 ++ wsX20 ++ wsX00 ++ wsX10 ++ (vx_atS RX4 130 "java/lang/IndexOutOfBoundsException" ["java/lang/RuntimeException", "java/lang/Exception"]).filter goodWord ++ (vx_atS RX4 163 "java/lang/IllegalArgumentException" ["java/lang/RuntimeException", "java/lang/Exception"]).filter goodWord)
def wsX4_deliveredIfAssigned_r1 : List Cond := [Cond.fieldLink RX4 21 "NightSorters" "trial" "LNightSorters$Train;", Cond.fieldLink RX4 17 "NightSorters" "train" "LNightSorters$Train;", Cond.fieldLink RX4 74 "NightSorters$Train" "crew" "LNightSorters$Crew;", Cond.fieldLink RX4 86 "NightSorters$Crew" "towns" "[I", Cond.fieldLink RX4 58 "NightSorters$Train" "mail" "LNightSorters$Mail;", Cond.fieldLink RX4 109 "NightSorters$Mail" "inPlace" "[I", Cond.methodLink RX4 116 yX3_copyFrom, Cond.instanceMethod yX3_copyFrom, Cond.selects RX3 yX3_copyFrom yX3_copyFrom, Cond.initialized RX3, Cond.code yX3_copyFrom cX3_copyFrom 2 none, Cond.fieldLink RX3 25 "NightSorters$Train" "minute" "I", Cond.fieldLink RX3 12 "NightSorters$Train" "mail" "LNightSorters$Mail;", Cond.fieldLink RX3 21 "NightSorters$Train" "crew" "LNightSorters$Crew;", Cond.methodLink RX3 33 yX2_copyFrom, Cond.instanceMethod yX2_copyFrom, Cond.selects RX2 yX2_copyFrom yX2_copyFrom, Cond.initialized RX2, Cond.code yX2_copyFrom cX2_copyFrom 2 none, Cond.fieldLink RX2 9 "NightSorters$Mail" "size" "I", Cond.fieldLink RX2 15 "NightSorters$Mail" "town" "[I", Cond.methodLink RX2 48 arraycopyName, Cond.native arraycopyName, Cond.static arraycopyName]
def wsX4_deliveredIfAssigned_r2 : List Cond := [Cond.initialized "java/lang/System", Cond.fieldLink RX2 19 "NightSorters$Mail" "postedAt" "[I", Cond.fieldLink RX2 22 "NightSorters$Mail" "place" "[I", Cond.fieldLink RX2 25 "NightSorters$Mail" "holder" "[I", Cond.fieldLink RX2 28 "NightSorters$Mail" "endMinute" "[I", Cond.fieldLink RX2 31 "NightSorters$Mail" "inPlace" "[I", Cond.fieldLink RX2 34 "NightSorters$Mail" "inHole" "[I", Cond.methodLink RX3 37 yX0_copyFrom, Cond.instanceMethod yX0_copyFrom, Cond.selects RX0 yX0_copyFrom yX0_copyFrom, Cond.initialized RX0, Cond.code yX0_copyFrom cX0_copyFrom 2 none, Cond.fieldLink RX0 9 "NightSorters$Crew" "size" "I", Cond.fieldLink RX0 15 "NightSorters$Crew" "pace" "[I", Cond.methodLink RX0 41 arraycopyName, Cond.fieldLink RX0 19 "NightSorters$Crew" "towns" "[I", Cond.fieldLink RX0 22 "NightSorters$Crew" "tired" "[I", Cond.fieldLink RX0 25 "NightSorters$Crew" "withTea" "[I", Cond.fieldLink RX0 28 "NightSorters$Crew" "held" "[I", Cond.fieldLink RX0 31 "NightSorters$Crew" "minutesLeft" "[I", Cond.fieldLink RX0 34 "NightSorters$Crew" "sorted" "[I", Cond.methodLink RX4 112 yX3_run, Cond.instanceMethod yX3_run, Cond.selects RX3 yX3_run yX3_run]
def wsX4_deliveredIfAssigned_r3 : List Cond := [Cond.code yX3_run cX3_run 3 none, Cond.methodLink RX3 40 yX3_runMinute, Cond.instanceMethod yX3_runMinute, Cond.selects RX3 yX3_runMinute yX3_runMinute, Cond.code yX3_runMinute cX3_runMinute 3 none, Cond.fieldLink RX3 43 "NightSorters$Crew" "size" "I", Cond.fieldLink RX3 46 "NightSorters$Crew" "held" "[I", Cond.fieldLink RX3 29 "NightSorters$Train" "line" "LNightSorters$Line;", Cond.fieldLink RX3 66 "NightSorters$Line" "jolts" "[I", Cond.methodLink RX3 50 yX3_takeLetter, Cond.instanceMethod yX3_takeLetter, Cond.selects RX3 yX3_takeLetter yX3_takeLetter, Cond.code yX3_takeLetter cX3_takeLetter 3 none, Cond.fieldLink RX3 72 "NightSorters$Crew" "towns" "[I", Cond.methodLink RX3 75 yX2_firstOnTable, Cond.instanceMethod yX2_firstOnTable, Cond.selects RX2 yX2_firstOnTable yX2_firstOnTable, Cond.code yX2_firstOnTable cX2_firstOnTable 3 (some .int), Cond.static yX4_hasTown, Cond.initialized RX4, Cond.code yX4_hasTown cX4_hasTown 2 (some .boolean), Cond.methodLink RX3 78 yX2_moveToHands, Cond.instanceMethod yX2_moveToHands, Cond.selects RX2 yX2_moveToHands yX2_moveToHands]
def wsX4_deliveredIfAssigned_r4 : List Cond := [Cond.code yX2_moveToHands cX2_moveToHands 3 none, Cond.methodLink RX2 37 yX2_move, Cond.instanceMethod yX2_move, Cond.selects RX2 yX2_move yX2_move, Cond.code yX2_move cX2_move 4 none, Cond.methodLink RX3 82 yX0_takeUp, Cond.instanceMethod yX0_takeUp, Cond.selects RX0 yX0_takeUp yX0_takeUp, Cond.code yX0_takeUp cX0_takeUp 3 none, Cond.methodLink RX0 37 yX0_minutesNeeded, Cond.instanceMethod yX0_minutesNeeded, Cond.selects RX0 yX0_minutesNeeded yX0_minutesNeeded, Cond.code yX0_minutesNeeded cX0_minutesNeeded 3 (some .int), Cond.methodLink RX3 54 yX3_workOn, Cond.instanceMethod yX3_workOn, Cond.selects RX3 yX3_workOn yX3_workOn, Cond.code yX3_workOn cX3_workOn 2 none, Cond.fieldLink RX3 85 "NightSorters$Crew" "minutesLeft" "[I", Cond.methodLink RX3 88 yX3_putLetter, Cond.instanceMethod yX3_putLetter, Cond.selects RX3 yX3_putLetter yX3_putLetter, Cond.code yX3_putLetter cX3_putLetter 3 none, Cond.fieldLink RX3 91 "NightSorters$Mail" "inHole" "[I", Cond.fieldLink RX3 94 "NightSorters$Mail" "town" "[I"]
def wsX4_deliveredIfAssigned_r5 : List Cond := [Cond.fieldLink RX3 100 "NightSorters$Crew" "sorted" "[I", Cond.fieldLink RX3 103 "NightSorters$Crew" "tired" "[I", Cond.methodLink RX3 97 yX2_move, Cond.methodLink RX3 106 yX0_freeHands, Cond.instanceMethod yX0_freeHands, Cond.selects RX0 yX0_freeHands yX0_freeHands, Cond.code yX0_freeHands cX0_freeHands 2 none, Cond.methodLink RX3 57 yX1_passedIn, Cond.instanceMethod yX1_passedIn, Cond.selects RX1 yX1_passedIn yX1_passedIn, Cond.initialized RX1, Cond.code yX1_passedIn cX1_passedIn 3 (some .int), Cond.fieldLink RX1 9 "NightSorters$Line" "minutes" "[I", Cond.methodLink RX3 63 yX3_serve, Cond.instanceMethod yX3_serve, Cond.selects RX3 yX3_serve yX3_serve, Cond.code yX3_serve cX3_serve 3 none, Cond.fieldLink RX3 109 "NightSorters$Mail" "size" "I", Cond.methodLink RX3 110 yX2_isInBag, Cond.instanceMethod yX2_isInBag, Cond.selects RX2 yX2_isInBag yX2_isInBag, Cond.code yX2_isInBag cX2_isInBag 3 (some .boolean), Cond.methodLink RX3 114 yX3_hookIn, Cond.instanceMethod yX3_hookIn]
def wsX4_deliveredIfAssigned_r6 : List Cond := [Cond.selects RX3 yX3_hookIn yX3_hookIn, Cond.code yX3_hookIn cX3_hookIn 3 none, Cond.static yX4_stationOf, Cond.code yX4_stationOf cX4_stationOf 1 (some .int), Cond.methodLink RX3 123 yX2_end, Cond.instanceMethod yX2_end, Cond.selects RX2 yX2_end yX2_end, Cond.code yX2_end cX2_end 4 none, Cond.methodLink RX3 120 yX3_hookOut, Cond.instanceMethod yX3_hookOut, Cond.selects RX3 yX3_hookOut yX3_hookOut, Cond.code yX3_hookOut cX3_hookOut 4 none, Cond.fieldLink RX3 127 "NightSorters$Mail" "place" "[I", Cond.fieldLink RX3 130 "NightSorters$Mail" "holder" "[I", Cond.methodLink RX3 69 yX3_shake, Cond.instanceMethod yX3_shake, Cond.selects RX3 yX3_shake yX3_shake, Cond.code yX3_shake cX3_shake 2 none, Cond.methodLink RX3 133 yX0_spillTea, Cond.instanceMethod yX0_spillTea, Cond.selects RX0 yX0_spillTea yX0_spillTea, Cond.code yX0_spillTea cX0_spillTea 2 none, Cond.methodLink RX3 136 yX2_fullestHole, Cond.instanceMethod yX2_fullestHole]
def wsX4_deliveredIfAssigned_r7 : List Cond := [Cond.selects RX2 yX2_fullestHole yX2_fullestHole, Cond.code yX2_fullestHole cX2_fullestHole 3 (some .int), Cond.methodLink RX3 140 yX2_spillHole, Cond.instanceMethod yX2_spillHole, Cond.selects RX2 yX2_spillHole yX2_spillHole, Cond.code yX2_spillHole cX2_spillHole 3 none, Cond.methodLink RX3 143 yX0_tireAll, Cond.instanceMethod yX0_tireAll, Cond.selects RX0 yX0_tireAll yX0_tireAll, Cond.code yX0_tireAll cX0_tireAll 3 none]
def wsX4_deliveredIfAssigned : List Cond := .code yX4_deliveredIfAssigned cX4_deliveredIfAssigned 4 (some .int) :: ((wsX4_deliveredIfAssigned_r1 ++ (wsX4_deliveredIfAssigned_r2 ++ (wsX4_deliveredIfAssigned_r3 ++ (wsX4_deliveredIfAssigned_r4 ++ (wsX4_deliveredIfAssigned_r5 ++ (wsX4_deliveredIfAssigned_r6 ++ wsX4_deliveredIfAssigned_r7)))))) ++ wsX40 ++ wsX30 ++ wsX00 ++ wsX20 ++ wsX10)
def wsX4_advise_r1 : List Cond := [Cond.fieldLink RX4 17 "NightSorters" "train" "LNightSorters$Train;", Cond.fieldLink RX4 74 "NightSorters$Train" "crew" "LNightSorters$Crew;", Cond.fieldLink RX4 78 "NightSorters$Crew" "size" "I", Cond.fieldLink RX4 86 "NightSorters$Crew" "towns" "[I", Cond.methodLink RX4 24 yX4_checkIndex, Cond.static yX4_checkIndex, Cond.initialized RX4, Cond.code yX4_checkIndex cX4_checkIndex 2 none, Cond.classLink RX4 126 "java/lang/IndexOutOfBoundsException", Cond.initialized "java/lang/IndexOutOfBoundsException", Cond.methodLink RX4 28 yX4_checkArgument, Cond.static yX4_checkArgument, Cond.code yX4_checkArgument cX4_checkArgument 3 none, Cond.classLink RX4 159 "java/lang/IllegalArgumentException", Cond.initialized "java/lang/IllegalArgumentException", Cond.methodLink RX4 131 yX4_deliveredIfAssigned, Cond.instanceMethod yX4_deliveredIfAssigned, Cond.selects RX4 yX4_deliveredIfAssigned yX4_deliveredIfAssigned, Cond.code yX4_deliveredIfAssigned cX4_deliveredIfAssigned 4 (some .int), Cond.fieldLink RX4 21 "NightSorters" "trial" "LNightSorters$Train;", Cond.fieldLink RX4 58 "NightSorters$Train" "mail" "LNightSorters$Mail;", Cond.fieldLink RX4 109 "NightSorters$Mail" "inPlace" "[I", Cond.methodLink RX4 116 yX3_copyFrom, Cond.instanceMethod yX3_copyFrom]
def wsX4_advise_r2 : List Cond := [Cond.selects RX3 yX3_copyFrom yX3_copyFrom, Cond.initialized RX3, Cond.code yX3_copyFrom cX3_copyFrom 2 none, Cond.fieldLink RX3 25 "NightSorters$Train" "minute" "I", Cond.fieldLink RX3 12 "NightSorters$Train" "mail" "LNightSorters$Mail;", Cond.fieldLink RX3 21 "NightSorters$Train" "crew" "LNightSorters$Crew;", Cond.methodLink RX3 33 yX2_copyFrom, Cond.instanceMethod yX2_copyFrom, Cond.selects RX2 yX2_copyFrom yX2_copyFrom, Cond.initialized RX2, Cond.code yX2_copyFrom cX2_copyFrom 2 none, Cond.fieldLink RX2 9 "NightSorters$Mail" "size" "I", Cond.fieldLink RX2 15 "NightSorters$Mail" "town" "[I", Cond.methodLink RX2 48 arraycopyName, Cond.native arraycopyName, Cond.static arraycopyName, Cond.initialized "java/lang/System", Cond.fieldLink RX2 19 "NightSorters$Mail" "postedAt" "[I", Cond.fieldLink RX2 22 "NightSorters$Mail" "place" "[I", Cond.fieldLink RX2 25 "NightSorters$Mail" "holder" "[I", Cond.fieldLink RX2 28 "NightSorters$Mail" "endMinute" "[I", Cond.fieldLink RX2 31 "NightSorters$Mail" "inPlace" "[I", Cond.fieldLink RX2 34 "NightSorters$Mail" "inHole" "[I", Cond.methodLink RX3 37 yX0_copyFrom]
def wsX4_advise_r3 : List Cond := [Cond.instanceMethod yX0_copyFrom, Cond.selects RX0 yX0_copyFrom yX0_copyFrom, Cond.initialized RX0, Cond.code yX0_copyFrom cX0_copyFrom 2 none, Cond.fieldLink RX0 9 "NightSorters$Crew" "size" "I", Cond.fieldLink RX0 15 "NightSorters$Crew" "pace" "[I", Cond.methodLink RX0 41 arraycopyName, Cond.fieldLink RX0 19 "NightSorters$Crew" "towns" "[I", Cond.fieldLink RX0 22 "NightSorters$Crew" "tired" "[I", Cond.fieldLink RX0 25 "NightSorters$Crew" "withTea" "[I", Cond.fieldLink RX0 28 "NightSorters$Crew" "held" "[I", Cond.fieldLink RX0 31 "NightSorters$Crew" "minutesLeft" "[I", Cond.fieldLink RX0 34 "NightSorters$Crew" "sorted" "[I", Cond.methodLink RX4 112 yX3_run, Cond.instanceMethod yX3_run, Cond.selects RX3 yX3_run yX3_run, Cond.code yX3_run cX3_run 3 none, Cond.methodLink RX3 40 yX3_runMinute, Cond.instanceMethod yX3_runMinute, Cond.selects RX3 yX3_runMinute yX3_runMinute, Cond.code yX3_runMinute cX3_runMinute 3 none, Cond.fieldLink RX3 43 "NightSorters$Crew" "size" "I", Cond.fieldLink RX3 46 "NightSorters$Crew" "held" "[I", Cond.fieldLink RX3 29 "NightSorters$Train" "line" "LNightSorters$Line;"]
def wsX4_advise_r4 : List Cond := [Cond.fieldLink RX3 66 "NightSorters$Line" "jolts" "[I", Cond.methodLink RX3 50 yX3_takeLetter, Cond.instanceMethod yX3_takeLetter, Cond.selects RX3 yX3_takeLetter yX3_takeLetter, Cond.code yX3_takeLetter cX3_takeLetter 3 none, Cond.fieldLink RX3 72 "NightSorters$Crew" "towns" "[I", Cond.methodLink RX3 75 yX2_firstOnTable, Cond.instanceMethod yX2_firstOnTable, Cond.selects RX2 yX2_firstOnTable yX2_firstOnTable, Cond.code yX2_firstOnTable cX2_firstOnTable 3 (some .int), Cond.static yX4_hasTown, Cond.code yX4_hasTown cX4_hasTown 2 (some .boolean), Cond.methodLink RX3 78 yX2_moveToHands, Cond.instanceMethod yX2_moveToHands, Cond.selects RX2 yX2_moveToHands yX2_moveToHands, Cond.code yX2_moveToHands cX2_moveToHands 3 none, Cond.methodLink RX2 37 yX2_move, Cond.instanceMethod yX2_move, Cond.selects RX2 yX2_move yX2_move, Cond.code yX2_move cX2_move 4 none, Cond.methodLink RX3 82 yX0_takeUp, Cond.instanceMethod yX0_takeUp, Cond.selects RX0 yX0_takeUp yX0_takeUp, Cond.code yX0_takeUp cX0_takeUp 3 none]
def wsX4_advise_r5 : List Cond := [Cond.methodLink RX0 37 yX0_minutesNeeded, Cond.instanceMethod yX0_minutesNeeded, Cond.selects RX0 yX0_minutesNeeded yX0_minutesNeeded, Cond.code yX0_minutesNeeded cX0_minutesNeeded 3 (some .int), Cond.methodLink RX3 54 yX3_workOn, Cond.instanceMethod yX3_workOn, Cond.selects RX3 yX3_workOn yX3_workOn, Cond.code yX3_workOn cX3_workOn 2 none, Cond.fieldLink RX3 85 "NightSorters$Crew" "minutesLeft" "[I", Cond.methodLink RX3 88 yX3_putLetter, Cond.instanceMethod yX3_putLetter, Cond.selects RX3 yX3_putLetter yX3_putLetter, Cond.code yX3_putLetter cX3_putLetter 3 none, Cond.fieldLink RX3 91 "NightSorters$Mail" "inHole" "[I", Cond.fieldLink RX3 94 "NightSorters$Mail" "town" "[I", Cond.fieldLink RX3 100 "NightSorters$Crew" "sorted" "[I", Cond.fieldLink RX3 103 "NightSorters$Crew" "tired" "[I", Cond.methodLink RX3 97 yX2_move, Cond.methodLink RX3 106 yX0_freeHands, Cond.instanceMethod yX0_freeHands, Cond.selects RX0 yX0_freeHands yX0_freeHands, Cond.code yX0_freeHands cX0_freeHands 2 none, Cond.methodLink RX3 57 yX1_passedIn, Cond.instanceMethod yX1_passedIn]
def wsX4_advise_r6 : List Cond := [Cond.selects RX1 yX1_passedIn yX1_passedIn, Cond.initialized RX1, Cond.code yX1_passedIn cX1_passedIn 3 (some .int), Cond.fieldLink RX1 9 "NightSorters$Line" "minutes" "[I", Cond.methodLink RX3 63 yX3_serve, Cond.instanceMethod yX3_serve, Cond.selects RX3 yX3_serve yX3_serve, Cond.code yX3_serve cX3_serve 3 none, Cond.fieldLink RX3 109 "NightSorters$Mail" "size" "I", Cond.methodLink RX3 110 yX2_isInBag, Cond.instanceMethod yX2_isInBag, Cond.selects RX2 yX2_isInBag yX2_isInBag, Cond.code yX2_isInBag cX2_isInBag 3 (some .boolean), Cond.methodLink RX3 114 yX3_hookIn, Cond.instanceMethod yX3_hookIn, Cond.selects RX3 yX3_hookIn yX3_hookIn, Cond.code yX3_hookIn cX3_hookIn 3 none, Cond.static yX4_stationOf, Cond.code yX4_stationOf cX4_stationOf 1 (some .int), Cond.methodLink RX3 123 yX2_end, Cond.instanceMethod yX2_end, Cond.selects RX2 yX2_end yX2_end, Cond.code yX2_end cX2_end 4 none, Cond.methodLink RX3 120 yX3_hookOut]
def wsX4_advise_r7 : List Cond := [Cond.instanceMethod yX3_hookOut, Cond.selects RX3 yX3_hookOut yX3_hookOut, Cond.code yX3_hookOut cX3_hookOut 4 none, Cond.fieldLink RX3 127 "NightSorters$Mail" "place" "[I", Cond.fieldLink RX3 130 "NightSorters$Mail" "holder" "[I", Cond.methodLink RX3 69 yX3_shake, Cond.instanceMethod yX3_shake, Cond.selects RX3 yX3_shake yX3_shake, Cond.code yX3_shake cX3_shake 2 none, Cond.methodLink RX3 133 yX0_spillTea, Cond.instanceMethod yX0_spillTea, Cond.selects RX0 yX0_spillTea yX0_spillTea, Cond.code yX0_spillTea cX0_spillTea 2 none, Cond.methodLink RX3 136 yX2_fullestHole, Cond.instanceMethod yX2_fullestHole, Cond.selects RX2 yX2_fullestHole yX2_fullestHole, Cond.code yX2_fullestHole cX2_fullestHole 3 (some .int), Cond.methodLink RX3 140 yX2_spillHole, Cond.instanceMethod yX2_spillHole, Cond.selects RX2 yX2_spillHole yX2_spillHole, Cond.code yX2_spillHole cX2_spillHole 3 none, Cond.methodLink RX3 143 yX0_tireAll, Cond.instanceMethod yX0_tireAll, Cond.selects RX0 yX0_tireAll yX0_tireAll]
def wsX4_advise_r8 : List Cond := [Cond.code yX0_tireAll cX0_tireAll 3 none, Cond.methodLink RX4 135 yX4_hasTown]
def wsX4_advise : List Cond := .code yX4_advise cX4_advise 8 (some .int) :: ((wsX4_advise_r1 ++ (wsX4_advise_r2 ++ (wsX4_advise_r3 ++ (wsX4_advise_r4 ++ (wsX4_advise_r5 ++ (wsX4_advise_r6 ++ (wsX4_advise_r7 ++ wsX4_advise_r8))))))) ++ wsX40 ++ wsX30 ++ wsX00 ++ wsX20 ++ wsX10 ++ (vx_atS RX4 130 "java/lang/IndexOutOfBoundsException" ["java/lang/RuntimeException", "java/lang/Exception"]).filter goodWord ++ (vx_atS RX4 163 "java/lang/IllegalArgumentException" ["java/lang/RuntimeException", "java/lang/Exception"]).filter goodWord)
def wsX4_share : List Cond := .code yX4_share cX4_share 3 (some .double) :: ([.fieldLink RX4 17 "NightSorters" "train" "LNightSorters$Train;", .fieldLink RX4 58 "NightSorters$Train" "mail" "LNightSorters$Mail;", .fieldLink RX4 109 "NightSorters$Mail" "inPlace" "[I"] ++ wsX40 ++ wsX30 ++ wsX20)
def wsX4_digest_r1 : List Cond := [Cond.constantLong RX4 138 (1049), Cond.constantLong RX4 140 (31), Cond.fieldLink RX4 17 "NightSorters" "train" "LNightSorters$Train;", Cond.fieldLink RX4 74 "NightSorters$Train" "crew" "LNightSorters$Crew;", Cond.fieldLink RX4 78 "NightSorters$Crew" "size" "I", Cond.fieldLink RX4 58 "NightSorters$Train" "mail" "LNightSorters$Mail;", Cond.fieldLink RX4 62 "NightSorters$Mail" "size" "I", Cond.methodLink RX4 142 yX4_count, Cond.instanceMethod yX4_count, Cond.selects RX4 yX4_count yX4_count, Cond.initialized RX4, Cond.code yX4_count cX4_count 2 (some .int), Cond.fieldLink RX4 36 "NightSorters$Train" "minute" "I", Cond.fieldLink RX4 32 "NightSorters$Train" "line" "LNightSorters$Line;", Cond.fieldLink RX4 109 "NightSorters$Mail" "inPlace" "[I", Cond.methodLink RX4 24 yX4_checkIndex, Cond.static yX4_checkIndex, Cond.code yX4_checkIndex cX4_checkIndex 2 none, Cond.classLink RX4 126 "java/lang/IndexOutOfBoundsException", Cond.initialized "java/lang/IndexOutOfBoundsException", Cond.methodLink RX4 106 yX1_nextFrom, Cond.instanceMethod yX1_nextFrom, Cond.selects RX1 yX1_nextFrom yX1_nextFrom, Cond.initialized RX1]
def wsX4_digest_r2 : List Cond := [Cond.code yX1_nextFrom cX1_nextFrom 3 (some .int), Cond.fieldLink RX1 9 "NightSorters$Line" "minutes" "[I", Cond.methodLink RX4 145 yX4_station, Cond.instanceMethod yX4_station, Cond.selects RX4 yX4_station yX4_station, Cond.code yX4_station cX4_station 3 (some .int), Cond.fieldLink RX4 40 "NightSorters$Line" "minutes" "[I", Cond.fieldLink RX4 55 "NightSorters$Line" "jolts" "[I", Cond.methodLink RX4 102 yX2_lettersInBag, Cond.instanceMethod yX2_lettersInBag, Cond.selects RX2 yX2_lettersInBag yX2_lettersInBag, Cond.initialized RX2, Cond.code yX2_lettersInBag cX2_lettersInBag 4 (some .int), Cond.fieldLink RX2 9 "NightSorters$Mail" "size" "I", Cond.methodLink RX2 45 yX2_isInBag, Cond.instanceMethod yX2_isInBag, Cond.selects RX2 yX2_isInBag yX2_isInBag, Cond.code yX2_isInBag cX2_isInBag 3 (some .boolean), Cond.fieldLink RX2 22 "NightSorters$Mail" "place" "[I", Cond.fieldLink RX2 19 "NightSorters$Mail" "postedAt" "[I", Cond.methodLink RX4 148 yX4_hole, Cond.instanceMethod yX4_hole, Cond.selects RX4 yX4_hole yX4_hole, Cond.code yX4_hole cX4_hole 2 (some .int)]
def wsX4_digest_r3 : List Cond := [Cond.fieldLink RX4 99 "NightSorters$Mail" "inHole" "[I", Cond.methodLink RX4 151 yX4_sorter, Cond.instanceMethod yX4_sorter, Cond.selects RX4 yX4_sorter yX4_sorter, Cond.code yX4_sorter cX4_sorter 3 (some .int), Cond.methodLink RX4 98 yX0_fact, Cond.instanceMethod yX0_fact, Cond.selects RX0 yX0_fact yX0_fact, Cond.initialized RX0, Cond.code yX0_fact cX0_fact 3 (some .int), Cond.fieldLink RX0 15 "NightSorters$Crew" "pace" "[I", Cond.fieldLink RX0 19 "NightSorters$Crew" "towns" "[I", Cond.fieldLink RX0 22 "NightSorters$Crew" "tired" "[I", Cond.fieldLink RX0 25 "NightSorters$Crew" "withTea" "[I", Cond.fieldLink RX0 28 "NightSorters$Crew" "held" "[I", Cond.fieldLink RX0 31 "NightSorters$Crew" "minutesLeft" "[I", Cond.fieldLink RX0 34 "NightSorters$Crew" "sorted" "[I", Cond.methodLink RX4 154 yX4_letter, Cond.instanceMethod yX4_letter, Cond.selects RX4 yX4_letter yX4_letter, Cond.code yX4_letter cX4_letter 3 (some .int), Cond.methodLink RX4 95 yX2_fact, Cond.instanceMethod yX2_fact, Cond.selects RX2 yX2_fact yX2_fact]
def wsX4_digest_r4 : List Cond := [Cond.code yX2_fact cX2_fact 3 (some .int), Cond.fieldLink RX2 15 "NightSorters$Mail" "town" "[I", Cond.fieldLink RX2 25 "NightSorters$Mail" "holder" "[I", Cond.fieldLink RX2 28 "NightSorters$Mail" "endMinute" "[I"]
def wsX4_digest : List Cond := .code yX4_digest cX4_digest 5 (some .long) :: ((wsX4_digest_r1 ++ (wsX4_digest_r2 ++ (wsX4_digest_r3 ++ wsX4_digest_r4))) ++ wsX40 ++ wsX30 ++ wsX00 ++ wsX20 ++ wsX10 ++ (vx_atS RX4 130 "java/lang/IndexOutOfBoundsException" ["java/lang/RuntimeException", "java/lang/Exception"]).filter goodWord)
def wsX5_init : List Cond := .code yX5_init cX5_init 2 none :: ([.fieldLink RX5 3 "NightSortersModel$State" "this$0" "LNightSortersModel;", .methodLink RX5 9 objectInit, .instanceMethod objectInit, .code objectInit ⟨#[0xb1]⟩ 1 none, .arrayClass .int, .fieldLink RX5 15 "NightSortersModel$State" "where" "[I", .fieldLink RX5 19 "NightSortersModel$State" "who" "[I", .fieldLink RX5 22 "NightSortersModel$State" "when" "[I", .fieldLink RX5 25 "NightSortersModel$State" "towns" "[I", .fieldLink RX5 28 "NightSortersModel$State" "tired" "[I", .fieldLink RX5 31 "NightSortersModel$State" "tea" "[I", .fieldLink RX5 34 "NightSortersModel$State" "holds" "[I", .fieldLink RX5 37 "NightSortersModel$State" "left" "[I", .fieldLink RX5 40 "NightSortersModel$State" "sorted" "[I"] ++ wsX50)
def wsX5_copy : List Cond := .code yX5_copy cX5_copy 3 none :: ([.methodLink RX5 43 arraycopyName, .native arraycopyName, .static arraycopyName, .initialized "java/lang/System"])
def wsX5_become : List Cond := .code yX5_become cX5_become 2 none :: ([.fieldLink RX5 49 "NightSortersModel$State" "minute" "I", .fieldLink RX5 15 "NightSortersModel$State" "where" "[I", .fieldLink RX5 19 "NightSortersModel$State" "who" "[I", .fieldLink RX5 22 "NightSortersModel$State" "when" "[I", .fieldLink RX5 25 "NightSortersModel$State" "towns" "[I", .fieldLink RX5 28 "NightSortersModel$State" "tired" "[I", .fieldLink RX5 31 "NightSortersModel$State" "tea" "[I", .fieldLink RX5 34 "NightSortersModel$State" "holds" "[I", .fieldLink RX5 37 "NightSortersModel$State" "left" "[I", .fieldLink RX5 40 "NightSortersModel$State" "sorted" "[I", .methodLink RX5 53 yX5_copy, .instanceMethod yX5_copy, .selects RX5 yX5_copy yX5_copy, .initialized RX5, .code yX5_copy cX5_copy 3 none, .methodLink RX5 43 arraycopyName, .native arraycopyName, .static arraycopyName, .initialized "java/lang/System"] ++ wsX50)
def wsX5_are : List Cond := .code yX5_are cX5_are 4 (some .int) :: ([.fieldLink RX5 3 "NightSortersModel$State" "this$0" "LNightSortersModel;", .fieldLink RX5 15 "NightSortersModel$State" "where" "[I"] ++ wsX50 ++ wsX60)
def wsX5_inHole : List Cond := .code yX5_inHole cX5_inHole 4 (some .int) :: ([.fieldLink RX5 3 "NightSortersModel$State" "this$0" "LNightSortersModel;", .fieldLink RX5 15 "NightSortersModel$State" "where" "[I"] ++ wsX50 ++ wsX60)
def wsX5_firstFor : List Cond := .code yX5_firstFor cX5_firstFor 3 (some .int) :: ([.fieldLink RX5 3 "NightSortersModel$State" "this$0" "LNightSortersModel;", .fieldLink RX5 15 "NightSortersModel$State" "where" "[I", .fieldLink RX5 25 "NightSortersModel$State" "towns" "[I"] ++ wsX50 ++ wsX60)
def wsX5_take : List Cond := .code yX5_take cX5_take 3 none :: ([.fieldLink RX5 34 "NightSortersModel$State" "holds" "[I", .fieldLink RX5 37 "NightSortersModel$State" "left" "[I", .fieldLink RX5 3 "NightSortersModel$State" "this$0" "LNightSortersModel;", .fieldLink RX5 28 "NightSortersModel$State" "tired" "[I", .fieldLink RX5 31 "NightSortersModel$State" "tea" "[I", .methodLink RX5 70 Lib.Math.max.name, .static Lib.Math.max.name, .initialized "java/lang/Math", .code Lib.Math.max.name Lib.Math.max.code 2 (some .int), .fieldLink RX5 15 "NightSortersModel$State" "where" "[I", .fieldLink RX5 19 "NightSortersModel$State" "who" "[I", .methodLink RX5 63 yX5_firstFor, .instanceMethod yX5_firstFor, .selects RX5 yX5_firstFor yX5_firstFor, .initialized RX5, .code yX5_firstFor cX5_firstFor 3 (some .int), .fieldLink RX5 25 "NightSortersModel$State" "towns" "[I"] ++ wsX50 ++ wsX60)
def wsX5_let : List Cond := .code yX5_let cX5_let 4 none :: ([.fieldLink RX5 34 "NightSortersModel$State" "holds" "[I", .fieldLink RX5 15 "NightSortersModel$State" "where" "[I", .fieldLink RX5 19 "NightSortersModel$State" "who" "[I", .fieldLink RX5 37 "NightSortersModel$State" "left" "[I"] ++ wsX50)
def wsX5_work_r1 : List Cond := [Cond.fieldLink RX5 34 "NightSortersModel$State" "holds" "[I", Cond.fieldLink RX5 37 "NightSortersModel$State" "left" "[I", Cond.fieldLink RX5 3 "NightSortersModel$State" "this$0" "LNightSortersModel;", Cond.fieldLink RX5 40 "NightSortersModel$State" "sorted" "[I", Cond.fieldLink RX5 28 "NightSortersModel$State" "tired" "[I", Cond.methodLink RX5 76 yX5_take, Cond.instanceMethod yX5_take, Cond.selects RX5 yX5_take yX5_take, Cond.initialized RX5, Cond.code yX5_take cX5_take 3 none, Cond.fieldLink RX5 31 "NightSortersModel$State" "tea" "[I", Cond.methodLink RX5 70 Lib.Math.max.name, Cond.static Lib.Math.max.name, Cond.initialized "java/lang/Math", Cond.code Lib.Math.max.name Lib.Math.max.code 2 (some .int), Cond.fieldLink RX5 15 "NightSortersModel$State" "where" "[I", Cond.fieldLink RX5 19 "NightSortersModel$State" "who" "[I", Cond.methodLink RX5 63 yX5_firstFor, Cond.instanceMethod yX5_firstFor, Cond.selects RX5 yX5_firstFor yX5_firstFor, Cond.code yX5_firstFor cX5_firstFor 3 (some .int), Cond.fieldLink RX5 25 "NightSortersModel$State" "towns" "[I", Cond.methodLink RX5 80 yX5_inHole, Cond.instanceMethod yX5_inHole]
def wsX5_work_r2 : List Cond := [Cond.selects RX5 yX5_inHole yX5_inHole, Cond.code yX5_inHole cX5_inHole 4 (some .int), Cond.methodLink RX5 83 yX5_let, Cond.instanceMethod yX5_let, Cond.selects RX5 yX5_let yX5_let, Cond.code yX5_let cX5_let 4 none]
def wsX5_work : List Cond := .code yX5_work cX5_work 3 none :: ((wsX5_work_r1 ++ wsX5_work_r2) ++ wsX50 ++ wsX60)
def wsX5_end : List Cond := .code yX5_end cX5_end 3 none :: ([.fieldLink RX5 15 "NightSortersModel$State" "where" "[I", .fieldLink RX5 19 "NightSortersModel$State" "who" "[I", .fieldLink RX5 22 "NightSortersModel$State" "when" "[I", .fieldLink RX5 49 "NightSortersModel$State" "minute" "I", .methodLink RX5 83 yX5_let, .instanceMethod yX5_let, .selects RX5 yX5_let yX5_let, .initialized RX5, .code yX5_let cX5_let 4 none, .fieldLink RX5 34 "NightSortersModel$State" "holds" "[I", .fieldLink RX5 37 "NightSortersModel$State" "left" "[I"] ++ wsX50)
def wsX5_passStation : List Cond := .code yX5_passStation cX5_passStation 4 none :: ([.fieldLink RX5 3 "NightSortersModel$State" "this$0" "LNightSortersModel;", .fieldLink RX5 15 "NightSortersModel$State" "where" "[I", .methodLink RX5 87 yX5_end, .instanceMethod yX5_end, .selects RX5 yX5_end yX5_end, .initialized RX5, .code yX5_end cX5_end 3 none, .fieldLink RX5 19 "NightSortersModel$State" "who" "[I", .fieldLink RX5 22 "NightSortersModel$State" "when" "[I", .fieldLink RX5 49 "NightSortersModel$State" "minute" "I", .methodLink RX5 83 yX5_let, .instanceMethod yX5_let, .selects RX5 yX5_let yX5_let, .code yX5_let cX5_let 4 none, .fieldLink RX5 34 "NightSortersModel$State" "holds" "[I", .fieldLink RX5 37 "NightSortersModel$State" "left" "[I"] ++ wsX50 ++ wsX60)
def wsX5_shake : List Cond := .code yX5_shake cX5_shake 4 none :: ([.fieldLink RX5 3 "NightSortersModel$State" "this$0" "LNightSortersModel;", .fieldLink RX5 31 "NightSortersModel$State" "tea" "[I", .fieldLink RX5 28 "NightSortersModel$State" "tired" "[I", .fieldLink RX5 15 "NightSortersModel$State" "where" "[I", .methodLink RX5 80 yX5_inHole, .instanceMethod yX5_inHole, .selects RX5 yX5_inHole yX5_inHole, .initialized RX5, .code yX5_inHole cX5_inHole 4 (some .int)] ++ wsX50 ++ wsX60)
def wsX5_pass_r1 : List Cond := [Cond.fieldLink RX5 3 "NightSortersModel$State" "this$0" "LNightSortersModel;", Cond.fieldLink RX5 49 "NightSortersModel$State" "minute" "I", Cond.methodLink RX5 96 yX5_work, Cond.instanceMethod yX5_work, Cond.selects RX5 yX5_work yX5_work, Cond.initialized RX5, Cond.code yX5_work cX5_work 3 none, Cond.fieldLink RX5 34 "NightSortersModel$State" "holds" "[I", Cond.fieldLink RX5 37 "NightSortersModel$State" "left" "[I", Cond.fieldLink RX5 40 "NightSortersModel$State" "sorted" "[I", Cond.fieldLink RX5 28 "NightSortersModel$State" "tired" "[I", Cond.methodLink RX5 76 yX5_take, Cond.instanceMethod yX5_take, Cond.selects RX5 yX5_take yX5_take, Cond.code yX5_take cX5_take 3 none, Cond.fieldLink RX5 31 "NightSortersModel$State" "tea" "[I", Cond.methodLink RX5 70 Lib.Math.max.name, Cond.static Lib.Math.max.name, Cond.initialized "java/lang/Math", Cond.code Lib.Math.max.name Lib.Math.max.code 2 (some .int), Cond.fieldLink RX5 15 "NightSortersModel$State" "where" "[I", Cond.fieldLink RX5 19 "NightSortersModel$State" "who" "[I", Cond.methodLink RX5 63 yX5_firstFor, Cond.instanceMethod yX5_firstFor]
def wsX5_pass_r2 : List Cond := [Cond.selects RX5 yX5_firstFor yX5_firstFor, Cond.code yX5_firstFor cX5_firstFor 3 (some .int), Cond.fieldLink RX5 25 "NightSortersModel$State" "towns" "[I", Cond.methodLink RX5 80 yX5_inHole, Cond.instanceMethod yX5_inHole, Cond.selects RX5 yX5_inHole yX5_inHole, Cond.code yX5_inHole cX5_inHole 4 (some .int), Cond.methodLink RX5 83 yX5_let, Cond.instanceMethod yX5_let, Cond.selects RX5 yX5_let yX5_let, Cond.code yX5_let cX5_let 4 none, Cond.methodLink RX5 99 yX5_are, Cond.instanceMethod yX5_are, Cond.selects RX5 yX5_are yX5_are, Cond.code yX5_are cX5_are 4 (some .int), Cond.methodLink RX5 105 yX5_passStation, Cond.instanceMethod yX5_passStation, Cond.selects RX5 yX5_passStation yX5_passStation, Cond.code yX5_passStation cX5_passStation 4 none, Cond.methodLink RX5 87 yX5_end, Cond.instanceMethod yX5_end, Cond.selects RX5 yX5_end yX5_end, Cond.code yX5_end cX5_end 3 none, Cond.fieldLink RX5 22 "NightSortersModel$State" "when" "[I"]
def wsX5_pass_r3 : List Cond := [Cond.methodLink RX5 111 yX5_shake, Cond.instanceMethod yX5_shake, Cond.selects RX5 yX5_shake yX5_shake, Cond.code yX5_shake cX5_shake 4 none]
def wsX5_pass : List Cond := .code yX5_pass cX5_pass 3 (some .int) :: ((wsX5_pass_r1 ++ (wsX5_pass_r2 ++ wsX5_pass_r3)) ++ wsX50 ++ wsX60)
def wsX5_pass__r1 : List Cond := [Cond.methodLink RX5 114 yX5_pass, Cond.instanceMethod yX5_pass, Cond.selects RX5 yX5_pass yX5_pass, Cond.initialized RX5, Cond.code yX5_pass cX5_pass 3 (some .int), Cond.fieldLink RX5 3 "NightSortersModel$State" "this$0" "LNightSortersModel;", Cond.fieldLink RX5 49 "NightSortersModel$State" "minute" "I", Cond.methodLink RX5 96 yX5_work, Cond.instanceMethod yX5_work, Cond.selects RX5 yX5_work yX5_work, Cond.code yX5_work cX5_work 3 none, Cond.fieldLink RX5 34 "NightSortersModel$State" "holds" "[I", Cond.fieldLink RX5 37 "NightSortersModel$State" "left" "[I", Cond.fieldLink RX5 40 "NightSortersModel$State" "sorted" "[I", Cond.fieldLink RX5 28 "NightSortersModel$State" "tired" "[I", Cond.methodLink RX5 76 yX5_take, Cond.instanceMethod yX5_take, Cond.selects RX5 yX5_take yX5_take, Cond.code yX5_take cX5_take 3 none, Cond.fieldLink RX5 31 "NightSortersModel$State" "tea" "[I", Cond.methodLink RX5 70 Lib.Math.max.name, Cond.static Lib.Math.max.name, Cond.initialized "java/lang/Math", Cond.code Lib.Math.max.name Lib.Math.max.code 2 (some .int)]
def wsX5_pass__r2 : List Cond := [Cond.fieldLink RX5 15 "NightSortersModel$State" "where" "[I", Cond.fieldLink RX5 19 "NightSortersModel$State" "who" "[I", Cond.methodLink RX5 63 yX5_firstFor, Cond.instanceMethod yX5_firstFor, Cond.selects RX5 yX5_firstFor yX5_firstFor, Cond.code yX5_firstFor cX5_firstFor 3 (some .int), Cond.fieldLink RX5 25 "NightSortersModel$State" "towns" "[I", Cond.methodLink RX5 80 yX5_inHole, Cond.instanceMethod yX5_inHole, Cond.selects RX5 yX5_inHole yX5_inHole, Cond.code yX5_inHole cX5_inHole 4 (some .int), Cond.methodLink RX5 83 yX5_let, Cond.instanceMethod yX5_let, Cond.selects RX5 yX5_let yX5_let, Cond.code yX5_let cX5_let 4 none, Cond.methodLink RX5 99 yX5_are, Cond.instanceMethod yX5_are, Cond.selects RX5 yX5_are yX5_are, Cond.code yX5_are cX5_are 4 (some .int), Cond.methodLink RX5 105 yX5_passStation, Cond.instanceMethod yX5_passStation, Cond.selects RX5 yX5_passStation yX5_passStation, Cond.code yX5_passStation cX5_passStation 4 none, Cond.methodLink RX5 87 yX5_end]
def wsX5_pass__r3 : List Cond := [Cond.instanceMethod yX5_end, Cond.selects RX5 yX5_end yX5_end, Cond.code yX5_end cX5_end 3 none, Cond.fieldLink RX5 22 "NightSortersModel$State" "when" "[I", Cond.methodLink RX5 111 yX5_shake, Cond.instanceMethod yX5_shake, Cond.selects RX5 yX5_shake yX5_shake, Cond.code yX5_shake cX5_shake 4 none]
def wsX5_pass_ : List Cond := .code yX5_pass_ cX5_pass_ 4 (some .int) :: ((wsX5_pass__r1 ++ (wsX5_pass__r2 ++ wsX5_pass__r3)) ++ wsX50 ++ wsX60)
def wsX6_init_r1 : List Cond := [Cond.methodLink RX6 1 objectInit, Cond.instanceMethod objectInit, Cond.code objectInit ⟨#[0xb1]⟩ 1 none, Cond.arrayClass .int, Cond.fieldLink RX6 9 "NightSortersModel" "passes" "[I", Cond.fieldLink RX6 13 "NightSortersModel" "jolt" "[I", Cond.fieldLink RX6 16 "NightSortersModel" "town" "[I", Cond.fieldLink RX6 19 "NightSortersModel" "station" "[I", Cond.fieldLink RX6 22 "NightSortersModel" "pace" "[I", Cond.classLink RX6 25 RX5, Cond.instantiable RX5 11, Cond.initialized RX5, Cond.fieldLink RX6 30 "NightSortersModel" "s" "LNightSortersModel$State;", Cond.fieldLink RX6 34 "NightSortersModel" "ahead" "LNightSortersModel$State;", Cond.instanceMethod yX5_init, Cond.code yX5_init cX5_init 2 none, Cond.fieldLink RX5 3 "NightSortersModel$State" "this$0" "LNightSortersModel;", Cond.methodLink RX5 9 objectInit, Cond.fieldLink RX5 15 "NightSortersModel$State" "where" "[I", Cond.fieldLink RX5 19 "NightSortersModel$State" "who" "[I", Cond.fieldLink RX5 22 "NightSortersModel$State" "when" "[I", Cond.fieldLink RX5 25 "NightSortersModel$State" "towns" "[I", Cond.fieldLink RX5 28 "NightSortersModel$State" "tired" "[I", Cond.fieldLink RX5 31 "NightSortersModel$State" "tea" "[I"]
def wsX6_init_r2 : List Cond := [Cond.fieldLink RX5 34 "NightSortersModel$State" "holds" "[I", Cond.fieldLink RX5 37 "NightSortersModel$State" "left" "[I", Cond.fieldLink RX5 40 "NightSortersModel$State" "sorted" "[I"]
def wsX6_init : List Cond := .code yX6_init cX6_init 2 none :: ((wsX6_init_r1 ++ wsX6_init_r2) ++ wsX60 ++ wsX50)
def wsX6_thrown : List Cond := .code yX6_thrown cX6_thrown 1 (some .int) :: ([.fieldLink RX6 37 "NightSortersModel" "thrown" "I"] ++ wsX60)
def wsX6_no : List Cond := .code yX6_no cX6_no 2 (some .int) :: ([.fieldLink RX6 37 "NightSortersModel" "thrown" "I"] ++ wsX60)
def wsX6_isIn : List Cond := .code yX6_isIn cX6_isIn 3 (some .boolean) :: ([])
def wsX6_isStation : List Cond := .code yX6_isStation cX6_isStation 1 (some .boolean) :: ([.methodLink RX6 41 yX6_isIn, .static yX6_isIn, .initialized RX6, .code yX6_isIn cX6_isIn 3 (some .boolean)])
def wsX6_isTown : List Cond := .code yX6_isTown cX6_isTown 1 (some .boolean) :: ([.methodLink RX6 41 yX6_isIn, .static yX6_isIn, .initialized RX6, .code yX6_isIn cX6_isIn 3 (some .boolean)])
def wsX6_isSet : List Cond := .code yX6_isSet cX6_isSet 1 (some .boolean) :: ([.constant RX6 45 (65535), .methodLink RX6 41 yX6_isIn, .static yX6_isIn, .initialized RX6, .code yX6_isIn cX6_isIn 3 (some .boolean)])
def wsX6_isLetter : List Cond := .code yX6_isLetter cX6_isLetter 2 (some .boolean) :: ([.fieldLink RX6 46 "NightSortersModel" "letters" "I", .methodLink RX6 41 yX6_isIn, .static yX6_isIn, .initialized RX6, .code yX6_isIn cX6_isIn 3 (some .boolean)] ++ wsX60)
def wsX6_isSorter : List Cond := .code yX6_isSorter cX6_isSorter 2 (some .boolean) :: ([.fieldLink RX6 49 "NightSortersModel" "sorters" "I", .methodLink RX6 41 yX6_isIn, .static yX6_isIn, .initialized RX6, .code yX6_isIn cX6_isIn 3 (some .boolean)] ++ wsX60)
def wsX6_wouldRise : List Cond := .code yX6_wouldRise cX6_wouldRise 3 (some .boolean) :: ([.fieldLink RX6 9 "NightSortersModel" "passes" "[I"] ++ wsX60)
def wsX6_setStation : List Cond := .code yX6_setStation cX6_setStation 5 (some .int) :: ([.fieldLink RX6 37 "NightSortersModel" "thrown" "I", .fieldLink RX6 30 "NightSortersModel" "s" "LNightSortersModel$State;", .fieldLink RX6 9 "NightSortersModel" "passes" "[I", .fieldLink RX6 13 "NightSortersModel" "jolt" "[I", .methodLink RX6 52 yX6_isStation, .static yX6_isStation, .initialized RX6, .code yX6_isStation cX6_isStation 1 (some .boolean), .methodLink RX6 41 yX6_isIn, .static yX6_isIn, .code yX6_isIn cX6_isIn 3 (some .boolean), .methodLink RX6 56 yX6_no, .instanceMethod yX6_no, .selects RX6 yX6_no yX6_no, .code yX6_no cX6_no 2 (some .int), .methodLink RX6 63 yX6_wouldRise, .instanceMethod yX6_wouldRise, .selects RX6 yX6_wouldRise yX6_wouldRise, .code yX6_wouldRise cX6_wouldRise 3 (some .boolean)] ++ wsX60 ++ wsX50)
def wsX6_post : List Cond := .code yX6_post cX6_post 3 (some .int) :: ([.fieldLink RX6 37 "NightSortersModel" "thrown" "I", .fieldLink RX6 46 "NightSortersModel" "letters" "I", .fieldLink RX6 19 "NightSortersModel" "station" "[I", .fieldLink RX6 16 "NightSortersModel" "town" "[I", .fieldLink RX6 30 "NightSortersModel" "s" "LNightSortersModel$State;", .methodLink RX6 52 yX6_isStation, .static yX6_isStation, .initialized RX6, .code yX6_isStation cX6_isStation 1 (some .boolean), .methodLink RX6 41 yX6_isIn, .static yX6_isIn, .code yX6_isIn cX6_isIn 3 (some .boolean), .methodLink RX6 67 yX6_isTown, .static yX6_isTown, .code yX6_isTown cX6_isTown 1 (some .boolean), .methodLink RX6 56 yX6_no, .instanceMethod yX6_no, .selects RX6 yX6_no yX6_no, .code yX6_no cX6_no 2 (some .int)] ++ wsX60 ++ wsX50)
def wsX6_hire : List Cond := .code yX6_hire cX6_hire 3 (some .int) :: ([.fieldLink RX6 37 "NightSortersModel" "thrown" "I", .fieldLink RX6 49 "NightSortersModel" "sorters" "I", .fieldLink RX6 22 "NightSortersModel" "pace" "[I", .fieldLink RX6 30 "NightSortersModel" "s" "LNightSortersModel$State;", .methodLink RX6 41 yX6_isIn, .static yX6_isIn, .initialized RX6, .code yX6_isIn cX6_isIn 3 (some .boolean), .methodLink RX6 76 yX6_isSet, .static yX6_isSet, .code yX6_isSet cX6_isSet 1 (some .boolean), .constant RX6 45 (65535), .methodLink RX6 56 yX6_no, .instanceMethod yX6_no, .selects RX6 yX6_no yX6_no, .code yX6_no cX6_no 2 (some .int)] ++ wsX60 ++ wsX50)
def wsX6_assign : List Cond := .code yX6_assign cX6_assign 4 (some .int) :: ([.fieldLink RX6 37 "NightSortersModel" "thrown" "I", .fieldLink RX6 30 "NightSortersModel" "s" "LNightSortersModel$State;", .methodLink RX6 85 yX6_isSorter, .instanceMethod yX6_isSorter, .selects RX6 yX6_isSorter yX6_isSorter, .initialized RX6, .code yX6_isSorter cX6_isSorter 2 (some .boolean), .fieldLink RX6 49 "NightSortersModel" "sorters" "I", .methodLink RX6 41 yX6_isIn, .static yX6_isIn, .code yX6_isIn cX6_isIn 3 (some .boolean), .methodLink RX6 56 yX6_no, .instanceMethod yX6_no, .selects RX6 yX6_no yX6_no, .code yX6_no cX6_no 2 (some .int), .methodLink RX6 76 yX6_isSet, .static yX6_isSet, .code yX6_isSet cX6_isSet 1 (some .boolean), .constant RX6 45 (65535)] ++ wsX60 ++ wsX50)
def wsX6_tea : List Cond := .code yX6_tea cX6_tea 3 (some .int) :: ([.fieldLink RX6 37 "NightSortersModel" "thrown" "I", .fieldLink RX6 30 "NightSortersModel" "s" "LNightSortersModel$State;", .methodLink RX6 85 yX6_isSorter, .instanceMethod yX6_isSorter, .selects RX6 yX6_isSorter yX6_isSorter, .initialized RX6, .code yX6_isSorter cX6_isSorter 2 (some .boolean), .fieldLink RX6 49 "NightSortersModel" "sorters" "I", .methodLink RX6 41 yX6_isIn, .static yX6_isIn, .code yX6_isIn cX6_isIn 3 (some .boolean), .methodLink RX6 56 yX6_no, .instanceMethod yX6_no, .selects RX6 yX6_no yX6_no, .code yX6_no cX6_no 2 (some .int)] ++ wsX60 ++ wsX50)
def wsX6_letterTold : List Cond := .code yX6_letterTold cX6_letterTold 4 (some .int) :: ([.arrayClass .int, .fieldLink RX6 30 "NightSortersModel" "s" "LNightSortersModel$State;", .fieldLink RX6 16 "NightSortersModel" "town" "[I", .fieldLink RX6 19 "NightSortersModel" "station" "[I"] ++ wsX60 ++ wsX50)
def wsX6_letter : List Cond := .code yX6_letter cX6_letter 3 (some .int) :: ([.fieldLink RX6 37 "NightSortersModel" "thrown" "I", .methodLink RX6 97 yX6_isLetter, .instanceMethod yX6_isLetter, .selects RX6 yX6_isLetter yX6_isLetter, .initialized RX6, .code yX6_isLetter cX6_isLetter 2 (some .boolean), .fieldLink RX6 46 "NightSortersModel" "letters" "I", .methodLink RX6 41 yX6_isIn, .static yX6_isIn, .code yX6_isIn cX6_isIn 3 (some .boolean), .methodLink RX6 100 yX6_letterTold, .instanceMethod yX6_letterTold, .selects RX6 yX6_letterTold yX6_letterTold, .code yX6_letterTold cX6_letterTold 4 (some .int), .arrayClass .int, .fieldLink RX6 30 "NightSortersModel" "s" "LNightSortersModel$State;", .fieldLink RX6 16 "NightSortersModel" "town" "[I", .fieldLink RX6 19 "NightSortersModel" "station" "[I", .methodLink RX6 56 yX6_no, .instanceMethod yX6_no, .selects RX6 yX6_no yX6_no, .code yX6_no cX6_no 2 (some .int)] ++ wsX60 ++ wsX50)
def wsX6_sorterTold : List Cond := .code yX6_sorterTold cX6_sorterTold 4 (some .int) :: ([.arrayClass .int, .fieldLink RX6 22 "NightSortersModel" "pace" "[I", .fieldLink RX6 30 "NightSortersModel" "s" "LNightSortersModel$State;"] ++ wsX60 ++ wsX50)
def wsX6_sorter : List Cond := .code yX6_sorter cX6_sorter 3 (some .int) :: ([.fieldLink RX6 37 "NightSortersModel" "thrown" "I", .methodLink RX6 85 yX6_isSorter, .instanceMethod yX6_isSorter, .selects RX6 yX6_isSorter yX6_isSorter, .initialized RX6, .code yX6_isSorter cX6_isSorter 2 (some .boolean), .fieldLink RX6 49 "NightSortersModel" "sorters" "I", .methodLink RX6 41 yX6_isIn, .static yX6_isIn, .code yX6_isIn cX6_isIn 3 (some .boolean), .methodLink RX6 110 yX6_sorterTold, .instanceMethod yX6_sorterTold, .selects RX6 yX6_sorterTold yX6_sorterTold, .code yX6_sorterTold cX6_sorterTold 4 (some .int), .arrayClass .int, .fieldLink RX6 22 "NightSortersModel" "pace" "[I", .fieldLink RX6 30 "NightSortersModel" "s" "LNightSortersModel$State;", .methodLink RX6 56 yX6_no, .instanceMethod yX6_no, .selects RX6 yX6_no yX6_no, .code yX6_no cX6_no 2 (some .int)] ++ wsX60 ++ wsX50)
def wsX6_hole : List Cond := .code yX6_hole cX6_hole 2 (some .int) :: ([.fieldLink RX6 37 "NightSortersModel" "thrown" "I", .fieldLink RX6 30 "NightSortersModel" "s" "LNightSortersModel$State;", .methodLink RX6 67 yX6_isTown, .static yX6_isTown, .initialized RX6, .code yX6_isTown cX6_isTown 1 (some .boolean), .methodLink RX6 41 yX6_isIn, .static yX6_isIn, .code yX6_isIn cX6_isIn 3 (some .boolean), .methodLink RX6 113 yX5_inHole, .instanceMethod yX5_inHole, .selects RX5 yX5_inHole yX5_inHole, .initialized RX5, .code yX5_inHole cX5_inHole 4 (some .int), .fieldLink RX5 3 "NightSortersModel$State" "this$0" "LNightSortersModel;", .fieldLink RX5 15 "NightSortersModel$State" "where" "[I", .methodLink RX6 56 yX6_no, .instanceMethod yX6_no, .selects RX6 yX6_no yX6_no, .code yX6_no cX6_no 2 (some .int)] ++ wsX60 ++ wsX50)
def wsX6_stationTold : List Cond := .code yX6_stationTold cX6_stationTold 5 (some .int) :: ([.fieldLink RX6 46 "NightSortersModel" "letters" "I", .fieldLink RX6 30 "NightSortersModel" "s" "LNightSortersModel$State;", .fieldLink RX6 19 "NightSortersModel" "station" "[I", .fieldLink RX6 9 "NightSortersModel" "passes" "[I", .fieldLink RX6 13 "NightSortersModel" "jolt" "[I"] ++ wsX60 ++ wsX50)
def wsX6_station : List Cond := .code yX6_station cX6_station 3 (some .int) :: ([.fieldLink RX6 37 "NightSortersModel" "thrown" "I", .methodLink RX6 52 yX6_isStation, .static yX6_isStation, .initialized RX6, .code yX6_isStation cX6_isStation 1 (some .boolean), .methodLink RX6 41 yX6_isIn, .static yX6_isIn, .code yX6_isIn cX6_isIn 3 (some .boolean), .methodLink RX6 116 yX6_stationTold, .instanceMethod yX6_stationTold, .selects RX6 yX6_stationTold yX6_stationTold, .code yX6_stationTold cX6_stationTold 5 (some .int), .fieldLink RX6 46 "NightSortersModel" "letters" "I", .fieldLink RX6 30 "NightSortersModel" "s" "LNightSortersModel$State;", .fieldLink RX6 19 "NightSortersModel" "station" "[I", .fieldLink RX6 9 "NightSortersModel" "passes" "[I", .fieldLink RX6 13 "NightSortersModel" "jolt" "[I", .methodLink RX6 56 yX6_no, .instanceMethod yX6_no, .selects RX6 yX6_no yX6_no, .code yX6_no cX6_no 2 (some .int)] ++ wsX60 ++ wsX50)
def wsX6_counted : List Cond := .code yX6_counted cX6_counted 3 (some .int) :: ([.fieldLink RX6 30 "NightSortersModel" "s" "LNightSortersModel$State;", .fieldLink RX6 9 "NightSortersModel" "passes" "[I", .fieldLink RX6 46 "NightSortersModel" "letters" "I", .fieldLink RX6 49 "NightSortersModel" "sorters" "I", .methodLink RX6 41 yX6_isIn, .static yX6_isIn, .initialized RX6, .code yX6_isIn cX6_isIn 3 (some .boolean), .methodLink RX6 119 yX5_are, .instanceMethod yX5_are, .selects RX5 yX5_are yX5_are, .initialized RX5, .code yX5_are cX5_are 4 (some .int), .fieldLink RX5 3 "NightSortersModel$State" "this$0" "LNightSortersModel;", .fieldLink RX5 15 "NightSortersModel$State" "where" "[I"] ++ wsX60 ++ wsX50)
def wsX6_count : List Cond := .code yX6_count cX6_count 2 (some .int) :: ([.fieldLink RX6 37 "NightSortersModel" "thrown" "I", .methodLink RX6 41 yX6_isIn, .static yX6_isIn, .initialized RX6, .code yX6_isIn cX6_isIn 3 (some .boolean), .methodLink RX6 122 yX6_counted, .instanceMethod yX6_counted, .selects RX6 yX6_counted yX6_counted, .code yX6_counted cX6_counted 3 (some .int), .fieldLink RX6 30 "NightSortersModel" "s" "LNightSortersModel$State;", .fieldLink RX6 9 "NightSortersModel" "passes" "[I", .fieldLink RX6 46 "NightSortersModel" "letters" "I", .fieldLink RX6 49 "NightSortersModel" "sorters" "I", .methodLink RX6 119 yX5_are, .instanceMethod yX5_are, .selects RX5 yX5_are yX5_are, .initialized RX5, .code yX5_are cX5_are 4 (some .int), .fieldLink RX5 3 "NightSortersModel$State" "this$0" "LNightSortersModel;", .fieldLink RX5 15 "NightSortersModel$State" "where" "[I", .methodLink RX6 56 yX6_no, .instanceMethod yX6_no, .selects RX6 yX6_no yX6_no, .code yX6_no cX6_no 2 (some .int)] ++ wsX60 ++ wsX50)
def wsX6_pass_r1 : List Cond := [Cond.fieldLink RX6 37 "NightSortersModel" "thrown" "I", Cond.fieldLink RX6 30 "NightSortersModel" "s" "LNightSortersModel$State;", Cond.methodLink RX6 41 yX6_isIn, Cond.static yX6_isIn, Cond.initialized RX6, Cond.code yX6_isIn cX6_isIn 3 (some .boolean), Cond.methodLink RX6 125 yX5_pass_, Cond.instanceMethod yX5_pass_, Cond.selects RX5 yX5_pass_ yX5_pass_, Cond.initialized RX5, Cond.code yX5_pass_ cX5_pass_ 4 (some .int), Cond.methodLink RX5 114 yX5_pass, Cond.instanceMethod yX5_pass, Cond.selects RX5 yX5_pass yX5_pass, Cond.code yX5_pass cX5_pass 3 (some .int), Cond.fieldLink RX5 3 "NightSortersModel$State" "this$0" "LNightSortersModel;", Cond.fieldLink RX5 49 "NightSortersModel$State" "minute" "I", Cond.methodLink RX5 96 yX5_work, Cond.instanceMethod yX5_work, Cond.selects RX5 yX5_work yX5_work, Cond.code yX5_work cX5_work 3 none, Cond.fieldLink RX5 34 "NightSortersModel$State" "holds" "[I", Cond.fieldLink RX5 37 "NightSortersModel$State" "left" "[I", Cond.fieldLink RX5 40 "NightSortersModel$State" "sorted" "[I"]
def wsX6_pass_r2 : List Cond := [Cond.fieldLink RX5 28 "NightSortersModel$State" "tired" "[I", Cond.methodLink RX5 76 yX5_take, Cond.instanceMethod yX5_take, Cond.selects RX5 yX5_take yX5_take, Cond.code yX5_take cX5_take 3 none, Cond.fieldLink RX5 31 "NightSortersModel$State" "tea" "[I", Cond.methodLink RX5 70 Lib.Math.max.name, Cond.static Lib.Math.max.name, Cond.initialized "java/lang/Math", Cond.code Lib.Math.max.name Lib.Math.max.code 2 (some .int), Cond.fieldLink RX5 15 "NightSortersModel$State" "where" "[I", Cond.fieldLink RX5 19 "NightSortersModel$State" "who" "[I", Cond.methodLink RX5 63 yX5_firstFor, Cond.instanceMethod yX5_firstFor, Cond.selects RX5 yX5_firstFor yX5_firstFor, Cond.code yX5_firstFor cX5_firstFor 3 (some .int), Cond.fieldLink RX5 25 "NightSortersModel$State" "towns" "[I", Cond.methodLink RX5 80 yX5_inHole, Cond.instanceMethod yX5_inHole, Cond.selects RX5 yX5_inHole yX5_inHole, Cond.code yX5_inHole cX5_inHole 4 (some .int), Cond.methodLink RX5 83 yX5_let, Cond.instanceMethod yX5_let, Cond.selects RX5 yX5_let yX5_let]
def wsX6_pass_r3 : List Cond := [Cond.code yX5_let cX5_let 4 none, Cond.methodLink RX5 99 yX5_are, Cond.instanceMethod yX5_are, Cond.selects RX5 yX5_are yX5_are, Cond.code yX5_are cX5_are 4 (some .int), Cond.methodLink RX5 105 yX5_passStation, Cond.instanceMethod yX5_passStation, Cond.selects RX5 yX5_passStation yX5_passStation, Cond.code yX5_passStation cX5_passStation 4 none, Cond.methodLink RX5 87 yX5_end, Cond.instanceMethod yX5_end, Cond.selects RX5 yX5_end yX5_end, Cond.code yX5_end cX5_end 3 none, Cond.fieldLink RX5 22 "NightSortersModel$State" "when" "[I", Cond.methodLink RX5 111 yX5_shake, Cond.instanceMethod yX5_shake, Cond.selects RX5 yX5_shake yX5_shake, Cond.code yX5_shake cX5_shake 4 none, Cond.methodLink RX6 56 yX6_no, Cond.instanceMethod yX6_no, Cond.selects RX6 yX6_no yX6_no, Cond.code yX6_no cX6_no 2 (some .int)]
def wsX6_pass : List Cond := .code yX6_pass cX6_pass 2 (some .int) :: ((wsX6_pass_r1 ++ (wsX6_pass_r2 ++ wsX6_pass_r3)) ++ wsX60 ++ wsX50)
def wsX6_arrives_r1 : List Cond := [Cond.fieldLink RX6 37 "NightSortersModel" "thrown" "I", Cond.fieldLink RX6 34 "NightSortersModel" "ahead" "LNightSortersModel$State;", Cond.fieldLink RX6 30 "NightSortersModel" "s" "LNightSortersModel$State;", Cond.methodLink RX6 97 yX6_isLetter, Cond.instanceMethod yX6_isLetter, Cond.selects RX6 yX6_isLetter yX6_isLetter, Cond.initialized RX6, Cond.code yX6_isLetter cX6_isLetter 2 (some .boolean), Cond.fieldLink RX6 46 "NightSortersModel" "letters" "I", Cond.methodLink RX6 41 yX6_isIn, Cond.static yX6_isIn, Cond.code yX6_isIn cX6_isIn 3 (some .boolean), Cond.methodLink RX6 56 yX6_no, Cond.instanceMethod yX6_no, Cond.selects RX6 yX6_no yX6_no, Cond.code yX6_no cX6_no 2 (some .int), Cond.methodLink RX6 128 yX5_become, Cond.instanceMethod yX5_become, Cond.selects RX5 yX5_become yX5_become, Cond.initialized RX5, Cond.code yX5_become cX5_become 2 none, Cond.fieldLink RX5 49 "NightSortersModel$State" "minute" "I", Cond.fieldLink RX5 15 "NightSortersModel$State" "where" "[I", Cond.fieldLink RX5 19 "NightSortersModel$State" "who" "[I"]
def wsX6_arrives_r2 : List Cond := [Cond.fieldLink RX5 22 "NightSortersModel$State" "when" "[I", Cond.fieldLink RX5 25 "NightSortersModel$State" "towns" "[I", Cond.fieldLink RX5 28 "NightSortersModel$State" "tired" "[I", Cond.fieldLink RX5 31 "NightSortersModel$State" "tea" "[I", Cond.fieldLink RX5 34 "NightSortersModel$State" "holds" "[I", Cond.fieldLink RX5 37 "NightSortersModel$State" "left" "[I", Cond.fieldLink RX5 40 "NightSortersModel$State" "sorted" "[I", Cond.methodLink RX5 53 yX5_copy, Cond.instanceMethod yX5_copy, Cond.selects RX5 yX5_copy yX5_copy, Cond.code yX5_copy cX5_copy 3 none, Cond.methodLink RX5 43 arraycopyName, Cond.native arraycopyName, Cond.static arraycopyName, Cond.initialized "java/lang/System", Cond.methodLink RX6 132 yX5_pass, Cond.instanceMethod yX5_pass, Cond.selects RX5 yX5_pass yX5_pass, Cond.code yX5_pass cX5_pass 3 (some .int), Cond.fieldLink RX5 3 "NightSortersModel$State" "this$0" "LNightSortersModel;", Cond.methodLink RX5 96 yX5_work, Cond.instanceMethod yX5_work, Cond.selects RX5 yX5_work yX5_work, Cond.code yX5_work cX5_work 3 none]
def wsX6_arrives_r3 : List Cond := [Cond.methodLink RX5 76 yX5_take, Cond.instanceMethod yX5_take, Cond.selects RX5 yX5_take yX5_take, Cond.code yX5_take cX5_take 3 none, Cond.methodLink RX5 70 Lib.Math.max.name, Cond.static Lib.Math.max.name, Cond.initialized "java/lang/Math", Cond.code Lib.Math.max.name Lib.Math.max.code 2 (some .int), Cond.methodLink RX5 63 yX5_firstFor, Cond.instanceMethod yX5_firstFor, Cond.selects RX5 yX5_firstFor yX5_firstFor, Cond.code yX5_firstFor cX5_firstFor 3 (some .int), Cond.methodLink RX5 80 yX5_inHole, Cond.instanceMethod yX5_inHole, Cond.selects RX5 yX5_inHole yX5_inHole, Cond.code yX5_inHole cX5_inHole 4 (some .int), Cond.methodLink RX5 83 yX5_let, Cond.instanceMethod yX5_let, Cond.selects RX5 yX5_let yX5_let, Cond.code yX5_let cX5_let 4 none, Cond.methodLink RX5 99 yX5_are, Cond.instanceMethod yX5_are, Cond.selects RX5 yX5_are yX5_are, Cond.code yX5_are cX5_are 4 (some .int)]
def wsX6_arrives_r4 : List Cond := [Cond.methodLink RX5 105 yX5_passStation, Cond.instanceMethod yX5_passStation, Cond.selects RX5 yX5_passStation yX5_passStation, Cond.code yX5_passStation cX5_passStation 4 none, Cond.methodLink RX5 87 yX5_end, Cond.instanceMethod yX5_end, Cond.selects RX5 yX5_end yX5_end, Cond.code yX5_end cX5_end 3 none, Cond.methodLink RX5 111 yX5_shake, Cond.instanceMethod yX5_shake, Cond.selects RX5 yX5_shake yX5_shake, Cond.code yX5_shake cX5_shake 4 none]
def wsX6_arrives : List Cond := .code yX6_arrives cX6_arrives 3 (some .int) :: ((wsX6_arrives_r1 ++ (wsX6_arrives_r2 ++ (wsX6_arrives_r3 ++ wsX6_arrives_r4))) ++ wsX60 ++ wsX50)
def wsX6_foresee_r1 : List Cond := [Cond.fieldLink RX6 37 "NightSortersModel" "thrown" "I", Cond.fieldLink RX6 34 "NightSortersModel" "ahead" "LNightSortersModel$State;", Cond.fieldLink RX6 30 "NightSortersModel" "s" "LNightSortersModel$State;", Cond.methodLink RX6 41 yX6_isIn, Cond.static yX6_isIn, Cond.initialized RX6, Cond.code yX6_isIn cX6_isIn 3 (some .boolean), Cond.methodLink RX6 56 yX6_no, Cond.instanceMethod yX6_no, Cond.selects RX6 yX6_no yX6_no, Cond.code yX6_no cX6_no 2 (some .int), Cond.methodLink RX6 128 yX5_become, Cond.instanceMethod yX5_become, Cond.selects RX5 yX5_become yX5_become, Cond.initialized RX5, Cond.code yX5_become cX5_become 2 none, Cond.fieldLink RX5 49 "NightSortersModel$State" "minute" "I", Cond.fieldLink RX5 15 "NightSortersModel$State" "where" "[I", Cond.fieldLink RX5 19 "NightSortersModel$State" "who" "[I", Cond.fieldLink RX5 22 "NightSortersModel$State" "when" "[I", Cond.fieldLink RX5 25 "NightSortersModel$State" "towns" "[I", Cond.fieldLink RX5 28 "NightSortersModel$State" "tired" "[I", Cond.fieldLink RX5 31 "NightSortersModel$State" "tea" "[I", Cond.fieldLink RX5 34 "NightSortersModel$State" "holds" "[I"]
def wsX6_foresee_r2 : List Cond := [Cond.fieldLink RX5 37 "NightSortersModel$State" "left" "[I", Cond.fieldLink RX5 40 "NightSortersModel$State" "sorted" "[I", Cond.methodLink RX5 53 yX5_copy, Cond.instanceMethod yX5_copy, Cond.selects RX5 yX5_copy yX5_copy, Cond.code yX5_copy cX5_copy 3 none, Cond.methodLink RX5 43 arraycopyName, Cond.native arraycopyName, Cond.static arraycopyName, Cond.initialized "java/lang/System", Cond.methodLink RX6 125 yX5_pass_, Cond.instanceMethod yX5_pass_, Cond.selects RX5 yX5_pass_ yX5_pass_, Cond.code yX5_pass_ cX5_pass_ 4 (some .int), Cond.methodLink RX5 114 yX5_pass, Cond.instanceMethod yX5_pass, Cond.selects RX5 yX5_pass yX5_pass, Cond.code yX5_pass cX5_pass 3 (some .int), Cond.fieldLink RX5 3 "NightSortersModel$State" "this$0" "LNightSortersModel;", Cond.methodLink RX5 96 yX5_work, Cond.instanceMethod yX5_work, Cond.selects RX5 yX5_work yX5_work, Cond.code yX5_work cX5_work 3 none, Cond.methodLink RX5 76 yX5_take]
def wsX6_foresee_r3 : List Cond := [Cond.instanceMethod yX5_take, Cond.selects RX5 yX5_take yX5_take, Cond.code yX5_take cX5_take 3 none, Cond.methodLink RX5 70 Lib.Math.max.name, Cond.static Lib.Math.max.name, Cond.initialized "java/lang/Math", Cond.code Lib.Math.max.name Lib.Math.max.code 2 (some .int), Cond.methodLink RX5 63 yX5_firstFor, Cond.instanceMethod yX5_firstFor, Cond.selects RX5 yX5_firstFor yX5_firstFor, Cond.code yX5_firstFor cX5_firstFor 3 (some .int), Cond.methodLink RX5 80 yX5_inHole, Cond.instanceMethod yX5_inHole, Cond.selects RX5 yX5_inHole yX5_inHole, Cond.code yX5_inHole cX5_inHole 4 (some .int), Cond.methodLink RX5 83 yX5_let, Cond.instanceMethod yX5_let, Cond.selects RX5 yX5_let yX5_let, Cond.code yX5_let cX5_let 4 none, Cond.methodLink RX5 99 yX5_are, Cond.instanceMethod yX5_are, Cond.selects RX5 yX5_are yX5_are, Cond.code yX5_are cX5_are 4 (some .int), Cond.methodLink RX5 105 yX5_passStation]
def wsX6_foresee_r4 : List Cond := [Cond.instanceMethod yX5_passStation, Cond.selects RX5 yX5_passStation yX5_passStation, Cond.code yX5_passStation cX5_passStation 4 none, Cond.methodLink RX5 87 yX5_end, Cond.instanceMethod yX5_end, Cond.selects RX5 yX5_end yX5_end, Cond.code yX5_end cX5_end 3 none, Cond.methodLink RX5 111 yX5_shake, Cond.instanceMethod yX5_shake, Cond.selects RX5 yX5_shake yX5_shake, Cond.code yX5_shake cX5_shake 4 none, Cond.methodLink RX6 119 yX5_are]
def wsX6_foresee : List Cond := .code yX6_foresee cX6_foresee 3 (some .int) :: ((wsX6_foresee_r1 ++ (wsX6_foresee_r2 ++ (wsX6_foresee_r3 ++ wsX6_foresee_r4))) ++ wsX60 ++ wsX50)
def wsX6_advise_r1 : List Cond := [Cond.fieldLink RX6 37 "NightSortersModel" "thrown" "I", Cond.fieldLink RX6 34 "NightSortersModel" "ahead" "LNightSortersModel$State;", Cond.fieldLink RX6 30 "NightSortersModel" "s" "LNightSortersModel$State;", Cond.methodLink RX6 85 yX6_isSorter, Cond.instanceMethod yX6_isSorter, Cond.selects RX6 yX6_isSorter yX6_isSorter, Cond.initialized RX6, Cond.code yX6_isSorter cX6_isSorter 2 (some .boolean), Cond.fieldLink RX6 49 "NightSortersModel" "sorters" "I", Cond.methodLink RX6 41 yX6_isIn, Cond.static yX6_isIn, Cond.code yX6_isIn cX6_isIn 3 (some .boolean), Cond.methodLink RX6 56 yX6_no, Cond.instanceMethod yX6_no, Cond.selects RX6 yX6_no yX6_no, Cond.code yX6_no cX6_no 2 (some .int), Cond.methodLink RX6 128 yX5_become, Cond.instanceMethod yX5_become, Cond.selects RX5 yX5_become yX5_become, Cond.initialized RX5, Cond.code yX5_become cX5_become 2 none, Cond.fieldLink RX5 49 "NightSortersModel$State" "minute" "I", Cond.fieldLink RX5 15 "NightSortersModel$State" "where" "[I", Cond.fieldLink RX5 19 "NightSortersModel$State" "who" "[I"]
def wsX6_advise_r2 : List Cond := [Cond.fieldLink RX5 22 "NightSortersModel$State" "when" "[I", Cond.fieldLink RX5 25 "NightSortersModel$State" "towns" "[I", Cond.fieldLink RX5 28 "NightSortersModel$State" "tired" "[I", Cond.fieldLink RX5 31 "NightSortersModel$State" "tea" "[I", Cond.fieldLink RX5 34 "NightSortersModel$State" "holds" "[I", Cond.fieldLink RX5 37 "NightSortersModel$State" "left" "[I", Cond.fieldLink RX5 40 "NightSortersModel$State" "sorted" "[I", Cond.methodLink RX5 53 yX5_copy, Cond.instanceMethod yX5_copy, Cond.selects RX5 yX5_copy yX5_copy, Cond.code yX5_copy cX5_copy 3 none, Cond.methodLink RX5 43 arraycopyName, Cond.native arraycopyName, Cond.static arraycopyName, Cond.initialized "java/lang/System", Cond.methodLink RX6 125 yX5_pass_, Cond.instanceMethod yX5_pass_, Cond.selects RX5 yX5_pass_ yX5_pass_, Cond.code yX5_pass_ cX5_pass_ 4 (some .int), Cond.methodLink RX5 114 yX5_pass, Cond.instanceMethod yX5_pass, Cond.selects RX5 yX5_pass yX5_pass, Cond.code yX5_pass cX5_pass 3 (some .int), Cond.fieldLink RX5 3 "NightSortersModel$State" "this$0" "LNightSortersModel;"]
def wsX6_advise_r3 : List Cond := [Cond.methodLink RX5 96 yX5_work, Cond.instanceMethod yX5_work, Cond.selects RX5 yX5_work yX5_work, Cond.code yX5_work cX5_work 3 none, Cond.methodLink RX5 76 yX5_take, Cond.instanceMethod yX5_take, Cond.selects RX5 yX5_take yX5_take, Cond.code yX5_take cX5_take 3 none, Cond.methodLink RX5 70 Lib.Math.max.name, Cond.static Lib.Math.max.name, Cond.initialized "java/lang/Math", Cond.code Lib.Math.max.name Lib.Math.max.code 2 (some .int), Cond.methodLink RX5 63 yX5_firstFor, Cond.instanceMethod yX5_firstFor, Cond.selects RX5 yX5_firstFor yX5_firstFor, Cond.code yX5_firstFor cX5_firstFor 3 (some .int), Cond.methodLink RX5 80 yX5_inHole, Cond.instanceMethod yX5_inHole, Cond.selects RX5 yX5_inHole yX5_inHole, Cond.code yX5_inHole cX5_inHole 4 (some .int), Cond.methodLink RX5 83 yX5_let, Cond.instanceMethod yX5_let, Cond.selects RX5 yX5_let yX5_let, Cond.code yX5_let cX5_let 4 none]
def wsX6_advise_r4 : List Cond := [Cond.methodLink RX5 99 yX5_are, Cond.instanceMethod yX5_are, Cond.selects RX5 yX5_are yX5_are, Cond.code yX5_are cX5_are 4 (some .int), Cond.methodLink RX5 105 yX5_passStation, Cond.instanceMethod yX5_passStation, Cond.selects RX5 yX5_passStation yX5_passStation, Cond.code yX5_passStation cX5_passStation 4 none, Cond.methodLink RX5 87 yX5_end, Cond.instanceMethod yX5_end, Cond.selects RX5 yX5_end yX5_end, Cond.code yX5_end cX5_end 3 none, Cond.methodLink RX5 111 yX5_shake, Cond.instanceMethod yX5_shake, Cond.selects RX5 yX5_shake yX5_shake, Cond.code yX5_shake cX5_shake 4 none]
def wsX6_advise : List Cond := .code yX6_advise cX6_advise 7 (some .int) :: ((wsX6_advise_r1 ++ (wsX6_advise_r2 ++ (wsX6_advise_r3 ++ wsX6_advise_r4))) ++ wsX60 ++ wsX50)
def wsX6_share : List Cond := .code yX6_share cX6_share 2 (some .double) :: ([.fieldLink RX6 37 "NightSortersModel" "thrown" "I", .fieldLink RX6 30 "NightSortersModel" "s" "LNightSortersModel$State;", .methodLink RX6 119 yX5_are, .instanceMethod yX5_are, .selects RX5 yX5_are yX5_are, .initialized RX5, .code yX5_are cX5_are 4 (some .int), .fieldLink RX5 3 "NightSortersModel$State" "this$0" "LNightSortersModel;", .fieldLink RX5 15 "NightSortersModel$State" "where" "[I"] ++ wsX60 ++ wsX50)
def wsX6_digest_r1 : List Cond := [Cond.fieldLink RX6 37 "NightSortersModel" "thrown" "I", Cond.constantLong RX6 135 (1049), Cond.constantLong RX6 137 (31), Cond.fieldLink RX6 30 "NightSortersModel" "s" "LNightSortersModel$State;", Cond.fieldLink RX6 49 "NightSortersModel" "sorters" "I", Cond.fieldLink RX6 46 "NightSortersModel" "letters" "I", Cond.methodLink RX6 122 yX6_counted, Cond.instanceMethod yX6_counted, Cond.selects RX6 yX6_counted yX6_counted, Cond.initialized RX6, Cond.code yX6_counted cX6_counted 3 (some .int), Cond.fieldLink RX6 9 "NightSortersModel" "passes" "[I", Cond.methodLink RX6 41 yX6_isIn, Cond.static yX6_isIn, Cond.code yX6_isIn cX6_isIn 3 (some .boolean), Cond.methodLink RX6 119 yX5_are, Cond.instanceMethod yX5_are, Cond.selects RX5 yX5_are yX5_are, Cond.initialized RX5, Cond.code yX5_are cX5_are 4 (some .int), Cond.fieldLink RX5 3 "NightSortersModel$State" "this$0" "LNightSortersModel;", Cond.fieldLink RX5 15 "NightSortersModel$State" "where" "[I", Cond.methodLink RX6 116 yX6_stationTold, Cond.instanceMethod yX6_stationTold]
def wsX6_digest_r2 : List Cond := [Cond.selects RX6 yX6_stationTold yX6_stationTold, Cond.code yX6_stationTold cX6_stationTold 5 (some .int), Cond.fieldLink RX6 19 "NightSortersModel" "station" "[I", Cond.fieldLink RX6 13 "NightSortersModel" "jolt" "[I", Cond.methodLink RX6 113 yX5_inHole, Cond.instanceMethod yX5_inHole, Cond.selects RX5 yX5_inHole yX5_inHole, Cond.code yX5_inHole cX5_inHole 4 (some .int), Cond.methodLink RX6 110 yX6_sorterTold, Cond.instanceMethod yX6_sorterTold, Cond.selects RX6 yX6_sorterTold yX6_sorterTold, Cond.code yX6_sorterTold cX6_sorterTold 4 (some .int), Cond.arrayClass .int, Cond.fieldLink RX6 22 "NightSortersModel" "pace" "[I", Cond.methodLink RX6 100 yX6_letterTold, Cond.instanceMethod yX6_letterTold, Cond.selects RX6 yX6_letterTold yX6_letterTold, Cond.code yX6_letterTold cX6_letterTold 4 (some .int), Cond.fieldLink RX6 16 "NightSortersModel" "town" "[I"]
def wsX6_digest : List Cond := .code yX6_digest cX6_digest 5 (some .long) :: ((wsX6_digest_r1 ++ wsX6_digest_r2) ++ wsX60 ++ wsX50)
def wsJ9_max_7cf53 : List Cond := .code yJ9_max_7cf53 cJ9_max_7cf53 2 (some .int) :: ([])
def wsL_setStation_r1 : List Cond := [Cond.classLink RL 13 "java/lang/IndexOutOfBoundsException", Cond.classLink RL 15 "java/lang/IllegalArgumentException", Cond.classLink RL 17 "java/lang/IllegalStateException", Cond.methodLink RL 7 yX4_setStation, Cond.instanceMethod yX4_setStation, Cond.selects RX4 yX4_setStation yX4_setStation, Cond.initialized RX4, Cond.code yX4_setStation cX4_setStation 6 (some .int), Cond.classLink RX4 48 "java/lang/IllegalStateException", Cond.initialized "java/lang/IllegalStateException", Cond.fieldLink RX4 17 "NightSorters" "train" "LNightSorters$Train;", Cond.fieldLink RX4 32 "NightSorters$Train" "line" "LNightSorters$Line;", Cond.fieldLink RX4 36 "NightSorters$Train" "minute" "I", Cond.fieldLink RX4 40 "NightSorters$Line" "minutes" "[I", Cond.fieldLink RX4 55 "NightSorters$Line" "jolts" "[I", Cond.methodLink RX4 24 yX4_checkIndex, Cond.static yX4_checkIndex, Cond.code yX4_checkIndex cX4_checkIndex 2 none, Cond.classLink RX4 126 "java/lang/IndexOutOfBoundsException", Cond.initialized "java/lang/IndexOutOfBoundsException", Cond.methodLink RX4 28 yX4_checkArgument, Cond.static yX4_checkArgument, Cond.code yX4_checkArgument cX4_checkArgument 3 none, Cond.classLink RX4 159 "java/lang/IllegalArgumentException"]
def wsL_setStation_r2 : List Cond := [Cond.initialized "java/lang/IllegalArgumentException", Cond.methodLink RX4 44 yX1_wouldRise, Cond.instanceMethod yX1_wouldRise, Cond.selects RX1 yX1_wouldRise yX1_wouldRise, Cond.initialized RX1, Cond.code yX1_wouldRise cX1_wouldRise 5 (some .boolean), Cond.fieldLink RX1 9 "NightSorters$Line" "minutes" "[I"]
def wsL_setStation : List Cond := .codeWith yL_setStation cL_setStation 6 (some .int) [(0, 12, 15, 13), (0, 12, 19, 15), (0, 12, 23, 17)] :: ((wsL_setStation_r1 ++ wsL_setStation_r2) ++ wsX40 ++ wsX30 ++ wsX10 ++ (vx_atS RX4 52 "java/lang/IllegalStateException" ["java/lang/RuntimeException", "java/lang/Exception"]).filter goodWord ++ (vx_atS RX4 130 "java/lang/IndexOutOfBoundsException" ["java/lang/RuntimeException", "java/lang/Exception"]).filter goodWord ++ (vx_atS RX4 163 "java/lang/IllegalArgumentException" ["java/lang/RuntimeException", "java/lang/Exception"]).filter goodWord)
def wsL_post_r1 : List Cond := [Cond.classLink RL 13 "java/lang/IndexOutOfBoundsException", Cond.classLink RL 17 "java/lang/IllegalStateException", Cond.methodLink RL 19 yX4_post, Cond.instanceMethod yX4_post, Cond.selects RX4 yX4_post yX4_post, Cond.initialized RX4, Cond.code yX4_post cX4_post 3 (some .int), Cond.classLink RX4 48 "java/lang/IllegalStateException", Cond.initialized "java/lang/IllegalStateException", Cond.fieldLink RX4 17 "NightSorters" "train" "LNightSorters$Train;", Cond.fieldLink RX4 58 "NightSorters$Train" "mail" "LNightSorters$Mail;", Cond.fieldLink RX4 62 "NightSorters$Mail" "size" "I", Cond.methodLink RX4 24 yX4_checkIndex, Cond.static yX4_checkIndex, Cond.code yX4_checkIndex cX4_checkIndex 2 none, Cond.classLink RX4 126 "java/lang/IndexOutOfBoundsException", Cond.initialized "java/lang/IndexOutOfBoundsException", Cond.methodLink RX4 69 yX2_addToBag, Cond.instanceMethod yX2_addToBag, Cond.selects RX2 yX2_addToBag yX2_addToBag, Cond.initialized RX2, Cond.code yX2_addToBag cX2_addToBag 4 (some .int), Cond.fieldLink RX2 9 "NightSorters$Mail" "size" "I", Cond.fieldLink RX2 15 "NightSorters$Mail" "town" "[I"]
def wsL_post_r2 : List Cond := [Cond.fieldLink RX2 19 "NightSorters$Mail" "postedAt" "[I", Cond.fieldLink RX2 22 "NightSorters$Mail" "place" "[I", Cond.fieldLink RX2 25 "NightSorters$Mail" "holder" "[I", Cond.fieldLink RX2 28 "NightSorters$Mail" "endMinute" "[I", Cond.fieldLink RX2 31 "NightSorters$Mail" "inPlace" "[I"]
def wsL_post : List Cond := .codeWith yL_post cL_post 5 (some .int) [(0, 10, 13, 13), (0, 10, 17, 17)] :: ((wsL_post_r1 ++ wsL_post_r2) ++ wsX40 ++ wsX30 ++ wsX20 ++ (vx_atS RX4 52 "java/lang/IllegalStateException" ["java/lang/RuntimeException", "java/lang/Exception"]).filter goodWord ++ (vx_atS RX4 130 "java/lang/IndexOutOfBoundsException" ["java/lang/RuntimeException", "java/lang/Exception"]).filter goodWord)
def wsL_hire_r1 : List Cond := [Cond.classLink RL 15 "java/lang/IllegalArgumentException", Cond.classLink RL 17 "java/lang/IllegalStateException", Cond.methodLink RL 23 yX4_hire, Cond.instanceMethod yX4_hire, Cond.selects RX4 yX4_hire yX4_hire, Cond.initialized RX4, Cond.code yX4_hire cX4_hire 3 (some .int), Cond.classLink RX4 48 "java/lang/IllegalStateException", Cond.initialized "java/lang/IllegalStateException", Cond.constant RX4 73 (65535), Cond.fieldLink RX4 17 "NightSorters" "train" "LNightSorters$Train;", Cond.fieldLink RX4 74 "NightSorters$Train" "crew" "LNightSorters$Crew;", Cond.fieldLink RX4 78 "NightSorters$Crew" "size" "I", Cond.methodLink RX4 28 yX4_checkArgument, Cond.static yX4_checkArgument, Cond.code yX4_checkArgument cX4_checkArgument 3 none, Cond.classLink RX4 159 "java/lang/IllegalArgumentException", Cond.initialized "java/lang/IllegalArgumentException", Cond.methodLink RX4 83 yX0_add, Cond.instanceMethod yX0_add, Cond.selects RX0 yX0_add yX0_add, Cond.initialized RX0, Cond.code yX0_add cX0_add 4 (some .int), Cond.fieldLink RX0 9 "NightSorters$Crew" "size" "I"]
def wsL_hire_r2 : List Cond := [Cond.fieldLink RX0 15 "NightSorters$Crew" "pace" "[I", Cond.fieldLink RX0 19 "NightSorters$Crew" "towns" "[I", Cond.fieldLink RX0 28 "NightSorters$Crew" "held" "[I"]
def wsL_hire : List Cond := .codeWith yL_hire cL_hire 5 (some .int) [(0, 10, 13, 15), (0, 10, 17, 17)] :: ((wsL_hire_r1 ++ wsL_hire_r2) ++ wsX40 ++ wsX30 ++ wsX00 ++ (vx_atS RX4 52 "java/lang/IllegalStateException" ["java/lang/RuntimeException", "java/lang/Exception"]).filter goodWord ++ (vx_atS RX4 163 "java/lang/IllegalArgumentException" ["java/lang/RuntimeException", "java/lang/Exception"]).filter goodWord)
def wsL_assign : List Cond := .codeWith yL_assign cL_assign 5 (some .int) [(0, 10, 13, 13), (0, 10, 17, 15)] :: ([.classLink RL 13 "java/lang/IndexOutOfBoundsException", .classLink RL 15 "java/lang/IllegalArgumentException", .methodLink RL 26 yX4_assign, .instanceMethod yX4_assign, .selects RX4 yX4_assign yX4_assign, .initialized RX4, .code yX4_assign cX4_assign 4 (some .int), .fieldLink RX4 17 "NightSorters" "train" "LNightSorters$Train;", .fieldLink RX4 74 "NightSorters$Train" "crew" "LNightSorters$Crew;", .fieldLink RX4 78 "NightSorters$Crew" "size" "I", .constant RX4 73 (65535), .fieldLink RX4 86 "NightSorters$Crew" "towns" "[I", .methodLink RX4 24 yX4_checkIndex, .static yX4_checkIndex, .code yX4_checkIndex cX4_checkIndex 2 none, .classLink RX4 126 "java/lang/IndexOutOfBoundsException", .initialized "java/lang/IndexOutOfBoundsException", .methodLink RX4 28 yX4_checkArgument, .static yX4_checkArgument, .code yX4_checkArgument cX4_checkArgument 3 none, .classLink RX4 159 "java/lang/IllegalArgumentException", .initialized "java/lang/IllegalArgumentException"] ++ wsX40 ++ wsX30 ++ wsX00 ++ (vx_atS RX4 130 "java/lang/IndexOutOfBoundsException" ["java/lang/RuntimeException", "java/lang/Exception"]).filter goodWord ++ (vx_atS RX4 163 "java/lang/IllegalArgumentException" ["java/lang/RuntimeException", "java/lang/Exception"]).filter goodWord)
def wsL_tea : List Cond := .codeWith yL_tea cL_tea 4 (some .int) [(0, 9, 12, 13)] :: ([.classLink RL 13 "java/lang/IndexOutOfBoundsException", .methodLink RL 29 yX4_tea, .instanceMethod yX4_tea, .selects RX4 yX4_tea yX4_tea, .initialized RX4, .code yX4_tea cX4_tea 3 (some .int), .fieldLink RX4 17 "NightSorters" "train" "LNightSorters$Train;", .fieldLink RX4 74 "NightSorters$Train" "crew" "LNightSorters$Crew;", .fieldLink RX4 78 "NightSorters$Crew" "size" "I", .fieldLink RX4 89 "NightSorters$Crew" "tired" "[I", .fieldLink RX4 92 "NightSorters$Crew" "withTea" "[I", .methodLink RX4 24 yX4_checkIndex, .static yX4_checkIndex, .code yX4_checkIndex cX4_checkIndex 2 none, .classLink RX4 126 "java/lang/IndexOutOfBoundsException", .initialized "java/lang/IndexOutOfBoundsException"] ++ wsX40 ++ wsX30 ++ wsX00 ++ (vx_atS RX4 130 "java/lang/IndexOutOfBoundsException" ["java/lang/RuntimeException", "java/lang/Exception"]).filter goodWord)
def wsL_letter : List Cond := .codeWith yL_letter cL_letter 5 (some .int) [(0, 10, 13, 13)] :: ([.classLink RL 13 "java/lang/IndexOutOfBoundsException", .methodLink RL 33 yX4_letter, .instanceMethod yX4_letter, .selects RX4 yX4_letter yX4_letter, .initialized RX4, .code yX4_letter cX4_letter 3 (some .int), .fieldLink RX4 17 "NightSorters" "train" "LNightSorters$Train;", .fieldLink RX4 58 "NightSorters$Train" "mail" "LNightSorters$Mail;", .fieldLink RX4 62 "NightSorters$Mail" "size" "I", .methodLink RX4 24 yX4_checkIndex, .static yX4_checkIndex, .code yX4_checkIndex cX4_checkIndex 2 none, .classLink RX4 126 "java/lang/IndexOutOfBoundsException", .initialized "java/lang/IndexOutOfBoundsException", .methodLink RX4 95 yX2_fact, .instanceMethod yX2_fact, .selects RX2 yX2_fact yX2_fact, .initialized RX2, .code yX2_fact cX2_fact 3 (some .int), .fieldLink RX2 22 "NightSorters$Mail" "place" "[I", .fieldLink RX2 15 "NightSorters$Mail" "town" "[I", .fieldLink RX2 19 "NightSorters$Mail" "postedAt" "[I", .fieldLink RX2 25 "NightSorters$Mail" "holder" "[I", .fieldLink RX2 28 "NightSorters$Mail" "endMinute" "[I"] ++ wsX40 ++ wsX30 ++ wsX20 ++ (vx_atS RX4 130 "java/lang/IndexOutOfBoundsException" ["java/lang/RuntimeException", "java/lang/Exception"]).filter goodWord)
def wsL_sorter_r1 : List Cond := [Cond.classLink RL 13 "java/lang/IndexOutOfBoundsException", Cond.methodLink RL 36 yX4_sorter, Cond.instanceMethod yX4_sorter, Cond.selects RX4 yX4_sorter yX4_sorter, Cond.initialized RX4, Cond.code yX4_sorter cX4_sorter 3 (some .int), Cond.fieldLink RX4 17 "NightSorters" "train" "LNightSorters$Train;", Cond.fieldLink RX4 74 "NightSorters$Train" "crew" "LNightSorters$Crew;", Cond.fieldLink RX4 78 "NightSorters$Crew" "size" "I", Cond.methodLink RX4 24 yX4_checkIndex, Cond.static yX4_checkIndex, Cond.code yX4_checkIndex cX4_checkIndex 2 none, Cond.classLink RX4 126 "java/lang/IndexOutOfBoundsException", Cond.initialized "java/lang/IndexOutOfBoundsException", Cond.methodLink RX4 98 yX0_fact, Cond.instanceMethod yX0_fact, Cond.selects RX0 yX0_fact yX0_fact, Cond.initialized RX0, Cond.code yX0_fact cX0_fact 3 (some .int), Cond.fieldLink RX0 15 "NightSorters$Crew" "pace" "[I", Cond.fieldLink RX0 19 "NightSorters$Crew" "towns" "[I", Cond.fieldLink RX0 22 "NightSorters$Crew" "tired" "[I", Cond.fieldLink RX0 25 "NightSorters$Crew" "withTea" "[I", Cond.fieldLink RX0 28 "NightSorters$Crew" "held" "[I"]
def wsL_sorter_r2 : List Cond := [Cond.fieldLink RX0 31 "NightSorters$Crew" "minutesLeft" "[I", Cond.fieldLink RX0 34 "NightSorters$Crew" "sorted" "[I"]
def wsL_sorter : List Cond := .codeWith yL_sorter cL_sorter 5 (some .int) [(0, 10, 13, 13)] :: ((wsL_sorter_r1 ++ wsL_sorter_r2) ++ wsX40 ++ wsX30 ++ wsX00 ++ (vx_atS RX4 130 "java/lang/IndexOutOfBoundsException" ["java/lang/RuntimeException", "java/lang/Exception"]).filter goodWord)
def wsL_hole : List Cond := .codeWith yL_hole cL_hole 4 (some .int) [(0, 9, 12, 13)] :: ([.classLink RL 13 "java/lang/IndexOutOfBoundsException", .methodLink RL 39 yX4_hole, .instanceMethod yX4_hole, .selects RX4 yX4_hole yX4_hole, .initialized RX4, .code yX4_hole cX4_hole 2 (some .int), .fieldLink RX4 17 "NightSorters" "train" "LNightSorters$Train;", .fieldLink RX4 58 "NightSorters$Train" "mail" "LNightSorters$Mail;", .fieldLink RX4 99 "NightSorters$Mail" "inHole" "[I", .methodLink RX4 24 yX4_checkIndex, .static yX4_checkIndex, .code yX4_checkIndex cX4_checkIndex 2 none, .classLink RX4 126 "java/lang/IndexOutOfBoundsException", .initialized "java/lang/IndexOutOfBoundsException"] ++ wsX40 ++ wsX30 ++ wsX20 ++ (vx_atS RX4 130 "java/lang/IndexOutOfBoundsException" ["java/lang/RuntimeException", "java/lang/Exception"]).filter goodWord)
def wsL_station_r1 : List Cond := [Cond.classLink RL 13 "java/lang/IndexOutOfBoundsException", Cond.methodLink RL 42 yX4_station, Cond.instanceMethod yX4_station, Cond.selects RX4 yX4_station yX4_station, Cond.initialized RX4, Cond.code yX4_station cX4_station 3 (some .int), Cond.fieldLink RX4 17 "NightSorters" "train" "LNightSorters$Train;", Cond.fieldLink RX4 32 "NightSorters$Train" "line" "LNightSorters$Line;", Cond.fieldLink RX4 40 "NightSorters$Line" "minutes" "[I", Cond.fieldLink RX4 55 "NightSorters$Line" "jolts" "[I", Cond.fieldLink RX4 58 "NightSorters$Train" "mail" "LNightSorters$Mail;", Cond.methodLink RX4 24 yX4_checkIndex, Cond.static yX4_checkIndex, Cond.code yX4_checkIndex cX4_checkIndex 2 none, Cond.classLink RX4 126 "java/lang/IndexOutOfBoundsException", Cond.initialized "java/lang/IndexOutOfBoundsException", Cond.methodLink RX4 102 yX2_lettersInBag, Cond.instanceMethod yX2_lettersInBag, Cond.selects RX2 yX2_lettersInBag yX2_lettersInBag, Cond.initialized RX2, Cond.code yX2_lettersInBag cX2_lettersInBag 4 (some .int), Cond.fieldLink RX2 9 "NightSorters$Mail" "size" "I", Cond.methodLink RX2 45 yX2_isInBag, Cond.instanceMethod yX2_isInBag]
def wsL_station_r2 : List Cond := [Cond.selects RX2 yX2_isInBag yX2_isInBag, Cond.code yX2_isInBag cX2_isInBag 3 (some .boolean), Cond.fieldLink RX2 22 "NightSorters$Mail" "place" "[I", Cond.fieldLink RX2 19 "NightSorters$Mail" "postedAt" "[I"]
def wsL_station : List Cond := .codeWith yL_station cL_station 5 (some .int) [(0, 10, 13, 13)] :: ((wsL_station_r1 ++ wsL_station_r2) ++ wsX40 ++ wsX30 ++ wsX10 ++ wsX20 ++ (vx_atS RX4 130 "java/lang/IndexOutOfBoundsException" ["java/lang/RuntimeException", "java/lang/Exception"]).filter goodWord)
def wsL_count_r1 : List Cond := [Cond.classLink RL 13 "java/lang/IndexOutOfBoundsException", Cond.methodLink RL 45 yX4_count, Cond.instanceMethod yX4_count, Cond.selects RX4 yX4_count yX4_count, Cond.initialized RX4, Cond.code yX4_count cX4_count 2 (some .int), Cond.fieldLink RX4 17 "NightSorters" "train" "LNightSorters$Train;", Cond.fieldLink RX4 36 "NightSorters$Train" "minute" "I", Cond.fieldLink RX4 58 "NightSorters$Train" "mail" "LNightSorters$Mail;", Cond.fieldLink RX4 62 "NightSorters$Mail" "size" "I", Cond.fieldLink RX4 74 "NightSorters$Train" "crew" "LNightSorters$Crew;", Cond.fieldLink RX4 78 "NightSorters$Crew" "size" "I", Cond.fieldLink RX4 32 "NightSorters$Train" "line" "LNightSorters$Line;", Cond.fieldLink RX4 109 "NightSorters$Mail" "inPlace" "[I", Cond.methodLink RX4 24 yX4_checkIndex, Cond.static yX4_checkIndex, Cond.code yX4_checkIndex cX4_checkIndex 2 none, Cond.classLink RX4 126 "java/lang/IndexOutOfBoundsException", Cond.initialized "java/lang/IndexOutOfBoundsException", Cond.methodLink RX4 106 yX1_nextFrom, Cond.instanceMethod yX1_nextFrom, Cond.selects RX1 yX1_nextFrom yX1_nextFrom, Cond.initialized RX1, Cond.code yX1_nextFrom cX1_nextFrom 3 (some .int)]
def wsL_count_r2 : List Cond := [Cond.fieldLink RX1 9 "NightSorters$Line" "minutes" "[I"]
def wsL_count : List Cond := .codeWith yL_count cL_count 4 (some .int) [(0, 9, 12, 13)] :: ((wsL_count_r1 ++ wsL_count_r2) ++ wsX40 ++ wsX30 ++ wsX20 ++ wsX00 ++ wsX10 ++ (vx_atS RX4 130 "java/lang/IndexOutOfBoundsException" ["java/lang/RuntimeException", "java/lang/Exception"]).filter goodWord)
def wsL_pass_r1 : List Cond := [Cond.classLink RL 15 "java/lang/IllegalArgumentException", Cond.methodLink RL 48 yX4_pass, Cond.instanceMethod yX4_pass, Cond.selects RX4 yX4_pass yX4_pass, Cond.initialized RX4, Cond.code yX4_pass cX4_pass 3 (some .int), Cond.fieldLink RX4 17 "NightSorters" "train" "LNightSorters$Train;", Cond.fieldLink RX4 58 "NightSorters$Train" "mail" "LNightSorters$Mail;", Cond.fieldLink RX4 109 "NightSorters$Mail" "inPlace" "[I", Cond.methodLink RX4 28 yX4_checkArgument, Cond.static yX4_checkArgument, Cond.code yX4_checkArgument cX4_checkArgument 3 none, Cond.classLink RX4 159 "java/lang/IllegalArgumentException", Cond.initialized "java/lang/IllegalArgumentException", Cond.methodLink RX4 112 yX3_run, Cond.instanceMethod yX3_run, Cond.selects RX3 yX3_run yX3_run, Cond.initialized RX3, Cond.code yX3_run cX3_run 3 none, Cond.methodLink RX3 40 yX3_runMinute, Cond.instanceMethod yX3_runMinute, Cond.selects RX3 yX3_runMinute yX3_runMinute, Cond.code yX3_runMinute cX3_runMinute 3 none, Cond.fieldLink RX3 21 "NightSorters$Train" "crew" "LNightSorters$Crew;"]
def wsL_pass_r2 : List Cond := [Cond.fieldLink RX3 43 "NightSorters$Crew" "size" "I", Cond.fieldLink RX3 46 "NightSorters$Crew" "held" "[I", Cond.fieldLink RX3 29 "NightSorters$Train" "line" "LNightSorters$Line;", Cond.fieldLink RX3 25 "NightSorters$Train" "minute" "I", Cond.fieldLink RX3 66 "NightSorters$Line" "jolts" "[I", Cond.methodLink RX3 50 yX3_takeLetter, Cond.instanceMethod yX3_takeLetter, Cond.selects RX3 yX3_takeLetter yX3_takeLetter, Cond.code yX3_takeLetter cX3_takeLetter 3 none, Cond.fieldLink RX3 12 "NightSorters$Train" "mail" "LNightSorters$Mail;", Cond.fieldLink RX3 72 "NightSorters$Crew" "towns" "[I", Cond.methodLink RX3 75 yX2_firstOnTable, Cond.instanceMethod yX2_firstOnTable, Cond.selects RX2 yX2_firstOnTable yX2_firstOnTable, Cond.initialized RX2, Cond.code yX2_firstOnTable cX2_firstOnTable 3 (some .int), Cond.fieldLink RX2 31 "NightSorters$Mail" "inPlace" "[I", Cond.fieldLink RX2 9 "NightSorters$Mail" "size" "I", Cond.fieldLink RX2 22 "NightSorters$Mail" "place" "[I", Cond.fieldLink RX2 15 "NightSorters$Mail" "town" "[I", Cond.static yX4_hasTown, Cond.code yX4_hasTown cX4_hasTown 2 (some .boolean), Cond.methodLink RX3 78 yX2_moveToHands, Cond.instanceMethod yX2_moveToHands]
def wsL_pass_r3 : List Cond := [Cond.selects RX2 yX2_moveToHands yX2_moveToHands, Cond.code yX2_moveToHands cX2_moveToHands 3 none, Cond.fieldLink RX2 25 "NightSorters$Mail" "holder" "[I", Cond.methodLink RX2 37 yX2_move, Cond.instanceMethod yX2_move, Cond.selects RX2 yX2_move yX2_move, Cond.code yX2_move cX2_move 4 none, Cond.fieldLink RX2 34 "NightSorters$Mail" "inHole" "[I", Cond.methodLink RX3 82 yX0_takeUp, Cond.instanceMethod yX0_takeUp, Cond.selects RX0 yX0_takeUp yX0_takeUp, Cond.initialized RX0, Cond.code yX0_takeUp cX0_takeUp 3 none, Cond.fieldLink RX0 28 "NightSorters$Crew" "held" "[I", Cond.fieldLink RX0 31 "NightSorters$Crew" "minutesLeft" "[I", Cond.methodLink RX0 37 yX0_minutesNeeded, Cond.instanceMethod yX0_minutesNeeded, Cond.selects RX0 yX0_minutesNeeded yX0_minutesNeeded, Cond.code yX0_minutesNeeded cX0_minutesNeeded 3 (some .int), Cond.fieldLink RX0 15 "NightSorters$Crew" "pace" "[I", Cond.fieldLink RX0 22 "NightSorters$Crew" "tired" "[I", Cond.fieldLink RX0 25 "NightSorters$Crew" "withTea" "[I", Cond.methodLink RX3 54 yX3_workOn, Cond.instanceMethod yX3_workOn]
def wsL_pass_r4 : List Cond := [Cond.selects RX3 yX3_workOn yX3_workOn, Cond.code yX3_workOn cX3_workOn 2 none, Cond.fieldLink RX3 85 "NightSorters$Crew" "minutesLeft" "[I", Cond.methodLink RX3 88 yX3_putLetter, Cond.instanceMethod yX3_putLetter, Cond.selects RX3 yX3_putLetter yX3_putLetter, Cond.code yX3_putLetter cX3_putLetter 3 none, Cond.fieldLink RX3 91 "NightSorters$Mail" "inHole" "[I", Cond.fieldLink RX3 94 "NightSorters$Mail" "town" "[I", Cond.fieldLink RX3 100 "NightSorters$Crew" "sorted" "[I", Cond.fieldLink RX3 103 "NightSorters$Crew" "tired" "[I", Cond.methodLink RX3 97 yX2_move, Cond.methodLink RX3 106 yX0_freeHands, Cond.instanceMethod yX0_freeHands, Cond.selects RX0 yX0_freeHands yX0_freeHands, Cond.code yX0_freeHands cX0_freeHands 2 none, Cond.methodLink RX3 57 yX1_passedIn, Cond.instanceMethod yX1_passedIn, Cond.selects RX1 yX1_passedIn yX1_passedIn, Cond.initialized RX1, Cond.code yX1_passedIn cX1_passedIn 3 (some .int), Cond.fieldLink RX1 9 "NightSorters$Line" "minutes" "[I", Cond.methodLink RX3 63 yX3_serve, Cond.instanceMethod yX3_serve]
def wsL_pass_r5 : List Cond := [Cond.selects RX3 yX3_serve yX3_serve, Cond.code yX3_serve cX3_serve 3 none, Cond.fieldLink RX3 109 "NightSorters$Mail" "size" "I", Cond.methodLink RX3 110 yX2_isInBag, Cond.instanceMethod yX2_isInBag, Cond.selects RX2 yX2_isInBag yX2_isInBag, Cond.code yX2_isInBag cX2_isInBag 3 (some .boolean), Cond.fieldLink RX2 19 "NightSorters$Mail" "postedAt" "[I", Cond.methodLink RX3 114 yX3_hookIn, Cond.instanceMethod yX3_hookIn, Cond.selects RX3 yX3_hookIn yX3_hookIn, Cond.code yX3_hookIn cX3_hookIn 3 none, Cond.static yX4_stationOf, Cond.code yX4_stationOf cX4_stationOf 1 (some .int), Cond.methodLink RX3 123 yX2_end, Cond.instanceMethod yX2_end, Cond.selects RX2 yX2_end yX2_end, Cond.code yX2_end cX2_end 4 none, Cond.fieldLink RX2 28 "NightSorters$Mail" "endMinute" "[I", Cond.methodLink RX3 120 yX3_hookOut, Cond.instanceMethod yX3_hookOut, Cond.selects RX3 yX3_hookOut yX3_hookOut, Cond.code yX3_hookOut cX3_hookOut 4 none, Cond.fieldLink RX3 127 "NightSorters$Mail" "place" "[I"]
def wsL_pass_r6 : List Cond := [Cond.fieldLink RX3 130 "NightSorters$Mail" "holder" "[I", Cond.methodLink RX3 69 yX3_shake, Cond.instanceMethod yX3_shake, Cond.selects RX3 yX3_shake yX3_shake, Cond.code yX3_shake cX3_shake 2 none, Cond.methodLink RX3 133 yX0_spillTea, Cond.instanceMethod yX0_spillTea, Cond.selects RX0 yX0_spillTea yX0_spillTea, Cond.code yX0_spillTea cX0_spillTea 2 none, Cond.fieldLink RX0 9 "NightSorters$Crew" "size" "I", Cond.methodLink RX3 136 yX2_fullestHole, Cond.instanceMethod yX2_fullestHole, Cond.selects RX2 yX2_fullestHole yX2_fullestHole, Cond.code yX2_fullestHole cX2_fullestHole 3 (some .int), Cond.methodLink RX3 140 yX2_spillHole, Cond.instanceMethod yX2_spillHole, Cond.selects RX2 yX2_spillHole yX2_spillHole, Cond.code yX2_spillHole cX2_spillHole 3 none, Cond.methodLink RX3 143 yX0_tireAll, Cond.instanceMethod yX0_tireAll, Cond.selects RX0 yX0_tireAll yX0_tireAll, Cond.code yX0_tireAll cX0_tireAll 3 none]
def wsL_pass : List Cond := .codeWith yL_pass cL_pass 4 (some .int) [(0, 9, 12, 15)] :: ((wsL_pass_r1 ++ (wsL_pass_r2 ++ (wsL_pass_r3 ++ (wsL_pass_r4 ++ (wsL_pass_r5 ++ wsL_pass_r6))))) ++ wsX40 ++ wsX30 ++ wsX20 ++ wsX00 ++ wsX10 ++ (vx_atS RX4 163 "java/lang/IllegalArgumentException" ["java/lang/RuntimeException", "java/lang/Exception"]).filter goodWord)
def wsL_arrives_r1 : List Cond := [Cond.classLink RL 13 "java/lang/IndexOutOfBoundsException", Cond.methodLink RL 51 yX4_arrives, Cond.instanceMethod yX4_arrives, Cond.selects RX4 yX4_arrives yX4_arrives, Cond.initialized RX4, Cond.code yX4_arrives cX4_arrives 4 (some .int), Cond.fieldLink RX4 17 "NightSorters" "train" "LNightSorters$Train;", Cond.fieldLink RX4 58 "NightSorters$Train" "mail" "LNightSorters$Mail;", Cond.fieldLink RX4 62 "NightSorters$Mail" "size" "I", Cond.fieldLink RX4 21 "NightSorters" "trial" "LNightSorters$Train;", Cond.fieldLink RX4 120 "NightSorters$Mail" "place" "[I", Cond.methodLink RX4 24 yX4_checkIndex, Cond.static yX4_checkIndex, Cond.code yX4_checkIndex cX4_checkIndex 2 none, Cond.classLink RX4 126 "java/lang/IndexOutOfBoundsException", Cond.initialized "java/lang/IndexOutOfBoundsException", Cond.methodLink RX4 116 yX3_copyFrom, Cond.instanceMethod yX3_copyFrom, Cond.selects RX3 yX3_copyFrom yX3_copyFrom, Cond.initialized RX3, Cond.code yX3_copyFrom cX3_copyFrom 2 none, Cond.fieldLink RX3 25 "NightSorters$Train" "minute" "I", Cond.fieldLink RX3 12 "NightSorters$Train" "mail" "LNightSorters$Mail;", Cond.fieldLink RX3 21 "NightSorters$Train" "crew" "LNightSorters$Crew;"]
def wsL_arrives_r2 : List Cond := [Cond.methodLink RX3 33 yX2_copyFrom, Cond.instanceMethod yX2_copyFrom, Cond.selects RX2 yX2_copyFrom yX2_copyFrom, Cond.initialized RX2, Cond.code yX2_copyFrom cX2_copyFrom 2 none, Cond.fieldLink RX2 9 "NightSorters$Mail" "size" "I", Cond.fieldLink RX2 15 "NightSorters$Mail" "town" "[I", Cond.methodLink RX2 48 arraycopyName, Cond.native arraycopyName, Cond.static arraycopyName, Cond.initialized "java/lang/System", Cond.fieldLink RX2 19 "NightSorters$Mail" "postedAt" "[I", Cond.fieldLink RX2 22 "NightSorters$Mail" "place" "[I", Cond.fieldLink RX2 25 "NightSorters$Mail" "holder" "[I", Cond.fieldLink RX2 28 "NightSorters$Mail" "endMinute" "[I", Cond.fieldLink RX2 31 "NightSorters$Mail" "inPlace" "[I", Cond.fieldLink RX2 34 "NightSorters$Mail" "inHole" "[I", Cond.methodLink RX3 37 yX0_copyFrom, Cond.instanceMethod yX0_copyFrom, Cond.selects RX0 yX0_copyFrom yX0_copyFrom, Cond.initialized RX0, Cond.code yX0_copyFrom cX0_copyFrom 2 none, Cond.fieldLink RX0 9 "NightSorters$Crew" "size" "I", Cond.fieldLink RX0 15 "NightSorters$Crew" "pace" "[I"]
def wsL_arrives_r3 : List Cond := [Cond.methodLink RX0 41 arraycopyName, Cond.fieldLink RX0 19 "NightSorters$Crew" "towns" "[I", Cond.fieldLink RX0 22 "NightSorters$Crew" "tired" "[I", Cond.fieldLink RX0 25 "NightSorters$Crew" "withTea" "[I", Cond.fieldLink RX0 28 "NightSorters$Crew" "held" "[I", Cond.fieldLink RX0 31 "NightSorters$Crew" "minutesLeft" "[I", Cond.fieldLink RX0 34 "NightSorters$Crew" "sorted" "[I", Cond.methodLink RX4 123 yX3_runMinute, Cond.instanceMethod yX3_runMinute, Cond.selects RX3 yX3_runMinute yX3_runMinute, Cond.code yX3_runMinute cX3_runMinute 3 none, Cond.fieldLink RX3 43 "NightSorters$Crew" "size" "I", Cond.fieldLink RX3 46 "NightSorters$Crew" "held" "[I", Cond.fieldLink RX3 29 "NightSorters$Train" "line" "LNightSorters$Line;", Cond.fieldLink RX3 66 "NightSorters$Line" "jolts" "[I", Cond.methodLink RX3 50 yX3_takeLetter, Cond.instanceMethod yX3_takeLetter, Cond.selects RX3 yX3_takeLetter yX3_takeLetter, Cond.code yX3_takeLetter cX3_takeLetter 3 none, Cond.fieldLink RX3 72 "NightSorters$Crew" "towns" "[I", Cond.methodLink RX3 75 yX2_firstOnTable, Cond.instanceMethod yX2_firstOnTable, Cond.selects RX2 yX2_firstOnTable yX2_firstOnTable, Cond.code yX2_firstOnTable cX2_firstOnTable 3 (some .int)]
def wsL_arrives_r4 : List Cond := [Cond.static yX4_hasTown, Cond.code yX4_hasTown cX4_hasTown 2 (some .boolean), Cond.methodLink RX3 78 yX2_moveToHands, Cond.instanceMethod yX2_moveToHands, Cond.selects RX2 yX2_moveToHands yX2_moveToHands, Cond.code yX2_moveToHands cX2_moveToHands 3 none, Cond.methodLink RX2 37 yX2_move, Cond.instanceMethod yX2_move, Cond.selects RX2 yX2_move yX2_move, Cond.code yX2_move cX2_move 4 none, Cond.methodLink RX3 82 yX0_takeUp, Cond.instanceMethod yX0_takeUp, Cond.selects RX0 yX0_takeUp yX0_takeUp, Cond.code yX0_takeUp cX0_takeUp 3 none, Cond.methodLink RX0 37 yX0_minutesNeeded, Cond.instanceMethod yX0_minutesNeeded, Cond.selects RX0 yX0_minutesNeeded yX0_minutesNeeded, Cond.code yX0_minutesNeeded cX0_minutesNeeded 3 (some .int), Cond.methodLink RX3 54 yX3_workOn, Cond.instanceMethod yX3_workOn, Cond.selects RX3 yX3_workOn yX3_workOn, Cond.code yX3_workOn cX3_workOn 2 none, Cond.fieldLink RX3 85 "NightSorters$Crew" "minutesLeft" "[I", Cond.methodLink RX3 88 yX3_putLetter]
def wsL_arrives_r5 : List Cond := [Cond.instanceMethod yX3_putLetter, Cond.selects RX3 yX3_putLetter yX3_putLetter, Cond.code yX3_putLetter cX3_putLetter 3 none, Cond.fieldLink RX3 91 "NightSorters$Mail" "inHole" "[I", Cond.fieldLink RX3 94 "NightSorters$Mail" "town" "[I", Cond.fieldLink RX3 100 "NightSorters$Crew" "sorted" "[I", Cond.fieldLink RX3 103 "NightSorters$Crew" "tired" "[I", Cond.methodLink RX3 97 yX2_move, Cond.methodLink RX3 106 yX0_freeHands, Cond.instanceMethod yX0_freeHands, Cond.selects RX0 yX0_freeHands yX0_freeHands, Cond.code yX0_freeHands cX0_freeHands 2 none, Cond.methodLink RX3 57 yX1_passedIn, Cond.instanceMethod yX1_passedIn, Cond.selects RX1 yX1_passedIn yX1_passedIn, Cond.initialized RX1, Cond.code yX1_passedIn cX1_passedIn 3 (some .int), Cond.fieldLink RX1 9 "NightSorters$Line" "minutes" "[I", Cond.methodLink RX3 63 yX3_serve, Cond.instanceMethod yX3_serve, Cond.selects RX3 yX3_serve yX3_serve, Cond.code yX3_serve cX3_serve 3 none, Cond.fieldLink RX3 109 "NightSorters$Mail" "size" "I", Cond.methodLink RX3 110 yX2_isInBag]
def wsL_arrives_r6 : List Cond := [Cond.instanceMethod yX2_isInBag, Cond.selects RX2 yX2_isInBag yX2_isInBag, Cond.code yX2_isInBag cX2_isInBag 3 (some .boolean), Cond.methodLink RX3 114 yX3_hookIn, Cond.instanceMethod yX3_hookIn, Cond.selects RX3 yX3_hookIn yX3_hookIn, Cond.code yX3_hookIn cX3_hookIn 3 none, Cond.static yX4_stationOf, Cond.code yX4_stationOf cX4_stationOf 1 (some .int), Cond.methodLink RX3 123 yX2_end, Cond.instanceMethod yX2_end, Cond.selects RX2 yX2_end yX2_end, Cond.code yX2_end cX2_end 4 none, Cond.methodLink RX3 120 yX3_hookOut, Cond.instanceMethod yX3_hookOut, Cond.selects RX3 yX3_hookOut yX3_hookOut, Cond.code yX3_hookOut cX3_hookOut 4 none, Cond.fieldLink RX3 127 "NightSorters$Mail" "place" "[I", Cond.fieldLink RX3 130 "NightSorters$Mail" "holder" "[I", Cond.methodLink RX3 69 yX3_shake, Cond.instanceMethod yX3_shake, Cond.selects RX3 yX3_shake yX3_shake, Cond.code yX3_shake cX3_shake 2 none, Cond.methodLink RX3 133 yX0_spillTea]
def wsL_arrives_r7 : List Cond := [Cond.instanceMethod yX0_spillTea, Cond.selects RX0 yX0_spillTea yX0_spillTea, Cond.code yX0_spillTea cX0_spillTea 2 none, Cond.methodLink RX3 136 yX2_fullestHole, Cond.instanceMethod yX2_fullestHole, Cond.selects RX2 yX2_fullestHole yX2_fullestHole, Cond.code yX2_fullestHole cX2_fullestHole 3 (some .int), Cond.methodLink RX3 140 yX2_spillHole, Cond.instanceMethod yX2_spillHole, Cond.selects RX2 yX2_spillHole yX2_spillHole, Cond.code yX2_spillHole cX2_spillHole 3 none, Cond.methodLink RX3 143 yX0_tireAll, Cond.instanceMethod yX0_tireAll, Cond.selects RX0 yX0_tireAll yX0_tireAll, Cond.code yX0_tireAll cX0_tireAll 3 none]
def wsL_arrives : List Cond := .codeWith yL_arrives cL_arrives 4 (some .int) [(0, 9, 12, 13)] :: ((wsL_arrives_r1 ++ (wsL_arrives_r2 ++ (wsL_arrives_r3 ++ (wsL_arrives_r4 ++ (wsL_arrives_r5 ++ (wsL_arrives_r6 ++ wsL_arrives_r7)))))) ++ wsX40 ++ wsX30 ++ wsX20 ++ wsX00 ++ wsX10 ++ (vx_atS RX4 130 "java/lang/IndexOutOfBoundsException" ["java/lang/RuntimeException", "java/lang/Exception"]).filter goodWord)
def wsL_foresee_r1 : List Cond := [Cond.classLink RL 15 "java/lang/IllegalArgumentException", Cond.classLink RL 13 "java/lang/IndexOutOfBoundsException", Cond.methodLink RL 54 yX4_foresee, Cond.instanceMethod yX4_foresee, Cond.selects RX4 yX4_foresee yX4_foresee, Cond.initialized RX4, Cond.code yX4_foresee cX4_foresee 3 (some .int), Cond.classLink RX4 126 "java/lang/IndexOutOfBoundsException", Cond.initialized "java/lang/IndexOutOfBoundsException", Cond.fieldLink RX4 21 "NightSorters" "trial" "LNightSorters$Train;", Cond.fieldLink RX4 17 "NightSorters" "train" "LNightSorters$Train;", Cond.fieldLink RX4 58 "NightSorters$Train" "mail" "LNightSorters$Mail;", Cond.fieldLink RX4 109 "NightSorters$Mail" "inPlace" "[I", Cond.methodLink RX4 28 yX4_checkArgument, Cond.static yX4_checkArgument, Cond.code yX4_checkArgument cX4_checkArgument 3 none, Cond.classLink RX4 159 "java/lang/IllegalArgumentException", Cond.initialized "java/lang/IllegalArgumentException", Cond.methodLink RX4 116 yX3_copyFrom, Cond.instanceMethod yX3_copyFrom, Cond.selects RX3 yX3_copyFrom yX3_copyFrom, Cond.initialized RX3, Cond.code yX3_copyFrom cX3_copyFrom 2 none, Cond.fieldLink RX3 25 "NightSorters$Train" "minute" "I"]
def wsL_foresee_r2 : List Cond := [Cond.fieldLink RX3 12 "NightSorters$Train" "mail" "LNightSorters$Mail;", Cond.fieldLink RX3 21 "NightSorters$Train" "crew" "LNightSorters$Crew;", Cond.methodLink RX3 33 yX2_copyFrom, Cond.instanceMethod yX2_copyFrom, Cond.selects RX2 yX2_copyFrom yX2_copyFrom, Cond.initialized RX2, Cond.code yX2_copyFrom cX2_copyFrom 2 none, Cond.fieldLink RX2 9 "NightSorters$Mail" "size" "I", Cond.fieldLink RX2 15 "NightSorters$Mail" "town" "[I", Cond.methodLink RX2 48 arraycopyName, Cond.native arraycopyName, Cond.static arraycopyName, Cond.initialized "java/lang/System", Cond.fieldLink RX2 19 "NightSorters$Mail" "postedAt" "[I", Cond.fieldLink RX2 22 "NightSorters$Mail" "place" "[I", Cond.fieldLink RX2 25 "NightSorters$Mail" "holder" "[I", Cond.fieldLink RX2 28 "NightSorters$Mail" "endMinute" "[I", Cond.fieldLink RX2 31 "NightSorters$Mail" "inPlace" "[I", Cond.fieldLink RX2 34 "NightSorters$Mail" "inHole" "[I", Cond.methodLink RX3 37 yX0_copyFrom, Cond.instanceMethod yX0_copyFrom, Cond.selects RX0 yX0_copyFrom yX0_copyFrom, Cond.initialized RX0, Cond.code yX0_copyFrom cX0_copyFrom 2 none]
def wsL_foresee_r3 : List Cond := [Cond.fieldLink RX0 9 "NightSorters$Crew" "size" "I", Cond.fieldLink RX0 15 "NightSorters$Crew" "pace" "[I", Cond.methodLink RX0 41 arraycopyName, Cond.fieldLink RX0 19 "NightSorters$Crew" "towns" "[I", Cond.fieldLink RX0 22 "NightSorters$Crew" "tired" "[I", Cond.fieldLink RX0 25 "NightSorters$Crew" "withTea" "[I", Cond.fieldLink RX0 28 "NightSorters$Crew" "held" "[I", Cond.fieldLink RX0 31 "NightSorters$Crew" "minutesLeft" "[I", Cond.fieldLink RX0 34 "NightSorters$Crew" "sorted" "[I", Cond.methodLink RX4 112 yX3_run, Cond.instanceMethod yX3_run, Cond.selects RX3 yX3_run yX3_run, Cond.code yX3_run cX3_run 3 none, Cond.methodLink RX3 40 yX3_runMinute, Cond.instanceMethod yX3_runMinute, Cond.selects RX3 yX3_runMinute yX3_runMinute, Cond.code yX3_runMinute cX3_runMinute 3 none, Cond.fieldLink RX3 43 "NightSorters$Crew" "size" "I", Cond.fieldLink RX3 46 "NightSorters$Crew" "held" "[I", Cond.fieldLink RX3 29 "NightSorters$Train" "line" "LNightSorters$Line;", Cond.fieldLink RX3 66 "NightSorters$Line" "jolts" "[I", Cond.methodLink RX3 50 yX3_takeLetter, Cond.instanceMethod yX3_takeLetter, Cond.selects RX3 yX3_takeLetter yX3_takeLetter]
def wsL_foresee_r4 : List Cond := [Cond.code yX3_takeLetter cX3_takeLetter 3 none, Cond.fieldLink RX3 72 "NightSorters$Crew" "towns" "[I", Cond.methodLink RX3 75 yX2_firstOnTable, Cond.instanceMethod yX2_firstOnTable, Cond.selects RX2 yX2_firstOnTable yX2_firstOnTable, Cond.code yX2_firstOnTable cX2_firstOnTable 3 (some .int), Cond.static yX4_hasTown, Cond.code yX4_hasTown cX4_hasTown 2 (some .boolean), Cond.methodLink RX3 78 yX2_moveToHands, Cond.instanceMethod yX2_moveToHands, Cond.selects RX2 yX2_moveToHands yX2_moveToHands, Cond.code yX2_moveToHands cX2_moveToHands 3 none, Cond.methodLink RX2 37 yX2_move, Cond.instanceMethod yX2_move, Cond.selects RX2 yX2_move yX2_move, Cond.code yX2_move cX2_move 4 none, Cond.methodLink RX3 82 yX0_takeUp, Cond.instanceMethod yX0_takeUp, Cond.selects RX0 yX0_takeUp yX0_takeUp, Cond.code yX0_takeUp cX0_takeUp 3 none, Cond.methodLink RX0 37 yX0_minutesNeeded, Cond.instanceMethod yX0_minutesNeeded, Cond.selects RX0 yX0_minutesNeeded yX0_minutesNeeded, Cond.code yX0_minutesNeeded cX0_minutesNeeded 3 (some .int)]
def wsL_foresee_r5 : List Cond := [Cond.methodLink RX3 54 yX3_workOn, Cond.instanceMethod yX3_workOn, Cond.selects RX3 yX3_workOn yX3_workOn, Cond.code yX3_workOn cX3_workOn 2 none, Cond.fieldLink RX3 85 "NightSorters$Crew" "minutesLeft" "[I", Cond.methodLink RX3 88 yX3_putLetter, Cond.instanceMethod yX3_putLetter, Cond.selects RX3 yX3_putLetter yX3_putLetter, Cond.code yX3_putLetter cX3_putLetter 3 none, Cond.fieldLink RX3 91 "NightSorters$Mail" "inHole" "[I", Cond.fieldLink RX3 94 "NightSorters$Mail" "town" "[I", Cond.fieldLink RX3 100 "NightSorters$Crew" "sorted" "[I", Cond.fieldLink RX3 103 "NightSorters$Crew" "tired" "[I", Cond.methodLink RX3 97 yX2_move, Cond.methodLink RX3 106 yX0_freeHands, Cond.instanceMethod yX0_freeHands, Cond.selects RX0 yX0_freeHands yX0_freeHands, Cond.code yX0_freeHands cX0_freeHands 2 none, Cond.methodLink RX3 57 yX1_passedIn, Cond.instanceMethod yX1_passedIn, Cond.selects RX1 yX1_passedIn yX1_passedIn, Cond.initialized RX1, Cond.code yX1_passedIn cX1_passedIn 3 (some .int), Cond.fieldLink RX1 9 "NightSorters$Line" "minutes" "[I"]
def wsL_foresee_r6 : List Cond := [Cond.methodLink RX3 63 yX3_serve, Cond.instanceMethod yX3_serve, Cond.selects RX3 yX3_serve yX3_serve, Cond.code yX3_serve cX3_serve 3 none, Cond.fieldLink RX3 109 "NightSorters$Mail" "size" "I", Cond.methodLink RX3 110 yX2_isInBag, Cond.instanceMethod yX2_isInBag, Cond.selects RX2 yX2_isInBag yX2_isInBag, Cond.code yX2_isInBag cX2_isInBag 3 (some .boolean), Cond.methodLink RX3 114 yX3_hookIn, Cond.instanceMethod yX3_hookIn, Cond.selects RX3 yX3_hookIn yX3_hookIn, Cond.code yX3_hookIn cX3_hookIn 3 none, Cond.static yX4_stationOf, Cond.code yX4_stationOf cX4_stationOf 1 (some .int), Cond.methodLink RX3 123 yX2_end, Cond.instanceMethod yX2_end, Cond.selects RX2 yX2_end yX2_end, Cond.code yX2_end cX2_end 4 none, Cond.methodLink RX3 120 yX3_hookOut, Cond.instanceMethod yX3_hookOut, Cond.selects RX3 yX3_hookOut yX3_hookOut, Cond.code yX3_hookOut cX3_hookOut 4 none, Cond.fieldLink RX3 127 "NightSorters$Mail" "place" "[I"]
def wsL_foresee_r7 : List Cond := [Cond.fieldLink RX3 130 "NightSorters$Mail" "holder" "[I", Cond.methodLink RX3 69 yX3_shake, Cond.instanceMethod yX3_shake, Cond.selects RX3 yX3_shake yX3_shake, Cond.code yX3_shake cX3_shake 2 none, Cond.methodLink RX3 133 yX0_spillTea, Cond.instanceMethod yX0_spillTea, Cond.selects RX0 yX0_spillTea yX0_spillTea, Cond.code yX0_spillTea cX0_spillTea 2 none, Cond.methodLink RX3 136 yX2_fullestHole, Cond.instanceMethod yX2_fullestHole, Cond.selects RX2 yX2_fullestHole yX2_fullestHole, Cond.code yX2_fullestHole cX2_fullestHole 3 (some .int), Cond.methodLink RX3 140 yX2_spillHole, Cond.instanceMethod yX2_spillHole, Cond.selects RX2 yX2_spillHole yX2_spillHole, Cond.code yX2_spillHole cX2_spillHole 3 none, Cond.methodLink RX3 143 yX0_tireAll, Cond.instanceMethod yX0_tireAll, Cond.selects RX0 yX0_tireAll yX0_tireAll, Cond.code yX0_tireAll cX0_tireAll 3 none]
def wsL_foresee : List Cond := .codeWith yL_foresee cL_foresee 5 (some .int) [(0, 10, 13, 15), (0, 10, 17, 13)] :: ((wsL_foresee_r1 ++ (wsL_foresee_r2 ++ (wsL_foresee_r3 ++ (wsL_foresee_r4 ++ (wsL_foresee_r5 ++ (wsL_foresee_r6 ++ wsL_foresee_r7)))))) ++ wsX40 ++ wsX30 ++ wsX20 ++ wsX00 ++ wsX10 ++ (vx_atS RX4 130 "java/lang/IndexOutOfBoundsException" ["java/lang/RuntimeException", "java/lang/Exception"]).filter goodWord ++ (vx_atS RX4 163 "java/lang/IllegalArgumentException" ["java/lang/RuntimeException", "java/lang/Exception"]).filter goodWord)
def wsL_advise_r1 : List Cond := [Cond.classLink RL 13 "java/lang/IndexOutOfBoundsException", Cond.classLink RL 15 "java/lang/IllegalArgumentException", Cond.methodLink RL 57 yX4_advise, Cond.instanceMethod yX4_advise, Cond.selects RX4 yX4_advise yX4_advise, Cond.initialized RX4, Cond.code yX4_advise cX4_advise 8 (some .int), Cond.fieldLink RX4 17 "NightSorters" "train" "LNightSorters$Train;", Cond.fieldLink RX4 74 "NightSorters$Train" "crew" "LNightSorters$Crew;", Cond.fieldLink RX4 78 "NightSorters$Crew" "size" "I", Cond.fieldLink RX4 86 "NightSorters$Crew" "towns" "[I", Cond.methodLink RX4 24 yX4_checkIndex, Cond.static yX4_checkIndex, Cond.code yX4_checkIndex cX4_checkIndex 2 none, Cond.classLink RX4 126 "java/lang/IndexOutOfBoundsException", Cond.initialized "java/lang/IndexOutOfBoundsException", Cond.methodLink RX4 28 yX4_checkArgument, Cond.static yX4_checkArgument, Cond.code yX4_checkArgument cX4_checkArgument 3 none, Cond.classLink RX4 159 "java/lang/IllegalArgumentException", Cond.initialized "java/lang/IllegalArgumentException", Cond.methodLink RX4 131 yX4_deliveredIfAssigned, Cond.instanceMethod yX4_deliveredIfAssigned, Cond.selects RX4 yX4_deliveredIfAssigned yX4_deliveredIfAssigned]
def wsL_advise_r2 : List Cond := [Cond.code yX4_deliveredIfAssigned cX4_deliveredIfAssigned 4 (some .int), Cond.fieldLink RX4 21 "NightSorters" "trial" "LNightSorters$Train;", Cond.fieldLink RX4 58 "NightSorters$Train" "mail" "LNightSorters$Mail;", Cond.fieldLink RX4 109 "NightSorters$Mail" "inPlace" "[I", Cond.methodLink RX4 116 yX3_copyFrom, Cond.instanceMethod yX3_copyFrom, Cond.selects RX3 yX3_copyFrom yX3_copyFrom, Cond.initialized RX3, Cond.code yX3_copyFrom cX3_copyFrom 2 none, Cond.fieldLink RX3 25 "NightSorters$Train" "minute" "I", Cond.fieldLink RX3 12 "NightSorters$Train" "mail" "LNightSorters$Mail;", Cond.fieldLink RX3 21 "NightSorters$Train" "crew" "LNightSorters$Crew;", Cond.methodLink RX3 33 yX2_copyFrom, Cond.instanceMethod yX2_copyFrom, Cond.selects RX2 yX2_copyFrom yX2_copyFrom, Cond.initialized RX2, Cond.code yX2_copyFrom cX2_copyFrom 2 none, Cond.fieldLink RX2 9 "NightSorters$Mail" "size" "I", Cond.fieldLink RX2 15 "NightSorters$Mail" "town" "[I", Cond.methodLink RX2 48 arraycopyName, Cond.native arraycopyName, Cond.static arraycopyName, Cond.initialized "java/lang/System", Cond.fieldLink RX2 19 "NightSorters$Mail" "postedAt" "[I"]
def wsL_advise_r3 : List Cond := [Cond.fieldLink RX2 22 "NightSorters$Mail" "place" "[I", Cond.fieldLink RX2 25 "NightSorters$Mail" "holder" "[I", Cond.fieldLink RX2 28 "NightSorters$Mail" "endMinute" "[I", Cond.fieldLink RX2 31 "NightSorters$Mail" "inPlace" "[I", Cond.fieldLink RX2 34 "NightSorters$Mail" "inHole" "[I", Cond.methodLink RX3 37 yX0_copyFrom, Cond.instanceMethod yX0_copyFrom, Cond.selects RX0 yX0_copyFrom yX0_copyFrom, Cond.initialized RX0, Cond.code yX0_copyFrom cX0_copyFrom 2 none, Cond.fieldLink RX0 9 "NightSorters$Crew" "size" "I", Cond.fieldLink RX0 15 "NightSorters$Crew" "pace" "[I", Cond.methodLink RX0 41 arraycopyName, Cond.fieldLink RX0 19 "NightSorters$Crew" "towns" "[I", Cond.fieldLink RX0 22 "NightSorters$Crew" "tired" "[I", Cond.fieldLink RX0 25 "NightSorters$Crew" "withTea" "[I", Cond.fieldLink RX0 28 "NightSorters$Crew" "held" "[I", Cond.fieldLink RX0 31 "NightSorters$Crew" "minutesLeft" "[I", Cond.fieldLink RX0 34 "NightSorters$Crew" "sorted" "[I", Cond.methodLink RX4 112 yX3_run, Cond.instanceMethod yX3_run, Cond.selects RX3 yX3_run yX3_run, Cond.code yX3_run cX3_run 3 none, Cond.methodLink RX3 40 yX3_runMinute]
def wsL_advise_r4 : List Cond := [Cond.instanceMethod yX3_runMinute, Cond.selects RX3 yX3_runMinute yX3_runMinute, Cond.code yX3_runMinute cX3_runMinute 3 none, Cond.fieldLink RX3 43 "NightSorters$Crew" "size" "I", Cond.fieldLink RX3 46 "NightSorters$Crew" "held" "[I", Cond.fieldLink RX3 29 "NightSorters$Train" "line" "LNightSorters$Line;", Cond.fieldLink RX3 66 "NightSorters$Line" "jolts" "[I", Cond.methodLink RX3 50 yX3_takeLetter, Cond.instanceMethod yX3_takeLetter, Cond.selects RX3 yX3_takeLetter yX3_takeLetter, Cond.code yX3_takeLetter cX3_takeLetter 3 none, Cond.fieldLink RX3 72 "NightSorters$Crew" "towns" "[I", Cond.methodLink RX3 75 yX2_firstOnTable, Cond.instanceMethod yX2_firstOnTable, Cond.selects RX2 yX2_firstOnTable yX2_firstOnTable, Cond.code yX2_firstOnTable cX2_firstOnTable 3 (some .int), Cond.static yX4_hasTown, Cond.code yX4_hasTown cX4_hasTown 2 (some .boolean), Cond.methodLink RX3 78 yX2_moveToHands, Cond.instanceMethod yX2_moveToHands, Cond.selects RX2 yX2_moveToHands yX2_moveToHands, Cond.code yX2_moveToHands cX2_moveToHands 3 none, Cond.methodLink RX2 37 yX2_move, Cond.instanceMethod yX2_move]
def wsL_advise_r5 : List Cond := [Cond.selects RX2 yX2_move yX2_move, Cond.code yX2_move cX2_move 4 none, Cond.methodLink RX3 82 yX0_takeUp, Cond.instanceMethod yX0_takeUp, Cond.selects RX0 yX0_takeUp yX0_takeUp, Cond.code yX0_takeUp cX0_takeUp 3 none, Cond.methodLink RX0 37 yX0_minutesNeeded, Cond.instanceMethod yX0_minutesNeeded, Cond.selects RX0 yX0_minutesNeeded yX0_minutesNeeded, Cond.code yX0_minutesNeeded cX0_minutesNeeded 3 (some .int), Cond.methodLink RX3 54 yX3_workOn, Cond.instanceMethod yX3_workOn, Cond.selects RX3 yX3_workOn yX3_workOn, Cond.code yX3_workOn cX3_workOn 2 none, Cond.fieldLink RX3 85 "NightSorters$Crew" "minutesLeft" "[I", Cond.methodLink RX3 88 yX3_putLetter, Cond.instanceMethod yX3_putLetter, Cond.selects RX3 yX3_putLetter yX3_putLetter, Cond.code yX3_putLetter cX3_putLetter 3 none, Cond.fieldLink RX3 91 "NightSorters$Mail" "inHole" "[I", Cond.fieldLink RX3 94 "NightSorters$Mail" "town" "[I", Cond.fieldLink RX3 100 "NightSorters$Crew" "sorted" "[I", Cond.fieldLink RX3 103 "NightSorters$Crew" "tired" "[I", Cond.methodLink RX3 97 yX2_move]
def wsL_advise_r6 : List Cond := [Cond.methodLink RX3 106 yX0_freeHands, Cond.instanceMethod yX0_freeHands, Cond.selects RX0 yX0_freeHands yX0_freeHands, Cond.code yX0_freeHands cX0_freeHands 2 none, Cond.methodLink RX3 57 yX1_passedIn, Cond.instanceMethod yX1_passedIn, Cond.selects RX1 yX1_passedIn yX1_passedIn, Cond.initialized RX1, Cond.code yX1_passedIn cX1_passedIn 3 (some .int), Cond.fieldLink RX1 9 "NightSorters$Line" "minutes" "[I", Cond.methodLink RX3 63 yX3_serve, Cond.instanceMethod yX3_serve, Cond.selects RX3 yX3_serve yX3_serve, Cond.code yX3_serve cX3_serve 3 none, Cond.fieldLink RX3 109 "NightSorters$Mail" "size" "I", Cond.methodLink RX3 110 yX2_isInBag, Cond.instanceMethod yX2_isInBag, Cond.selects RX2 yX2_isInBag yX2_isInBag, Cond.code yX2_isInBag cX2_isInBag 3 (some .boolean), Cond.methodLink RX3 114 yX3_hookIn, Cond.instanceMethod yX3_hookIn, Cond.selects RX3 yX3_hookIn yX3_hookIn, Cond.code yX3_hookIn cX3_hookIn 3 none, Cond.static yX4_stationOf]
def wsL_advise_r7 : List Cond := [Cond.code yX4_stationOf cX4_stationOf 1 (some .int), Cond.methodLink RX3 123 yX2_end, Cond.instanceMethod yX2_end, Cond.selects RX2 yX2_end yX2_end, Cond.code yX2_end cX2_end 4 none, Cond.methodLink RX3 120 yX3_hookOut, Cond.instanceMethod yX3_hookOut, Cond.selects RX3 yX3_hookOut yX3_hookOut, Cond.code yX3_hookOut cX3_hookOut 4 none, Cond.fieldLink RX3 127 "NightSorters$Mail" "place" "[I", Cond.fieldLink RX3 130 "NightSorters$Mail" "holder" "[I", Cond.methodLink RX3 69 yX3_shake, Cond.instanceMethod yX3_shake, Cond.selects RX3 yX3_shake yX3_shake, Cond.code yX3_shake cX3_shake 2 none, Cond.methodLink RX3 133 yX0_spillTea, Cond.instanceMethod yX0_spillTea, Cond.selects RX0 yX0_spillTea yX0_spillTea, Cond.code yX0_spillTea cX0_spillTea 2 none, Cond.methodLink RX3 136 yX2_fullestHole, Cond.instanceMethod yX2_fullestHole, Cond.selects RX2 yX2_fullestHole yX2_fullestHole, Cond.code yX2_fullestHole cX2_fullestHole 3 (some .int), Cond.methodLink RX3 140 yX2_spillHole]
def wsL_advise_r8 : List Cond := [Cond.instanceMethod yX2_spillHole, Cond.selects RX2 yX2_spillHole yX2_spillHole, Cond.code yX2_spillHole cX2_spillHole 3 none, Cond.methodLink RX3 143 yX0_tireAll, Cond.instanceMethod yX0_tireAll, Cond.selects RX0 yX0_tireAll yX0_tireAll, Cond.code yX0_tireAll cX0_tireAll 3 none, Cond.methodLink RX4 135 yX4_hasTown]
def wsL_advise : List Cond := .codeWith yL_advise cL_advise 5 (some .int) [(0, 10, 13, 13), (0, 10, 17, 15)] :: ((wsL_advise_r1 ++ (wsL_advise_r2 ++ (wsL_advise_r3 ++ (wsL_advise_r4 ++ (wsL_advise_r5 ++ (wsL_advise_r6 ++ (wsL_advise_r7 ++ wsL_advise_r8))))))) ++ wsX40 ++ wsX30 ++ wsX00 ++ wsX20 ++ wsX10 ++ (vx_atS RX4 130 "java/lang/IndexOutOfBoundsException" ["java/lang/RuntimeException", "java/lang/Exception"]).filter goodWord ++ (vx_atS RX4 163 "java/lang/IllegalArgumentException" ["java/lang/RuntimeException", "java/lang/Exception"]).filter goodWord)
def wsL_law0_r1 : List Cond := [Cond.classLink RL 8 RX4, Cond.instantiable RX4 2, Cond.initialized RX4, Cond.classLink RL 61 RX6, Cond.instantiable RX6 10, Cond.initialized RX6, Cond.arrayClass .long, Cond.methodLink RL 60 yX4_init, Cond.instanceMethod yX4_init, Cond.code yX4_init cX4_init 2 none, Cond.methodLink RX4 3 objectInit, Cond.instanceMethod objectInit, Cond.code objectInit ⟨#[0xb1]⟩ 1 none, Cond.classLink RX4 9 RX1, Cond.instantiable RX1 2, Cond.initialized RX1, Cond.classLink RX4 12 RX3, Cond.instantiable RX3 4, Cond.initialized RX3, Cond.fieldLink RX4 17 "NightSorters" "train" "LNightSorters$Train;", Cond.fieldLink RX4 21 "NightSorters" "trial" "LNightSorters$Train;", Cond.methodLink RX4 11 yX1_init, Cond.instanceMethod yX1_init, Cond.code yX1_init cX1_init 2 none]
def wsL_law0_r2 : List Cond := [Cond.methodLink RX1 3 objectInit, Cond.arrayClass .int, Cond.fieldLink RX1 9 "NightSorters$Line" "minutes" "[I", Cond.fieldLink RX1 15 "NightSorters$Line" "jolts" "[I", Cond.methodLink RX4 14 yX3_init, Cond.instanceMethod yX3_init, Cond.code yX3_init cX3_init 2 none, Cond.methodLink RX3 3 objectInit, Cond.classLink RX3 9 RX2, Cond.instantiable RX2 8, Cond.initialized RX2, Cond.fieldLink RX3 12 "NightSorters$Train" "mail" "LNightSorters$Mail;", Cond.classLink RX3 18 RX0, Cond.instantiable RX0 8, Cond.initialized RX0, Cond.fieldLink RX3 21 "NightSorters$Train" "crew" "LNightSorters$Crew;", Cond.fieldLink RX3 25 "NightSorters$Train" "minute" "I", Cond.fieldLink RX3 29 "NightSorters$Train" "line" "LNightSorters$Line;", Cond.instanceMethod yX2_init, Cond.code yX2_init cX2_init 1 none, Cond.methodLink RX2 3 objectInit, Cond.fieldLink RX2 9 "NightSorters$Mail" "size" "I", Cond.fieldLink RX2 15 "NightSorters$Mail" "town" "[I", Cond.fieldLink RX2 19 "NightSorters$Mail" "postedAt" "[I"]
def wsL_law0_r3 : List Cond := [Cond.fieldLink RX2 22 "NightSorters$Mail" "place" "[I", Cond.fieldLink RX2 25 "NightSorters$Mail" "holder" "[I", Cond.fieldLink RX2 28 "NightSorters$Mail" "endMinute" "[I", Cond.fieldLink RX2 31 "NightSorters$Mail" "inPlace" "[I", Cond.fieldLink RX2 34 "NightSorters$Mail" "inHole" "[I", Cond.instanceMethod yX0_init, Cond.code yX0_init cX0_init 1 none, Cond.methodLink RX0 3 objectInit, Cond.fieldLink RX0 9 "NightSorters$Crew" "size" "I", Cond.fieldLink RX0 15 "NightSorters$Crew" "pace" "[I", Cond.fieldLink RX0 19 "NightSorters$Crew" "towns" "[I", Cond.fieldLink RX0 22 "NightSorters$Crew" "tired" "[I", Cond.fieldLink RX0 25 "NightSorters$Crew" "withTea" "[I", Cond.fieldLink RX0 28 "NightSorters$Crew" "held" "[I", Cond.fieldLink RX0 31 "NightSorters$Crew" "minutesLeft" "[I", Cond.fieldLink RX0 34 "NightSorters$Crew" "sorted" "[I", Cond.methodLink RL 63 yX6_init, Cond.instanceMethod yX6_init, Cond.code yX6_init cX6_init 2 none, Cond.methodLink RX6 1 objectInit, Cond.fieldLink RX6 9 "NightSortersModel" "passes" "[I", Cond.fieldLink RX6 13 "NightSortersModel" "jolt" "[I", Cond.fieldLink RX6 16 "NightSortersModel" "town" "[I", Cond.fieldLink RX6 19 "NightSortersModel" "station" "[I"]
def wsL_law0_r4 : List Cond := [Cond.fieldLink RX6 22 "NightSortersModel" "pace" "[I", Cond.classLink RX6 25 RX5, Cond.instantiable RX5 11, Cond.initialized RX5, Cond.fieldLink RX6 30 "NightSortersModel" "s" "LNightSortersModel$State;", Cond.fieldLink RX6 34 "NightSortersModel" "ahead" "LNightSortersModel$State;", Cond.instanceMethod yX5_init, Cond.code yX5_init cX5_init 2 none, Cond.fieldLink RX5 3 "NightSortersModel$State" "this$0" "LNightSortersModel;", Cond.methodLink RX5 9 objectInit, Cond.fieldLink RX5 15 "NightSortersModel$State" "where" "[I", Cond.fieldLink RX5 19 "NightSortersModel$State" "who" "[I", Cond.fieldLink RX5 22 "NightSortersModel$State" "when" "[I", Cond.fieldLink RX5 25 "NightSortersModel$State" "towns" "[I", Cond.fieldLink RX5 28 "NightSortersModel$State" "tired" "[I", Cond.fieldLink RX5 31 "NightSortersModel$State" "tea" "[I", Cond.fieldLink RX5 34 "NightSortersModel$State" "holds" "[I", Cond.fieldLink RX5 37 "NightSortersModel$State" "left" "[I", Cond.fieldLink RX5 40 "NightSortersModel$State" "sorted" "[I", Cond.methodLink RL 64 yL_setStation, Cond.static yL_setStation, Cond.initialized RL, Cond.codeWith yL_setStation cL_setStation 6 (some .int) [(0, 12, 15, 13), (0, 12, 19, 15), (0, 12, 23, 17)], Cond.classLink RL 13 "java/lang/IndexOutOfBoundsException"]
def wsL_law0_r5 : List Cond := [Cond.classLink RL 15 "java/lang/IllegalArgumentException", Cond.classLink RL 17 "java/lang/IllegalStateException", Cond.methodLink RL 7 yX4_setStation, Cond.instanceMethod yX4_setStation, Cond.selects RX4 yX4_setStation yX4_setStation, Cond.code yX4_setStation cX4_setStation 6 (some .int), Cond.classLink RX4 48 "java/lang/IllegalStateException", Cond.initialized "java/lang/IllegalStateException", Cond.fieldLink RX4 32 "NightSorters$Train" "line" "LNightSorters$Line;", Cond.fieldLink RX4 36 "NightSorters$Train" "minute" "I", Cond.fieldLink RX4 40 "NightSorters$Line" "minutes" "[I", Cond.fieldLink RX4 55 "NightSorters$Line" "jolts" "[I", Cond.methodLink RX4 24 yX4_checkIndex, Cond.static yX4_checkIndex, Cond.code yX4_checkIndex cX4_checkIndex 2 none, Cond.classLink RX4 126 "java/lang/IndexOutOfBoundsException", Cond.initialized "java/lang/IndexOutOfBoundsException", Cond.methodLink RX4 28 yX4_checkArgument, Cond.static yX4_checkArgument, Cond.code yX4_checkArgument cX4_checkArgument 3 none, Cond.classLink RX4 159 "java/lang/IllegalArgumentException", Cond.initialized "java/lang/IllegalArgumentException", Cond.methodLink RX4 44 yX1_wouldRise, Cond.instanceMethod yX1_wouldRise]
def wsL_law0_r6 : List Cond := [Cond.selects RX1 yX1_wouldRise yX1_wouldRise, Cond.code yX1_wouldRise cX1_wouldRise 5 (some .boolean), Cond.methodLink RL 69 yX6_setStation, Cond.instanceMethod yX6_setStation, Cond.selects RX6 yX6_setStation yX6_setStation, Cond.code yX6_setStation cX6_setStation 5 (some .int), Cond.fieldLink RX6 37 "NightSortersModel" "thrown" "I", Cond.methodLink RX6 52 yX6_isStation, Cond.static yX6_isStation, Cond.code yX6_isStation cX6_isStation 1 (some .boolean), Cond.methodLink RX6 41 yX6_isIn, Cond.static yX6_isIn, Cond.code yX6_isIn cX6_isIn 3 (some .boolean), Cond.methodLink RX6 56 yX6_no, Cond.instanceMethod yX6_no, Cond.selects RX6 yX6_no yX6_no, Cond.code yX6_no cX6_no 2 (some .int), Cond.methodLink RX6 63 yX6_wouldRise, Cond.instanceMethod yX6_wouldRise, Cond.selects RX6 yX6_wouldRise yX6_wouldRise, Cond.code yX6_wouldRise cX6_wouldRise 3 (some .boolean), Cond.methodLink RL 70 yX6_thrown, Cond.instanceMethod yX6_thrown, Cond.selects RX6 yX6_thrown yX6_thrown]
def wsL_law0_r7 : List Cond := [Cond.code yX6_thrown cX6_thrown 1 (some .int), Cond.methodLink RL 74 yL_post, Cond.static yL_post, Cond.codeWith yL_post cL_post 5 (some .int) [(0, 10, 13, 13), (0, 10, 17, 17)], Cond.methodLink RL 19 yX4_post, Cond.instanceMethod yX4_post, Cond.selects RX4 yX4_post yX4_post, Cond.code yX4_post cX4_post 3 (some .int), Cond.fieldLink RX4 58 "NightSorters$Train" "mail" "LNightSorters$Mail;", Cond.fieldLink RX4 62 "NightSorters$Mail" "size" "I", Cond.methodLink RX4 69 yX2_addToBag, Cond.instanceMethod yX2_addToBag, Cond.selects RX2 yX2_addToBag yX2_addToBag, Cond.code yX2_addToBag cX2_addToBag 4 (some .int), Cond.methodLink RL 77 yX6_post, Cond.instanceMethod yX6_post, Cond.selects RX6 yX6_post yX6_post, Cond.code yX6_post cX6_post 3 (some .int), Cond.fieldLink RX6 46 "NightSortersModel" "letters" "I", Cond.methodLink RX6 67 yX6_isTown, Cond.static yX6_isTown, Cond.code yX6_isTown cX6_isTown 1 (some .boolean), Cond.methodLink RL 78 yL_hire, Cond.static yL_hire]
def wsL_law0_r8 : List Cond := [Cond.codeWith yL_hire cL_hire 5 (some .int) [(0, 10, 13, 15), (0, 10, 17, 17)], Cond.methodLink RL 23 yX4_hire, Cond.instanceMethod yX4_hire, Cond.selects RX4 yX4_hire yX4_hire, Cond.code yX4_hire cX4_hire 3 (some .int), Cond.constant RX4 73 (65535), Cond.fieldLink RX4 74 "NightSorters$Train" "crew" "LNightSorters$Crew;", Cond.fieldLink RX4 78 "NightSorters$Crew" "size" "I", Cond.methodLink RX4 83 yX0_add, Cond.instanceMethod yX0_add, Cond.selects RX0 yX0_add yX0_add, Cond.code yX0_add cX0_add 4 (some .int), Cond.methodLink RL 80 yX6_hire, Cond.instanceMethod yX6_hire, Cond.selects RX6 yX6_hire yX6_hire, Cond.code yX6_hire cX6_hire 3 (some .int), Cond.fieldLink RX6 49 "NightSortersModel" "sorters" "I", Cond.methodLink RX6 76 yX6_isSet, Cond.static yX6_isSet, Cond.code yX6_isSet cX6_isSet 1 (some .boolean), Cond.constant RX6 45 (65535), Cond.methodLink RL 81 yL_assign, Cond.static yL_assign, Cond.codeWith yL_assign cL_assign 5 (some .int) [(0, 10, 13, 13), (0, 10, 17, 15)]]
def wsL_law0_r9 : List Cond := [Cond.methodLink RL 26 yX4_assign, Cond.instanceMethod yX4_assign, Cond.selects RX4 yX4_assign yX4_assign, Cond.code yX4_assign cX4_assign 4 (some .int), Cond.fieldLink RX4 86 "NightSorters$Crew" "towns" "[I", Cond.methodLink RL 83 yX6_assign, Cond.instanceMethod yX6_assign, Cond.selects RX6 yX6_assign yX6_assign, Cond.code yX6_assign cX6_assign 4 (some .int), Cond.methodLink RX6 85 yX6_isSorter, Cond.instanceMethod yX6_isSorter, Cond.selects RX6 yX6_isSorter yX6_isSorter, Cond.code yX6_isSorter cX6_isSorter 2 (some .boolean), Cond.methodLink RL 84 yL_tea, Cond.static yL_tea, Cond.codeWith yL_tea cL_tea 4 (some .int) [(0, 9, 12, 13)], Cond.methodLink RL 29 yX4_tea, Cond.instanceMethod yX4_tea, Cond.selects RX4 yX4_tea yX4_tea, Cond.code yX4_tea cX4_tea 3 (some .int), Cond.fieldLink RX4 89 "NightSorters$Crew" "tired" "[I", Cond.fieldLink RX4 92 "NightSorters$Crew" "withTea" "[I", Cond.methodLink RL 87 yX6_tea, Cond.instanceMethod yX6_tea]
def wsL_law0_r10 : List Cond := [Cond.selects RX6 yX6_tea yX6_tea, Cond.code yX6_tea cX6_tea 3 (some .int), Cond.methodLink RL 88 yL_letter, Cond.static yL_letter, Cond.codeWith yL_letter cL_letter 5 (some .int) [(0, 10, 13, 13)], Cond.methodLink RL 33 yX4_letter, Cond.instanceMethod yX4_letter, Cond.selects RX4 yX4_letter yX4_letter, Cond.code yX4_letter cX4_letter 3 (some .int), Cond.methodLink RX4 95 yX2_fact, Cond.instanceMethod yX2_fact, Cond.selects RX2 yX2_fact yX2_fact, Cond.code yX2_fact cX2_fact 3 (some .int), Cond.methodLink RL 90 yX6_letter, Cond.instanceMethod yX6_letter, Cond.selects RX6 yX6_letter yX6_letter, Cond.code yX6_letter cX6_letter 3 (some .int), Cond.methodLink RX6 97 yX6_isLetter, Cond.instanceMethod yX6_isLetter, Cond.selects RX6 yX6_isLetter yX6_isLetter, Cond.code yX6_isLetter cX6_isLetter 2 (some .boolean), Cond.methodLink RX6 100 yX6_letterTold, Cond.instanceMethod yX6_letterTold, Cond.selects RX6 yX6_letterTold yX6_letterTold]
def wsL_law0_r11 : List Cond := [Cond.code yX6_letterTold cX6_letterTold 4 (some .int), Cond.methodLink RL 91 yL_sorter, Cond.static yL_sorter, Cond.codeWith yL_sorter cL_sorter 5 (some .int) [(0, 10, 13, 13)], Cond.methodLink RL 36 yX4_sorter, Cond.instanceMethod yX4_sorter, Cond.selects RX4 yX4_sorter yX4_sorter, Cond.code yX4_sorter cX4_sorter 3 (some .int), Cond.methodLink RX4 98 yX0_fact, Cond.instanceMethod yX0_fact, Cond.selects RX0 yX0_fact yX0_fact, Cond.code yX0_fact cX0_fact 3 (some .int), Cond.methodLink RL 93 yX6_sorter, Cond.instanceMethod yX6_sorter, Cond.selects RX6 yX6_sorter yX6_sorter, Cond.code yX6_sorter cX6_sorter 3 (some .int), Cond.methodLink RX6 110 yX6_sorterTold, Cond.instanceMethod yX6_sorterTold, Cond.selects RX6 yX6_sorterTold yX6_sorterTold, Cond.code yX6_sorterTold cX6_sorterTold 4 (some .int), Cond.methodLink RL 94 yL_hole, Cond.static yL_hole, Cond.codeWith yL_hole cL_hole 4 (some .int) [(0, 9, 12, 13)], Cond.methodLink RL 39 yX4_hole]
def wsL_law0_r12 : List Cond := [Cond.instanceMethod yX4_hole, Cond.selects RX4 yX4_hole yX4_hole, Cond.code yX4_hole cX4_hole 2 (some .int), Cond.fieldLink RX4 99 "NightSorters$Mail" "inHole" "[I", Cond.methodLink RL 96 yX6_hole, Cond.instanceMethod yX6_hole, Cond.selects RX6 yX6_hole yX6_hole, Cond.code yX6_hole cX6_hole 2 (some .int), Cond.methodLink RX6 113 yX5_inHole, Cond.instanceMethod yX5_inHole, Cond.selects RX5 yX5_inHole yX5_inHole, Cond.code yX5_inHole cX5_inHole 4 (some .int), Cond.methodLink RL 97 yL_station, Cond.static yL_station, Cond.codeWith yL_station cL_station 5 (some .int) [(0, 10, 13, 13)], Cond.methodLink RL 42 yX4_station, Cond.instanceMethod yX4_station, Cond.selects RX4 yX4_station yX4_station, Cond.code yX4_station cX4_station 3 (some .int), Cond.methodLink RX4 102 yX2_lettersInBag, Cond.instanceMethod yX2_lettersInBag, Cond.selects RX2 yX2_lettersInBag yX2_lettersInBag, Cond.code yX2_lettersInBag cX2_lettersInBag 4 (some .int), Cond.methodLink RX2 45 yX2_isInBag]
def wsL_law0_r13 : List Cond := [Cond.instanceMethod yX2_isInBag, Cond.selects RX2 yX2_isInBag yX2_isInBag, Cond.code yX2_isInBag cX2_isInBag 3 (some .boolean), Cond.methodLink RL 99 yX6_station, Cond.instanceMethod yX6_station, Cond.selects RX6 yX6_station yX6_station, Cond.code yX6_station cX6_station 3 (some .int), Cond.methodLink RX6 116 yX6_stationTold, Cond.instanceMethod yX6_stationTold, Cond.selects RX6 yX6_stationTold yX6_stationTold, Cond.code yX6_stationTold cX6_stationTold 5 (some .int), Cond.methodLink RL 100 yL_count, Cond.static yL_count, Cond.codeWith yL_count cL_count 4 (some .int) [(0, 9, 12, 13)], Cond.methodLink RL 45 yX4_count, Cond.instanceMethod yX4_count, Cond.selects RX4 yX4_count yX4_count, Cond.code yX4_count cX4_count 2 (some .int), Cond.fieldLink RX4 109 "NightSorters$Mail" "inPlace" "[I", Cond.methodLink RX4 106 yX1_nextFrom, Cond.instanceMethod yX1_nextFrom, Cond.selects RX1 yX1_nextFrom yX1_nextFrom, Cond.code yX1_nextFrom cX1_nextFrom 3 (some .int), Cond.methodLink RL 102 yX6_count]
def wsL_law0_r14 : List Cond := [Cond.instanceMethod yX6_count, Cond.selects RX6 yX6_count yX6_count, Cond.code yX6_count cX6_count 2 (some .int), Cond.methodLink RX6 122 yX6_counted, Cond.instanceMethod yX6_counted, Cond.selects RX6 yX6_counted yX6_counted, Cond.code yX6_counted cX6_counted 3 (some .int), Cond.methodLink RX6 119 yX5_are, Cond.instanceMethod yX5_are, Cond.selects RX5 yX5_are yX5_are, Cond.code yX5_are cX5_are 4 (some .int), Cond.methodLink RL 103 yL_pass, Cond.static yL_pass, Cond.codeWith yL_pass cL_pass 4 (some .int) [(0, 9, 12, 15)], Cond.methodLink RL 48 yX4_pass, Cond.instanceMethod yX4_pass, Cond.selects RX4 yX4_pass yX4_pass, Cond.code yX4_pass cX4_pass 3 (some .int), Cond.methodLink RX4 112 yX3_run, Cond.instanceMethod yX3_run, Cond.selects RX3 yX3_run yX3_run, Cond.code yX3_run cX3_run 3 none, Cond.methodLink RX3 40 yX3_runMinute, Cond.instanceMethod yX3_runMinute]
def wsL_law0_r15 : List Cond := [Cond.selects RX3 yX3_runMinute yX3_runMinute, Cond.code yX3_runMinute cX3_runMinute 3 none, Cond.fieldLink RX3 43 "NightSorters$Crew" "size" "I", Cond.fieldLink RX3 46 "NightSorters$Crew" "held" "[I", Cond.fieldLink RX3 66 "NightSorters$Line" "jolts" "[I", Cond.methodLink RX3 50 yX3_takeLetter, Cond.instanceMethod yX3_takeLetter, Cond.selects RX3 yX3_takeLetter yX3_takeLetter, Cond.code yX3_takeLetter cX3_takeLetter 3 none, Cond.fieldLink RX3 72 "NightSorters$Crew" "towns" "[I", Cond.methodLink RX3 75 yX2_firstOnTable, Cond.instanceMethod yX2_firstOnTable, Cond.selects RX2 yX2_firstOnTable yX2_firstOnTable, Cond.code yX2_firstOnTable cX2_firstOnTable 3 (some .int), Cond.static yX4_hasTown, Cond.code yX4_hasTown cX4_hasTown 2 (some .boolean), Cond.methodLink RX3 78 yX2_moveToHands, Cond.instanceMethod yX2_moveToHands, Cond.selects RX2 yX2_moveToHands yX2_moveToHands, Cond.code yX2_moveToHands cX2_moveToHands 3 none, Cond.methodLink RX2 37 yX2_move, Cond.instanceMethod yX2_move, Cond.selects RX2 yX2_move yX2_move, Cond.code yX2_move cX2_move 4 none]
def wsL_law0_r16 : List Cond := [Cond.methodLink RX3 82 yX0_takeUp, Cond.instanceMethod yX0_takeUp, Cond.selects RX0 yX0_takeUp yX0_takeUp, Cond.code yX0_takeUp cX0_takeUp 3 none, Cond.methodLink RX0 37 yX0_minutesNeeded, Cond.instanceMethod yX0_minutesNeeded, Cond.selects RX0 yX0_minutesNeeded yX0_minutesNeeded, Cond.code yX0_minutesNeeded cX0_minutesNeeded 3 (some .int), Cond.methodLink RX3 54 yX3_workOn, Cond.instanceMethod yX3_workOn, Cond.selects RX3 yX3_workOn yX3_workOn, Cond.code yX3_workOn cX3_workOn 2 none, Cond.fieldLink RX3 85 "NightSorters$Crew" "minutesLeft" "[I", Cond.methodLink RX3 88 yX3_putLetter, Cond.instanceMethod yX3_putLetter, Cond.selects RX3 yX3_putLetter yX3_putLetter, Cond.code yX3_putLetter cX3_putLetter 3 none, Cond.fieldLink RX3 91 "NightSorters$Mail" "inHole" "[I", Cond.fieldLink RX3 94 "NightSorters$Mail" "town" "[I", Cond.fieldLink RX3 100 "NightSorters$Crew" "sorted" "[I", Cond.fieldLink RX3 103 "NightSorters$Crew" "tired" "[I", Cond.methodLink RX3 97 yX2_move, Cond.methodLink RX3 106 yX0_freeHands, Cond.instanceMethod yX0_freeHands]
def wsL_law0_r17 : List Cond := [Cond.selects RX0 yX0_freeHands yX0_freeHands, Cond.code yX0_freeHands cX0_freeHands 2 none, Cond.methodLink RX3 57 yX1_passedIn, Cond.instanceMethod yX1_passedIn, Cond.selects RX1 yX1_passedIn yX1_passedIn, Cond.code yX1_passedIn cX1_passedIn 3 (some .int), Cond.methodLink RX3 63 yX3_serve, Cond.instanceMethod yX3_serve, Cond.selects RX3 yX3_serve yX3_serve, Cond.code yX3_serve cX3_serve 3 none, Cond.fieldLink RX3 109 "NightSorters$Mail" "size" "I", Cond.methodLink RX3 110 yX2_isInBag, Cond.methodLink RX3 114 yX3_hookIn, Cond.instanceMethod yX3_hookIn, Cond.selects RX3 yX3_hookIn yX3_hookIn, Cond.code yX3_hookIn cX3_hookIn 3 none, Cond.static yX4_stationOf, Cond.code yX4_stationOf cX4_stationOf 1 (some .int), Cond.methodLink RX3 123 yX2_end, Cond.instanceMethod yX2_end, Cond.selects RX2 yX2_end yX2_end, Cond.code yX2_end cX2_end 4 none, Cond.methodLink RX3 120 yX3_hookOut, Cond.instanceMethod yX3_hookOut]
def wsL_law0_r18 : List Cond := [Cond.selects RX3 yX3_hookOut yX3_hookOut, Cond.code yX3_hookOut cX3_hookOut 4 none, Cond.fieldLink RX3 127 "NightSorters$Mail" "place" "[I", Cond.fieldLink RX3 130 "NightSorters$Mail" "holder" "[I", Cond.methodLink RX3 69 yX3_shake, Cond.instanceMethod yX3_shake, Cond.selects RX3 yX3_shake yX3_shake, Cond.code yX3_shake cX3_shake 2 none, Cond.methodLink RX3 133 yX0_spillTea, Cond.instanceMethod yX0_spillTea, Cond.selects RX0 yX0_spillTea yX0_spillTea, Cond.code yX0_spillTea cX0_spillTea 2 none, Cond.methodLink RX3 136 yX2_fullestHole, Cond.instanceMethod yX2_fullestHole, Cond.selects RX2 yX2_fullestHole yX2_fullestHole, Cond.code yX2_fullestHole cX2_fullestHole 3 (some .int), Cond.methodLink RX3 140 yX2_spillHole, Cond.instanceMethod yX2_spillHole, Cond.selects RX2 yX2_spillHole yX2_spillHole, Cond.code yX2_spillHole cX2_spillHole 3 none, Cond.methodLink RX3 143 yX0_tireAll, Cond.instanceMethod yX0_tireAll, Cond.selects RX0 yX0_tireAll yX0_tireAll, Cond.code yX0_tireAll cX0_tireAll 3 none]
def wsL_law0_r19 : List Cond := [Cond.methodLink RL 105 yX6_pass, Cond.instanceMethod yX6_pass, Cond.selects RX6 yX6_pass yX6_pass, Cond.code yX6_pass cX6_pass 2 (some .int), Cond.methodLink RX6 125 yX5_pass_, Cond.instanceMethod yX5_pass_, Cond.selects RX5 yX5_pass_ yX5_pass_, Cond.code yX5_pass_ cX5_pass_ 4 (some .int), Cond.methodLink RX5 114 yX5_pass, Cond.instanceMethod yX5_pass, Cond.selects RX5 yX5_pass yX5_pass, Cond.code yX5_pass cX5_pass 3 (some .int), Cond.fieldLink RX5 49 "NightSortersModel$State" "minute" "I", Cond.methodLink RX5 96 yX5_work, Cond.instanceMethod yX5_work, Cond.selects RX5 yX5_work yX5_work, Cond.code yX5_work cX5_work 3 none, Cond.methodLink RX5 76 yX5_take, Cond.instanceMethod yX5_take, Cond.selects RX5 yX5_take yX5_take, Cond.code yX5_take cX5_take 3 none, Cond.methodLink RX5 70 Lib.Math.max.name, Cond.static Lib.Math.max.name, Cond.initialized "java/lang/Math"]
def wsL_law0_r20 : List Cond := [Cond.code Lib.Math.max.name Lib.Math.max.code 2 (some .int), Cond.methodLink RX5 63 yX5_firstFor, Cond.instanceMethod yX5_firstFor, Cond.selects RX5 yX5_firstFor yX5_firstFor, Cond.code yX5_firstFor cX5_firstFor 3 (some .int), Cond.methodLink RX5 80 yX5_inHole, Cond.methodLink RX5 83 yX5_let, Cond.instanceMethod yX5_let, Cond.selects RX5 yX5_let yX5_let, Cond.code yX5_let cX5_let 4 none, Cond.methodLink RX5 99 yX5_are, Cond.methodLink RX5 105 yX5_passStation, Cond.instanceMethod yX5_passStation, Cond.selects RX5 yX5_passStation yX5_passStation, Cond.code yX5_passStation cX5_passStation 4 none, Cond.methodLink RX5 87 yX5_end, Cond.instanceMethod yX5_end, Cond.selects RX5 yX5_end yX5_end, Cond.code yX5_end cX5_end 3 none, Cond.methodLink RX5 111 yX5_shake, Cond.instanceMethod yX5_shake, Cond.selects RX5 yX5_shake yX5_shake, Cond.code yX5_shake cX5_shake 4 none, Cond.methodLink RL 106 yL_arrives]
def wsL_law0_r21 : List Cond := [Cond.static yL_arrives, Cond.codeWith yL_arrives cL_arrives 4 (some .int) [(0, 9, 12, 13)], Cond.methodLink RL 51 yX4_arrives, Cond.instanceMethod yX4_arrives, Cond.selects RX4 yX4_arrives yX4_arrives, Cond.code yX4_arrives cX4_arrives 4 (some .int), Cond.fieldLink RX4 120 "NightSorters$Mail" "place" "[I", Cond.methodLink RX4 116 yX3_copyFrom, Cond.instanceMethod yX3_copyFrom, Cond.selects RX3 yX3_copyFrom yX3_copyFrom, Cond.code yX3_copyFrom cX3_copyFrom 2 none, Cond.methodLink RX3 33 yX2_copyFrom, Cond.instanceMethod yX2_copyFrom, Cond.selects RX2 yX2_copyFrom yX2_copyFrom, Cond.code yX2_copyFrom cX2_copyFrom 2 none, Cond.methodLink RX2 48 arraycopyName, Cond.native arraycopyName, Cond.static arraycopyName, Cond.initialized "java/lang/System", Cond.methodLink RX3 37 yX0_copyFrom, Cond.instanceMethod yX0_copyFrom, Cond.selects RX0 yX0_copyFrom yX0_copyFrom, Cond.code yX0_copyFrom cX0_copyFrom 2 none, Cond.methodLink RX0 41 arraycopyName]
def wsL_law0_r22 : List Cond := [Cond.methodLink RX4 123 yX3_runMinute, Cond.methodLink RL 108 yX6_arrives, Cond.instanceMethod yX6_arrives, Cond.selects RX6 yX6_arrives yX6_arrives, Cond.code yX6_arrives cX6_arrives 3 (some .int), Cond.methodLink RX6 128 yX5_become, Cond.instanceMethod yX5_become, Cond.selects RX5 yX5_become yX5_become, Cond.code yX5_become cX5_become 2 none, Cond.methodLink RX5 53 yX5_copy, Cond.instanceMethod yX5_copy, Cond.selects RX5 yX5_copy yX5_copy, Cond.code yX5_copy cX5_copy 3 none, Cond.methodLink RX5 43 arraycopyName, Cond.methodLink RX6 132 yX5_pass, Cond.methodLink RL 109 yL_foresee, Cond.static yL_foresee, Cond.codeWith yL_foresee cL_foresee 5 (some .int) [(0, 10, 13, 15), (0, 10, 17, 13)], Cond.methodLink RL 54 yX4_foresee, Cond.instanceMethod yX4_foresee, Cond.selects RX4 yX4_foresee yX4_foresee, Cond.code yX4_foresee cX4_foresee 3 (some .int), Cond.methodLink RL 111 yX6_foresee, Cond.instanceMethod yX6_foresee]
def wsL_law0_r23 : List Cond := [Cond.selects RX6 yX6_foresee yX6_foresee, Cond.code yX6_foresee cX6_foresee 3 (some .int), Cond.methodLink RL 112 yL_advise, Cond.static yL_advise, Cond.codeWith yL_advise cL_advise 5 (some .int) [(0, 10, 13, 13), (0, 10, 17, 15)], Cond.methodLink RL 57 yX4_advise, Cond.instanceMethod yX4_advise, Cond.selects RX4 yX4_advise yX4_advise, Cond.code yX4_advise cX4_advise 8 (some .int), Cond.methodLink RX4 131 yX4_deliveredIfAssigned, Cond.instanceMethod yX4_deliveredIfAssigned, Cond.selects RX4 yX4_deliveredIfAssigned yX4_deliveredIfAssigned, Cond.code yX4_deliveredIfAssigned cX4_deliveredIfAssigned 4 (some .int), Cond.methodLink RX4 135 yX4_hasTown, Cond.methodLink RL 114 yX6_advise, Cond.instanceMethod yX6_advise, Cond.selects RX6 yX6_advise yX6_advise, Cond.code yX6_advise cX6_advise 7 (some .int), Cond.methodLink RL 115 yX4_share, Cond.instanceMethod yX4_share, Cond.selects RX4 yX4_share yX4_share, Cond.code yX4_share cX4_share 3 (some .double), Cond.methodLink RL 119 yX6_share, Cond.instanceMethod yX6_share]
def wsL_law0_r24 : List Cond := [Cond.selects RX6 yX6_share yX6_share, Cond.code yX6_share cX6_share 2 (some .double), Cond.methodLink RL 120 yX4_digest, Cond.instanceMethod yX4_digest, Cond.selects RX4 yX4_digest yX4_digest, Cond.code yX4_digest cX4_digest 5 (some .long), Cond.constantLong RX4 138 (1049), Cond.constantLong RX4 140 (31), Cond.methodLink RX4 142 yX4_count, Cond.methodLink RX4 145 yX4_station, Cond.methodLink RX4 148 yX4_hole, Cond.methodLink RX4 151 yX4_sorter, Cond.methodLink RX4 154 yX4_letter, Cond.methodLink RL 124 yX6_digest, Cond.instanceMethod yX6_digest, Cond.selects RX6 yX6_digest yX6_digest, Cond.code yX6_digest cX6_digest 5 (some .long), Cond.constantLong RX6 135 (1049), Cond.constantLong RX6 137 (31)]
def wsL_law0 : List Cond := (wsL_law0_r1 ++ (wsL_law0_r2 ++ (wsL_law0_r3 ++ (wsL_law0_r4 ++ (wsL_law0_r5 ++ (wsL_law0_r6 ++ (wsL_law0_r7 ++ (wsL_law0_r8 ++ (wsL_law0_r9 ++ (wsL_law0_r10 ++ (wsL_law0_r11 ++ (wsL_law0_r12 ++ (wsL_law0_r13 ++ (wsL_law0_r14 ++ (wsL_law0_r15 ++ (wsL_law0_r16 ++ (wsL_law0_r17 ++ (wsL_law0_r18 ++ (wsL_law0_r19 ++ (wsL_law0_r20 ++ (wsL_law0_r21 ++ (wsL_law0_r22 ++ (wsL_law0_r23 ++ wsL_law0_r24))))))))))))))))))))))) ++ wsX40 ++ wsX60 ++ wsX10 ++ wsX30 ++ wsX20 ++ wsX00 ++ wsX50 ++ ([] : List Cond)
def wsL_law : List Cond := wsL_law0 ++ (vx_atS RX4 52 "java/lang/IllegalStateException" ["java/lang/RuntimeException", "java/lang/Exception"]).filter goodWord ++ (vx_atS RX4 130 "java/lang/IndexOutOfBoundsException" ["java/lang/RuntimeException", "java/lang/Exception"]).filter goodWord ++ (vx_atS RX4 163 "java/lang/IllegalArgumentException" ["java/lang/RuntimeException", "java/lang/Exception"]).filter goodWord
abbrev vwCl : List vw_C := [(RX0, TX0, 8), (RX1, TX1, 2), (RX2, TX2, 8), (RX3, TX3, 4), (RX4, TX4, 2), (RX5, TX5, 11), (RX6, TX6, 10)]
end
section
/-! the state as one record of rows (field, place), contracts whose answer and world are functions of it, and short rows -/
abbrev Rc : Type := Nat → Nat → Int32
abbrev iv (x : Int32) : Nat := x.toNatClampNeg
def put (σ : Rc) (f i : Nat) (v : Int32) : Rc := fun g => if g = f then upd (σ g) i v else σ g
theorem put_at (σ : Rc) (f i : Nat) (v : Int32) (g j : Nat) : put σ f i v g j = if g = f ∧ j = i then v else σ g j := by
  unfold put
  by_cases h : g = f
  · by_cases h2 : j = i
    · simp [h, h2, upd]
    · simp [h, h2, upd]
  · simp [h]
theorem put_ne {σ : Rc} {f i : Nat} {v : Int32} {g j : Nat} (h : g ≠ f) : put σ f i v g j = σ g j := by
  rw [put_at, if_neg (fun q => h q.1)]
theorem put_rw {σ : Rc} {f i : Nat} {v : Int32} {g : Nat} (h : g ≠ f) : put σ f i v g = σ g := by
  unfold put
  rw [if_neg h]
theorem put_eq {σ : Rc} {f i : Nat} {v : Int32} : put σ f i v f i = v := by
  rw [put_at, if_pos ⟨rfl, rfl⟩]
theorem vi_eq {x : Int32} {n : Nat} (h : vp_in x n) (hn : n ≤ 2147483647) : x = nI (iv x) := by
  obtain ⟨j, hj, rfl⟩ := vp_in_of h (by omega)
  rw [iv, nI_clamp (by omega)]
theorem vi_lt {x : Int32} {n : Nat} (h : vp_in x n) : iv x < n := Nat.lt_of_not_le (fun q => h (Or.inr q))
theorem vi_of {j n : Nat} (h : j < n) (hn : n ≤ 2147483647) : vp_in (nI j) n := vp_in_nI h (by omega)
theorem iv_nI {j : Nat} (h : j ≤ 2147483647) : iv (nI j) = j := nI_clamp (by omega)
/-- the tables' words on links among nest mates -/
def nestQ (w : Cond) : Bool := match w with
  | .fieldLinkNest _ _ _ _ _ _ => true
  | .methodLinkNest _ _ _ _ => true
  | _ => false
def NWs : List Cond := tables_1.filter nestQ
def NW (U : State) : Prop := ∀ w ∈ NWs, va_Nw w U
theorem NW.warm {s U : State} (hW : s.WarmedH U.vm) (h : NW s) : NW U := by
  intro w hw
  have h1 := h w hw
  have h2 : nestQ w = true := (List.mem_filter.mp hw).2
  cases w <;> first | exact va_Nw.warmF hW h1 | exact va_Nw.warmM hW h1 | exact absurd h2 (by simp [nestQ])
theorem NW.same {u U : State} (hv : u.vm = U.vm) (h : NW u) : NW U := by
  intro w hw
  have h1 := h w hw
  have h2 : nestQ w = true := (List.mem_filter.mp hw).2
  cases w <;> first | (refine va_Nw.same ?_ hv h1; rfl) | exact absurd h2 (by simp [nestQ])
/-- a contract's start over the world W0, and its end over W1 -/
def MP (D : va_G) (cI : ClassId) (W0 : va_W) (sz : Nat) : State → Prop := fun U => U.heap.size = sz ∧ va_P D vwCl W0 U.heap ∧ (va_K D vwCl [(cI, .int)] U ∧ NW U) ∧ va_D (fun _ => True) W0
def PO (D : va_G) (W1 : va_W) (A : Nat → Prop) : State → Prop := fun t => va_P D vwCl W1 t.heap ∧ va_D A W1
def CI (l : Launch) (y : MethodName) (ws : List Cond) (rm : Room) (D : va_G) (cI : ClassId) (av : List Value) (W0 : va_W) (r : Int32) (W1 : va_W) : Prop :=
  ∀ sz : Nat, Met l y ws rm (va_Pc av (MP D cI W0 sz)) (va_Qi (fun (r' : Int32) (_ : Unit) => r' = r) (fun _ => PO D W1 (va_A W0 sz)) (va_A W0 sz)) rm.cells rm.slots (va_A W0 sz)
def CL (l : Launch) (y : MethodName) (ws : List Cond) (rm : Room) (D : va_G) (cI : ClassId) (av : List Value) (W0 : va_W) (r : Int64) (W1 : va_W) : Prop :=
  ∀ sz : Nat, Met l y ws rm (va_Pc av (MP D cI W0 sz)) (va_Ql (fun (r' : Int64) (_ : Unit) => r' = r) (fun _ => PO D W1 (va_A W0 sz)) (va_A W0 sz)) rm.cells rm.slots (va_A W0 sz)
def CV (l : Launch) (y : MethodName) (ws : List Cond) (rm : Room) (D : va_G) (cI : ClassId) (av : List Value) (W0 : va_W) (W1 : va_W) : Prop :=
  ∀ sz : Nat, Met l y ws rm (va_Pc av (MP D cI W0 sz)) (va_Qv (fun (_ : Unit) => True) (fun _ => PO D W1 (va_A W0 sz)) (va_A W0 sz)) rm.cells rm.slots (va_A W0 sz)
theorem MP.blind {D : va_G} {cI : ClassId} {W0 : va_W} {sz : Nat} {av : List Value} : FrameBlind (va_Pc av (MP D cI W0 sz)) := by
  intro a U g mk q
  obtain ⟨q0, q1, qP, ⟨qK, qN⟩, qD⟩ := q
  exact ⟨q0, q1, qP, ⟨va_K.moved (u := U) (U := U.calling g mk a) (Vm.Alike.refl U.vm) qK, NW.same (u := U) (U := U.calling g mk a) rfl qN⟩, qD⟩
section XROWS
variable {p : Program} {l : Launch} {e : Env} {R : Room} {s : State} {m : MethodId} {args : Array Value} {below : List Frame} {meth : Method} {c : Code} {H : Heap} {locs : List Loc} {cells slots : Nat} {Q : State → Prop}
variable {cc : ByteArray} {pc : Nat} {ls : Array Slot} {rest : List Value} {D : va_G} {cl : List vw_C} {A : Nat → Prop} {a : Nat} {tys : List (ClassId × FieldType)} {ws : va_W} {H0 : Heap}
theorem xald (hexec : p.tables.exec = Jvm.exec) (hb : c.code = cc) (hK : va_K D cl tys s) (hP : va_P D cl ws H) (q0 : Nat) {cA : ClassId} {n : Nat} {f : Nat → Int32} (ha : ws[q0]? = some (a, .inl (cA, n, .inl f))) (ht : tys[0]? = some (cA, .int)) {i : Int32} (j : Nat) (hi : i = nI j) (hj : j < n) (hn : n ≤ 2147483647) (hdg : decode cc pc = .ok (.iaload, 1))
    (kk : W p l e R s m args below meth c H locs cells slots Q (F0 m (pc + 1) ls (.int (f j) :: rest))) : W p l e R s m args below meth c H locs cells slots Q (F0 m pc ls (.int i :: .ref a :: rest)) := by
  refine va_iald hexec hb hK hP q0 0 ha ht (by rw [hi]; exact vi_of hj hn) hdg ?_
  have e1 : i.toNatClampNeg = j := by rw [hi]; exact iv_nI (by omega)
  rw [e1]
  exact kk
theorem xast (hexec : p.tables.exec = Jvm.exec) (hb : c.code = cc) (hK : va_K D cl tys s) (hP : va_P D cl ws H) (hD : va_D A ws) (hS : va_S A H0 H locs) (q0 : Nat) {cA : ClassId} {n : Nat} {f : Nat → Int32} (ha : ws[q0]? = some (a, .inl (cA, n, .inl f))) (ht : tys[0]? = some (cA, .int)) {i : Int32} {x : Int32} (j : Nat) (hi : i = nI j) (hj : j < n) (hn : n ≤ 2147483647) (w1 : va_W) (hw : ws.set q0 (a, .inl (cA, n, .inl (upd f j x))) = w1) (hdg : decode cc pc = .ok (.iastore, 1))
    (kk : ∀ (H1 : Heap) (locs1 : List Loc), va_P D cl w1 H1 → va_D A w1 → va_S A H0 H1 locs1 → W p l e R s m args below meth c H1 locs1 cells slots Q (F0 m (pc + 1) ls rest)) : W p l e R s m args below meth c H locs cells slots Q (F0 m pc ls (.int x :: .int i :: .ref a :: rest)) := by
  have e1 : i.toNatClampNeg = j := by rw [hi]; exact iv_nI (by omega)
  refine va_iast hexec hb hK hP hD hS q0 0 ha ht (by rw [hi]; exact vi_of hj hn) hdg (fun H1 locs1 h1 h2 h3 => kk H1 locs1 ?_ ?_ h3)
  · rw [e1, hw] at h1; exact h1
  · rw [e1, hw] at h2; exact h2
end XROWS
/-- a call at hand: any contract of y may be used here -/
def Inv (p : Program) (l : Launch) (e : Env) (R : Room) (s : State) (m : MethodId) (args : Array Value) (below : List Frame) (meth : Method) (c : Code) (H : Heap) (locs : List Loc) (cells slots : Nat) (y : MethodName) (ws : List Cond) (rm : Room) (As : List Value) (g : JFrame) (rest : List Value) : Prop :=
  ∀ (Pc : Array Value → State → Prop) (Qc : Array Value → State → Outcome → State → Prop) (free : Addr → Prop), Met l y ws rm Pc Qc rm.cells rm.slots free → FrameBlind Pc → (∀ U : State, U.heap = H → s.WarmedH U.vm → Pc As.toArray U) → cells + rm.cells ≤ R.cells ∧ slots + rm.slots ≤ R.slots →
    va_Run p l e R s m args below meth c H locs cells slots rm.cells rm.slots g rest (Qc As.toArray) free
section XINV
variable {p : Program} {l : Launch} {e : Env} {R : Room} {s : State} {m : MethodId} {args : Array Value} {below : List Frame} {meth : Method} {c : Code} {H : Heap} {locs : List Loc} {cells slots : Nat} {Q : State → Prop}
variable {y : MethodName} {bytes cc : ByteArray} {maxL nL n index pc : Nat} {ret : Option FieldType} {ws : List Cond} {rm : Room} {Ts : List Cond} {own C host : String} {b : Addr} {As rest st0 : List Value} {ls : Array Slot}
theorem invV (S : CallFix p m c cc nL s args Ts own) (cw : CallW R s args own C index y bytes maxL ret ws rm rm.cells rm.slots n) (hrec : ∃ cellB : Cell, H[b]? = some cellB ∧ cellB.vm.isStatics = false ∧ s.vm.findClass C = some cellB.cls)
    (hst : st0 = As.reverse ++ .ref b :: rest) (hn : As.length = n) (hsize : ls.size = nL) (hW : (rest.map fun v => v.category).sum ≤ 8) (hdg : decode cc pc = .ok (.invokevirtual index, 3)) : Inv p l e R s m args below meth c H locs cells slots y ws rm (.ref b :: As) (F0 m pc ls st0) rest :=
  fun Pc Qc free hM hbl hp hf => va_runV S hM cw ⟨hbl, hrec, hp⟩ rfl hn hsize hst (lv_room (pc := pc) (ls := ls) (rest := st0) hW) hdg hf
theorem invVN (S : CallFix p m c cc nL s args Ts own) (cw : va_CN R s args own index y host bytes maxL ret ws rm rm.cells rm.slots n ∧ (Cond.instanceMethod y).before args s = true ∧ (Cond.selects C y y).before args s = true) (hrec : ∃ cellB : Cell, H[b]? = some cellB ∧ cellB.vm.isStatics = false ∧ s.vm.findClass C = some cellB.cls)
    (hst : st0 = As.reverse ++ .ref b :: rest) (hn : As.length = n) (hsize : ls.size = nL) (hW : (rest.map fun v => v.category).sum ≤ 8) (hdg : decode cc pc = .ok (.invokevirtual index, 3)) : Inv p l e R s m args below meth c H locs cells slots y ws rm (.ref b :: As) (F0 m pc ls st0) rest :=
  fun Pc Qc free hM hbl hp hf => va_runVN S hM cw ⟨hbl, hrec, hp⟩ rfl hn hsize hst (lv_room (pc := pc) (ls := ls) (rest := st0) hW) hdg hf
theorem invS (S : CallFix p m c cc nL s args Ts own) (cw : CallB R s args own index y bytes maxL ret ws rm rm.cells rm.slots n ∧ (Cond.static y).before args s = true)
    (hst : st0 = As.reverse ++ rest) (hn : As.length = n) (hsize : ls.size = nL) (hW : (rest.map fun v => v.category).sum ≤ 8) (hdg : decode cc pc = .ok (.invokestatic index, 3)) : Inv p l e R s m args below meth c H locs cells slots y ws rm As (F0 m pc ls st0) rest :=
  fun Pc Qc free hM hbl hp hf => va_runS S hM cw ⟨hbl, hp⟩ rfl hn hsize hst (lv_room (pc := pc) (ls := ls) (rest := st0) hW) hdg hf
theorem invSN (S : CallFix p m c cc nL s args Ts own) (cw : va_CN R s args own index y host bytes maxL ret ws rm rm.cells rm.slots n ∧ (Cond.static y).before args s = true ∧ True)
    (hst : st0 = As.reverse ++ rest) (hn : As.length = n) (hsize : ls.size = nL) (hW : (rest.map fun v => v.category).sum ≤ 8) (hdg : decode cc pc = .ok (.invokestatic index, 3)) : Inv p l e R s m args below meth c H locs cells slots y ws rm As (F0 m pc ls st0) rest :=
  fun Pc Qc free hM hbl hp hf => va_runSN S hM cw ⟨hbl, hp⟩ rfl hn hsize hst (lv_room (pc := pc) (ls := ls) (rest := st0) hW) hdg hf
end XINV
section XCALL
variable {p : Program} {l : Launch} {e : Env} {R : Room} {s : State} {m : MethodId} {args : Array Value} {below : List Frame} {meth : Method} {c : Code} {H : Heap} {locs : List Loc} {cells slots : Nat} {Q : State → Prop}
variable {y : MethodName} {wsY : List Cond} {rm : Room} {As rest st0 : List Value} {ls : Array Slot} {pc : Nat} {D : va_G} {cI : ClassId} {A : Nat → Prop} {W0 Wc Wr W1 W2 : va_W} {H0 : Heap}
theorem xback (hK : va_K D vwCl [(cI, .int)] s) (hN : NW s) (hA : ∀ q, H0.size ≤ q → A q) (hP : va_P D vwCl W0 H) (hD : va_D A W0) (hS : va_S A H0 H locs) (isC : List Nat) (hC : isC.map (fun i => W0[i]?) = Wc.map some) (hnC : va_nd isC = true) :
    (∀ U : State, U.heap = H → s.WarmedH U.vm → va_Pc As (MP D cI Wc H.size) As.toArray U) := by
  intro U hU hW
  have hPc : va_P D vwCl Wc H := hP.sub isC (by
    have := congrArg (List.filterMap id) hC
    simpa [List.filterMap_map, Function.comp_def] using this)
  exact ⟨rfl, by rw [hU], by rw [hU]; exact hPc, ⟨va_K.moved hW.alike hK, NW.warm hW hN⟩, (hD.sub isC hnC hC).weaken (fun _ _ _ _ => trivial)⟩
theorem xafter (hA : ∀ q, H0.size ≤ q → A q) (hP : va_P D vwCl W0 H) (hD : va_D A W0) (hS : va_S A H0 H locs) (isC isR isB : List Nat) (hC : isC.map (fun i => W0[i]?) = Wc.map some) (hR : isR.map (fun i => W0[i]?) = Wr.map some) (hB : isB.map (fun i => (Wr ++ W1)[i]?) = W2.map some) (hnR : va_nd isR = true) (hnB : va_nd isB = true) (hdis : ∀ i ∈ isR, i ∉ isC)
    {t : State} {H1 : Heap} (ht : t.heap = H1) (hB1 : PO D W1 (va_A Wc H.size) t) (hk1 : ∀ q : Nat, q < H.size → ¬ va_A Wc H.size q → H1[q]? = H[q]?) : va_P D vwCl W2 H1 ∧ va_D A W2 := by
  obtain ⟨hP1, hD1⟩ := hB1
  rw [ht] at hP1
  have hF := va_free hD hS hA isC hC
  obtain ⟨h1, h2⟩ := va_join hP hD isC isR hC hR hnR hdis hk1 hF hP1 hD1
  refine ⟨h1.sub isB ?_, h2.sub isB hnB hB⟩
  have := congrArg (List.filterMap id) hB
  simpa [List.filterMap_map, Function.comp_def] using this
theorem xcalli {r : Int32} (hI : Inv p l e R s m args below meth c H locs cells slots y wsY rm As (F0 m pc ls st0) rest) (hM : CI l y wsY rm D cI As Wc r W1) (hK : va_K D vwCl [(cI, .int)] s) (hN : NW s) (hA : ∀ q, H0.size ≤ q → A q) (hP : va_P D vwCl W0 H) (hD : va_D A W0) (hS : va_S A H0 H locs)
    (isC isR isB : List Nat) (hC : isC.map (fun i => W0[i]?) = Wc.map some) (hR : isR.map (fun i => W0[i]?) = Wr.map some) (hB : isB.map (fun i => (Wr ++ W1)[i]?) = W2.map some) (hnn : va_nd isC = true ∧ va_nd isR = true ∧ va_nd isB = true ∧ isR.all (fun i => !isC.contains i) = true) (hf : cells + rm.cells ≤ R.cells ∧ slots + rm.slots ≤ R.slots)
    (kk : ∀ (H1 : Heap) (locs1 : List Loc), va_P D vwCl W2 H1 → va_D A W2 → va_S A H0 H1 locs1 → W p l e R s m args below meth c H1 locs1 (cells + rm.cells) (slots + rm.slots) Q (F0 m (pc + 3) ls (.int r :: rest))) : W p l e R s m args below meth c H locs cells slots Q (F0 m pc ls st0) := by
  have hdis : ∀ i ∈ isR, i ∉ isC := fun i hi h => by
    have := List.all_eq_true.mp hnn.2.2.2 i hi
    simp [h] at this
  have hF := va_free hD hS hA isC hC
  refine va_calli (hI _ _ _ (hM H.size) MP.blind (xback hK hN hA hP hD hS isC hC hnn.1) hf) hS (fun q _ h => hF q h) hF (fun r' u t H1 locs1 ht hvm hw hB1 hz1 hk1 hS1 => ?_)
  obtain ⟨h1, h2⟩ := xafter hA hP hD hS isC isR isB hC hR hB hnn.2.1 hnn.2.2.1 hdis ht hB1 hk1
  rw [hw]
  exact kk H1 locs1 h1 h2 hS1
theorem xcalll {r : Int64} (hI : Inv p l e R s m args below meth c H locs cells slots y wsY rm As (F0 m pc ls st0) rest) (hM : CL l y wsY rm D cI As Wc r W1) (hK : va_K D vwCl [(cI, .int)] s) (hN : NW s) (hA : ∀ q, H0.size ≤ q → A q) (hP : va_P D vwCl W0 H) (hD : va_D A W0) (hS : va_S A H0 H locs)
    (isC isR isB : List Nat) (hC : isC.map (fun i => W0[i]?) = Wc.map some) (hR : isR.map (fun i => W0[i]?) = Wr.map some) (hB : isB.map (fun i => (Wr ++ W1)[i]?) = W2.map some) (hnn : va_nd isC = true ∧ va_nd isR = true ∧ va_nd isB = true ∧ isR.all (fun i => !isC.contains i) = true) (hf : cells + rm.cells ≤ R.cells ∧ slots + rm.slots ≤ R.slots)
    (kk : ∀ (H1 : Heap) (locs1 : List Loc), va_P D vwCl W2 H1 → va_D A W2 → va_S A H0 H1 locs1 → W p l e R s m args below meth c H1 locs1 (cells + rm.cells) (slots + rm.slots) Q (F0 m (pc + 3) ls (.long r :: rest))) : W p l e R s m args below meth c H locs cells slots Q (F0 m pc ls st0) := by
  have hdis : ∀ i ∈ isR, i ∉ isC := fun i hi h => by
    have := List.all_eq_true.mp hnn.2.2.2 i hi
    simp [h] at this
  have hF := va_free hD hS hA isC hC
  refine va_calll (hI _ _ _ (hM H.size) MP.blind (xback hK hN hA hP hD hS isC hC hnn.1) hf) hS (fun q _ h => hF q h) hF (fun r' u t H1 locs1 ht hvm hw hB1 hz1 hk1 hS1 => ?_)
  obtain ⟨h1, h2⟩ := xafter hA hP hD hS isC isR isB hC hR hB hnn.2.1 hnn.2.2.1 hdis ht hB1 hk1
  rw [hw]
  exact kk H1 locs1 h1 h2 hS1
theorem xcallv (hI : Inv p l e R s m args below meth c H locs cells slots y wsY rm As (F0 m pc ls st0) rest) (hM : CV l y wsY rm D cI As Wc W1) (hK : va_K D vwCl [(cI, .int)] s) (hN : NW s) (hA : ∀ q, H0.size ≤ q → A q) (hP : va_P D vwCl W0 H) (hD : va_D A W0) (hS : va_S A H0 H locs)
    (isC isR isB : List Nat) (hC : isC.map (fun i => W0[i]?) = Wc.map some) (hR : isR.map (fun i => W0[i]?) = Wr.map some) (hB : isB.map (fun i => (Wr ++ W1)[i]?) = W2.map some) (hnn : va_nd isC = true ∧ va_nd isR = true ∧ va_nd isB = true ∧ isR.all (fun i => !isC.contains i) = true) (hf : cells + rm.cells ≤ R.cells ∧ slots + rm.slots ≤ R.slots)
    (kk : ∀ (H1 : Heap) (locs1 : List Loc), va_P D vwCl W2 H1 → va_D A W2 → va_S A H0 H1 locs1 → W p l e R s m args below meth c H1 locs1 (cells + rm.cells) (slots + rm.slots) Q (F0 m (pc + 3) ls rest)) : W p l e R s m args below meth c H locs cells slots Q (F0 m pc ls st0) := by
  have hdis : ∀ i ∈ isR, i ∉ isC := fun i hi h => by
    have := List.all_eq_true.mp hnn.2.2.2 i hi
    simp [h] at this
  have hF := va_free hD hS hA isC hC
  refine va_callv (hI _ _ _ (hM H.size) MP.blind (xback hK hN hA hP hD hS isC hC hnn.1) hf) hS (fun q _ h => hF q h) hF (fun u t H1 locs1 ht hvm hw hB1 hz1 hk1 hS1 => ?_)
  obtain ⟨h1, h2⟩ := xafter hA hP hD hS isC isR isB hC hR hB hnn.2.1 hnn.2.2.1 hdis ht hB1 hk1
  exact kk H1 locs1 h1 h2 hS1
end XCALL
section XMK
variable {l : Launch} {y : MethodName} {ws ws' : List Cond} {rm : Room} {D : va_G} {cI : ClassId} {av : List Value} {W0 W1 : va_W} {cc : ByteArray} {maxL : Nat}
theorem CI.mk {ret : Option FieldType} {rt : FieldType} {r : Int32} (hret : ret = some rt) (hnr : narrow rt (.int r) = .int r) (hy : plainName y.cls = true) (hw : ws = Cond.code y cc maxL ret :: ws') (hsz : (lg_sl av).length ≤ maxL)
    (body : ∀ (p : Program) (e : Env) (s : State) (m : MethodId) (args : Array Value) (below : List Frame) (meth : Method) (c : Code) (A : Nat → Prop) (Q : State → Prop) (ls : Array Slot), p.tables.exec = Jvm.exec → c.code = cc → (∀ w ∈ ws, w.before args s = true) → s.vm.findClass y.cls = some m.cls → c.maxLocals = maxL → va_K D vwCl [(cI, .int)] s → NW s → (∀ q, s.heap.size ≤ q → A q) → va_P D vwCl W0 s.heap → va_D A W0 → va_S A s.heap s.heap [] → lv_has ls maxL (lv_args 0 av) →
      (∀ (H : Heap) (locs : List Loc) (k n pc : Nat) (ls' : Array Slot) (r' : Int32) (W1' : va_W), r' = r → W1' = W1 → va_P D vwCl W1' H → va_D A W1' → va_S A s.heap H locs → k ≤ rm.cells → n ≤ rm.slots → decode cc pc = .ok (.ireturn, 1) → W p l e rm s m args below meth c H locs k n Q (F0 m pc ls' [.int r'])) →
      W p l e rm s m args below meth c s.heap [] 0 0 Q (F0 m 0 ls [])) : CI l y ws rm D cI av W0 r W1 := by
  intro sz
  refine Met.ofW (cc := cc) (maxL := maxL) (ret := ret) hy hw ?_
  intro p e s m args below meth c s₁ B hml hv
  obtain ⟨rfl, hsz0, hP, ⟨hK, hN⟩, hD0⟩ := hv
  have hr := B.returns
  have hlocks := B.notSynchronized
  have hts := atoms_spec (ws := ws) B.pre
  have hown : s.vm.findClass y.cls = some m.cls := findClass_of_methodNamed B.named
  subst hsz0
  have hA : ∀ q : Nat, s.heap.size ≤ q → va_A W0 s.heap.size q := fun q h => Or.inr h
  have hl := lv_entry av (n := maxL) hsz
  rw [lg_entry_eq]
  refine body p e s m av.toArray below meth c (va_A W0 s.heap.size) _ _ B.exec B.bytes hts hown hml hK hN hA hP (hD0.self (sz := s.heap.size)) va_S.rf hl ?_
  intro H locs k n pc ls' r' W1' e1 e2 hP1 hD1 hS1 hk hn hdg
  subst e1; subst e2
  refine W.widen hk hn ?_
  exact W.zret B.exec B.bytes (hr.trans hret) hnr (fun t ht hW => ⟨⟨r', (), rfl, rfl, by rw [ht]; exact hP1, hD1⟩, hS1.F ht⟩) hS1.2.2 hdg hlocks
theorem CV.mk (hy : plainName y.cls = true) (hw : ws = Cond.code y cc maxL none :: ws') (hsz : (lg_sl av).length ≤ maxL)
    (body : ∀ (p : Program) (e : Env) (s : State) (m : MethodId) (args : Array Value) (below : List Frame) (meth : Method) (c : Code) (A : Nat → Prop) (Q : State → Prop) (ls : Array Slot), p.tables.exec = Jvm.exec → c.code = cc → (∀ w ∈ ws, w.before args s = true) → s.vm.findClass y.cls = some m.cls → c.maxLocals = maxL → va_K D vwCl [(cI, .int)] s → NW s → (∀ q, s.heap.size ≤ q → A q) → va_P D vwCl W0 s.heap → va_D A W0 → va_S A s.heap s.heap [] → lv_has ls maxL (lv_args 0 av) →
      (∀ (H : Heap) (locs : List Loc) (k n pc : Nat) (ls' : Array Slot) (W1' : va_W), W1' = W1 → va_P D vwCl W1' H → va_D A W1' → va_S A s.heap H locs → k ≤ rm.cells → n ≤ rm.slots → decode cc pc = .ok (.return_, 1) → W p l e rm s m args below meth c H locs k n Q (F0 m pc ls' [])) →
      W p l e rm s m args below meth c s.heap [] 0 0 Q (F0 m 0 ls [])) : CV l y ws rm D cI av W0 W1 := by
  intro sz
  refine Met.ofW (cc := cc) (maxL := maxL) (ret := none) hy hw ?_
  intro p e s m args below meth c s₁ B hml hv
  obtain ⟨rfl, hsz0, hP, ⟨hK, hN⟩, hD0⟩ := hv
  have hr := B.returns
  have hlocks := B.notSynchronized
  have hts := atoms_spec (ws := ws) B.pre
  have hown : s.vm.findClass y.cls = some m.cls := findClass_of_methodNamed B.named
  subst hsz0
  have hA : ∀ q : Nat, s.heap.size ≤ q → va_A W0 s.heap.size q := fun q h => Or.inr h
  have hl := lv_entry av (n := maxL) hsz
  rw [lg_entry_eq]
  refine body p e s m av.toArray below meth c (va_A W0 s.heap.size) _ _ B.exec B.bytes hts hown hml hK hN hA hP (hD0.self (sz := s.heap.size)) va_S.rf hl ?_
  intro H locs k n pc ls' W1' e2 hP1 hD1 hS1 hk hn hdg
  subst e2
  refine W.widen hk hn ?_
  exact W.vret B.exec B.bytes hr (fun t ht hW => ⟨⟨(), rfl, trivial, by rw [ht]; exact hP1, hD1⟩, hS1.F ht⟩) hS1.2.2 hdg hlocks
theorem CL.mk {r : Int64} (hy : plainName y.cls = true) (hw : ws = Cond.code y cc maxL (some .long) :: ws') (hsz : (lg_sl av).length ≤ maxL)
    (body : ∀ (p : Program) (e : Env) (s : State) (m : MethodId) (args : Array Value) (below : List Frame) (meth : Method) (c : Code) (A : Nat → Prop) (Q : State → Prop) (ls : Array Slot), p.tables.exec = Jvm.exec → c.code = cc → (∀ w ∈ ws, w.before args s = true) → s.vm.findClass y.cls = some m.cls → c.maxLocals = maxL → va_K D vwCl [(cI, .int)] s → NW s → (∀ q, s.heap.size ≤ q → A q) → va_P D vwCl W0 s.heap → va_D A W0 → va_S A s.heap s.heap [] → lv_has ls maxL (lv_args 0 av) →
      (∀ (H : Heap) (locs : List Loc) (k n pc : Nat) (ls' : Array Slot) (r' : Int64) (W1' : va_W), r' = r → W1' = W1 → va_P D vwCl W1' H → va_D A W1' → va_S A s.heap H locs → k ≤ rm.cells → n ≤ rm.slots → decode cc pc = .ok (.lreturn, 1) → W p l e rm s m args below meth c H locs k n Q (F0 m pc ls' [.long r'])) →
      W p l e rm s m args below meth c s.heap [] 0 0 Q (F0 m 0 ls [])) : CL l y ws rm D cI av W0 r W1 := by
  intro sz
  refine Met.ofW (cc := cc) (maxL := maxL) (ret := some .long) hy hw ?_
  intro p e s m args below meth c s₁ B hml hv
  obtain ⟨rfl, hsz0, hP, ⟨hK, hN⟩, hD0⟩ := hv
  have hr := B.returns
  have hlocks := B.notSynchronized
  have hts := atoms_spec (ws := ws) B.pre
  have hown : s.vm.findClass y.cls = some m.cls := findClass_of_methodNamed B.named
  subst hsz0
  have hA : ∀ q : Nat, s.heap.size ≤ q → va_A W0 s.heap.size q := fun q h => Or.inr h
  have hl := lv_entry av (n := maxL) hsz
  rw [lg_entry_eq]
  refine body p e s m av.toArray below meth c (va_A W0 s.heap.size) _ _ B.exec B.bytes hts hown hml hK hN hA hP (hD0.self (sz := s.heap.size)) va_S.rf hl ?_
  intro H locs k n pc ls' r' W1' e1 e2 hP1 hD1 hS1 hk hn hdg
  subst e1; subst e2
  refine W.widen hk hn ?_
  exact W.lret B.exec B.bytes hr (fun t ht hW => ⟨⟨r', (), rfl, rfl, by rw [ht]; exact hP1, hD1⟩, hS1.F ht⟩) hS1.2.2 hdg hlocks
end XMK
end
section
theorem memIn_r {big : List Cond} (ws : List Cond) (ps : List Nat) (hp : ws = ps.filterMap (fun i => big[i]?)) : ∀ w ∈ ws, w ∈ big := by
  intro w hw
  rw [hp] at hw
  obtain ⟨i, -, hi⟩ := List.mem_filterMap.mp hw
  exact List.mem_of_getElem? hi
theorem memIn_app {P : Cond → Prop} {a b : List Cond} (ha : ∀ w ∈ a, P w) (hb : ∀ w ∈ b, P w) : ∀ w ∈ a ++ b, P w := List.forall_mem_append.mpr ⟨ha, hb⟩
set_option maxRecDepth 20000 in
theorem wsL_law_p1 : ∀ w ∈ wsL_law0_r1, w ∈ lw_tbl := memIn_r _ [34, 35, 19, 542, 543, 24, 810, 36, 37, 38, 39, 40, 41, 42, 43, 20, 59, 60, 21, 163, 164, 44, 45, 46] (by decide +kernel)
set_option maxRecDepth 20000 in
theorem wsL_law_p2 : ∀ w ∈ wsL_law0_r2, w ∈ lw_tbl := memIn_r _ [47, 58, 48, 50, 61, 62, 63, 64, 65, 66, 22, 148, 105, 106, 23, 150, 152, 146, 68, 69, 70, 71, 74, 76] (by decide +kernel)
set_option maxRecDepth 20000 in
theorem wsL_law_p3 : ∀ w ∈ wsL_law0_r3, w ∈ lw_tbl := memIn_r _ [77, 80, 82, 83, 85, 108, 109, 110, 111, 114, 115, 118, 121, 123, 125, 127, 544, 545, 546, 547, 599, 601, 605, 607] (by decide +kernel)
set_option maxRecDepth 20000 in
theorem wsL_law_p4 : ∀ w ∈ wsL_law0_r4, w ∈ lw_tbl := memIn_r _ [611, 548, 549, 25, 613, 614, 551, 552, 574, 553, 556, 558, 560, 562, 564, 566, 568, 570, 572, 291, 292, 18, 293, 294] (by decide +kernel)
set_option maxRecDepth 20000 in
theorem wsL_law_p5 : ∀ w ∈ wsL_law0_r5, w ∈ lw_tbl := memIn_r _ [295, 296, 297, 298, 299, 300, 324, 31, 147, 153, 49, 51, 184, 185, 186, 187, 29, 301, 302, 303, 304, 30, 320, 321] (by decide +kernel)
set_option maxRecDepth 20000 in
theorem wsL_law_p6 : ∀ w ∈ wsL_law0_r6, w ∈ lw_tbl := memIn_r _ [322, 323, 640, 641, 642, 643, 598, 644, 645, 646, 647, 648, 649, 650, 652, 2, 653, 654, 656, 3, 657, 636, 637, 638] (by decide +kernel)
set_option maxRecDepth 20000 in
theorem wsL_law_p7 : ∀ w ∈ wsL_law0_r7, w ∈ lw_tbl := memIn_r _ [639, 340, 341, 342, 343, 344, 345, 346, 149, 72, 348, 349, 350, 351, 658, 659, 660, 661, 604, 662, 663, 664, 352, 353] (by decide +kernel)
set_option maxRecDepth 20000 in
theorem wsL_law_p8 : ∀ w ∈ wsL_law0_r8, w ∈ lw_tbl := memIn_r _ [354, 355, 356, 357, 358, 359, 151, 113, 361, 362, 363, 364, 665, 666, 667, 668, 609, 669, 670, 671, 672, 365, 366, 367] (by decide +kernel)
set_option maxRecDepth 20000 in
theorem wsL_law_p9 : ∀ w ∈ wsL_law0_r9, w ∈ lw_tbl := memIn_r _ [368, 369, 370, 371, 117, 673, 674, 675, 676, 677, 679, 4, 680, 372, 373, 374, 375, 376, 377, 378, 119, 122, 681, 682] (by decide +kernel)
set_option maxRecDepth 20000 in
theorem wsL_law_p10 : ∀ w ∈ wsL_law0_r10, w ∈ lw_tbl := memIn_r _ [683, 684, 379, 380, 381, 382, 284, 285, 286, 287, 288, 289, 290, 685, 686, 687, 688, 689, 691, 5, 692, 693, 695, 6] (by decide +kernel)
set_option maxRecDepth 20000 in
theorem wsL_law_p11 : ∀ w ∈ wsL_law0_r11, w ∈ lw_tbl := memIn_r _ [696, 383, 384, 385, 386, 276, 277, 278, 279, 280, 281, 282, 697, 698, 699, 700, 701, 703, 7, 704, 387, 388, 389, 390] (by decide +kernel)
set_option maxRecDepth 20000 in
theorem wsL_law_p12 : ∀ w ∈ wsL_law0_r12, w ∈ lw_tbl := memIn_r _ [272, 273, 274, 87, 705, 706, 707, 708, 709, 710, 711, 712, 391, 392, 393, 394, 260, 261, 262, 263, 264, 265, 266, 267] (by decide +kernel)
set_option maxRecDepth 20000 in
theorem wsL_law_p13 : ∀ w ∈ wsL_law0_r13, w ∈ lw_tbl := memIn_r _ [268, 269, 270, 713, 714, 715, 716, 717, 719, 8, 720, 395, 396, 397, 398, 181, 182, 183, 84, 255, 256, 257, 258, 721] (by decide +kernel)
set_option maxRecDepth 20000 in
theorem wsL_law_p14 : ∀ w ∈ wsL_law0_r14, w ∈ lw_tbl := memIn_r _ [722, 723, 724, 725, 727, 9, 728, 729, 730, 731, 732, 399, 400, 401, 402, 403, 404, 405, 406, 407, 408, 409, 410, 411] (by decide +kernel)
set_option maxRecDepth 20000 in
theorem wsL_law_p15 : ∀ w ∈ wsL_law0_r15, w ∈ lw_tbl := memIn_r _ [412, 413, 112, 124, 52, 414, 415, 416, 417, 116, 418, 419, 420, 421, 423, 424, 425, 426, 427, 428, 429, 430, 431, 432] (by decide +kernel)
set_option maxRecDepth 20000 in
theorem wsL_law_p16 : ∀ w ∈ wsL_law0_r16, w ∈ lw_tbl := memIn_r _ [433, 434, 435, 436, 437, 438, 439, 440, 441, 442, 443, 444, 126, 445, 446, 447, 448, 86, 75, 128, 120, 449, 450, 451] (by decide +kernel)
set_option maxRecDepth 20000 in
theorem wsL_law_p17 : ∀ w ∈ wsL_law0_r17, w ∈ lw_tbl := memIn_r _ [452, 453, 454, 455, 456, 457, 458, 459, 460, 461, 73, 462, 463, 464, 465, 466, 468, 469, 470, 471, 472, 473, 474, 475] (by decide +kernel)
set_option maxRecDepth 20000 in
theorem wsL_law_p18 : ∀ w ∈ wsL_law0_r18, w ∈ lw_tbl := memIn_r _ [476, 477, 78, 81, 478, 479, 480, 481, 482, 483, 484, 485, 486, 487, 488, 489, 490, 491, 492, 493, 494, 495, 496, 497] (by decide +kernel)
set_option maxRecDepth 20000 in
theorem wsL_law_p19 : ∀ w ∈ wsL_law0_r19, w ∈ lw_tbl := memIn_r _ [733, 734, 735, 736, 737, 738, 739, 740, 741, 742, 743, 744, 554, 745, 747, 10, 748, 749, 751, 11, 752, 757, 758, 32] (by decide +kernel)
set_option maxRecDepth 20000 in
theorem wsL_law_p20 : ∀ w ∈ wsL_law0_r20, w ∈ lw_tbl := memIn_r _ [759, 753, 755, 12, 756, 760, 761, 763, 13, 764, 765, 766, 768, 14, 769, 770, 772, 15, 773, 774, 776, 16, 777, 498] (by decide +kernel)
set_option maxRecDepth 20000 in
theorem wsL_law_p21 : ∀ w ∈ wsL_law0_r21, w ∈ lw_tbl := memIn_r _ [499, 500, 501, 502, 503, 504, 79, 505, 506, 507, 508, 509, 510, 511, 512, 513, 515, 514, 33, 516, 517, 518, 519, 520] (by decide +kernel)
set_option maxRecDepth 20000 in
theorem wsL_law_p22 : ∀ w ∈ wsL_law0_r22, w ∈ lw_tbl := memIn_r _ [521, 778, 779, 780, 781, 782, 783, 784, 785, 786, 788, 17, 789, 790, 791, 522, 523, 524, 525, 526, 527, 528, 792, 793] (by decide +kernel)
set_option maxRecDepth 20000 in
theorem wsL_law_p23 : ∀ w ∈ wsL_law0_r23, w ∈ lw_tbl := memIn_r _ [794, 795, 530, 531, 532, 533, 534, 535, 536, 537, 539, 1, 540, 541, 796, 797, 798, 799, 170, 171, 172, 173, 800, 801] (by decide +kernel)
set_option maxRecDepth 20000 in
theorem wsL_law_p24 : ∀ w ∈ wsL_law0_r24, w ∈ lw_tbl := memIn_r _ [802, 803, 174, 175, 176, 177, 178, 179, 180, 259, 271, 275, 283, 804, 805, 806, 807, 808, 809] (by decide +kernel)
theorem wsL_law_q0 : ∀ w ∈ wsX00, w ∈ lw_tbl := by decide +kernel
theorem wsL_law_q1 : ∀ w ∈ wsX10, w ∈ lw_tbl := by decide +kernel
theorem wsL_law_q2 : ∀ w ∈ wsX20, w ∈ lw_tbl := by decide +kernel
theorem wsL_law_q3 : ∀ w ∈ wsX30, w ∈ lw_tbl := by decide +kernel
theorem wsL_law_q4 : ∀ w ∈ wsX40, w ∈ lw_tbl := by decide +kernel
theorem wsL_law_q5 : ∀ w ∈ wsX50, w ∈ lw_tbl := by decide +kernel
theorem wsL_law_q6 : ∀ w ∈ wsX60, w ∈ lw_tbl := by decide +kernel
theorem wsL_law_in0 : ∀ w ∈ wsL_law0, w ∈ lw_tbl := (memIn_app (memIn_app (memIn_app (memIn_app (memIn_app (memIn_app (memIn_app (memIn_app (memIn_app wsL_law_p1 (memIn_app wsL_law_p2 (memIn_app wsL_law_p3 (memIn_app wsL_law_p4 (memIn_app wsL_law_p5 (memIn_app wsL_law_p6 (memIn_app wsL_law_p7 (memIn_app wsL_law_p8 (memIn_app wsL_law_p9 (memIn_app wsL_law_p10 (memIn_app wsL_law_p11 (memIn_app wsL_law_p12 (memIn_app wsL_law_p13 (memIn_app wsL_law_p14 (memIn_app wsL_law_p15 (memIn_app wsL_law_p16 (memIn_app wsL_law_p17 (memIn_app wsL_law_p18 (memIn_app wsL_law_p19 (memIn_app wsL_law_p20 (memIn_app wsL_law_p21 (memIn_app wsL_law_p22 (memIn_app wsL_law_p23 wsL_law_p24))))))))))))))))))))))) wsL_law_q4) wsL_law_q6) wsL_law_q1) wsL_law_q3) wsL_law_q2) wsL_law_q0) wsL_law_q5) (fun _ h => absurd h List.not_mem_nil))
theorem wsL_law_x0 : ∀ w ∈ (vx_atS RX4 52 "java/lang/IllegalStateException" ["java/lang/RuntimeException", "java/lang/Exception"]).filter goodWord, w ∈ lw_tbl := by decide +kernel
theorem wsL_law_x1 : ∀ w ∈ (vx_atS RX4 130 "java/lang/IndexOutOfBoundsException" ["java/lang/RuntimeException", "java/lang/Exception"]).filter goodWord, w ∈ lw_tbl := by decide +kernel
theorem wsL_law_x2 : ∀ w ∈ (vx_atS RX4 163 "java/lang/IllegalArgumentException" ["java/lang/RuntimeException", "java/lang/Exception"]).filter goodWord, w ∈ lw_tbl := by decide +kernel
theorem wsL_law_in : ∀ w ∈ wsL_law, w ∈ lw_tbl := fun w h => (List.mem_append.mp h).elim (fun h => (List.mem_append.mp h).elim (fun h => (List.mem_append.mp h).elim (fun h => wsL_law_in0 w h) (fun h => wsL_law_x0 w h)) (fun h => wsL_law_x1 w h)) (fun h => wsL_law_x2 w h)
theorem inlX0 : ∀ w ∈ wsX00, w ∈ wsL_law := fun _ h => List.mem_append_left _ (List.mem_append_left _ (List.mem_append_left _ (List.mem_append_left _ (List.mem_append_left _ (List.mem_append_right _ h)))))
theorem inX0 : ∀ w ∈ wsX00, w ∈ lw_tbl := fun w h => wsL_law_in w (inlX0 w h)
theorem inlX1 : ∀ w ∈ wsX10, w ∈ wsL_law := fun _ h => List.mem_append_left _ (List.mem_append_left _ (List.mem_append_left _ (List.mem_append_left _ (List.mem_append_left _ (List.mem_append_left _ (List.mem_append_left _ (List.mem_append_left _ (List.mem_append_right _ h))))))))
theorem inX1 : ∀ w ∈ wsX10, w ∈ lw_tbl := fun w h => wsL_law_in w (inlX1 w h)
theorem inlX2 : ∀ w ∈ wsX20, w ∈ wsL_law := fun _ h => List.mem_append_left _ (List.mem_append_left _ (List.mem_append_left _ (List.mem_append_left _ (List.mem_append_left _ (List.mem_append_left _ (List.mem_append_right _ h))))))
theorem inX2 : ∀ w ∈ wsX20, w ∈ lw_tbl := fun w h => wsL_law_in w (inlX2 w h)
theorem inlX3 : ∀ w ∈ wsX30, w ∈ wsL_law := fun _ h => List.mem_append_left _ (List.mem_append_left _ (List.mem_append_left _ (List.mem_append_left _ (List.mem_append_left _ (List.mem_append_left _ (List.mem_append_left _ (List.mem_append_right _ h)))))))
theorem inX3 : ∀ w ∈ wsX30, w ∈ lw_tbl := fun w h => wsL_law_in w (inlX3 w h)
theorem inlX4 : ∀ w ∈ wsX40, w ∈ wsL_law := fun _ h => List.mem_append_left _ (List.mem_append_left _ (List.mem_append_left _ (List.mem_append_left _ (List.mem_append_left _ (List.mem_append_left _ (List.mem_append_left _ (List.mem_append_left _ (List.mem_append_left _ (List.mem_append_left _ (List.mem_append_right _ h))))))))))
theorem inX4 : ∀ w ∈ wsX40, w ∈ lw_tbl := fun w h => wsL_law_in w (inlX4 w h)
theorem inlX5 : ∀ w ∈ wsX50, w ∈ wsL_law := fun _ h => List.mem_append_left _ (List.mem_append_left _ (List.mem_append_left _ (List.mem_append_left _ (List.mem_append_right _ h))))
theorem inX5 : ∀ w ∈ wsX50, w ∈ lw_tbl := fun w h => wsL_law_in w (inlX5 w h)
theorem inlX6 : ∀ w ∈ wsX60, w ∈ wsL_law := fun _ h => List.mem_append_left _ (List.mem_append_left _ (List.mem_append_left _ (List.mem_append_left _ (List.mem_append_left _ (List.mem_append_left _ (List.mem_append_left _ (List.mem_append_left _ (List.mem_append_left _ (List.mem_append_right _ h)))))))))
theorem inX6 : ∀ w ∈ wsX60, w ∈ lw_tbl := fun w h => wsL_law_in w (inlX6 w h)
theorem inJ9 : ∀ w ∈ wsJ90, w ∈ lw_tbl := by decide +kernel
theorem inJ0 : ∀ w ∈ wsJ00, w ∈ lw_tbl := by decide +kernel
theorem inJ10 : ∀ w ∈ wsJ100, w ∈ lw_tbl := by decide +kernel
end
section
theorem dX0_init_0 : decode cX0_init 0 = .ok (.aload_n 0, 1) := by decide +kernel
theorem dX0_init_1 : decode cX0_init 1 = .ok (.invokespecial 3, 3) := by decide +kernel
theorem dX0_init_4 : decode cX0_init 4 = .ok (.aload_n 0, 1) := by decide +kernel
theorem dX0_init_5 : decode cX0_init 5 = .ok (.iconst 0, 1) := by decide +kernel
theorem dX0_init_6 : decode cX0_init 6 = .ok (.putfield 9, 3) := by decide +kernel
theorem dX0_init_9 : decode cX0_init 9 = .ok (.aload_n 0, 1) := by decide +kernel
theorem dX0_init_10 : decode cX0_init 10 = .ok (.iconst 4, 1) := by decide +kernel
theorem dX0_init_11 : decode cX0_init 11 = .ok (.newarray .int, 2) := by decide +kernel
theorem dX0_init_13 : decode cX0_init 13 = .ok (.putfield 15, 3) := by decide +kernel
theorem dX0_init_16 : decode cX0_init 16 = .ok (.aload_n 0, 1) := by decide +kernel
theorem dX0_init_17 : decode cX0_init 17 = .ok (.iconst 4, 1) := by decide +kernel
theorem dX0_init_18 : decode cX0_init 18 = .ok (.newarray .int, 2) := by decide +kernel
theorem dX0_init_20 : decode cX0_init 20 = .ok (.putfield 19, 3) := by decide +kernel
theorem dX0_init_23 : decode cX0_init 23 = .ok (.aload_n 0, 1) := by decide +kernel
theorem dX0_init_24 : decode cX0_init 24 = .ok (.iconst 4, 1) := by decide +kernel
theorem dX0_init_25 : decode cX0_init 25 = .ok (.newarray .int, 2) := by decide +kernel
theorem dX0_init_27 : decode cX0_init 27 = .ok (.putfield 22, 3) := by decide +kernel
theorem dX0_init_30 : decode cX0_init 30 = .ok (.aload_n 0, 1) := by decide +kernel
theorem dX0_init_31 : decode cX0_init 31 = .ok (.iconst 4, 1) := by decide +kernel
theorem dX0_init_32 : decode cX0_init 32 = .ok (.newarray .int, 2) := by decide +kernel
theorem dX0_init_34 : decode cX0_init 34 = .ok (.putfield 25, 3) := by decide +kernel
theorem dX0_init_37 : decode cX0_init 37 = .ok (.aload_n 0, 1) := by decide +kernel
theorem dX0_init_38 : decode cX0_init 38 = .ok (.iconst 4, 1) := by decide +kernel
theorem dX0_init_39 : decode cX0_init 39 = .ok (.newarray .int, 2) := by decide +kernel
theorem dX0_init_41 : decode cX0_init 41 = .ok (.putfield 28, 3) := by decide +kernel
theorem dX0_init_44 : decode cX0_init 44 = .ok (.aload_n 0, 1) := by decide +kernel
theorem dX0_init_45 : decode cX0_init 45 = .ok (.iconst 4, 1) := by decide +kernel
theorem dX0_init_46 : decode cX0_init 46 = .ok (.newarray .int, 2) := by decide +kernel
theorem dX0_init_48 : decode cX0_init 48 = .ok (.putfield 31, 3) := by decide +kernel
theorem dX0_init_51 : decode cX0_init 51 = .ok (.aload_n 0, 1) := by decide +kernel
theorem dX0_init_52 : decode cX0_init 52 = .ok (.iconst 4, 1) := by decide +kernel
theorem dX0_init_53 : decode cX0_init 53 = .ok (.newarray .int, 2) := by decide +kernel
theorem dX0_init_55 : decode cX0_init 55 = .ok (.putfield 34, 3) := by decide +kernel
theorem dX0_init_58 : decode cX0_init 58 = .ok (.return_, 1) := by decide +kernel
theorem dX0_add_0 : decode cX0_add 0 = .ok (.aload_n 0, 1) := by decide +kernel
theorem dX0_add_1 : decode cX0_add 1 = .ok (.getfield 9, 3) := by decide +kernel
theorem dX0_add_4 : decode cX0_add 4 = .ok (.istore_n 3, 1) := by decide +kernel
theorem dX0_add_5 : decode cX0_add 5 = .ok (.aload_n 0, 1) := by decide +kernel
theorem dX0_add_6 : decode cX0_add 6 = .ok (.getfield 15, 3) := by decide +kernel
theorem dX0_add_9 : decode cX0_add 9 = .ok (.iload_n 3, 1) := by decide +kernel
theorem dX0_add_10 : decode cX0_add 10 = .ok (.iload_n 1, 1) := by decide +kernel
theorem dX0_add_11 : decode cX0_add 11 = .ok (.iastore, 1) := by decide +kernel
theorem dX0_add_12 : decode cX0_add 12 = .ok (.aload_n 0, 1) := by decide +kernel
theorem dX0_add_13 : decode cX0_add 13 = .ok (.getfield 19, 3) := by decide +kernel
theorem dX0_add_16 : decode cX0_add 16 = .ok (.iload_n 3, 1) := by decide +kernel
theorem dX0_add_17 : decode cX0_add 17 = .ok (.iload_n 2, 1) := by decide +kernel
theorem dX0_add_18 : decode cX0_add 18 = .ok (.iastore, 1) := by decide +kernel
theorem dX0_add_19 : decode cX0_add 19 = .ok (.aload_n 0, 1) := by decide +kernel
theorem dX0_add_20 : decode cX0_add 20 = .ok (.getfield 28, 3) := by decide +kernel
theorem dX0_add_23 : decode cX0_add 23 = .ok (.iload_n 3, 1) := by decide +kernel
theorem dX0_add_24 : decode cX0_add 24 = .ok (.iconst (-1), 1) := by decide +kernel
theorem dX0_add_25 : decode cX0_add 25 = .ok (.iastore, 1) := by decide +kernel
theorem dX0_add_26 : decode cX0_add 26 = .ok (.aload_n 0, 1) := by decide +kernel
theorem dX0_add_27 : decode cX0_add 27 = .ok (.dup, 1) := by decide +kernel
theorem dX0_add_28 : decode cX0_add 28 = .ok (.getfield 9, 3) := by decide +kernel
theorem dX0_add_31 : decode cX0_add 31 = .ok (.iconst 1, 1) := by decide +kernel
theorem dX0_add_32 : decode cX0_add 32 = .ok (.iadd, 1) := by decide +kernel
theorem dX0_add_33 : decode cX0_add 33 = .ok (.putfield 9, 3) := by decide +kernel
theorem dX0_add_36 : decode cX0_add 36 = .ok (.iload_n 3, 1) := by decide +kernel
theorem dX0_add_37 : decode cX0_add 37 = .ok (.ireturn, 1) := by decide +kernel
theorem dX0_fact_0 : decode cX0_fact 0 = .ok (.iload_n 2, 1) := by decide +kernel
theorem dX0_fact_1 : decode cX0_fact 1 = .ok (.tableswitch 81 0 5 #[39, 46, 53, 60, 67, 74], 39) := by decide +kernel
theorem dX0_fact_40 : decode cX0_fact 40 = .ok (.aload_n 0, 1) := by decide +kernel
theorem dX0_fact_41 : decode cX0_fact 41 = .ok (.getfield 15, 3) := by decide +kernel
theorem dX0_fact_44 : decode cX0_fact 44 = .ok (.iload_n 1, 1) := by decide +kernel
theorem dX0_fact_45 : decode cX0_fact 45 = .ok (.iaload, 1) := by decide +kernel
theorem dX0_fact_46 : decode cX0_fact 46 = .ok (.ireturn, 1) := by decide +kernel
theorem dX0_fact_47 : decode cX0_fact 47 = .ok (.aload_n 0, 1) := by decide +kernel
theorem dX0_fact_48 : decode cX0_fact 48 = .ok (.getfield 19, 3) := by decide +kernel
theorem dX0_fact_51 : decode cX0_fact 51 = .ok (.iload_n 1, 1) := by decide +kernel
theorem dX0_fact_52 : decode cX0_fact 52 = .ok (.iaload, 1) := by decide +kernel
theorem dX0_fact_53 : decode cX0_fact 53 = .ok (.ireturn, 1) := by decide +kernel
theorem dX0_fact_54 : decode cX0_fact 54 = .ok (.aload_n 0, 1) := by decide +kernel
theorem dX0_fact_55 : decode cX0_fact 55 = .ok (.getfield 22, 3) := by decide +kernel
theorem dX0_fact_58 : decode cX0_fact 58 = .ok (.iload_n 1, 1) := by decide +kernel
theorem dX0_fact_59 : decode cX0_fact 59 = .ok (.iaload, 1) := by decide +kernel
theorem dX0_fact_60 : decode cX0_fact 60 = .ok (.ireturn, 1) := by decide +kernel
theorem dX0_fact_61 : decode cX0_fact 61 = .ok (.aload_n 0, 1) := by decide +kernel
theorem dX0_fact_62 : decode cX0_fact 62 = .ok (.getfield 25, 3) := by decide +kernel
theorem dX0_fact_65 : decode cX0_fact 65 = .ok (.iload_n 1, 1) := by decide +kernel
theorem dX0_fact_66 : decode cX0_fact 66 = .ok (.iaload, 1) := by decide +kernel
theorem dX0_fact_67 : decode cX0_fact 67 = .ok (.ireturn, 1) := by decide +kernel
theorem dX0_fact_68 : decode cX0_fact 68 = .ok (.aload_n 0, 1) := by decide +kernel
theorem dX0_fact_69 : decode cX0_fact 69 = .ok (.getfield 28, 3) := by decide +kernel
theorem dX0_fact_72 : decode cX0_fact 72 = .ok (.iload_n 1, 1) := by decide +kernel
theorem dX0_fact_73 : decode cX0_fact 73 = .ok (.iaload, 1) := by decide +kernel
theorem dX0_fact_74 : decode cX0_fact 74 = .ok (.ireturn, 1) := by decide +kernel
theorem dX0_fact_75 : decode cX0_fact 75 = .ok (.aload_n 0, 1) := by decide +kernel
theorem dX0_fact_76 : decode cX0_fact 76 = .ok (.getfield 31, 3) := by decide +kernel
theorem dX0_fact_79 : decode cX0_fact 79 = .ok (.iload_n 1, 1) := by decide +kernel
theorem dX0_fact_80 : decode cX0_fact 80 = .ok (.iaload, 1) := by decide +kernel
theorem dX0_fact_81 : decode cX0_fact 81 = .ok (.ireturn, 1) := by decide +kernel
theorem dX0_fact_82 : decode cX0_fact 82 = .ok (.aload_n 0, 1) := by decide +kernel
theorem dX0_fact_83 : decode cX0_fact 83 = .ok (.getfield 34, 3) := by decide +kernel
theorem dX0_fact_86 : decode cX0_fact 86 = .ok (.iload_n 1, 1) := by decide +kernel
theorem dX0_fact_87 : decode cX0_fact 87 = .ok (.iaload, 1) := by decide +kernel
theorem dX0_fact_88 : decode cX0_fact 88 = .ok (.ireturn, 1) := by decide +kernel
theorem dX0_minutesNeeded_0 : decode cX0_minutesNeeded 0 = .ok (.aload_n 0, 1) := by decide +kernel
theorem dX0_minutesNeeded_1 : decode cX0_minutesNeeded 1 = .ok (.getfield 15, 3) := by decide +kernel
theorem dX0_minutesNeeded_4 : decode cX0_minutesNeeded 4 = .ok (.iload_n 1, 1) := by decide +kernel
theorem dX0_minutesNeeded_5 : decode cX0_minutesNeeded 5 = .ok (.iaload, 1) := by decide +kernel
theorem dX0_minutesNeeded_6 : decode cX0_minutesNeeded 6 = .ok (.aload_n 0, 1) := by decide +kernel
theorem dX0_minutesNeeded_7 : decode cX0_minutesNeeded 7 = .ok (.getfield 22, 3) := by decide +kernel
theorem dX0_minutesNeeded_10 : decode cX0_minutesNeeded 10 = .ok (.iload_n 1, 1) := by decide +kernel
theorem dX0_minutesNeeded_11 : decode cX0_minutesNeeded 11 = .ok (.iaload, 1) := by decide +kernel
theorem dX0_minutesNeeded_12 : decode cX0_minutesNeeded 12 = .ok (.iconst 5, 1) := by decide +kernel
theorem dX0_minutesNeeded_13 : decode cX0_minutesNeeded 13 = .ok (.idiv, 1) := by decide +kernel
theorem dX0_minutesNeeded_14 : decode cX0_minutesNeeded 14 = .ok (.iadd, 1) := by decide +kernel
theorem dX0_minutesNeeded_15 : decode cX0_minutesNeeded 15 = .ok (.iconst 2, 1) := by decide +kernel
theorem dX0_minutesNeeded_16 : decode cX0_minutesNeeded 16 = .ok (.aload_n 0, 1) := by decide +kernel
theorem dX0_minutesNeeded_17 : decode cX0_minutesNeeded 17 = .ok (.getfield 25, 3) := by decide +kernel
theorem dX0_minutesNeeded_20 : decode cX0_minutesNeeded 20 = .ok (.iload_n 1, 1) := by decide +kernel
theorem dX0_minutesNeeded_21 : decode cX0_minutesNeeded 21 = .ok (.iaload, 1) := by decide +kernel
theorem dX0_minutesNeeded_22 : decode cX0_minutesNeeded 22 = .ok (.imul, 1) := by decide +kernel
theorem dX0_minutesNeeded_23 : decode cX0_minutesNeeded 23 = .ok (.isub, 1) := by decide +kernel
theorem dX0_minutesNeeded_24 : decode cX0_minutesNeeded 24 = .ok (.istore_n 2, 1) := by decide +kernel
theorem dX0_minutesNeeded_25 : decode cX0_minutesNeeded 25 = .ok (.iload_n 2, 1) := by decide +kernel
theorem dX0_minutesNeeded_26 : decode cX0_minutesNeeded 26 = .ok (.iconst 1, 1) := by decide +kernel
theorem dX0_minutesNeeded_27 : decode cX0_minutesNeeded 27 = .ok (.if_icmp .ge 7, 3) := by decide +kernel
theorem dX0_minutesNeeded_30 : decode cX0_minutesNeeded 30 = .ok (.iconst 1, 1) := by decide +kernel
theorem dX0_minutesNeeded_31 : decode cX0_minutesNeeded 31 = .ok (.goto 4, 3) := by decide +kernel
theorem dX0_minutesNeeded_34 : decode cX0_minutesNeeded 34 = .ok (.iload_n 2, 1) := by decide +kernel
theorem dX0_minutesNeeded_35 : decode cX0_minutesNeeded 35 = .ok (.ireturn, 1) := by decide +kernel
set_option maxRecDepth 20000 in
theorem ggX0_takeUp_X0_minutesNeeded : GoodIn wsX0_takeUp wsX0_minutesNeeded := goodIn_r _ [7, 8, 9, 10, 11, 12, 13, 14, 15, 16, 17, 18] (by decide +kernel) (by decide +kernel)
set_option maxRecDepth 20000 in
theorem gX0_takeUp_X0_minutesNeeded : GoodIn wsX0_takeUp (wsV RX0 37 RX0 yX0_minutesNeeded wsX0_minutesNeeded) := goodIn_app (goodIn_of _ (by decide +kernel)) ggX0_takeUp_X0_minutesNeeded
theorem dX0_takeUp_0 : decode cX0_takeUp 0 = .ok (.aload_n 0, 1) := by decide +kernel
theorem dX0_takeUp_1 : decode cX0_takeUp 1 = .ok (.getfield 28, 3) := by decide +kernel
theorem dX0_takeUp_4 : decode cX0_takeUp 4 = .ok (.iload_n 1, 1) := by decide +kernel
theorem dX0_takeUp_5 : decode cX0_takeUp 5 = .ok (.iload_n 2, 1) := by decide +kernel
theorem dX0_takeUp_6 : decode cX0_takeUp 6 = .ok (.iastore, 1) := by decide +kernel
theorem dX0_takeUp_7 : decode cX0_takeUp 7 = .ok (.aload_n 0, 1) := by decide +kernel
theorem dX0_takeUp_8 : decode cX0_takeUp 8 = .ok (.getfield 31, 3) := by decide +kernel
theorem dX0_takeUp_11 : decode cX0_takeUp 11 = .ok (.iload_n 1, 1) := by decide +kernel
theorem dX0_takeUp_12 : decode cX0_takeUp 12 = .ok (.aload_n 0, 1) := by decide +kernel
theorem dX0_takeUp_13 : decode cX0_takeUp 13 = .ok (.iload_n 1, 1) := by decide +kernel
theorem dX0_takeUp_14 : decode cX0_takeUp 14 = .ok (.invokevirtual 37, 3) := by decide +kernel
theorem dX0_takeUp_17 : decode cX0_takeUp 17 = .ok (.iastore, 1) := by decide +kernel
theorem dX0_takeUp_18 : decode cX0_takeUp 18 = .ok (.return_, 1) := by decide +kernel
theorem dX0_freeHands_0 : decode cX0_freeHands 0 = .ok (.aload_n 0, 1) := by decide +kernel
theorem dX0_freeHands_1 : decode cX0_freeHands 1 = .ok (.getfield 28, 3) := by decide +kernel
theorem dX0_freeHands_4 : decode cX0_freeHands 4 = .ok (.iload_n 1, 1) := by decide +kernel
theorem dX0_freeHands_5 : decode cX0_freeHands 5 = .ok (.iconst (-1), 1) := by decide +kernel
theorem dX0_freeHands_6 : decode cX0_freeHands 6 = .ok (.iastore, 1) := by decide +kernel
theorem dX0_freeHands_7 : decode cX0_freeHands 7 = .ok (.aload_n 0, 1) := by decide +kernel
theorem dX0_freeHands_8 : decode cX0_freeHands 8 = .ok (.getfield 31, 3) := by decide +kernel
theorem dX0_freeHands_11 : decode cX0_freeHands 11 = .ok (.iload_n 1, 1) := by decide +kernel
theorem dX0_freeHands_12 : decode cX0_freeHands 12 = .ok (.iconst 0, 1) := by decide +kernel
theorem dX0_freeHands_13 : decode cX0_freeHands 13 = .ok (.iastore, 1) := by decide +kernel
theorem dX0_freeHands_14 : decode cX0_freeHands 14 = .ok (.return_, 1) := by decide +kernel
theorem dX0_spillTea_0 : decode cX0_spillTea 0 = .ok (.iconst 0, 1) := by decide +kernel
theorem dX0_spillTea_1 : decode cX0_spillTea 1 = .ok (.istore_n 1, 1) := by decide +kernel
theorem dX0_spillTea_2 : decode cX0_spillTea 2 = .ok (.iload_n 1, 1) := by decide +kernel
theorem dX0_spillTea_3 : decode cX0_spillTea 3 = .ok (.aload_n 0, 1) := by decide +kernel
theorem dX0_spillTea_4 : decode cX0_spillTea 4 = .ok (.getfield 9, 3) := by decide +kernel
theorem dX0_spillTea_7 : decode cX0_spillTea 7 = .ok (.if_icmp .ge 16, 3) := by decide +kernel
theorem dX0_spillTea_10 : decode cX0_spillTea 10 = .ok (.aload_n 0, 1) := by decide +kernel
theorem dX0_spillTea_11 : decode cX0_spillTea 11 = .ok (.getfield 25, 3) := by decide +kernel
theorem dX0_spillTea_14 : decode cX0_spillTea 14 = .ok (.iload_n 1, 1) := by decide +kernel
theorem dX0_spillTea_15 : decode cX0_spillTea 15 = .ok (.iconst 0, 1) := by decide +kernel
theorem dX0_spillTea_16 : decode cX0_spillTea 16 = .ok (.iastore, 1) := by decide +kernel
theorem dX0_spillTea_17 : decode cX0_spillTea 17 = .ok (.iinc 1 1, 3) := by decide +kernel
theorem dX0_spillTea_20 : decode cX0_spillTea 20 = .ok (.goto (-18), 3) := by decide +kernel
theorem dX0_spillTea_23 : decode cX0_spillTea 23 = .ok (.return_, 1) := by decide +kernel
theorem dX0_tireAll_0 : decode cX0_tireAll 0 = .ok (.iconst 0, 1) := by decide +kernel
theorem dX0_tireAll_1 : decode cX0_tireAll 1 = .ok (.istore_n 2, 1) := by decide +kernel
theorem dX0_tireAll_2 : decode cX0_tireAll 2 = .ok (.iload_n 2, 1) := by decide +kernel
theorem dX0_tireAll_3 : decode cX0_tireAll 3 = .ok (.aload_n 0, 1) := by decide +kernel
theorem dX0_tireAll_4 : decode cX0_tireAll 4 = .ok (.getfield 9, 3) := by decide +kernel
theorem dX0_tireAll_7 : decode cX0_tireAll 7 = .ok (.if_icmp .ge 19, 3) := by decide +kernel
theorem dX0_tireAll_10 : decode cX0_tireAll 10 = .ok (.aload_n 0, 1) := by decide +kernel
theorem dX0_tireAll_11 : decode cX0_tireAll 11 = .ok (.getfield 22, 3) := by decide +kernel
theorem dX0_tireAll_14 : decode cX0_tireAll 14 = .ok (.iload_n 2, 1) := by decide +kernel
theorem dX0_tireAll_15 : decode cX0_tireAll 15 = .ok (.dup2, 1) := by decide +kernel
theorem dX0_tireAll_16 : decode cX0_tireAll 16 = .ok (.iaload, 1) := by decide +kernel
theorem dX0_tireAll_17 : decode cX0_tireAll 17 = .ok (.iload_n 1, 1) := by decide +kernel
theorem dX0_tireAll_18 : decode cX0_tireAll 18 = .ok (.iadd, 1) := by decide +kernel
theorem dX0_tireAll_19 : decode cX0_tireAll 19 = .ok (.iastore, 1) := by decide +kernel
theorem dX0_tireAll_20 : decode cX0_tireAll 20 = .ok (.iinc 2 1, 3) := by decide +kernel
theorem dX0_tireAll_23 : decode cX0_tireAll 23 = .ok (.goto (-21), 3) := by decide +kernel
theorem dX0_tireAll_26 : decode cX0_tireAll 26 = .ok (.return_, 1) := by decide +kernel
theorem dX0_copyFrom_0 : decode cX0_copyFrom 0 = .ok (.aload_n 0, 1) := by decide +kernel
theorem dX0_copyFrom_1 : decode cX0_copyFrom 1 = .ok (.aload_n 1, 1) := by decide +kernel
theorem dX0_copyFrom_2 : decode cX0_copyFrom 2 = .ok (.getfield 9, 3) := by decide +kernel
theorem dX0_copyFrom_5 : decode cX0_copyFrom 5 = .ok (.putfield 9, 3) := by decide +kernel
theorem dX0_copyFrom_8 : decode cX0_copyFrom 8 = .ok (.aload_n 1, 1) := by decide +kernel
theorem dX0_copyFrom_9 : decode cX0_copyFrom 9 = .ok (.getfield 15, 3) := by decide +kernel
theorem dX0_copyFrom_12 : decode cX0_copyFrom 12 = .ok (.iconst 0, 1) := by decide +kernel
theorem dX0_copyFrom_13 : decode cX0_copyFrom 13 = .ok (.aload_n 0, 1) := by decide +kernel
theorem dX0_copyFrom_14 : decode cX0_copyFrom 14 = .ok (.getfield 15, 3) := by decide +kernel
theorem dX0_copyFrom_17 : decode cX0_copyFrom 17 = .ok (.iconst 0, 1) := by decide +kernel
theorem dX0_copyFrom_18 : decode cX0_copyFrom 18 = .ok (.iconst 4, 1) := by decide +kernel
theorem dX0_copyFrom_19 : decode cX0_copyFrom 19 = .ok (.invokestatic 41, 3) := by decide +kernel
theorem dX0_copyFrom_22 : decode cX0_copyFrom 22 = .ok (.aload_n 1, 1) := by decide +kernel
theorem dX0_copyFrom_23 : decode cX0_copyFrom 23 = .ok (.getfield 19, 3) := by decide +kernel
theorem dX0_copyFrom_26 : decode cX0_copyFrom 26 = .ok (.iconst 0, 1) := by decide +kernel
theorem dX0_copyFrom_27 : decode cX0_copyFrom 27 = .ok (.aload_n 0, 1) := by decide +kernel
theorem dX0_copyFrom_28 : decode cX0_copyFrom 28 = .ok (.getfield 19, 3) := by decide +kernel
theorem dX0_copyFrom_31 : decode cX0_copyFrom 31 = .ok (.iconst 0, 1) := by decide +kernel
theorem dX0_copyFrom_32 : decode cX0_copyFrom 32 = .ok (.iconst 4, 1) := by decide +kernel
theorem dX0_copyFrom_33 : decode cX0_copyFrom 33 = .ok (.invokestatic 41, 3) := by decide +kernel
theorem dX0_copyFrom_36 : decode cX0_copyFrom 36 = .ok (.aload_n 1, 1) := by decide +kernel
theorem dX0_copyFrom_37 : decode cX0_copyFrom 37 = .ok (.getfield 22, 3) := by decide +kernel
theorem dX0_copyFrom_40 : decode cX0_copyFrom 40 = .ok (.iconst 0, 1) := by decide +kernel
theorem dX0_copyFrom_41 : decode cX0_copyFrom 41 = .ok (.aload_n 0, 1) := by decide +kernel
theorem dX0_copyFrom_42 : decode cX0_copyFrom 42 = .ok (.getfield 22, 3) := by decide +kernel
theorem dX0_copyFrom_45 : decode cX0_copyFrom 45 = .ok (.iconst 0, 1) := by decide +kernel
theorem dX0_copyFrom_46 : decode cX0_copyFrom 46 = .ok (.iconst 4, 1) := by decide +kernel
theorem dX0_copyFrom_47 : decode cX0_copyFrom 47 = .ok (.invokestatic 41, 3) := by decide +kernel
theorem dX0_copyFrom_50 : decode cX0_copyFrom 50 = .ok (.aload_n 1, 1) := by decide +kernel
theorem dX0_copyFrom_51 : decode cX0_copyFrom 51 = .ok (.getfield 25, 3) := by decide +kernel
theorem dX0_copyFrom_54 : decode cX0_copyFrom 54 = .ok (.iconst 0, 1) := by decide +kernel
theorem dX0_copyFrom_55 : decode cX0_copyFrom 55 = .ok (.aload_n 0, 1) := by decide +kernel
theorem dX0_copyFrom_56 : decode cX0_copyFrom 56 = .ok (.getfield 25, 3) := by decide +kernel
theorem dX0_copyFrom_59 : decode cX0_copyFrom 59 = .ok (.iconst 0, 1) := by decide +kernel
theorem dX0_copyFrom_60 : decode cX0_copyFrom 60 = .ok (.iconst 4, 1) := by decide +kernel
theorem dX0_copyFrom_61 : decode cX0_copyFrom 61 = .ok (.invokestatic 41, 3) := by decide +kernel
theorem dX0_copyFrom_64 : decode cX0_copyFrom 64 = .ok (.aload_n 1, 1) := by decide +kernel
theorem dX0_copyFrom_65 : decode cX0_copyFrom 65 = .ok (.getfield 28, 3) := by decide +kernel
theorem dX0_copyFrom_68 : decode cX0_copyFrom 68 = .ok (.iconst 0, 1) := by decide +kernel
theorem dX0_copyFrom_69 : decode cX0_copyFrom 69 = .ok (.aload_n 0, 1) := by decide +kernel
theorem dX0_copyFrom_70 : decode cX0_copyFrom 70 = .ok (.getfield 28, 3) := by decide +kernel
theorem dX0_copyFrom_73 : decode cX0_copyFrom 73 = .ok (.iconst 0, 1) := by decide +kernel
theorem dX0_copyFrom_74 : decode cX0_copyFrom 74 = .ok (.iconst 4, 1) := by decide +kernel
theorem dX0_copyFrom_75 : decode cX0_copyFrom 75 = .ok (.invokestatic 41, 3) := by decide +kernel
theorem dX0_copyFrom_78 : decode cX0_copyFrom 78 = .ok (.aload_n 1, 1) := by decide +kernel
theorem dX0_copyFrom_79 : decode cX0_copyFrom 79 = .ok (.getfield 31, 3) := by decide +kernel
theorem dX0_copyFrom_82 : decode cX0_copyFrom 82 = .ok (.iconst 0, 1) := by decide +kernel
theorem dX0_copyFrom_83 : decode cX0_copyFrom 83 = .ok (.aload_n 0, 1) := by decide +kernel
theorem dX0_copyFrom_84 : decode cX0_copyFrom 84 = .ok (.getfield 31, 3) := by decide +kernel
theorem dX0_copyFrom_87 : decode cX0_copyFrom 87 = .ok (.iconst 0, 1) := by decide +kernel
theorem dX0_copyFrom_88 : decode cX0_copyFrom 88 = .ok (.iconst 4, 1) := by decide +kernel
theorem dX0_copyFrom_89 : decode cX0_copyFrom 89 = .ok (.invokestatic 41, 3) := by decide +kernel
theorem dX0_copyFrom_92 : decode cX0_copyFrom 92 = .ok (.aload_n 1, 1) := by decide +kernel
theorem dX0_copyFrom_93 : decode cX0_copyFrom 93 = .ok (.getfield 34, 3) := by decide +kernel
theorem dX0_copyFrom_96 : decode cX0_copyFrom 96 = .ok (.iconst 0, 1) := by decide +kernel
theorem dX0_copyFrom_97 : decode cX0_copyFrom 97 = .ok (.aload_n 0, 1) := by decide +kernel
theorem dX0_copyFrom_98 : decode cX0_copyFrom 98 = .ok (.getfield 34, 3) := by decide +kernel
theorem dX0_copyFrom_101 : decode cX0_copyFrom 101 = .ok (.iconst 0, 1) := by decide +kernel
theorem dX0_copyFrom_102 : decode cX0_copyFrom 102 = .ok (.iconst 4, 1) := by decide +kernel
theorem dX0_copyFrom_103 : decode cX0_copyFrom 103 = .ok (.invokestatic 41, 3) := by decide +kernel
theorem dX0_copyFrom_106 : decode cX0_copyFrom 106 = .ok (.return_, 1) := by decide +kernel
theorem dX1_init_0 : decode cX1_init 0 = .ok (.aload_n 0, 1) := by decide +kernel
theorem dX1_init_1 : decode cX1_init 1 = .ok (.invokespecial 3, 3) := by decide +kernel
theorem dX1_init_4 : decode cX1_init 4 = .ok (.aload_n 0, 1) := by decide +kernel
theorem dX1_init_5 : decode cX1_init 5 = .ok (.bipush 8, 2) := by decide +kernel
theorem dX1_init_7 : decode cX1_init 7 = .ok (.newarray .int, 2) := by decide +kernel
theorem dX1_init_9 : decode cX1_init 9 = .ok (.putfield 9, 3) := by decide +kernel
theorem dX1_init_12 : decode cX1_init 12 = .ok (.aload_n 0, 1) := by decide +kernel
theorem dX1_init_13 : decode cX1_init 13 = .ok (.bipush 8, 2) := by decide +kernel
theorem dX1_init_15 : decode cX1_init 15 = .ok (.newarray .int, 2) := by decide +kernel
theorem dX1_init_17 : decode cX1_init 17 = .ok (.putfield 15, 3) := by decide +kernel
theorem dX1_init_20 : decode cX1_init 20 = .ok (.iconst 0, 1) := by decide +kernel
theorem dX1_init_21 : decode cX1_init 21 = .ok (.istore_n 1, 1) := by decide +kernel
theorem dX1_init_22 : decode cX1_init 22 = .ok (.iload_n 1, 1) := by decide +kernel
theorem dX1_init_23 : decode cX1_init 23 = .ok (.bipush 8, 2) := by decide +kernel
theorem dX1_init_25 : decode cX1_init 25 = .ok (.if_icmp .ge 22, 3) := by decide +kernel
theorem dX1_init_28 : decode cX1_init 28 = .ok (.aload_n 0, 1) := by decide +kernel
theorem dX1_init_29 : decode cX1_init 29 = .ok (.getfield 9, 3) := by decide +kernel
theorem dX1_init_32 : decode cX1_init 32 = .ok (.iload_n 1, 1) := by decide +kernel
theorem dX1_init_33 : decode cX1_init 33 = .ok (.bipush 20, 2) := by decide +kernel
theorem dX1_init_35 : decode cX1_init 35 = .ok (.iload_n 1, 1) := by decide +kernel
theorem dX1_init_36 : decode cX1_init 36 = .ok (.imul, 1) := by decide +kernel
theorem dX1_init_37 : decode cX1_init 37 = .ok (.bipush 20, 2) := by decide +kernel
theorem dX1_init_39 : decode cX1_init 39 = .ok (.iadd, 1) := by decide +kernel
theorem dX1_init_40 : decode cX1_init 40 = .ok (.iastore, 1) := by decide +kernel
theorem dX1_init_41 : decode cX1_init 41 = .ok (.iinc 1 1, 3) := by decide +kernel
theorem dX1_init_44 : decode cX1_init 44 = .ok (.goto (-22), 3) := by decide +kernel
theorem dX1_init_47 : decode cX1_init 47 = .ok (.return_, 1) := by decide +kernel
theorem dX1_wouldRise_0 : decode cX1_wouldRise 0 = .ok (.iload_n 1, 1) := by decide +kernel
theorem dX1_wouldRise_1 : decode cX1_wouldRise 1 = .ok (.ifCond .eq 15, 3) := by decide +kernel
theorem dX1_wouldRise_4 : decode cX1_wouldRise 4 = .ok (.iload_n 2, 1) := by decide +kernel
theorem dX1_wouldRise_5 : decode cX1_wouldRise 5 = .ok (.aload_n 0, 1) := by decide +kernel
theorem dX1_wouldRise_6 : decode cX1_wouldRise 6 = .ok (.getfield 9, 3) := by decide +kernel
theorem dX1_wouldRise_9 : decode cX1_wouldRise 9 = .ok (.iload_n 1, 1) := by decide +kernel
theorem dX1_wouldRise_10 : decode cX1_wouldRise 10 = .ok (.iconst 1, 1) := by decide +kernel
theorem dX1_wouldRise_11 : decode cX1_wouldRise 11 = .ok (.isub, 1) := by decide +kernel
theorem dX1_wouldRise_12 : decode cX1_wouldRise 12 = .ok (.iaload, 1) := by decide +kernel
theorem dX1_wouldRise_13 : decode cX1_wouldRise 13 = .ok (.if_icmp .le 7, 3) := by decide +kernel
theorem dX1_wouldRise_16 : decode cX1_wouldRise 16 = .ok (.iconst 1, 1) := by decide +kernel
theorem dX1_wouldRise_17 : decode cX1_wouldRise 17 = .ok (.goto 4, 3) := by decide +kernel
theorem dX1_wouldRise_20 : decode cX1_wouldRise 20 = .ok (.iconst 0, 1) := by decide +kernel
theorem dX1_wouldRise_21 : decode cX1_wouldRise 21 = .ok (.istore_n 3, 1) := by decide +kernel
theorem dX1_wouldRise_22 : decode cX1_wouldRise 22 = .ok (.iload_n 1, 1) := by decide +kernel
theorem dX1_wouldRise_23 : decode cX1_wouldRise 23 = .ok (.bipush 7, 2) := by decide +kernel
theorem dX1_wouldRise_25 : decode cX1_wouldRise 25 = .ok (.if_icmp .eq 15, 3) := by decide +kernel
theorem dX1_wouldRise_28 : decode cX1_wouldRise 28 = .ok (.iload_n 2, 1) := by decide +kernel
theorem dX1_wouldRise_29 : decode cX1_wouldRise 29 = .ok (.aload_n 0, 1) := by decide +kernel
theorem dX1_wouldRise_30 : decode cX1_wouldRise 30 = .ok (.getfield 9, 3) := by decide +kernel
theorem dX1_wouldRise_33 : decode cX1_wouldRise 33 = .ok (.iload_n 1, 1) := by decide +kernel
theorem dX1_wouldRise_34 : decode cX1_wouldRise 34 = .ok (.iconst 1, 1) := by decide +kernel
theorem dX1_wouldRise_35 : decode cX1_wouldRise 35 = .ok (.iadd, 1) := by decide +kernel
theorem dX1_wouldRise_36 : decode cX1_wouldRise 36 = .ok (.iaload, 1) := by decide +kernel
theorem dX1_wouldRise_37 : decode cX1_wouldRise 37 = .ok (.if_icmp .ge 7, 3) := by decide +kernel
theorem dX1_wouldRise_40 : decode cX1_wouldRise 40 = .ok (.iconst 1, 1) := by decide +kernel
theorem dX1_wouldRise_41 : decode cX1_wouldRise 41 = .ok (.goto 4, 3) := by decide +kernel
theorem dX1_wouldRise_44 : decode cX1_wouldRise 44 = .ok (.iconst 0, 1) := by decide +kernel
theorem dX1_wouldRise_45 : decode cX1_wouldRise 45 = .ok (.istore 4, 2) := by decide +kernel
theorem dX1_wouldRise_47 : decode cX1_wouldRise 47 = .ok (.iload_n 3, 1) := by decide +kernel
theorem dX1_wouldRise_48 : decode cX1_wouldRise 48 = .ok (.ifCond .eq 12, 3) := by decide +kernel
theorem dX1_wouldRise_51 : decode cX1_wouldRise 51 = .ok (.iload 4, 2) := by decide +kernel
theorem dX1_wouldRise_53 : decode cX1_wouldRise 53 = .ok (.ifCond .eq 7, 3) := by decide +kernel
theorem dX1_wouldRise_56 : decode cX1_wouldRise 56 = .ok (.iconst 1, 1) := by decide +kernel
theorem dX1_wouldRise_57 : decode cX1_wouldRise 57 = .ok (.goto 4, 3) := by decide +kernel
theorem dX1_wouldRise_60 : decode cX1_wouldRise 60 = .ok (.iconst 0, 1) := by decide +kernel
theorem dX1_wouldRise_61 : decode cX1_wouldRise 61 = .ok (.ireturn, 1) := by decide +kernel
theorem dX1_passedIn_0 : decode cX1_passedIn 0 = .ok (.iconst 0, 1) := by decide +kernel
theorem dX1_passedIn_1 : decode cX1_passedIn 1 = .ok (.istore_n 2, 1) := by decide +kernel
theorem dX1_passedIn_2 : decode cX1_passedIn 2 = .ok (.iload_n 2, 1) := by decide +kernel
theorem dX1_passedIn_3 : decode cX1_passedIn 3 = .ok (.bipush 8, 2) := by decide +kernel
theorem dX1_passedIn_5 : decode cX1_passedIn 5 = .ok (.if_icmp .ge 21, 3) := by decide +kernel
theorem dX1_passedIn_8 : decode cX1_passedIn 8 = .ok (.aload_n 0, 1) := by decide +kernel
theorem dX1_passedIn_9 : decode cX1_passedIn 9 = .ok (.getfield 9, 3) := by decide +kernel
theorem dX1_passedIn_12 : decode cX1_passedIn 12 = .ok (.iload_n 2, 1) := by decide +kernel
theorem dX1_passedIn_13 : decode cX1_passedIn 13 = .ok (.iaload, 1) := by decide +kernel
theorem dX1_passedIn_14 : decode cX1_passedIn 14 = .ok (.iload_n 1, 1) := by decide +kernel
theorem dX1_passedIn_15 : decode cX1_passedIn 15 = .ok (.if_icmp .ne 5, 3) := by decide +kernel
theorem dX1_passedIn_18 : decode cX1_passedIn 18 = .ok (.iload_n 2, 1) := by decide +kernel
theorem dX1_passedIn_19 : decode cX1_passedIn 19 = .ok (.ireturn, 1) := by decide +kernel
theorem dX1_passedIn_20 : decode cX1_passedIn 20 = .ok (.iinc 2 1, 3) := by decide +kernel
theorem dX1_passedIn_23 : decode cX1_passedIn 23 = .ok (.goto (-21), 3) := by decide +kernel
theorem dX1_passedIn_26 : decode cX1_passedIn 26 = .ok (.iconst (-1), 1) := by decide +kernel
theorem dX1_passedIn_27 : decode cX1_passedIn 27 = .ok (.ireturn, 1) := by decide +kernel
theorem dX1_nextFrom_0 : decode cX1_nextFrom 0 = .ok (.iconst 0, 1) := by decide +kernel
theorem dX1_nextFrom_1 : decode cX1_nextFrom 1 = .ok (.istore_n 2, 1) := by decide +kernel
theorem dX1_nextFrom_2 : decode cX1_nextFrom 2 = .ok (.iload_n 2, 1) := by decide +kernel
theorem dX1_nextFrom_3 : decode cX1_nextFrom 3 = .ok (.bipush 8, 2) := by decide +kernel
theorem dX1_nextFrom_5 : decode cX1_nextFrom 5 = .ok (.if_icmp .ge 21, 3) := by decide +kernel
theorem dX1_nextFrom_8 : decode cX1_nextFrom 8 = .ok (.aload_n 0, 1) := by decide +kernel
theorem dX1_nextFrom_9 : decode cX1_nextFrom 9 = .ok (.getfield 9, 3) := by decide +kernel
theorem dX1_nextFrom_12 : decode cX1_nextFrom 12 = .ok (.iload_n 2, 1) := by decide +kernel
theorem dX1_nextFrom_13 : decode cX1_nextFrom 13 = .ok (.iaload, 1) := by decide +kernel
theorem dX1_nextFrom_14 : decode cX1_nextFrom 14 = .ok (.iload_n 1, 1) := by decide +kernel
theorem dX1_nextFrom_15 : decode cX1_nextFrom 15 = .ok (.if_icmp .lt 5, 3) := by decide +kernel
theorem dX1_nextFrom_18 : decode cX1_nextFrom 18 = .ok (.iload_n 2, 1) := by decide +kernel
theorem dX1_nextFrom_19 : decode cX1_nextFrom 19 = .ok (.ireturn, 1) := by decide +kernel
theorem dX1_nextFrom_20 : decode cX1_nextFrom 20 = .ok (.iinc 2 1, 3) := by decide +kernel
theorem dX1_nextFrom_23 : decode cX1_nextFrom 23 = .ok (.goto (-21), 3) := by decide +kernel
theorem dX1_nextFrom_26 : decode cX1_nextFrom 26 = .ok (.bipush 8, 2) := by decide +kernel
theorem dX1_nextFrom_28 : decode cX1_nextFrom 28 = .ok (.ireturn, 1) := by decide +kernel
theorem dX2_init_0 : decode cX2_init 0 = .ok (.aload_n 0, 1) := by decide +kernel
theorem dX2_init_1 : decode cX2_init 1 = .ok (.invokespecial 3, 3) := by decide +kernel
theorem dX2_init_4 : decode cX2_init 4 = .ok (.aload_n 0, 1) := by decide +kernel
theorem dX2_init_5 : decode cX2_init 5 = .ok (.iconst 0, 1) := by decide +kernel
theorem dX2_init_6 : decode cX2_init 6 = .ok (.putfield 9, 3) := by decide +kernel
theorem dX2_init_9 : decode cX2_init 9 = .ok (.aload_n 0, 1) := by decide +kernel
theorem dX2_init_10 : decode cX2_init 10 = .ok (.bipush 60, 2) := by decide +kernel
theorem dX2_init_12 : decode cX2_init 12 = .ok (.newarray .int, 2) := by decide +kernel
theorem dX2_init_14 : decode cX2_init 14 = .ok (.putfield 15, 3) := by decide +kernel
theorem dX2_init_17 : decode cX2_init 17 = .ok (.aload_n 0, 1) := by decide +kernel
theorem dX2_init_18 : decode cX2_init 18 = .ok (.bipush 60, 2) := by decide +kernel
theorem dX2_init_20 : decode cX2_init 20 = .ok (.newarray .int, 2) := by decide +kernel
theorem dX2_init_22 : decode cX2_init 22 = .ok (.putfield 19, 3) := by decide +kernel
theorem dX2_init_25 : decode cX2_init 25 = .ok (.aload_n 0, 1) := by decide +kernel
theorem dX2_init_26 : decode cX2_init 26 = .ok (.bipush 60, 2) := by decide +kernel
theorem dX2_init_28 : decode cX2_init 28 = .ok (.newarray .int, 2) := by decide +kernel
theorem dX2_init_30 : decode cX2_init 30 = .ok (.putfield 22, 3) := by decide +kernel
theorem dX2_init_33 : decode cX2_init 33 = .ok (.aload_n 0, 1) := by decide +kernel
theorem dX2_init_34 : decode cX2_init 34 = .ok (.bipush 60, 2) := by decide +kernel
theorem dX2_init_36 : decode cX2_init 36 = .ok (.newarray .int, 2) := by decide +kernel
theorem dX2_init_38 : decode cX2_init 38 = .ok (.putfield 25, 3) := by decide +kernel
theorem dX2_init_41 : decode cX2_init 41 = .ok (.aload_n 0, 1) := by decide +kernel
theorem dX2_init_42 : decode cX2_init 42 = .ok (.bipush 60, 2) := by decide +kernel
theorem dX2_init_44 : decode cX2_init 44 = .ok (.newarray .int, 2) := by decide +kernel
theorem dX2_init_46 : decode cX2_init 46 = .ok (.putfield 28, 3) := by decide +kernel
theorem dX2_init_49 : decode cX2_init 49 = .ok (.aload_n 0, 1) := by decide +kernel
theorem dX2_init_50 : decode cX2_init 50 = .ok (.bipush 6, 2) := by decide +kernel
theorem dX2_init_52 : decode cX2_init 52 = .ok (.newarray .int, 2) := by decide +kernel
theorem dX2_init_54 : decode cX2_init 54 = .ok (.putfield 31, 3) := by decide +kernel
theorem dX2_init_57 : decode cX2_init 57 = .ok (.aload_n 0, 1) := by decide +kernel
theorem dX2_init_58 : decode cX2_init 58 = .ok (.bipush 16, 2) := by decide +kernel
theorem dX2_init_60 : decode cX2_init 60 = .ok (.newarray .int, 2) := by decide +kernel
theorem dX2_init_62 : decode cX2_init 62 = .ok (.putfield 34, 3) := by decide +kernel
theorem dX2_init_65 : decode cX2_init 65 = .ok (.return_, 1) := by decide +kernel
theorem dX2_addToBag_0 : decode cX2_addToBag 0 = .ok (.aload_n 0, 1) := by decide +kernel
theorem dX2_addToBag_1 : decode cX2_addToBag 1 = .ok (.getfield 9, 3) := by decide +kernel
theorem dX2_addToBag_4 : decode cX2_addToBag 4 = .ok (.istore_n 3, 1) := by decide +kernel
theorem dX2_addToBag_5 : decode cX2_addToBag 5 = .ok (.aload_n 0, 1) := by decide +kernel
theorem dX2_addToBag_6 : decode cX2_addToBag 6 = .ok (.getfield 15, 3) := by decide +kernel
theorem dX2_addToBag_9 : decode cX2_addToBag 9 = .ok (.iload_n 3, 1) := by decide +kernel
theorem dX2_addToBag_10 : decode cX2_addToBag 10 = .ok (.iload_n 2, 1) := by decide +kernel
theorem dX2_addToBag_11 : decode cX2_addToBag 11 = .ok (.iastore, 1) := by decide +kernel
theorem dX2_addToBag_12 : decode cX2_addToBag 12 = .ok (.aload_n 0, 1) := by decide +kernel
theorem dX2_addToBag_13 : decode cX2_addToBag 13 = .ok (.getfield 19, 3) := by decide +kernel
theorem dX2_addToBag_16 : decode cX2_addToBag 16 = .ok (.iload_n 3, 1) := by decide +kernel
theorem dX2_addToBag_17 : decode cX2_addToBag 17 = .ok (.iload_n 1, 1) := by decide +kernel
theorem dX2_addToBag_18 : decode cX2_addToBag 18 = .ok (.iastore, 1) := by decide +kernel
theorem dX2_addToBag_19 : decode cX2_addToBag 19 = .ok (.aload_n 0, 1) := by decide +kernel
theorem dX2_addToBag_20 : decode cX2_addToBag 20 = .ok (.getfield 22, 3) := by decide +kernel
theorem dX2_addToBag_23 : decode cX2_addToBag 23 = .ok (.iload_n 3, 1) := by decide +kernel
theorem dX2_addToBag_24 : decode cX2_addToBag 24 = .ok (.iconst 0, 1) := by decide +kernel
theorem dX2_addToBag_25 : decode cX2_addToBag 25 = .ok (.iastore, 1) := by decide +kernel
theorem dX2_addToBag_26 : decode cX2_addToBag 26 = .ok (.aload_n 0, 1) := by decide +kernel
theorem dX2_addToBag_27 : decode cX2_addToBag 27 = .ok (.getfield 25, 3) := by decide +kernel
theorem dX2_addToBag_30 : decode cX2_addToBag 30 = .ok (.iload_n 3, 1) := by decide +kernel
theorem dX2_addToBag_31 : decode cX2_addToBag 31 = .ok (.iconst (-1), 1) := by decide +kernel
theorem dX2_addToBag_32 : decode cX2_addToBag 32 = .ok (.iastore, 1) := by decide +kernel
theorem dX2_addToBag_33 : decode cX2_addToBag 33 = .ok (.aload_n 0, 1) := by decide +kernel
theorem dX2_addToBag_34 : decode cX2_addToBag 34 = .ok (.getfield 28, 3) := by decide +kernel
theorem dX2_addToBag_37 : decode cX2_addToBag 37 = .ok (.iload_n 3, 1) := by decide +kernel
theorem dX2_addToBag_38 : decode cX2_addToBag 38 = .ok (.iconst (-1), 1) := by decide +kernel
theorem dX2_addToBag_39 : decode cX2_addToBag 39 = .ok (.iastore, 1) := by decide +kernel
theorem dX2_addToBag_40 : decode cX2_addToBag 40 = .ok (.aload_n 0, 1) := by decide +kernel
theorem dX2_addToBag_41 : decode cX2_addToBag 41 = .ok (.getfield 31, 3) := by decide +kernel
theorem dX2_addToBag_44 : decode cX2_addToBag 44 = .ok (.iconst 0, 1) := by decide +kernel
theorem dX2_addToBag_45 : decode cX2_addToBag 45 = .ok (.dup2, 1) := by decide +kernel
theorem dX2_addToBag_46 : decode cX2_addToBag 46 = .ok (.iaload, 1) := by decide +kernel
theorem dX2_addToBag_47 : decode cX2_addToBag 47 = .ok (.iconst 1, 1) := by decide +kernel
theorem dX2_addToBag_48 : decode cX2_addToBag 48 = .ok (.iadd, 1) := by decide +kernel
theorem dX2_addToBag_49 : decode cX2_addToBag 49 = .ok (.iastore, 1) := by decide +kernel
theorem dX2_addToBag_50 : decode cX2_addToBag 50 = .ok (.aload_n 0, 1) := by decide +kernel
theorem dX2_addToBag_51 : decode cX2_addToBag 51 = .ok (.dup, 1) := by decide +kernel
theorem dX2_addToBag_52 : decode cX2_addToBag 52 = .ok (.getfield 9, 3) := by decide +kernel
theorem dX2_addToBag_55 : decode cX2_addToBag 55 = .ok (.iconst 1, 1) := by decide +kernel
theorem dX2_addToBag_56 : decode cX2_addToBag 56 = .ok (.iadd, 1) := by decide +kernel
theorem dX2_addToBag_57 : decode cX2_addToBag 57 = .ok (.putfield 9, 3) := by decide +kernel
theorem dX2_addToBag_60 : decode cX2_addToBag 60 = .ok (.iload_n 3, 1) := by decide +kernel
theorem dX2_addToBag_61 : decode cX2_addToBag 61 = .ok (.ireturn, 1) := by decide +kernel
theorem dX2_fact_0 : decode cX2_fact 0 = .ok (.iload_n 2, 1) := by decide +kernel
theorem dX2_fact_1 : decode cX2_fact 1 = .ok (.tableswitch 59 0 3 #[31, 38, 45, 52], 31) := by decide +kernel
theorem dX2_fact_32 : decode cX2_fact 32 = .ok (.aload_n 0, 1) := by decide +kernel
theorem dX2_fact_33 : decode cX2_fact 33 = .ok (.getfield 22, 3) := by decide +kernel
theorem dX2_fact_36 : decode cX2_fact 36 = .ok (.iload_n 1, 1) := by decide +kernel
theorem dX2_fact_37 : decode cX2_fact 37 = .ok (.iaload, 1) := by decide +kernel
theorem dX2_fact_38 : decode cX2_fact 38 = .ok (.ireturn, 1) := by decide +kernel
theorem dX2_fact_39 : decode cX2_fact 39 = .ok (.aload_n 0, 1) := by decide +kernel
theorem dX2_fact_40 : decode cX2_fact 40 = .ok (.getfield 15, 3) := by decide +kernel
theorem dX2_fact_43 : decode cX2_fact 43 = .ok (.iload_n 1, 1) := by decide +kernel
theorem dX2_fact_44 : decode cX2_fact 44 = .ok (.iaload, 1) := by decide +kernel
theorem dX2_fact_45 : decode cX2_fact 45 = .ok (.ireturn, 1) := by decide +kernel
theorem dX2_fact_46 : decode cX2_fact 46 = .ok (.aload_n 0, 1) := by decide +kernel
theorem dX2_fact_47 : decode cX2_fact 47 = .ok (.getfield 19, 3) := by decide +kernel
theorem dX2_fact_50 : decode cX2_fact 50 = .ok (.iload_n 1, 1) := by decide +kernel
theorem dX2_fact_51 : decode cX2_fact 51 = .ok (.iaload, 1) := by decide +kernel
theorem dX2_fact_52 : decode cX2_fact 52 = .ok (.ireturn, 1) := by decide +kernel
theorem dX2_fact_53 : decode cX2_fact 53 = .ok (.aload_n 0, 1) := by decide +kernel
theorem dX2_fact_54 : decode cX2_fact 54 = .ok (.getfield 25, 3) := by decide +kernel
theorem dX2_fact_57 : decode cX2_fact 57 = .ok (.iload_n 1, 1) := by decide +kernel
theorem dX2_fact_58 : decode cX2_fact 58 = .ok (.iaload, 1) := by decide +kernel
theorem dX2_fact_59 : decode cX2_fact 59 = .ok (.ireturn, 1) := by decide +kernel
theorem dX2_fact_60 : decode cX2_fact 60 = .ok (.aload_n 0, 1) := by decide +kernel
theorem dX2_fact_61 : decode cX2_fact 61 = .ok (.getfield 28, 3) := by decide +kernel
theorem dX2_fact_64 : decode cX2_fact 64 = .ok (.iload_n 1, 1) := by decide +kernel
theorem dX2_fact_65 : decode cX2_fact 65 = .ok (.iaload, 1) := by decide +kernel
theorem dX2_fact_66 : decode cX2_fact 66 = .ok (.ireturn, 1) := by decide +kernel
theorem dX2_move_0 : decode cX2_move 0 = .ok (.aload_n 0, 1) := by decide +kernel
theorem dX2_move_1 : decode cX2_move 1 = .ok (.getfield 22, 3) := by decide +kernel
theorem dX2_move_4 : decode cX2_move 4 = .ok (.iload_n 1, 1) := by decide +kernel
theorem dX2_move_5 : decode cX2_move 5 = .ok (.iaload, 1) := by decide +kernel
theorem dX2_move_6 : decode cX2_move 6 = .ok (.istore_n 3, 1) := by decide +kernel
theorem dX2_move_7 : decode cX2_move 7 = .ok (.aload_n 0, 1) := by decide +kernel
theorem dX2_move_8 : decode cX2_move 8 = .ok (.getfield 31, 3) := by decide +kernel
theorem dX2_move_11 : decode cX2_move 11 = .ok (.iload_n 3, 1) := by decide +kernel
theorem dX2_move_12 : decode cX2_move 12 = .ok (.dup2, 1) := by decide +kernel
theorem dX2_move_13 : decode cX2_move 13 = .ok (.iaload, 1) := by decide +kernel
theorem dX2_move_14 : decode cX2_move 14 = .ok (.iconst 1, 1) := by decide +kernel
theorem dX2_move_15 : decode cX2_move 15 = .ok (.isub, 1) := by decide +kernel
theorem dX2_move_16 : decode cX2_move 16 = .ok (.iastore, 1) := by decide +kernel
theorem dX2_move_17 : decode cX2_move 17 = .ok (.aload_n 0, 1) := by decide +kernel
theorem dX2_move_18 : decode cX2_move 18 = .ok (.getfield 31, 3) := by decide +kernel
theorem dX2_move_21 : decode cX2_move 21 = .ok (.iload_n 2, 1) := by decide +kernel
theorem dX2_move_22 : decode cX2_move 22 = .ok (.dup2, 1) := by decide +kernel
theorem dX2_move_23 : decode cX2_move 23 = .ok (.iaload, 1) := by decide +kernel
theorem dX2_move_24 : decode cX2_move 24 = .ok (.iconst 1, 1) := by decide +kernel
theorem dX2_move_25 : decode cX2_move 25 = .ok (.iadd, 1) := by decide +kernel
theorem dX2_move_26 : decode cX2_move 26 = .ok (.iastore, 1) := by decide +kernel
theorem dX2_move_27 : decode cX2_move 27 = .ok (.iload_n 3, 1) := by decide +kernel
theorem dX2_move_28 : decode cX2_move 28 = .ok (.iconst 3, 1) := by decide +kernel
theorem dX2_move_29 : decode cX2_move 29 = .ok (.if_icmp .ne 18, 3) := by decide +kernel
theorem dX2_move_32 : decode cX2_move 32 = .ok (.aload_n 0, 1) := by decide +kernel
theorem dX2_move_33 : decode cX2_move 33 = .ok (.getfield 34, 3) := by decide +kernel
theorem dX2_move_36 : decode cX2_move 36 = .ok (.aload_n 0, 1) := by decide +kernel
theorem dX2_move_37 : decode cX2_move 37 = .ok (.getfield 15, 3) := by decide +kernel
theorem dX2_move_40 : decode cX2_move 40 = .ok (.iload_n 1, 1) := by decide +kernel
theorem dX2_move_41 : decode cX2_move 41 = .ok (.iaload, 1) := by decide +kernel
theorem dX2_move_42 : decode cX2_move 42 = .ok (.dup2, 1) := by decide +kernel
theorem dX2_move_43 : decode cX2_move 43 = .ok (.iaload, 1) := by decide +kernel
theorem dX2_move_44 : decode cX2_move 44 = .ok (.iconst 1, 1) := by decide +kernel
theorem dX2_move_45 : decode cX2_move 45 = .ok (.isub, 1) := by decide +kernel
theorem dX2_move_46 : decode cX2_move 46 = .ok (.iastore, 1) := by decide +kernel
theorem dX2_move_47 : decode cX2_move 47 = .ok (.iload_n 2, 1) := by decide +kernel
theorem dX2_move_48 : decode cX2_move 48 = .ok (.iconst 3, 1) := by decide +kernel
theorem dX2_move_49 : decode cX2_move 49 = .ok (.if_icmp .ne 18, 3) := by decide +kernel
theorem dX2_move_52 : decode cX2_move 52 = .ok (.aload_n 0, 1) := by decide +kernel
theorem dX2_move_53 : decode cX2_move 53 = .ok (.getfield 34, 3) := by decide +kernel
theorem dX2_move_56 : decode cX2_move 56 = .ok (.aload_n 0, 1) := by decide +kernel
theorem dX2_move_57 : decode cX2_move 57 = .ok (.getfield 15, 3) := by decide +kernel
theorem dX2_move_60 : decode cX2_move 60 = .ok (.iload_n 1, 1) := by decide +kernel
theorem dX2_move_61 : decode cX2_move 61 = .ok (.iaload, 1) := by decide +kernel
theorem dX2_move_62 : decode cX2_move 62 = .ok (.dup2, 1) := by decide +kernel
theorem dX2_move_63 : decode cX2_move 63 = .ok (.iaload, 1) := by decide +kernel
theorem dX2_move_64 : decode cX2_move 64 = .ok (.iconst 1, 1) := by decide +kernel
theorem dX2_move_65 : decode cX2_move 65 = .ok (.iadd, 1) := by decide +kernel
theorem dX2_move_66 : decode cX2_move 66 = .ok (.iastore, 1) := by decide +kernel
theorem dX2_move_67 : decode cX2_move 67 = .ok (.aload_n 0, 1) := by decide +kernel
theorem dX2_move_68 : decode cX2_move 68 = .ok (.getfield 25, 3) := by decide +kernel
theorem dX2_move_71 : decode cX2_move 71 = .ok (.iload_n 1, 1) := by decide +kernel
theorem dX2_move_72 : decode cX2_move 72 = .ok (.iconst (-1), 1) := by decide +kernel
theorem dX2_move_73 : decode cX2_move 73 = .ok (.iastore, 1) := by decide +kernel
theorem dX2_move_74 : decode cX2_move 74 = .ok (.aload_n 0, 1) := by decide +kernel
theorem dX2_move_75 : decode cX2_move 75 = .ok (.getfield 22, 3) := by decide +kernel
theorem dX2_move_78 : decode cX2_move 78 = .ok (.iload_n 1, 1) := by decide +kernel
theorem dX2_move_79 : decode cX2_move 79 = .ok (.iload_n 2, 1) := by decide +kernel
theorem dX2_move_80 : decode cX2_move 80 = .ok (.iastore, 1) := by decide +kernel
theorem dX2_move_81 : decode cX2_move 81 = .ok (.return_, 1) := by decide +kernel
set_option maxRecDepth 20000 in
theorem ggX2_moveToHands_X2_move : GoodIn wsX2_moveToHands wsX2_move := goodIn_r _ [6, 7, 8, 9, 10, 1, 11, 12, 13, 14, 15, 16, 17, 18] (by decide +kernel) (by decide +kernel)
set_option maxRecDepth 20000 in
theorem gX2_moveToHands_X2_move : GoodIn wsX2_moveToHands (wsV RX2 37 RX2 yX2_move wsX2_move) := goodIn_app (goodIn_of _ (by decide +kernel)) ggX2_moveToHands_X2_move
theorem dX2_moveToHands_0 : decode cX2_moveToHands 0 = .ok (.aload_n 0, 1) := by decide +kernel
theorem dX2_moveToHands_1 : decode cX2_moveToHands 1 = .ok (.iload_n 1, 1) := by decide +kernel
theorem dX2_moveToHands_2 : decode cX2_moveToHands 2 = .ok (.iconst 2, 1) := by decide +kernel
theorem dX2_moveToHands_3 : decode cX2_moveToHands 3 = .ok (.invokevirtual 37, 3) := by decide +kernel
theorem dX2_moveToHands_6 : decode cX2_moveToHands 6 = .ok (.aload_n 0, 1) := by decide +kernel
theorem dX2_moveToHands_7 : decode cX2_moveToHands 7 = .ok (.getfield 25, 3) := by decide +kernel
theorem dX2_moveToHands_10 : decode cX2_moveToHands 10 = .ok (.iload_n 1, 1) := by decide +kernel
theorem dX2_moveToHands_11 : decode cX2_moveToHands 11 = .ok (.iload_n 2, 1) := by decide +kernel
theorem dX2_moveToHands_12 : decode cX2_moveToHands 12 = .ok (.iastore, 1) := by decide +kernel
theorem dX2_moveToHands_13 : decode cX2_moveToHands 13 = .ok (.return_, 1) := by decide +kernel
set_option maxRecDepth 20000 in
theorem ggX2_end_X2_move : GoodIn wsX2_end wsX2_move := goodIn_r _ [6, 7, 8, 9, 10, 11, 12, 13, 14, 15, 16, 17, 18, 19] (by decide +kernel) (by decide +kernel)
set_option maxRecDepth 20000 in
theorem gX2_end_X2_move : GoodIn wsX2_end (wsV RX2 37 RX2 yX2_move wsX2_move) := goodIn_app (goodIn_of _ (by decide +kernel)) ggX2_end_X2_move
theorem dX2_end_0 : decode cX2_end 0 = .ok (.aload_n 0, 1) := by decide +kernel
theorem dX2_end_1 : decode cX2_end 1 = .ok (.iload_n 1, 1) := by decide +kernel
theorem dX2_end_2 : decode cX2_end 2 = .ok (.iload_n 2, 1) := by decide +kernel
theorem dX2_end_3 : decode cX2_end 3 = .ok (.invokevirtual 37, 3) := by decide +kernel
theorem dX2_end_6 : decode cX2_end 6 = .ok (.aload_n 0, 1) := by decide +kernel
theorem dX2_end_7 : decode cX2_end 7 = .ok (.getfield 28, 3) := by decide +kernel
theorem dX2_end_10 : decode cX2_end 10 = .ok (.iload_n 1, 1) := by decide +kernel
theorem dX2_end_11 : decode cX2_end 11 = .ok (.iload_n 3, 1) := by decide +kernel
theorem dX2_end_12 : decode cX2_end 12 = .ok (.iastore, 1) := by decide +kernel
theorem dX2_end_13 : decode cX2_end 13 = .ok (.return_, 1) := by decide +kernel
set_option maxRecDepth 20000 in
theorem ggX2_firstOnTable_X4_hasTown : GoodIn wsX2_firstOnTable wsX4_hasTown := goodIn_r _ [7] (by decide +kernel) (by decide +kernel)
set_option maxRecDepth 20000 in
theorem gX2_firstOnTable_X4_hasTown_n41 : GoodIn wsX2_firstOnTable (wsX4_hasTown) := ggX2_firstOnTable_X4_hasTown
theorem dX2_firstOnTable_0 : decode cX2_firstOnTable 0 = .ok (.aload_n 0, 1) := by decide +kernel
theorem dX2_firstOnTable_1 : decode cX2_firstOnTable 1 = .ok (.getfield 31, 3) := by decide +kernel
theorem dX2_firstOnTable_4 : decode cX2_firstOnTable 4 = .ok (.iconst 1, 1) := by decide +kernel
theorem dX2_firstOnTable_5 : decode cX2_firstOnTable 5 = .ok (.iaload, 1) := by decide +kernel
theorem dX2_firstOnTable_6 : decode cX2_firstOnTable 6 = .ok (.ifCond .ne 5, 3) := by decide +kernel
theorem dX2_firstOnTable_9 : decode cX2_firstOnTable 9 = .ok (.iconst (-1), 1) := by decide +kernel
theorem dX2_firstOnTable_10 : decode cX2_firstOnTable 10 = .ok (.ireturn, 1) := by decide +kernel
theorem dX2_firstOnTable_11 : decode cX2_firstOnTable 11 = .ok (.iconst 0, 1) := by decide +kernel
theorem dX2_firstOnTable_12 : decode cX2_firstOnTable 12 = .ok (.istore_n 2, 1) := by decide +kernel
theorem dX2_firstOnTable_13 : decode cX2_firstOnTable 13 = .ok (.iload_n 2, 1) := by decide +kernel
theorem dX2_firstOnTable_14 : decode cX2_firstOnTable 14 = .ok (.aload_n 0, 1) := by decide +kernel
theorem dX2_firstOnTable_15 : decode cX2_firstOnTable 15 = .ok (.getfield 9, 3) := by decide +kernel
theorem dX2_firstOnTable_18 : decode cX2_firstOnTable 18 = .ok (.if_icmp .ge 34, 3) := by decide +kernel
theorem dX2_firstOnTable_21 : decode cX2_firstOnTable 21 = .ok (.aload_n 0, 1) := by decide +kernel
theorem dX2_firstOnTable_22 : decode cX2_firstOnTable 22 = .ok (.getfield 22, 3) := by decide +kernel
theorem dX2_firstOnTable_25 : decode cX2_firstOnTable 25 = .ok (.iload_n 2, 1) := by decide +kernel
theorem dX2_firstOnTable_26 : decode cX2_firstOnTable 26 = .ok (.iaload, 1) := by decide +kernel
theorem dX2_firstOnTable_27 : decode cX2_firstOnTable 27 = .ok (.iconst 1, 1) := by decide +kernel
theorem dX2_firstOnTable_28 : decode cX2_firstOnTable 28 = .ok (.if_icmp .ne 18, 3) := by decide +kernel
theorem dX2_firstOnTable_31 : decode cX2_firstOnTable 31 = .ok (.iload_n 1, 1) := by decide +kernel
theorem dX2_firstOnTable_32 : decode cX2_firstOnTable 32 = .ok (.aload_n 0, 1) := by decide +kernel
theorem dX2_firstOnTable_33 : decode cX2_firstOnTable 33 = .ok (.getfield 15, 3) := by decide +kernel
theorem dX2_firstOnTable_36 : decode cX2_firstOnTable 36 = .ok (.iload_n 2, 1) := by decide +kernel
theorem dX2_firstOnTable_37 : decode cX2_firstOnTable 37 = .ok (.iaload, 1) := by decide +kernel
theorem dX2_firstOnTable_38 : decode cX2_firstOnTable 38 = .ok (.invokestatic 41, 3) := by decide +kernel
theorem dX2_firstOnTable_41 : decode cX2_firstOnTable 41 = .ok (.ifCond .eq 5, 3) := by decide +kernel
theorem dX2_firstOnTable_44 : decode cX2_firstOnTable 44 = .ok (.iload_n 2, 1) := by decide +kernel
theorem dX2_firstOnTable_45 : decode cX2_firstOnTable 45 = .ok (.ireturn, 1) := by decide +kernel
theorem dX2_firstOnTable_46 : decode cX2_firstOnTable 46 = .ok (.iinc 2 1, 3) := by decide +kernel
theorem dX2_firstOnTable_49 : decode cX2_firstOnTable 49 = .ok (.goto (-36), 3) := by decide +kernel
theorem dX2_firstOnTable_52 : decode cX2_firstOnTable 52 = .ok (.iconst (-1), 1) := by decide +kernel
theorem dX2_firstOnTable_53 : decode cX2_firstOnTable 53 = .ok (.ireturn, 1) := by decide +kernel
theorem dX2_isInBag_0 : decode cX2_isInBag 0 = .ok (.aload_n 0, 1) := by decide +kernel
theorem dX2_isInBag_1 : decode cX2_isInBag 1 = .ok (.getfield 22, 3) := by decide +kernel
theorem dX2_isInBag_4 : decode cX2_isInBag 4 = .ok (.iload_n 1, 1) := by decide +kernel
theorem dX2_isInBag_5 : decode cX2_isInBag 5 = .ok (.iaload, 1) := by decide +kernel
theorem dX2_isInBag_6 : decode cX2_isInBag 6 = .ok (.ifCond .ne 17, 3) := by decide +kernel
theorem dX2_isInBag_9 : decode cX2_isInBag 9 = .ok (.aload_n 0, 1) := by decide +kernel
theorem dX2_isInBag_10 : decode cX2_isInBag 10 = .ok (.getfield 19, 3) := by decide +kernel
theorem dX2_isInBag_13 : decode cX2_isInBag 13 = .ok (.iload_n 1, 1) := by decide +kernel
theorem dX2_isInBag_14 : decode cX2_isInBag 14 = .ok (.iaload, 1) := by decide +kernel
theorem dX2_isInBag_15 : decode cX2_isInBag 15 = .ok (.iload_n 2, 1) := by decide +kernel
theorem dX2_isInBag_16 : decode cX2_isInBag 16 = .ok (.if_icmp .ne 7, 3) := by decide +kernel
theorem dX2_isInBag_19 : decode cX2_isInBag 19 = .ok (.iconst 1, 1) := by decide +kernel
theorem dX2_isInBag_20 : decode cX2_isInBag 20 = .ok (.goto 4, 3) := by decide +kernel
theorem dX2_isInBag_23 : decode cX2_isInBag 23 = .ok (.iconst 0, 1) := by decide +kernel
theorem dX2_isInBag_24 : decode cX2_isInBag 24 = .ok (.ireturn, 1) := by decide +kernel
set_option maxRecDepth 20000 in
theorem ggX2_lettersInBag_X2_isInBag : GoodIn wsX2_lettersInBag wsX2_isInBag := goodIn_r _ [6, 7, 8, 9, 10, 11, 12, 13, 14, 15, 16] (by decide +kernel) (by decide +kernel)
set_option maxRecDepth 20000 in
theorem gX2_lettersInBag_X2_isInBag : GoodIn wsX2_lettersInBag (wsV RX2 45 RX2 yX2_isInBag wsX2_isInBag) := goodIn_app (goodIn_of _ (by decide +kernel)) ggX2_lettersInBag_X2_isInBag
theorem dX2_lettersInBag_0 : decode cX2_lettersInBag 0 = .ok (.iconst 0, 1) := by decide +kernel
theorem dX2_lettersInBag_1 : decode cX2_lettersInBag 1 = .ok (.istore_n 2, 1) := by decide +kernel
theorem dX2_lettersInBag_2 : decode cX2_lettersInBag 2 = .ok (.iconst 0, 1) := by decide +kernel
theorem dX2_lettersInBag_3 : decode cX2_lettersInBag 3 = .ok (.istore_n 3, 1) := by decide +kernel
theorem dX2_lettersInBag_4 : decode cX2_lettersInBag 4 = .ok (.iload_n 3, 1) := by decide +kernel
theorem dX2_lettersInBag_5 : decode cX2_lettersInBag 5 = .ok (.aload_n 0, 1) := by decide +kernel
theorem dX2_lettersInBag_6 : decode cX2_lettersInBag 6 = .ok (.getfield 9, 3) := by decide +kernel
theorem dX2_lettersInBag_9 : decode cX2_lettersInBag 9 = .ok (.if_icmp .ge 21, 3) := by decide +kernel
theorem dX2_lettersInBag_12 : decode cX2_lettersInBag 12 = .ok (.aload_n 0, 1) := by decide +kernel
theorem dX2_lettersInBag_13 : decode cX2_lettersInBag 13 = .ok (.iload_n 3, 1) := by decide +kernel
theorem dX2_lettersInBag_14 : decode cX2_lettersInBag 14 = .ok (.iload_n 1, 1) := by decide +kernel
theorem dX2_lettersInBag_15 : decode cX2_lettersInBag 15 = .ok (.invokevirtual 45, 3) := by decide +kernel
theorem dX2_lettersInBag_18 : decode cX2_lettersInBag 18 = .ok (.ifCond .eq 6, 3) := by decide +kernel
theorem dX2_lettersInBag_21 : decode cX2_lettersInBag 21 = .ok (.iinc 2 1, 3) := by decide +kernel
theorem dX2_lettersInBag_24 : decode cX2_lettersInBag 24 = .ok (.iinc 3 1, 3) := by decide +kernel
theorem dX2_lettersInBag_27 : decode cX2_lettersInBag 27 = .ok (.goto (-23), 3) := by decide +kernel
theorem dX2_lettersInBag_30 : decode cX2_lettersInBag 30 = .ok (.iload_n 2, 1) := by decide +kernel
theorem dX2_lettersInBag_31 : decode cX2_lettersInBag 31 = .ok (.ireturn, 1) := by decide +kernel
theorem dX2_fullestHole_0 : decode cX2_fullestHole 0 = .ok (.iconst 0, 1) := by decide +kernel
theorem dX2_fullestHole_1 : decode cX2_fullestHole 1 = .ok (.istore_n 1, 1) := by decide +kernel
theorem dX2_fullestHole_2 : decode cX2_fullestHole 2 = .ok (.iconst 1, 1) := by decide +kernel
theorem dX2_fullestHole_3 : decode cX2_fullestHole 3 = .ok (.istore_n 2, 1) := by decide +kernel
theorem dX2_fullestHole_4 : decode cX2_fullestHole 4 = .ok (.iload_n 2, 1) := by decide +kernel
theorem dX2_fullestHole_5 : decode cX2_fullestHole 5 = .ok (.bipush 16, 2) := by decide +kernel
theorem dX2_fullestHole_7 : decode cX2_fullestHole 7 = .ok (.if_icmp .ge 26, 3) := by decide +kernel
theorem dX2_fullestHole_10 : decode cX2_fullestHole 10 = .ok (.aload_n 0, 1) := by decide +kernel
theorem dX2_fullestHole_11 : decode cX2_fullestHole 11 = .ok (.getfield 34, 3) := by decide +kernel
theorem dX2_fullestHole_14 : decode cX2_fullestHole 14 = .ok (.iload_n 2, 1) := by decide +kernel
theorem dX2_fullestHole_15 : decode cX2_fullestHole 15 = .ok (.iaload, 1) := by decide +kernel
theorem dX2_fullestHole_16 : decode cX2_fullestHole 16 = .ok (.aload_n 0, 1) := by decide +kernel
theorem dX2_fullestHole_17 : decode cX2_fullestHole 17 = .ok (.getfield 34, 3) := by decide +kernel
theorem dX2_fullestHole_20 : decode cX2_fullestHole 20 = .ok (.iload_n 1, 1) := by decide +kernel
theorem dX2_fullestHole_21 : decode cX2_fullestHole 21 = .ok (.iaload, 1) := by decide +kernel
theorem dX2_fullestHole_22 : decode cX2_fullestHole 22 = .ok (.if_icmp .le 5, 3) := by decide +kernel
theorem dX2_fullestHole_25 : decode cX2_fullestHole 25 = .ok (.iload_n 2, 1) := by decide +kernel
theorem dX2_fullestHole_26 : decode cX2_fullestHole 26 = .ok (.istore_n 1, 1) := by decide +kernel
theorem dX2_fullestHole_27 : decode cX2_fullestHole 27 = .ok (.iinc 2 1, 3) := by decide +kernel
theorem dX2_fullestHole_30 : decode cX2_fullestHole 30 = .ok (.goto (-26), 3) := by decide +kernel
theorem dX2_fullestHole_33 : decode cX2_fullestHole 33 = .ok (.iload_n 1, 1) := by decide +kernel
theorem dX2_fullestHole_34 : decode cX2_fullestHole 34 = .ok (.ireturn, 1) := by decide +kernel
set_option maxRecDepth 20000 in
theorem ggX2_spillHole_X2_move : GoodIn wsX2_spillHole wsX2_move := goodIn_r _ [8, 2, 9, 10, 3, 11, 12, 13, 14, 15, 16, 17, 18, 19] (by decide +kernel) (by decide +kernel)
set_option maxRecDepth 20000 in
theorem gX2_spillHole_X2_move : GoodIn wsX2_spillHole (wsV RX2 37 RX2 yX2_move wsX2_move) := goodIn_app (goodIn_of _ (by decide +kernel)) ggX2_spillHole_X2_move
theorem dX2_spillHole_0 : decode cX2_spillHole 0 = .ok (.iconst 0, 1) := by decide +kernel
theorem dX2_spillHole_1 : decode cX2_spillHole 1 = .ok (.istore_n 2, 1) := by decide +kernel
theorem dX2_spillHole_2 : decode cX2_spillHole 2 = .ok (.iload_n 2, 1) := by decide +kernel
theorem dX2_spillHole_3 : decode cX2_spillHole 3 = .ok (.aload_n 0, 1) := by decide +kernel
theorem dX2_spillHole_4 : decode cX2_spillHole 4 = .ok (.getfield 9, 3) := by decide +kernel
theorem dX2_spillHole_7 : decode cX2_spillHole 7 = .ok (.if_icmp .ge 35, 3) := by decide +kernel
theorem dX2_spillHole_10 : decode cX2_spillHole 10 = .ok (.aload_n 0, 1) := by decide +kernel
theorem dX2_spillHole_11 : decode cX2_spillHole 11 = .ok (.getfield 22, 3) := by decide +kernel
theorem dX2_spillHole_14 : decode cX2_spillHole 14 = .ok (.iload_n 2, 1) := by decide +kernel
theorem dX2_spillHole_15 : decode cX2_spillHole 15 = .ok (.iaload, 1) := by decide +kernel
theorem dX2_spillHole_16 : decode cX2_spillHole 16 = .ok (.iconst 3, 1) := by decide +kernel
theorem dX2_spillHole_17 : decode cX2_spillHole 17 = .ok (.if_icmp .ne 19, 3) := by decide +kernel
theorem dX2_spillHole_20 : decode cX2_spillHole 20 = .ok (.aload_n 0, 1) := by decide +kernel
theorem dX2_spillHole_21 : decode cX2_spillHole 21 = .ok (.getfield 15, 3) := by decide +kernel
theorem dX2_spillHole_24 : decode cX2_spillHole 24 = .ok (.iload_n 2, 1) := by decide +kernel
theorem dX2_spillHole_25 : decode cX2_spillHole 25 = .ok (.iaload, 1) := by decide +kernel
theorem dX2_spillHole_26 : decode cX2_spillHole 26 = .ok (.iload_n 1, 1) := by decide +kernel
theorem dX2_spillHole_27 : decode cX2_spillHole 27 = .ok (.if_icmp .ne 9, 3) := by decide +kernel
theorem dX2_spillHole_30 : decode cX2_spillHole 30 = .ok (.aload_n 0, 1) := by decide +kernel
theorem dX2_spillHole_31 : decode cX2_spillHole 31 = .ok (.iload_n 2, 1) := by decide +kernel
theorem dX2_spillHole_32 : decode cX2_spillHole 32 = .ok (.iconst 1, 1) := by decide +kernel
theorem dX2_spillHole_33 : decode cX2_spillHole 33 = .ok (.invokevirtual 37, 3) := by decide +kernel
theorem dX2_spillHole_36 : decode cX2_spillHole 36 = .ok (.iinc 2 1, 3) := by decide +kernel
theorem dX2_spillHole_39 : decode cX2_spillHole 39 = .ok (.goto (-37), 3) := by decide +kernel
theorem dX2_spillHole_42 : decode cX2_spillHole 42 = .ok (.return_, 1) := by decide +kernel
theorem dX2_copyFrom_0 : decode cX2_copyFrom 0 = .ok (.aload_n 0, 1) := by decide +kernel
theorem dX2_copyFrom_1 : decode cX2_copyFrom 1 = .ok (.aload_n 1, 1) := by decide +kernel
theorem dX2_copyFrom_2 : decode cX2_copyFrom 2 = .ok (.getfield 9, 3) := by decide +kernel
theorem dX2_copyFrom_5 : decode cX2_copyFrom 5 = .ok (.putfield 9, 3) := by decide +kernel
theorem dX2_copyFrom_8 : decode cX2_copyFrom 8 = .ok (.aload_n 1, 1) := by decide +kernel
theorem dX2_copyFrom_9 : decode cX2_copyFrom 9 = .ok (.getfield 15, 3) := by decide +kernel
theorem dX2_copyFrom_12 : decode cX2_copyFrom 12 = .ok (.iconst 0, 1) := by decide +kernel
theorem dX2_copyFrom_13 : decode cX2_copyFrom 13 = .ok (.aload_n 0, 1) := by decide +kernel
theorem dX2_copyFrom_14 : decode cX2_copyFrom 14 = .ok (.getfield 15, 3) := by decide +kernel
theorem dX2_copyFrom_17 : decode cX2_copyFrom 17 = .ok (.iconst 0, 1) := by decide +kernel
theorem dX2_copyFrom_18 : decode cX2_copyFrom 18 = .ok (.bipush 60, 2) := by decide +kernel
theorem dX2_copyFrom_20 : decode cX2_copyFrom 20 = .ok (.invokestatic 48, 3) := by decide +kernel
theorem dX2_copyFrom_23 : decode cX2_copyFrom 23 = .ok (.aload_n 1, 1) := by decide +kernel
theorem dX2_copyFrom_24 : decode cX2_copyFrom 24 = .ok (.getfield 19, 3) := by decide +kernel
theorem dX2_copyFrom_27 : decode cX2_copyFrom 27 = .ok (.iconst 0, 1) := by decide +kernel
theorem dX2_copyFrom_28 : decode cX2_copyFrom 28 = .ok (.aload_n 0, 1) := by decide +kernel
theorem dX2_copyFrom_29 : decode cX2_copyFrom 29 = .ok (.getfield 19, 3) := by decide +kernel
theorem dX2_copyFrom_32 : decode cX2_copyFrom 32 = .ok (.iconst 0, 1) := by decide +kernel
theorem dX2_copyFrom_33 : decode cX2_copyFrom 33 = .ok (.bipush 60, 2) := by decide +kernel
theorem dX2_copyFrom_35 : decode cX2_copyFrom 35 = .ok (.invokestatic 48, 3) := by decide +kernel
theorem dX2_copyFrom_38 : decode cX2_copyFrom 38 = .ok (.aload_n 1, 1) := by decide +kernel
theorem dX2_copyFrom_39 : decode cX2_copyFrom 39 = .ok (.getfield 22, 3) := by decide +kernel
theorem dX2_copyFrom_42 : decode cX2_copyFrom 42 = .ok (.iconst 0, 1) := by decide +kernel
theorem dX2_copyFrom_43 : decode cX2_copyFrom 43 = .ok (.aload_n 0, 1) := by decide +kernel
theorem dX2_copyFrom_44 : decode cX2_copyFrom 44 = .ok (.getfield 22, 3) := by decide +kernel
theorem dX2_copyFrom_47 : decode cX2_copyFrom 47 = .ok (.iconst 0, 1) := by decide +kernel
theorem dX2_copyFrom_48 : decode cX2_copyFrom 48 = .ok (.bipush 60, 2) := by decide +kernel
theorem dX2_copyFrom_50 : decode cX2_copyFrom 50 = .ok (.invokestatic 48, 3) := by decide +kernel
theorem dX2_copyFrom_53 : decode cX2_copyFrom 53 = .ok (.aload_n 1, 1) := by decide +kernel
theorem dX2_copyFrom_54 : decode cX2_copyFrom 54 = .ok (.getfield 25, 3) := by decide +kernel
theorem dX2_copyFrom_57 : decode cX2_copyFrom 57 = .ok (.iconst 0, 1) := by decide +kernel
theorem dX2_copyFrom_58 : decode cX2_copyFrom 58 = .ok (.aload_n 0, 1) := by decide +kernel
theorem dX2_copyFrom_59 : decode cX2_copyFrom 59 = .ok (.getfield 25, 3) := by decide +kernel
theorem dX2_copyFrom_62 : decode cX2_copyFrom 62 = .ok (.iconst 0, 1) := by decide +kernel
theorem dX2_copyFrom_63 : decode cX2_copyFrom 63 = .ok (.bipush 60, 2) := by decide +kernel
theorem dX2_copyFrom_65 : decode cX2_copyFrom 65 = .ok (.invokestatic 48, 3) := by decide +kernel
theorem dX2_copyFrom_68 : decode cX2_copyFrom 68 = .ok (.aload_n 1, 1) := by decide +kernel
theorem dX2_copyFrom_69 : decode cX2_copyFrom 69 = .ok (.getfield 28, 3) := by decide +kernel
theorem dX2_copyFrom_72 : decode cX2_copyFrom 72 = .ok (.iconst 0, 1) := by decide +kernel
theorem dX2_copyFrom_73 : decode cX2_copyFrom 73 = .ok (.aload_n 0, 1) := by decide +kernel
theorem dX2_copyFrom_74 : decode cX2_copyFrom 74 = .ok (.getfield 28, 3) := by decide +kernel
theorem dX2_copyFrom_77 : decode cX2_copyFrom 77 = .ok (.iconst 0, 1) := by decide +kernel
theorem dX2_copyFrom_78 : decode cX2_copyFrom 78 = .ok (.bipush 60, 2) := by decide +kernel
theorem dX2_copyFrom_80 : decode cX2_copyFrom 80 = .ok (.invokestatic 48, 3) := by decide +kernel
theorem dX2_copyFrom_83 : decode cX2_copyFrom 83 = .ok (.aload_n 1, 1) := by decide +kernel
theorem dX2_copyFrom_84 : decode cX2_copyFrom 84 = .ok (.getfield 31, 3) := by decide +kernel
theorem dX2_copyFrom_87 : decode cX2_copyFrom 87 = .ok (.iconst 0, 1) := by decide +kernel
theorem dX2_copyFrom_88 : decode cX2_copyFrom 88 = .ok (.aload_n 0, 1) := by decide +kernel
theorem dX2_copyFrom_89 : decode cX2_copyFrom 89 = .ok (.getfield 31, 3) := by decide +kernel
theorem dX2_copyFrom_92 : decode cX2_copyFrom 92 = .ok (.iconst 0, 1) := by decide +kernel
theorem dX2_copyFrom_93 : decode cX2_copyFrom 93 = .ok (.bipush 6, 2) := by decide +kernel
theorem dX2_copyFrom_95 : decode cX2_copyFrom 95 = .ok (.invokestatic 48, 3) := by decide +kernel
theorem dX2_copyFrom_98 : decode cX2_copyFrom 98 = .ok (.aload_n 1, 1) := by decide +kernel
theorem dX2_copyFrom_99 : decode cX2_copyFrom 99 = .ok (.getfield 34, 3) := by decide +kernel
theorem dX2_copyFrom_102 : decode cX2_copyFrom 102 = .ok (.iconst 0, 1) := by decide +kernel
theorem dX2_copyFrom_103 : decode cX2_copyFrom 103 = .ok (.aload_n 0, 1) := by decide +kernel
theorem dX2_copyFrom_104 : decode cX2_copyFrom 104 = .ok (.getfield 34, 3) := by decide +kernel
theorem dX2_copyFrom_107 : decode cX2_copyFrom 107 = .ok (.iconst 0, 1) := by decide +kernel
theorem dX2_copyFrom_108 : decode cX2_copyFrom 108 = .ok (.bipush 16, 2) := by decide +kernel
theorem dX2_copyFrom_110 : decode cX2_copyFrom 110 = .ok (.invokestatic 48, 3) := by decide +kernel
theorem dX2_copyFrom_113 : decode cX2_copyFrom 113 = .ok (.return_, 1) := by decide +kernel
set_option maxRecDepth 20000 in
theorem ggX3_init_X2_init : GoodIn wsX3_init wsX2_init := goodIn_r _ [15, 16, 2, 3, 17, 18, 19, 20, 21, 22, 23, 24, 25, 37, 38, 39, 40, 41, 42, 43, 44] (by decide +kernel) (by decide +kernel)
set_option maxRecDepth 20000 in
theorem gX3_init_X2_init_n11 : GoodIn wsX3_init (wsX2_init) := ggX3_init_X2_init
set_option maxRecDepth 20000 in
theorem ggX3_init_X0_init : GoodIn wsX3_init wsX0_init := goodIn_r _ [27, 28, 2, 3, 29, 18, 30, 31, 32, 33, 34, 35, 36, 49, 50, 51, 52, 53, 54, 55, 56] (by decide +kernel) (by decide +kernel)
set_option maxRecDepth 20000 in
theorem gX3_init_X0_init_n20 : GoodIn wsX3_init (wsX0_init) := ggX3_init_X0_init
theorem dX3_init_0 : decode cX3_init 0 = .ok (.aload_n 0, 1) := by decide +kernel
theorem dX3_init_1 : decode cX3_init 1 = .ok (.invokespecial 3, 3) := by decide +kernel
theorem dX3_init_4 : decode cX3_init 4 = .ok (.aload_n 0, 1) := by decide +kernel
theorem dX3_init_5 : decode cX3_init 5 = .ok (.new 9, 3) := by decide +kernel
theorem dX3_init_8 : decode cX3_init 8 = .ok (.dup, 1) := by decide +kernel
theorem dX3_init_9 : decode cX3_init 9 = .ok (.invokespecial 11, 3) := by decide +kernel
theorem dX3_init_12 : decode cX3_init 12 = .ok (.putfield 12, 3) := by decide +kernel
theorem dX3_init_15 : decode cX3_init 15 = .ok (.aload_n 0, 1) := by decide +kernel
theorem dX3_init_16 : decode cX3_init 16 = .ok (.new 18, 3) := by decide +kernel
theorem dX3_init_19 : decode cX3_init 19 = .ok (.dup, 1) := by decide +kernel
theorem dX3_init_20 : decode cX3_init 20 = .ok (.invokespecial 20, 3) := by decide +kernel
theorem dX3_init_23 : decode cX3_init 23 = .ok (.putfield 21, 3) := by decide +kernel
theorem dX3_init_26 : decode cX3_init 26 = .ok (.aload_n 0, 1) := by decide +kernel
theorem dX3_init_27 : decode cX3_init 27 = .ok (.iconst 0, 1) := by decide +kernel
theorem dX3_init_28 : decode cX3_init 28 = .ok (.putfield 25, 3) := by decide +kernel
theorem dX3_init_31 : decode cX3_init 31 = .ok (.aload_n 0, 1) := by decide +kernel
theorem dX3_init_32 : decode cX3_init 32 = .ok (.aload_n 1, 1) := by decide +kernel
theorem dX3_init_33 : decode cX3_init 33 = .ok (.putfield 29, 3) := by decide +kernel
theorem dX3_init_36 : decode cX3_init 36 = .ok (.return_, 1) := by decide +kernel
set_option maxRecDepth 20000 in
theorem ggX3_copyFrom_X2_copyFrom : GoodIn wsX3_copyFrom wsX2_copyFrom := goodIn_r _ [8, 9, 10, 11, 12, 13, 14, 15, 16, 17, 18, 19, 20, 39, 40, 41, 42, 43, 44, 45, 46] (by decide +kernel) (by decide +kernel)
set_option maxRecDepth 20000 in
theorem gX3_copyFrom_X2_copyFrom : GoodIn wsX3_copyFrom (wsV RX3 33 RX2 yX2_copyFrom wsX2_copyFrom) := goodIn_app (goodIn_of _ (by decide +kernel)) ggX3_copyFrom_X2_copyFrom
set_option maxRecDepth 20000 in
theorem ggX3_copyFrom_X0_copyFrom : GoodIn wsX3_copyFrom wsX0_copyFrom := goodIn_r _ [25, 26, 27, 28, 12, 13, 14, 29, 30, 31, 32, 33, 34, 47, 48, 49, 50, 51, 52, 53, 54] (by decide +kernel) (by decide +kernel)
set_option maxRecDepth 20000 in
theorem gX3_copyFrom_X0_copyFrom : GoodIn wsX3_copyFrom (wsV RX3 37 RX0 yX0_copyFrom wsX0_copyFrom) := goodIn_app (goodIn_of _ (by decide +kernel)) ggX3_copyFrom_X0_copyFrom
theorem dX3_copyFrom_0 : decode cX3_copyFrom 0 = .ok (.aload_n 0, 1) := by decide +kernel
theorem dX3_copyFrom_1 : decode cX3_copyFrom 1 = .ok (.aload_n 1, 1) := by decide +kernel
theorem dX3_copyFrom_2 : decode cX3_copyFrom 2 = .ok (.getfield 25, 3) := by decide +kernel
theorem dX3_copyFrom_5 : decode cX3_copyFrom 5 = .ok (.putfield 25, 3) := by decide +kernel
theorem dX3_copyFrom_8 : decode cX3_copyFrom 8 = .ok (.aload_n 0, 1) := by decide +kernel
theorem dX3_copyFrom_9 : decode cX3_copyFrom 9 = .ok (.getfield 12, 3) := by decide +kernel
theorem dX3_copyFrom_12 : decode cX3_copyFrom 12 = .ok (.aload_n 1, 1) := by decide +kernel
theorem dX3_copyFrom_13 : decode cX3_copyFrom 13 = .ok (.getfield 12, 3) := by decide +kernel
theorem dX3_copyFrom_16 : decode cX3_copyFrom 16 = .ok (.invokevirtual 33, 3) := by decide +kernel
theorem dX3_copyFrom_19 : decode cX3_copyFrom 19 = .ok (.aload_n 0, 1) := by decide +kernel
theorem dX3_copyFrom_20 : decode cX3_copyFrom 20 = .ok (.getfield 21, 3) := by decide +kernel
theorem dX3_copyFrom_23 : decode cX3_copyFrom 23 = .ok (.aload_n 1, 1) := by decide +kernel
theorem dX3_copyFrom_24 : decode cX3_copyFrom 24 = .ok (.getfield 21, 3) := by decide +kernel
theorem dX3_copyFrom_27 : decode cX3_copyFrom 27 = .ok (.invokevirtual 37, 3) := by decide +kernel
theorem dX3_copyFrom_30 : decode cX3_copyFrom 30 = .ok (.return_, 1) := by decide +kernel
set_option maxRecDepth 20000 in
theorem ggX3_run_X3_runMinute : GoodIn wsX3_run wsX3_runMinute := goodIn_r _ [5, 6, 7, 8, 9, 10, 11, 12, 13, 14, 4, 15, 16, 17, 18, 19, 20, 21, 22, 23, 24, 25, 26, 27, 28, 29, 30, 31, 32, 33, 34, 35, 36, 37, 38, 39, 40, 41, 42, 43, 44, 45, 46, 47, 48, 49, 50, 51, 52, 53, 54, 55, 56, 57, 58, 59, 60, 61, 62, 63, 64, 65, 66, 67, 68, 69, 70, 71, 72, 73, 74, 75, 76, 77, 78, 79, 80, 81, 82, 83, 84, 85, 86, 87, 88, 89, 90, 91, 92, 93, 94, 95, 96, 97, 98, 99, 100, 101, 102, 103, 104, 105, 106, 107, 108, 109, 110, 111, 112, 113, 114, 115, 116, 117, 118, 119, 120, 121, 122, 123, 124, 125, 126, 127, 128, 129, 130, 131, 132, 133, 134, 135, 136, 137, 138, 139, 140, 141, 142, 143, 144, 145, 146, 147] (by decide +kernel) (by decide +kernel)
set_option maxRecDepth 20000 in
theorem gX3_run_X3_runMinute : GoodIn wsX3_run (wsV RX3 40 RX3 yX3_runMinute wsX3_runMinute) := goodIn_app (goodIn_of _ (by decide +kernel)) ggX3_run_X3_runMinute
theorem dX3_run_0 : decode cX3_run 0 = .ok (.iconst 0, 1) := by decide +kernel
theorem dX3_run_1 : decode cX3_run 1 = .ok (.istore_n 2, 1) := by decide +kernel
theorem dX3_run_2 : decode cX3_run 2 = .ok (.iload_n 2, 1) := by decide +kernel
theorem dX3_run_3 : decode cX3_run 3 = .ok (.iload_n 1, 1) := by decide +kernel
theorem dX3_run_4 : decode cX3_run 4 = .ok (.if_icmp .ge 13, 3) := by decide +kernel
theorem dX3_run_7 : decode cX3_run 7 = .ok (.aload_n 0, 1) := by decide +kernel
theorem dX3_run_8 : decode cX3_run 8 = .ok (.invokevirtual 40, 3) := by decide +kernel
theorem dX3_run_11 : decode cX3_run 11 = .ok (.iinc 2 1, 3) := by decide +kernel
theorem dX3_run_14 : decode cX3_run 14 = .ok (.goto (-12), 3) := by decide +kernel
theorem dX3_run_17 : decode cX3_run 17 = .ok (.return_, 1) := by decide +kernel
set_option maxRecDepth 20000 in
theorem ggX3_runMinute_X3_takeLetter : GoodIn wsX3_runMinute wsX3_takeLetter := goodIn_r _ [11, 12, 1, 13, 14, 15, 16, 17, 18, 19, 20, 21, 22, 23, 24, 25, 26, 27, 28, 29, 30, 31, 32, 33, 34, 35, 36, 37, 38, 39, 40, 41, 42, 43, 44, 45, 46, 47, 48, 49, 122, 123, 124, 125, 126, 127, 128, 129, 130, 131, 132, 133, 136, 137, 138, 139, 140, 141, 142, 143] (by decide +kernel) (by decide +kernel)
set_option maxRecDepth 20000 in
theorem gX3_runMinute_X3_takeLetter : GoodIn wsX3_runMinute (wsV RX3 50 RX3 yX3_takeLetter wsX3_takeLetter) := goodIn_app (goodIn_of _ (by decide +kernel)) ggX3_runMinute_X3_takeLetter
set_option maxRecDepth 20000 in
theorem ggX3_runMinute_X3_workOn : GoodIn wsX3_runMinute wsX3_workOn := goodIn_r _ [53, 1, 54, 55, 56, 57, 10, 58, 3, 12, 59, 60, 61, 62, 63, 32, 33, 17, 34, 21, 19, 35, 22, 30, 64, 65, 66, 39, 67, 41, 42, 122, 123, 124, 125, 126, 127, 128, 129, 130, 131, 132, 133, 136, 137, 138, 139, 140, 141, 142, 143] (by decide +kernel) (by decide +kernel)
set_option maxRecDepth 20000 in
theorem gX3_runMinute_X3_workOn : GoodIn wsX3_runMinute (wsV RX3 54 RX3 yX3_workOn wsX3_workOn) := goodIn_app (goodIn_of _ (by decide +kernel)) ggX3_runMinute_X3_workOn
set_option maxRecDepth 20000 in
theorem ggX3_runMinute_X1_passedIn : GoodIn wsX3_runMinute wsX1_passedIn := goodIn_r _ [72, 73, 134, 135] (by decide +kernel) (by decide +kernel)
set_option maxRecDepth 20000 in
theorem gX3_runMinute_X1_passedIn : GoodIn wsX3_runMinute (wsV RX3 57 RX1 yX1_passedIn wsX1_passedIn) := goodIn_app (goodIn_of _ (by decide +kernel)) ggX3_runMinute_X1_passedIn
set_option maxRecDepth 20000 in
theorem ggX3_runMinute_X3_serve : GoodIn wsX3_runMinute wsX3_serve := goodIn_r _ [77, 12, 78, 60, 79, 80, 81, 17, 82, 21, 83, 84, 85, 86, 10, 87, 5, 88, 24, 89, 90, 91, 92, 93, 94, 31, 32, 33, 34, 19, 35, 22, 30, 63, 95, 96, 97, 98, 99, 100, 1, 64, 65, 66, 39, 67, 41, 42, 122, 123, 124, 125, 136, 137, 138, 139, 140, 141, 142, 143, 126, 127, 128, 129, 130, 131, 132, 133] (by decide +kernel) (by decide +kernel)
set_option maxRecDepth 20000 in
theorem gX3_runMinute_X3_serve : GoodIn wsX3_runMinute (wsV RX3 63 RX3 yX3_serve wsX3_serve) := goodIn_app (goodIn_of _ (by decide +kernel)) ggX3_runMinute_X3_serve
set_option maxRecDepth 20000 in
theorem ggX3_runMinute_X3_shake : GoodIn wsX3_runMinute wsX3_shake := goodIn_r _ [104, 1, 12, 105, 106, 107, 39, 108, 109, 49, 110, 111, 112, 17, 113, 35, 114, 115, 116, 117, 20, 21, 22, 31, 32, 33, 34, 19, 30, 118, 119, 120, 121, 48, 122, 123, 124, 125, 126, 127, 128, 129, 130, 131, 132, 133, 136, 137, 138, 139, 140, 141, 142, 143] (by decide +kernel) (by decide +kernel)
set_option maxRecDepth 20000 in
theorem gX3_runMinute_X3_shake : GoodIn wsX3_runMinute (wsV RX3 69 RX3 yX3_shake wsX3_shake) := goodIn_app (goodIn_of _ (by decide +kernel)) ggX3_runMinute_X3_shake
theorem dX3_runMinute_0 : decode cX3_runMinute 0 = .ok (.iconst 0, 1) := by decide +kernel
theorem dX3_runMinute_1 : decode cX3_runMinute 1 = .ok (.istore_n 1, 1) := by decide +kernel
theorem dX3_runMinute_2 : decode cX3_runMinute 2 = .ok (.iload_n 1, 1) := by decide +kernel
theorem dX3_runMinute_3 : decode cX3_runMinute 3 = .ok (.aload_n 0, 1) := by decide +kernel
theorem dX3_runMinute_4 : decode cX3_runMinute 4 = .ok (.getfield 21, 3) := by decide +kernel
theorem dX3_runMinute_7 : decode cX3_runMinute 7 = .ok (.getfield 43, 3) := by decide +kernel
theorem dX3_runMinute_10 : decode cX3_runMinute 10 = .ok (.if_icmp .ge 45, 3) := by decide +kernel
theorem dX3_runMinute_13 : decode cX3_runMinute 13 = .ok (.aload_n 0, 1) := by decide +kernel
theorem dX3_runMinute_14 : decode cX3_runMinute 14 = .ok (.getfield 21, 3) := by decide +kernel
theorem dX3_runMinute_17 : decode cX3_runMinute 17 = .ok (.getfield 46, 3) := by decide +kernel
theorem dX3_runMinute_20 : decode cX3_runMinute 20 = .ok (.iload_n 1, 1) := by decide +kernel
theorem dX3_runMinute_21 : decode cX3_runMinute 21 = .ok (.iaload, 1) := by decide +kernel
theorem dX3_runMinute_22 : decode cX3_runMinute 22 = .ok (.iconst (-1), 1) := by decide +kernel
theorem dX3_runMinute_23 : decode cX3_runMinute 23 = .ok (.if_icmp .ne 8, 3) := by decide +kernel
theorem dX3_runMinute_26 : decode cX3_runMinute 26 = .ok (.aload_n 0, 1) := by decide +kernel
theorem dX3_runMinute_27 : decode cX3_runMinute 27 = .ok (.iload_n 1, 1) := by decide +kernel
theorem dX3_runMinute_28 : decode cX3_runMinute 28 = .ok (.invokevirtual 50, 3) := by decide +kernel
theorem dX3_runMinute_31 : decode cX3_runMinute 31 = .ok (.aload_n 0, 1) := by decide +kernel
theorem dX3_runMinute_32 : decode cX3_runMinute 32 = .ok (.getfield 21, 3) := by decide +kernel
theorem dX3_runMinute_35 : decode cX3_runMinute 35 = .ok (.getfield 46, 3) := by decide +kernel
theorem dX3_runMinute_38 : decode cX3_runMinute 38 = .ok (.iload_n 1, 1) := by decide +kernel
theorem dX3_runMinute_39 : decode cX3_runMinute 39 = .ok (.iaload, 1) := by decide +kernel
theorem dX3_runMinute_40 : decode cX3_runMinute 40 = .ok (.iconst (-1), 1) := by decide +kernel
theorem dX3_runMinute_41 : decode cX3_runMinute 41 = .ok (.if_icmp .eq 8, 3) := by decide +kernel
theorem dX3_runMinute_44 : decode cX3_runMinute 44 = .ok (.aload_n 0, 1) := by decide +kernel
theorem dX3_runMinute_45 : decode cX3_runMinute 45 = .ok (.iload_n 1, 1) := by decide +kernel
theorem dX3_runMinute_46 : decode cX3_runMinute 46 = .ok (.invokevirtual 54, 3) := by decide +kernel
theorem dX3_runMinute_49 : decode cX3_runMinute 49 = .ok (.iinc 1 1, 3) := by decide +kernel
theorem dX3_runMinute_52 : decode cX3_runMinute 52 = .ok (.goto (-50), 3) := by decide +kernel
theorem dX3_runMinute_55 : decode cX3_runMinute 55 = .ok (.aload_n 0, 1) := by decide +kernel
theorem dX3_runMinute_56 : decode cX3_runMinute 56 = .ok (.getfield 29, 3) := by decide +kernel
theorem dX3_runMinute_59 : decode cX3_runMinute 59 = .ok (.aload_n 0, 1) := by decide +kernel
theorem dX3_runMinute_60 : decode cX3_runMinute 60 = .ok (.getfield 25, 3) := by decide +kernel
theorem dX3_runMinute_63 : decode cX3_runMinute 63 = .ok (.invokevirtual 57, 3) := by decide +kernel
theorem dX3_runMinute_66 : decode cX3_runMinute 66 = .ok (.istore_n 1, 1) := by decide +kernel
theorem dX3_runMinute_67 : decode cX3_runMinute 67 = .ok (.iload_n 1, 1) := by decide +kernel
theorem dX3_runMinute_68 : decode cX3_runMinute 68 = .ok (.iconst (-1), 1) := by decide +kernel
theorem dX3_runMinute_69 : decode cX3_runMinute 69 = .ok (.if_icmp .eq 8, 3) := by decide +kernel
theorem dX3_runMinute_72 : decode cX3_runMinute 72 = .ok (.aload_n 0, 1) := by decide +kernel
theorem dX3_runMinute_73 : decode cX3_runMinute 73 = .ok (.iload_n 1, 1) := by decide +kernel
theorem dX3_runMinute_74 : decode cX3_runMinute 74 = .ok (.invokevirtual 63, 3) := by decide +kernel
theorem dX3_runMinute_77 : decode cX3_runMinute 77 = .ok (.aload_n 0, 1) := by decide +kernel
theorem dX3_runMinute_78 : decode cX3_runMinute 78 = .ok (.getfield 29, 3) := by decide +kernel
theorem dX3_runMinute_81 : decode cX3_runMinute 81 = .ok (.aload_n 0, 1) := by decide +kernel
theorem dX3_runMinute_82 : decode cX3_runMinute 82 = .ok (.getfield 25, 3) := by decide +kernel
theorem dX3_runMinute_85 : decode cX3_runMinute 85 = .ok (.iconst 5, 1) := by decide +kernel
theorem dX3_runMinute_86 : decode cX3_runMinute 86 = .ok (.isub, 1) := by decide +kernel
theorem dX3_runMinute_87 : decode cX3_runMinute 87 = .ok (.invokevirtual 57, 3) := by decide +kernel
theorem dX3_runMinute_90 : decode cX3_runMinute 90 = .ok (.istore_n 2, 1) := by decide +kernel
theorem dX3_runMinute_91 : decode cX3_runMinute 91 = .ok (.iload_n 2, 1) := by decide +kernel
theorem dX3_runMinute_92 : decode cX3_runMinute 92 = .ok (.iconst (-1), 1) := by decide +kernel
theorem dX3_runMinute_93 : decode cX3_runMinute 93 = .ok (.if_icmp .eq 16, 3) := by decide +kernel
theorem dX3_runMinute_96 : decode cX3_runMinute 96 = .ok (.aload_n 0, 1) := by decide +kernel
theorem dX3_runMinute_97 : decode cX3_runMinute 97 = .ok (.aload_n 0, 1) := by decide +kernel
theorem dX3_runMinute_98 : decode cX3_runMinute 98 = .ok (.getfield 29, 3) := by decide +kernel
theorem dX3_runMinute_101 : decode cX3_runMinute 101 = .ok (.getfield 66, 3) := by decide +kernel
theorem dX3_runMinute_104 : decode cX3_runMinute 104 = .ok (.iload_n 2, 1) := by decide +kernel
theorem dX3_runMinute_105 : decode cX3_runMinute 105 = .ok (.iaload, 1) := by decide +kernel
theorem dX3_runMinute_106 : decode cX3_runMinute 106 = .ok (.invokevirtual 69, 3) := by decide +kernel
theorem dX3_runMinute_109 : decode cX3_runMinute 109 = .ok (.aload_n 0, 1) := by decide +kernel
theorem dX3_runMinute_110 : decode cX3_runMinute 110 = .ok (.dup, 1) := by decide +kernel
theorem dX3_runMinute_111 : decode cX3_runMinute 111 = .ok (.getfield 25, 3) := by decide +kernel
theorem dX3_runMinute_114 : decode cX3_runMinute 114 = .ok (.iconst 1, 1) := by decide +kernel
theorem dX3_runMinute_115 : decode cX3_runMinute 115 = .ok (.iadd, 1) := by decide +kernel
theorem dX3_runMinute_116 : decode cX3_runMinute 116 = .ok (.putfield 25, 3) := by decide +kernel
theorem dX3_runMinute_119 : decode cX3_runMinute 119 = .ok (.return_, 1) := by decide +kernel
set_option maxRecDepth 20000 in
theorem ggX3_takeLetter_X2_firstOnTable : GoodIn wsX3_takeLetter wsX2_firstOnTable := goodIn_r _ [8, 9, 10, 11, 12, 13, 14, 15, 52, 53, 54, 55, 56, 57, 58, 59] (by decide +kernel) (by decide +kernel)
set_option maxRecDepth 20000 in
theorem gX3_takeLetter_X2_firstOnTable : GoodIn wsX3_takeLetter (wsV RX3 75 RX2 yX2_firstOnTable wsX2_firstOnTable) := goodIn_app (goodIn_of _ (by decide +kernel)) ggX3_takeLetter_X2_firstOnTable
set_option maxRecDepth 20000 in
theorem ggX3_takeLetter_X2_moveToHands : GoodIn wsX3_takeLetter wsX2_moveToHands := goodIn_r _ [19, 20, 21, 22, 23, 7, 24, 11, 9, 25, 12, 52, 53, 54, 55, 56, 57, 58, 59] (by decide +kernel) (by decide +kernel)
set_option maxRecDepth 20000 in
theorem gX3_takeLetter_X2_moveToHands : GoodIn wsX3_takeLetter (wsV RX3 78 RX2 yX2_moveToHands wsX2_moveToHands) := goodIn_app (goodIn_of _ (by decide +kernel)) ggX3_takeLetter_X2_moveToHands
set_option maxRecDepth 20000 in
theorem ggX3_takeLetter_X0_takeUp : GoodIn wsX3_takeLetter wsX0_takeUp := goodIn_r _ [30, 31, 32, 33, 34, 35, 29, 36, 37, 38, 39, 44, 45, 46, 47, 48, 49, 50, 51] (by decide +kernel) (by decide +kernel)
set_option maxRecDepth 20000 in
theorem gX3_takeLetter_X0_takeUp : GoodIn wsX3_takeLetter (wsV RX3 82 RX0 yX0_takeUp wsX0_takeUp) := goodIn_app (goodIn_of _ (by decide +kernel)) ggX3_takeLetter_X0_takeUp
theorem dX3_takeLetter_0 : decode cX3_takeLetter 0 = .ok (.aload_n 0, 1) := by decide +kernel
theorem dX3_takeLetter_1 : decode cX3_takeLetter 1 = .ok (.getfield 12, 3) := by decide +kernel
theorem dX3_takeLetter_4 : decode cX3_takeLetter 4 = .ok (.aload_n 0, 1) := by decide +kernel
theorem dX3_takeLetter_5 : decode cX3_takeLetter 5 = .ok (.getfield 21, 3) := by decide +kernel
theorem dX3_takeLetter_8 : decode cX3_takeLetter 8 = .ok (.getfield 72, 3) := by decide +kernel
theorem dX3_takeLetter_11 : decode cX3_takeLetter 11 = .ok (.iload_n 1, 1) := by decide +kernel
theorem dX3_takeLetter_12 : decode cX3_takeLetter 12 = .ok (.iaload, 1) := by decide +kernel
theorem dX3_takeLetter_13 : decode cX3_takeLetter 13 = .ok (.invokevirtual 75, 3) := by decide +kernel
theorem dX3_takeLetter_16 : decode cX3_takeLetter 16 = .ok (.istore_n 2, 1) := by decide +kernel
theorem dX3_takeLetter_17 : decode cX3_takeLetter 17 = .ok (.iload_n 2, 1) := by decide +kernel
theorem dX3_takeLetter_18 : decode cX3_takeLetter 18 = .ok (.iconst (-1), 1) := by decide +kernel
theorem dX3_takeLetter_19 : decode cX3_takeLetter 19 = .ok (.if_icmp .eq 21, 3) := by decide +kernel
theorem dX3_takeLetter_22 : decode cX3_takeLetter 22 = .ok (.aload_n 0, 1) := by decide +kernel
theorem dX3_takeLetter_23 : decode cX3_takeLetter 23 = .ok (.getfield 12, 3) := by decide +kernel
theorem dX3_takeLetter_26 : decode cX3_takeLetter 26 = .ok (.iload_n 2, 1) := by decide +kernel
theorem dX3_takeLetter_27 : decode cX3_takeLetter 27 = .ok (.iload_n 1, 1) := by decide +kernel
theorem dX3_takeLetter_28 : decode cX3_takeLetter 28 = .ok (.invokevirtual 78, 3) := by decide +kernel
theorem dX3_takeLetter_31 : decode cX3_takeLetter 31 = .ok (.aload_n 0, 1) := by decide +kernel
theorem dX3_takeLetter_32 : decode cX3_takeLetter 32 = .ok (.getfield 21, 3) := by decide +kernel
theorem dX3_takeLetter_35 : decode cX3_takeLetter 35 = .ok (.iload_n 1, 1) := by decide +kernel
theorem dX3_takeLetter_36 : decode cX3_takeLetter 36 = .ok (.iload_n 2, 1) := by decide +kernel
theorem dX3_takeLetter_37 : decode cX3_takeLetter 37 = .ok (.invokevirtual 82, 3) := by decide +kernel
theorem dX3_takeLetter_40 : decode cX3_takeLetter 40 = .ok (.return_, 1) := by decide +kernel
set_option maxRecDepth 20000 in
theorem ggX3_workOn_X3_putLetter : GoodIn wsX3_workOn wsX3_putLetter := goodIn_r _ [7, 1, 8, 9, 10, 11, 12, 13, 14, 15, 16, 17, 18, 19, 20, 21, 22, 23, 24, 25, 26, 27, 28, 29, 30, 31, 32, 33, 34, 35, 36, 37, 38, 39, 40, 41, 42, 43, 44, 45, 46, 47, 48, 49, 50] (by decide +kernel) (by decide +kernel)
set_option maxRecDepth 20000 in
theorem gX3_workOn_X3_putLetter : GoodIn wsX3_workOn (wsV RX3 88 RX3 yX3_putLetter wsX3_putLetter) := goodIn_app (goodIn_of _ (by decide +kernel)) ggX3_workOn_X3_putLetter
theorem dX3_workOn_0 : decode cX3_workOn 0 = .ok (.aload_n 0, 1) := by decide +kernel
theorem dX3_workOn_1 : decode cX3_workOn 1 = .ok (.getfield 21, 3) := by decide +kernel
theorem dX3_workOn_4 : decode cX3_workOn 4 = .ok (.getfield 85, 3) := by decide +kernel
theorem dX3_workOn_7 : decode cX3_workOn 7 = .ok (.iload_n 1, 1) := by decide +kernel
theorem dX3_workOn_8 : decode cX3_workOn 8 = .ok (.dup2, 1) := by decide +kernel
theorem dX3_workOn_9 : decode cX3_workOn 9 = .ok (.iaload, 1) := by decide +kernel
theorem dX3_workOn_10 : decode cX3_workOn 10 = .ok (.iconst 1, 1) := by decide +kernel
theorem dX3_workOn_11 : decode cX3_workOn 11 = .ok (.isub, 1) := by decide +kernel
theorem dX3_workOn_12 : decode cX3_workOn 12 = .ok (.iastore, 1) := by decide +kernel
theorem dX3_workOn_13 : decode cX3_workOn 13 = .ok (.aload_n 0, 1) := by decide +kernel
theorem dX3_workOn_14 : decode cX3_workOn 14 = .ok (.getfield 21, 3) := by decide +kernel
theorem dX3_workOn_17 : decode cX3_workOn 17 = .ok (.getfield 85, 3) := by decide +kernel
theorem dX3_workOn_20 : decode cX3_workOn 20 = .ok (.iload_n 1, 1) := by decide +kernel
theorem dX3_workOn_21 : decode cX3_workOn 21 = .ok (.iaload, 1) := by decide +kernel
theorem dX3_workOn_22 : decode cX3_workOn 22 = .ok (.ifCond .gt 8, 3) := by decide +kernel
theorem dX3_workOn_25 : decode cX3_workOn 25 = .ok (.aload_n 0, 1) := by decide +kernel
theorem dX3_workOn_26 : decode cX3_workOn 26 = .ok (.iload_n 1, 1) := by decide +kernel
theorem dX3_workOn_27 : decode cX3_workOn 27 = .ok (.invokevirtual 88, 3) := by decide +kernel
theorem dX3_workOn_30 : decode cX3_workOn 30 = .ok (.return_, 1) := by decide +kernel
set_option maxRecDepth 20000 in
theorem ggX3_putLetter_X2_move : GoodIn wsX3_putLetter wsX2_move := goodIn_r _ [12, 13, 14, 15, 16, 17, 37, 38, 39, 40, 41, 42, 43, 44] (by decide +kernel) (by decide +kernel)
set_option maxRecDepth 20000 in
theorem gX3_putLetter_X2_move : GoodIn wsX3_putLetter (wsV RX3 97 RX2 yX2_move wsX2_move) := goodIn_app (goodIn_of _ (by decide +kernel)) ggX3_putLetter_X2_move
set_option maxRecDepth 20000 in
theorem ggX3_putLetter_X0_freeHands : GoodIn wsX3_putLetter wsX0_freeHands := goodIn_r _ [22, 23, 24, 29, 30, 31, 32, 33, 34, 35, 36] (by decide +kernel) (by decide +kernel)
set_option maxRecDepth 20000 in
theorem gX3_putLetter_X0_freeHands : GoodIn wsX3_putLetter (wsV RX3 106 RX0 yX0_freeHands wsX0_freeHands) := goodIn_app (goodIn_of _ (by decide +kernel)) ggX3_putLetter_X0_freeHands
theorem dX3_putLetter_0 : decode cX3_putLetter 0 = .ok (.aload_n 0, 1) := by decide +kernel
theorem dX3_putLetter_1 : decode cX3_putLetter 1 = .ok (.getfield 21, 3) := by decide +kernel
theorem dX3_putLetter_4 : decode cX3_putLetter 4 = .ok (.getfield 46, 3) := by decide +kernel
theorem dX3_putLetter_7 : decode cX3_putLetter 7 = .ok (.iload_n 1, 1) := by decide +kernel
theorem dX3_putLetter_8 : decode cX3_putLetter 8 = .ok (.iaload, 1) := by decide +kernel
theorem dX3_putLetter_9 : decode cX3_putLetter 9 = .ok (.istore_n 2, 1) := by decide +kernel
theorem dX3_putLetter_10 : decode cX3_putLetter 10 = .ok (.aload_n 0, 1) := by decide +kernel
theorem dX3_putLetter_11 : decode cX3_putLetter 11 = .ok (.getfield 12, 3) := by decide +kernel
theorem dX3_putLetter_14 : decode cX3_putLetter 14 = .ok (.getfield 91, 3) := by decide +kernel
theorem dX3_putLetter_17 : decode cX3_putLetter 17 = .ok (.aload_n 0, 1) := by decide +kernel
theorem dX3_putLetter_18 : decode cX3_putLetter 18 = .ok (.getfield 12, 3) := by decide +kernel
theorem dX3_putLetter_21 : decode cX3_putLetter 21 = .ok (.getfield 94, 3) := by decide +kernel
theorem dX3_putLetter_24 : decode cX3_putLetter 24 = .ok (.iload_n 2, 1) := by decide +kernel
theorem dX3_putLetter_25 : decode cX3_putLetter 25 = .ok (.iaload, 1) := by decide +kernel
theorem dX3_putLetter_26 : decode cX3_putLetter 26 = .ok (.iaload, 1) := by decide +kernel
theorem dX3_putLetter_27 : decode cX3_putLetter 27 = .ok (.bipush 8, 2) := by decide +kernel
theorem dX3_putLetter_29 : decode cX3_putLetter 29 = .ok (.if_icmp .ge 28, 3) := by decide +kernel
theorem dX3_putLetter_32 : decode cX3_putLetter 32 = .ok (.aload_n 0, 1) := by decide +kernel
theorem dX3_putLetter_33 : decode cX3_putLetter 33 = .ok (.getfield 12, 3) := by decide +kernel
theorem dX3_putLetter_36 : decode cX3_putLetter 36 = .ok (.iload_n 2, 1) := by decide +kernel
theorem dX3_putLetter_37 : decode cX3_putLetter 37 = .ok (.iconst 3, 1) := by decide +kernel
theorem dX3_putLetter_38 : decode cX3_putLetter 38 = .ok (.invokevirtual 97, 3) := by decide +kernel
theorem dX3_putLetter_41 : decode cX3_putLetter 41 = .ok (.aload_n 0, 1) := by decide +kernel
theorem dX3_putLetter_42 : decode cX3_putLetter 42 = .ok (.getfield 21, 3) := by decide +kernel
theorem dX3_putLetter_45 : decode cX3_putLetter 45 = .ok (.getfield 100, 3) := by decide +kernel
theorem dX3_putLetter_48 : decode cX3_putLetter 48 = .ok (.iload_n 1, 1) := by decide +kernel
theorem dX3_putLetter_49 : decode cX3_putLetter 49 = .ok (.dup2, 1) := by decide +kernel
theorem dX3_putLetter_50 : decode cX3_putLetter 50 = .ok (.iaload, 1) := by decide +kernel
theorem dX3_putLetter_51 : decode cX3_putLetter 51 = .ok (.iconst 1, 1) := by decide +kernel
theorem dX3_putLetter_52 : decode cX3_putLetter 52 = .ok (.iadd, 1) := by decide +kernel
theorem dX3_putLetter_53 : decode cX3_putLetter 53 = .ok (.iastore, 1) := by decide +kernel
theorem dX3_putLetter_54 : decode cX3_putLetter 54 = .ok (.goto 12, 3) := by decide +kernel
theorem dX3_putLetter_57 : decode cX3_putLetter 57 = .ok (.aload_n 0, 1) := by decide +kernel
theorem dX3_putLetter_58 : decode cX3_putLetter 58 = .ok (.getfield 12, 3) := by decide +kernel
theorem dX3_putLetter_61 : decode cX3_putLetter 61 = .ok (.iload_n 2, 1) := by decide +kernel
theorem dX3_putLetter_62 : decode cX3_putLetter 62 = .ok (.iconst 1, 1) := by decide +kernel
theorem dX3_putLetter_63 : decode cX3_putLetter 63 = .ok (.invokevirtual 97, 3) := by decide +kernel
theorem dX3_putLetter_66 : decode cX3_putLetter 66 = .ok (.aload_n 0, 1) := by decide +kernel
theorem dX3_putLetter_67 : decode cX3_putLetter 67 = .ok (.getfield 21, 3) := by decide +kernel
theorem dX3_putLetter_70 : decode cX3_putLetter 70 = .ok (.getfield 103, 3) := by decide +kernel
theorem dX3_putLetter_73 : decode cX3_putLetter 73 = .ok (.iload_n 1, 1) := by decide +kernel
theorem dX3_putLetter_74 : decode cX3_putLetter 74 = .ok (.dup2, 1) := by decide +kernel
theorem dX3_putLetter_75 : decode cX3_putLetter 75 = .ok (.iaload, 1) := by decide +kernel
theorem dX3_putLetter_76 : decode cX3_putLetter 76 = .ok (.iconst 1, 1) := by decide +kernel
theorem dX3_putLetter_77 : decode cX3_putLetter 77 = .ok (.iadd, 1) := by decide +kernel
theorem dX3_putLetter_78 : decode cX3_putLetter 78 = .ok (.iastore, 1) := by decide +kernel
theorem dX3_putLetter_79 : decode cX3_putLetter 79 = .ok (.aload_n 0, 1) := by decide +kernel
theorem dX3_putLetter_80 : decode cX3_putLetter 80 = .ok (.getfield 21, 3) := by decide +kernel
theorem dX3_putLetter_83 : decode cX3_putLetter 83 = .ok (.iload_n 1, 1) := by decide +kernel
theorem dX3_putLetter_84 : decode cX3_putLetter 84 = .ok (.invokevirtual 106, 3) := by decide +kernel
theorem dX3_putLetter_87 : decode cX3_putLetter 87 = .ok (.return_, 1) := by decide +kernel
set_option maxRecDepth 20000 in
theorem ggX3_serve_X2_isInBag : GoodIn wsX3_serve wsX2_isInBag := goodIn_r _ [8, 9, 10, 52, 53, 54, 55, 56, 57, 58, 59] (by decide +kernel) (by decide +kernel)
set_option maxRecDepth 20000 in
theorem gX3_serve_X2_isInBag : GoodIn wsX3_serve (wsV RX3 110 RX2 yX2_isInBag wsX2_isInBag) := goodIn_app (goodIn_of _ (by decide +kernel)) ggX3_serve_X2_isInBag
set_option maxRecDepth 20000 in
theorem ggX3_serve_X3_hookIn : GoodIn wsX3_serve wsX3_hookIn := goodIn_r _ [15, 1, 3, 16, 17, 18, 19, 20, 21, 22, 7, 23, 24, 25, 26, 27, 28, 9, 29, 30, 31, 32, 33, 48, 49, 50, 51, 52, 53, 54, 55, 56, 57, 58, 59] (by decide +kernel) (by decide +kernel)
set_option maxRecDepth 20000 in
theorem gX3_serve_X3_hookIn : GoodIn wsX3_serve (wsV RX3 114 RX3 yX3_hookIn wsX3_hookIn) := goodIn_app (goodIn_of _ (by decide +kernel)) ggX3_serve_X3_hookIn
set_option maxRecDepth 20000 in
theorem ggX3_serve_X4_stationOf : GoodIn wsX3_serve wsX4_stationOf := goodIn_r _ [19] (by decide +kernel) (by decide +kernel)
set_option maxRecDepth 20000 in
theorem gX3_serve_X4_stationOf_n117 : GoodIn wsX3_serve (wsX4_stationOf) := ggX3_serve_X4_stationOf
set_option maxRecDepth 20000 in
theorem ggX3_serve_X3_hookOut : GoodIn wsX3_serve wsX3_hookOut := goodIn_r _ [37, 1, 38, 16, 39, 40, 20, 21, 22, 7, 23, 24, 25, 26, 27, 28, 9, 29, 30, 31, 32, 41, 42, 43, 44, 45, 46, 47, 48, 49, 50, 51, 52, 53, 54, 55, 56, 57, 58, 59, 60, 61, 62, 63, 64, 65, 66, 67] (by decide +kernel) (by decide +kernel)
set_option maxRecDepth 20000 in
theorem gX3_serve_X3_hookOut : GoodIn wsX3_serve (wsV RX3 120 RX3 yX3_hookOut wsX3_hookOut) := goodIn_app (goodIn_of _ (by decide +kernel)) ggX3_serve_X3_hookOut
theorem dX3_serve_0 : decode cX3_serve 0 = .ok (.iconst 0, 1) := by decide +kernel
theorem dX3_serve_1 : decode cX3_serve 1 = .ok (.istore_n 2, 1) := by decide +kernel
theorem dX3_serve_2 : decode cX3_serve 2 = .ok (.iload_n 2, 1) := by decide +kernel
theorem dX3_serve_3 : decode cX3_serve 3 = .ok (.aload_n 0, 1) := by decide +kernel
theorem dX3_serve_4 : decode cX3_serve 4 = .ok (.getfield 12, 3) := by decide +kernel
theorem dX3_serve_7 : decode cX3_serve 7 = .ok (.getfield 109, 3) := by decide +kernel
theorem dX3_serve_10 : decode cX3_serve 10 = .ok (.if_icmp .ge 51, 3) := by decide +kernel
theorem dX3_serve_13 : decode cX3_serve 13 = .ok (.aload_n 0, 1) := by decide +kernel
theorem dX3_serve_14 : decode cX3_serve 14 = .ok (.getfield 12, 3) := by decide +kernel
theorem dX3_serve_17 : decode cX3_serve 17 = .ok (.iload_n 2, 1) := by decide +kernel
theorem dX3_serve_18 : decode cX3_serve 18 = .ok (.iload_n 1, 1) := by decide +kernel
theorem dX3_serve_19 : decode cX3_serve 19 = .ok (.invokevirtual 110, 3) := by decide +kernel
theorem dX3_serve_22 : decode cX3_serve 22 = .ok (.ifCond .eq 12, 3) := by decide +kernel
theorem dX3_serve_25 : decode cX3_serve 25 = .ok (.aload_n 0, 1) := by decide +kernel
theorem dX3_serve_26 : decode cX3_serve 26 = .ok (.iload_n 2, 1) := by decide +kernel
theorem dX3_serve_27 : decode cX3_serve 27 = .ok (.iload_n 1, 1) := by decide +kernel
theorem dX3_serve_28 : decode cX3_serve 28 = .ok (.invokevirtual 114, 3) := by decide +kernel
theorem dX3_serve_31 : decode cX3_serve 31 = .ok (.goto 24, 3) := by decide +kernel
theorem dX3_serve_34 : decode cX3_serve 34 = .ok (.aload_n 0, 1) := by decide +kernel
theorem dX3_serve_35 : decode cX3_serve 35 = .ok (.getfield 12, 3) := by decide +kernel
theorem dX3_serve_38 : decode cX3_serve 38 = .ok (.getfield 94, 3) := by decide +kernel
theorem dX3_serve_41 : decode cX3_serve 41 = .ok (.iload_n 2, 1) := by decide +kernel
theorem dX3_serve_42 : decode cX3_serve 42 = .ok (.iaload, 1) := by decide +kernel
theorem dX3_serve_43 : decode cX3_serve 43 = .ok (.invokestatic 117, 3) := by decide +kernel
theorem dX3_serve_46 : decode cX3_serve 46 = .ok (.iload_n 1, 1) := by decide +kernel
theorem dX3_serve_47 : decode cX3_serve 47 = .ok (.if_icmp .ne 8, 3) := by decide +kernel
theorem dX3_serve_50 : decode cX3_serve 50 = .ok (.aload_n 0, 1) := by decide +kernel
theorem dX3_serve_51 : decode cX3_serve 51 = .ok (.iload_n 2, 1) := by decide +kernel
theorem dX3_serve_52 : decode cX3_serve 52 = .ok (.invokevirtual 120, 3) := by decide +kernel
theorem dX3_serve_55 : decode cX3_serve 55 = .ok (.iinc 2 1, 3) := by decide +kernel
theorem dX3_serve_58 : decode cX3_serve 58 = .ok (.goto (-56), 3) := by decide +kernel
theorem dX3_serve_61 : decode cX3_serve 61 = .ok (.return_, 1) := by decide +kernel
set_option maxRecDepth 20000 in
theorem ggX3_hookIn_X4_stationOf : GoodIn wsX3_hookIn wsX4_stationOf := goodIn_r _ [6] (by decide +kernel) (by decide +kernel)
set_option maxRecDepth 20000 in
theorem gX3_hookIn_X4_stationOf_n117 : GoodIn wsX3_hookIn (wsX4_stationOf) := ggX3_hookIn_X4_stationOf
set_option maxRecDepth 20000 in
theorem ggX3_hookIn_X2_end : GoodIn wsX3_hookIn wsX2_end := goodIn_r _ [11, 12, 13, 14, 15, 10, 16, 17, 18, 19, 20, 21, 27, 28, 29, 30, 31, 32, 33, 34] (by decide +kernel) (by decide +kernel)
set_option maxRecDepth 20000 in
theorem gX3_hookIn_X2_end : GoodIn wsX3_hookIn (wsV RX3 123 RX2 yX2_end wsX2_end) := goodIn_app (goodIn_of _ (by decide +kernel)) ggX3_hookIn_X2_end
set_option maxRecDepth 20000 in
theorem ggX3_hookIn_X2_move : GoodIn wsX3_hookIn wsX2_move := goodIn_r _ [16, 17, 18, 19, 20, 21, 27, 28, 29, 30, 31, 32, 33, 34] (by decide +kernel) (by decide +kernel)
set_option maxRecDepth 20000 in
theorem gX3_hookIn_X2_move : GoodIn wsX3_hookIn (wsV RX3 97 RX2 yX2_move wsX2_move) := goodIn_app (goodIn_of _ (by decide +kernel)) ggX3_hookIn_X2_move
theorem dX3_hookIn_0 : decode cX3_hookIn 0 = .ok (.aload_n 0, 1) := by decide +kernel
theorem dX3_hookIn_1 : decode cX3_hookIn 1 = .ok (.getfield 12, 3) := by decide +kernel
theorem dX3_hookIn_4 : decode cX3_hookIn 4 = .ok (.getfield 94, 3) := by decide +kernel
theorem dX3_hookIn_7 : decode cX3_hookIn 7 = .ok (.iload_n 1, 1) := by decide +kernel
theorem dX3_hookIn_8 : decode cX3_hookIn 8 = .ok (.iaload, 1) := by decide +kernel
theorem dX3_hookIn_9 : decode cX3_hookIn 9 = .ok (.invokestatic 117, 3) := by decide +kernel
theorem dX3_hookIn_12 : decode cX3_hookIn 12 = .ok (.iload_n 2, 1) := by decide +kernel
theorem dX3_hookIn_13 : decode cX3_hookIn 13 = .ok (.if_icmp .gt 19, 3) := by decide +kernel
theorem dX3_hookIn_16 : decode cX3_hookIn 16 = .ok (.aload_n 0, 1) := by decide +kernel
theorem dX3_hookIn_17 : decode cX3_hookIn 17 = .ok (.getfield 12, 3) := by decide +kernel
theorem dX3_hookIn_20 : decode cX3_hookIn 20 = .ok (.iload_n 1, 1) := by decide +kernel
theorem dX3_hookIn_21 : decode cX3_hookIn 21 = .ok (.iconst 5, 1) := by decide +kernel
theorem dX3_hookIn_22 : decode cX3_hookIn 22 = .ok (.aload_n 0, 1) := by decide +kernel
theorem dX3_hookIn_23 : decode cX3_hookIn 23 = .ok (.getfield 25, 3) := by decide +kernel
theorem dX3_hookIn_26 : decode cX3_hookIn 26 = .ok (.invokevirtual 123, 3) := by decide +kernel
theorem dX3_hookIn_29 : decode cX3_hookIn 29 = .ok (.goto 12, 3) := by decide +kernel
theorem dX3_hookIn_32 : decode cX3_hookIn 32 = .ok (.aload_n 0, 1) := by decide +kernel
theorem dX3_hookIn_33 : decode cX3_hookIn 33 = .ok (.getfield 12, 3) := by decide +kernel
theorem dX3_hookIn_36 : decode cX3_hookIn 36 = .ok (.iload_n 1, 1) := by decide +kernel
theorem dX3_hookIn_37 : decode cX3_hookIn 37 = .ok (.iconst 1, 1) := by decide +kernel
theorem dX3_hookIn_38 : decode cX3_hookIn 38 = .ok (.invokevirtual 97, 3) := by decide +kernel
theorem dX3_hookIn_41 : decode cX3_hookIn 41 = .ok (.return_, 1) := by decide +kernel
set_option maxRecDepth 20000 in
theorem ggX3_hookOut_X2_end : GoodIn wsX3_hookOut wsX2_end := goodIn_r _ [10, 11, 12, 13, 14, 9, 15, 16, 17, 18, 19, 20, 32, 33, 34, 35, 36, 37, 38, 39] (by decide +kernel) (by decide +kernel)
set_option maxRecDepth 20000 in
theorem gX3_hookOut_X2_end : GoodIn wsX3_hookOut (wsV RX3 123 RX2 yX2_end wsX2_end) := goodIn_app (goodIn_of _ (by decide +kernel)) ggX3_hookOut_X2_end
set_option maxRecDepth 20000 in
theorem ggX3_hookOut_X0_freeHands : GoodIn wsX3_hookOut wsX0_freeHands := goodIn_r _ [25, 26, 27, 40, 41, 42, 43, 44, 45, 46, 47] (by decide +kernel) (by decide +kernel)
set_option maxRecDepth 20000 in
theorem gX3_hookOut_X0_freeHands : GoodIn wsX3_hookOut (wsV RX3 106 RX0 yX0_freeHands wsX0_freeHands) := goodIn_app (goodIn_of _ (by decide +kernel)) ggX3_hookOut_X0_freeHands
theorem dX3_hookOut_0 : decode cX3_hookOut 0 = .ok (.aload_n 0, 1) := by decide +kernel
theorem dX3_hookOut_1 : decode cX3_hookOut 1 = .ok (.getfield 12, 3) := by decide +kernel
theorem dX3_hookOut_4 : decode cX3_hookOut 4 = .ok (.getfield 127, 3) := by decide +kernel
theorem dX3_hookOut_7 : decode cX3_hookOut 7 = .ok (.iload_n 1, 1) := by decide +kernel
theorem dX3_hookOut_8 : decode cX3_hookOut 8 = .ok (.iaload, 1) := by decide +kernel
theorem dX3_hookOut_9 : decode cX3_hookOut 9 = .ok (.istore_n 2, 1) := by decide +kernel
theorem dX3_hookOut_10 : decode cX3_hookOut 10 = .ok (.iload_n 2, 1) := by decide +kernel
theorem dX3_hookOut_11 : decode cX3_hookOut 11 = .ok (.iconst 3, 1) := by decide +kernel
theorem dX3_hookOut_12 : decode cX3_hookOut 12 = .ok (.if_icmp .ne 19, 3) := by decide +kernel
theorem dX3_hookOut_15 : decode cX3_hookOut 15 = .ok (.aload_n 0, 1) := by decide +kernel
theorem dX3_hookOut_16 : decode cX3_hookOut 16 = .ok (.getfield 12, 3) := by decide +kernel
theorem dX3_hookOut_19 : decode cX3_hookOut 19 = .ok (.iload_n 1, 1) := by decide +kernel
theorem dX3_hookOut_20 : decode cX3_hookOut 20 = .ok (.iconst 4, 1) := by decide +kernel
theorem dX3_hookOut_21 : decode cX3_hookOut 21 = .ok (.aload_n 0, 1) := by decide +kernel
theorem dX3_hookOut_22 : decode cX3_hookOut 22 = .ok (.getfield 25, 3) := by decide +kernel
theorem dX3_hookOut_25 : decode cX3_hookOut 25 = .ok (.invokevirtual 123, 3) := by decide +kernel
theorem dX3_hookOut_28 : decode cX3_hookOut 28 = .ok (.goto 49, 3) := by decide +kernel
theorem dX3_hookOut_31 : decode cX3_hookOut 31 = .ok (.iload_n 2, 1) := by decide +kernel
theorem dX3_hookOut_32 : decode cX3_hookOut 32 = .ok (.iconst 1, 1) := by decide +kernel
theorem dX3_hookOut_33 : decode cX3_hookOut 33 = .ok (.if_icmp .eq 8, 3) := by decide +kernel
theorem dX3_hookOut_36 : decode cX3_hookOut 36 = .ok (.iload_n 2, 1) := by decide +kernel
theorem dX3_hookOut_37 : decode cX3_hookOut 37 = .ok (.iconst 2, 1) := by decide +kernel
theorem dX3_hookOut_38 : decode cX3_hookOut 38 = .ok (.if_icmp .ne 39, 3) := by decide +kernel
theorem dX3_hookOut_41 : decode cX3_hookOut 41 = .ok (.aload_n 0, 1) := by decide +kernel
theorem dX3_hookOut_42 : decode cX3_hookOut 42 = .ok (.getfield 12, 3) := by decide +kernel
theorem dX3_hookOut_45 : decode cX3_hookOut 45 = .ok (.getfield 130, 3) := by decide +kernel
theorem dX3_hookOut_48 : decode cX3_hookOut 48 = .ok (.iload_n 1, 1) := by decide +kernel
theorem dX3_hookOut_49 : decode cX3_hookOut 49 = .ok (.iaload, 1) := by decide +kernel
theorem dX3_hookOut_50 : decode cX3_hookOut 50 = .ok (.istore_n 3, 1) := by decide +kernel
theorem dX3_hookOut_51 : decode cX3_hookOut 51 = .ok (.iload_n 3, 1) := by decide +kernel
theorem dX3_hookOut_52 : decode cX3_hookOut 52 = .ok (.iconst (-1), 1) := by decide +kernel
theorem dX3_hookOut_53 : decode cX3_hookOut 53 = .ok (.if_icmp .eq 11, 3) := by decide +kernel
theorem dX3_hookOut_56 : decode cX3_hookOut 56 = .ok (.aload_n 0, 1) := by decide +kernel
theorem dX3_hookOut_57 : decode cX3_hookOut 57 = .ok (.getfield 21, 3) := by decide +kernel
theorem dX3_hookOut_60 : decode cX3_hookOut 60 = .ok (.iload_n 3, 1) := by decide +kernel
theorem dX3_hookOut_61 : decode cX3_hookOut 61 = .ok (.invokevirtual 106, 3) := by decide +kernel
theorem dX3_hookOut_64 : decode cX3_hookOut 64 = .ok (.aload_n 0, 1) := by decide +kernel
theorem dX3_hookOut_65 : decode cX3_hookOut 65 = .ok (.getfield 12, 3) := by decide +kernel
theorem dX3_hookOut_68 : decode cX3_hookOut 68 = .ok (.iload_n 1, 1) := by decide +kernel
theorem dX3_hookOut_69 : decode cX3_hookOut 69 = .ok (.iconst 5, 1) := by decide +kernel
theorem dX3_hookOut_70 : decode cX3_hookOut 70 = .ok (.aload_n 0, 1) := by decide +kernel
theorem dX3_hookOut_71 : decode cX3_hookOut 71 = .ok (.getfield 25, 3) := by decide +kernel
theorem dX3_hookOut_74 : decode cX3_hookOut 74 = .ok (.invokevirtual 123, 3) := by decide +kernel
theorem dX3_hookOut_77 : decode cX3_hookOut 77 = .ok (.return_, 1) := by decide +kernel
set_option maxRecDepth 20000 in
theorem ggX3_shake_X0_spillTea : GoodIn wsX3_shake wsX0_spillTea := goodIn_r _ [7, 8, 9, 38, 39, 40, 41, 42, 43, 44, 45] (by decide +kernel) (by decide +kernel)
set_option maxRecDepth 20000 in
theorem gX3_shake_X0_spillTea : GoodIn wsX3_shake (wsV RX3 133 RX0 yX0_spillTea wsX0_spillTea) := goodIn_app (goodIn_of _ (by decide +kernel)) ggX3_shake_X0_spillTea
set_option maxRecDepth 20000 in
theorem ggX3_shake_X2_fullestHole : GoodIn wsX3_shake wsX2_fullestHole := goodIn_r _ [14, 15, 46, 47, 48, 49, 50, 51, 52, 53] (by decide +kernel) (by decide +kernel)
set_option maxRecDepth 20000 in
theorem gX3_shake_X2_fullestHole : GoodIn wsX3_shake (wsV RX3 136 RX2 yX2_fullestHole wsX2_fullestHole) := goodIn_app (goodIn_of _ (by decide +kernel)) ggX3_shake_X2_fullestHole
set_option maxRecDepth 20000 in
theorem ggX3_shake_X2_spillHole : GoodIn wsX3_shake wsX2_spillHole := goodIn_r _ [19, 20, 21, 22, 23, 24, 25, 13, 26, 27, 15, 28, 46, 47, 48, 49, 50, 51, 52, 53] (by decide +kernel) (by decide +kernel)
set_option maxRecDepth 20000 in
theorem gX3_shake_X2_spillHole : GoodIn wsX3_shake (wsV RX3 140 RX2 yX2_spillHole wsX2_spillHole) := goodIn_app (goodIn_of _ (by decide +kernel)) ggX3_shake_X2_spillHole
set_option maxRecDepth 20000 in
theorem ggX3_shake_X0_tireAll : GoodIn wsX3_shake wsX0_tireAll := goodIn_r _ [32, 8, 33, 38, 39, 40, 41, 42, 43, 44, 45] (by decide +kernel) (by decide +kernel)
set_option maxRecDepth 20000 in
theorem gX3_shake_X0_tireAll : GoodIn wsX3_shake (wsV RX3 143 RX0 yX0_tireAll wsX0_tireAll) := goodIn_app (goodIn_of _ (by decide +kernel)) ggX3_shake_X0_tireAll
theorem dX3_shake_0 : decode cX3_shake 0 = .ok (.iload_n 1, 1) := by decide +kernel
theorem dX3_shake_1 : decode cX3_shake 1 = .ok (.iconst 1, 1) := by decide +kernel
theorem dX3_shake_2 : decode cX3_shake 2 = .ok (.if_icmp .lt 10, 3) := by decide +kernel
theorem dX3_shake_5 : decode cX3_shake 5 = .ok (.aload_n 0, 1) := by decide +kernel
theorem dX3_shake_6 : decode cX3_shake 6 = .ok (.getfield 21, 3) := by decide +kernel
theorem dX3_shake_9 : decode cX3_shake 9 = .ok (.invokevirtual 133, 3) := by decide +kernel
theorem dX3_shake_12 : decode cX3_shake 12 = .ok (.iload_n 1, 1) := by decide +kernel
theorem dX3_shake_13 : decode cX3_shake 13 = .ok (.iconst 2, 1) := by decide +kernel
theorem dX3_shake_14 : decode cX3_shake 14 = .ok (.if_icmp .lt 17, 3) := by decide +kernel
theorem dX3_shake_17 : decode cX3_shake 17 = .ok (.aload_n 0, 1) := by decide +kernel
theorem dX3_shake_18 : decode cX3_shake 18 = .ok (.getfield 12, 3) := by decide +kernel
theorem dX3_shake_21 : decode cX3_shake 21 = .ok (.aload_n 0, 1) := by decide +kernel
theorem dX3_shake_22 : decode cX3_shake 22 = .ok (.getfield 12, 3) := by decide +kernel
theorem dX3_shake_25 : decode cX3_shake 25 = .ok (.invokevirtual 136, 3) := by decide +kernel
theorem dX3_shake_28 : decode cX3_shake 28 = .ok (.invokevirtual 140, 3) := by decide +kernel
theorem dX3_shake_31 : decode cX3_shake 31 = .ok (.iload_n 1, 1) := by decide +kernel
theorem dX3_shake_32 : decode cX3_shake 32 = .ok (.iconst 3, 1) := by decide +kernel
theorem dX3_shake_33 : decode cX3_shake 33 = .ok (.if_icmp .lt 11, 3) := by decide +kernel
theorem dX3_shake_36 : decode cX3_shake 36 = .ok (.aload_n 0, 1) := by decide +kernel
theorem dX3_shake_37 : decode cX3_shake 37 = .ok (.getfield 21, 3) := by decide +kernel
theorem dX3_shake_40 : decode cX3_shake 40 = .ok (.iconst 3, 1) := by decide +kernel
theorem dX3_shake_41 : decode cX3_shake 41 = .ok (.invokevirtual 143, 3) := by decide +kernel
theorem dX3_shake_44 : decode cX3_shake 44 = .ok (.return_, 1) := by decide +kernel
set_option maxRecDepth 20000 in
theorem ggX4_init_X1_init : GoodIn wsX4_init wsX1_init := goodIn_r _ [14, 15, 2, 3, 16, 17, 18, 55, 56] (by decide +kernel) (by decide +kernel)
set_option maxRecDepth 20000 in
theorem gX4_init_X1_init : GoodIn wsX4_init (wsX1_init) := ggX4_init_X1_init
set_option maxRecDepth 20000 in
theorem ggX4_init_X3_init : GoodIn wsX4_init wsX3_init := goodIn_r _ [21, 22, 2, 3, 23, 24, 25, 26, 27, 28, 29, 30, 31, 32, 33, 34, 35, 36, 16, 37, 38, 39, 40, 41, 42, 43, 44, 45, 46, 47, 48, 49, 50, 51, 52, 53, 54, 63, 64, 65, 66, 67, 68, 69, 70, 57, 58, 59, 60, 71, 72, 73, 74, 75, 76, 77, 78] (by decide +kernel) (by decide +kernel)
set_option maxRecDepth 20000 in
theorem gX4_init_X3_init : GoodIn wsX4_init (wsX3_init) := ggX4_init_X3_init
theorem dX4_init_0 : decode cX4_init 0 = .ok (.aload_n 0, 1) := by decide +kernel
theorem dX4_init_1 : decode cX4_init 1 = .ok (.invokespecial 3, 3) := by decide +kernel
theorem dX4_init_4 : decode cX4_init 4 = .ok (.new 9, 3) := by decide +kernel
theorem dX4_init_7 : decode cX4_init 7 = .ok (.dup, 1) := by decide +kernel
theorem dX4_init_8 : decode cX4_init 8 = .ok (.invokespecial 11, 3) := by decide +kernel
theorem dX4_init_11 : decode cX4_init 11 = .ok (.astore_n 1, 1) := by decide +kernel
theorem dX4_init_12 : decode cX4_init 12 = .ok (.aload_n 0, 1) := by decide +kernel
theorem dX4_init_13 : decode cX4_init 13 = .ok (.new 12, 3) := by decide +kernel
theorem dX4_init_16 : decode cX4_init 16 = .ok (.dup, 1) := by decide +kernel
theorem dX4_init_17 : decode cX4_init 17 = .ok (.aload_n 1, 1) := by decide +kernel
theorem dX4_init_18 : decode cX4_init 18 = .ok (.invokespecial 14, 3) := by decide +kernel
theorem dX4_init_21 : decode cX4_init 21 = .ok (.putfield 17, 3) := by decide +kernel
theorem dX4_init_24 : decode cX4_init 24 = .ok (.aload_n 0, 1) := by decide +kernel
theorem dX4_init_25 : decode cX4_init 25 = .ok (.new 12, 3) := by decide +kernel
theorem dX4_init_28 : decode cX4_init 28 = .ok (.dup, 1) := by decide +kernel
theorem dX4_init_29 : decode cX4_init 29 = .ok (.aload_n 1, 1) := by decide +kernel
theorem dX4_init_30 : decode cX4_init 30 = .ok (.invokespecial 14, 3) := by decide +kernel
theorem dX4_init_33 : decode cX4_init 33 = .ok (.putfield 21, 3) := by decide +kernel
theorem dX4_init_36 : decode cX4_init 36 = .ok (.return_, 1) := by decide +kernel
set_option maxRecDepth 20000 in
theorem ggX4_setStation_X4_checkIndex : GoodIn wsX4_setStation wsX4_checkIndex := goodIn_ca (goodIn_r _ [11, 12, 13] (by decide +kernel) (by decide +kernel)) (goodIn_sub (fun _ h => List.mem_cons_of_mem _ (List.mem_append_left _ (List.mem_append_right _ h))) (by decide +kernel))
set_option maxRecDepth 20000 in
theorem gX4_setStation_X4_checkIndex : GoodIn wsX4_setStation (va_wsS RX4 24 yX4_checkIndex wsX4_checkIndex) := goodIn_app (goodIn_of _ (by decide +kernel)) ggX4_setStation_X4_checkIndex
set_option maxRecDepth 20000 in
theorem ggX4_setStation_X4_checkArgument : GoodIn wsX4_setStation wsX4_checkArgument := goodIn_ca (goodIn_r _ [16, 17, 18] (by decide +kernel) (by decide +kernel)) (goodIn_sub (fun _ h => List.mem_cons_of_mem _ (List.mem_append_right _ h)) (by decide +kernel))
set_option maxRecDepth 20000 in
theorem gX4_setStation_X4_checkArgument : GoodIn wsX4_setStation (va_wsS RX4 28 yX4_checkArgument wsX4_checkArgument) := goodIn_app (goodIn_of _ (by decide +kernel)) ggX4_setStation_X4_checkArgument
set_option maxRecDepth 20000 in
theorem ggX4_setStation_X1_wouldRise : GoodIn wsX4_setStation wsX1_wouldRise := goodIn_r _ [23, 24, 31, 32] (by decide +kernel) (by decide +kernel)
set_option maxRecDepth 20000 in
theorem gX4_setStation_X1_wouldRise : GoodIn wsX4_setStation (wsV RX4 44 RX1 yX1_wouldRise wsX1_wouldRise) := goodIn_app (goodIn_of _ (by decide +kernel)) ggX4_setStation_X1_wouldRise
theorem dX4_setStation_0 : decode cX4_setStation 0 = .ok (.iload_n 1, 1) := by decide +kernel
theorem dX4_setStation_1 : decode cX4_setStation 1 = .ok (.bipush 8, 2) := by decide +kernel
theorem dX4_setStation_3 : decode cX4_setStation 3 = .ok (.invokestatic 24, 3) := by decide +kernel
theorem dX4_setStation_6 : decode cX4_setStation 6 = .ok (.iload_n 2, 1) := by decide +kernel
theorem dX4_setStation_7 : decode cX4_setStation 7 = .ok (.iconst 1, 1) := by decide +kernel
theorem dX4_setStation_8 : decode cX4_setStation 8 = .ok (.sipush 999, 3) := by decide +kernel
theorem dX4_setStation_11 : decode cX4_setStation 11 = .ok (.invokestatic 28, 3) := by decide +kernel
theorem dX4_setStation_14 : decode cX4_setStation 14 = .ok (.iload_n 3, 1) := by decide +kernel
theorem dX4_setStation_15 : decode cX4_setStation 15 = .ok (.iconst 0, 1) := by decide +kernel
theorem dX4_setStation_16 : decode cX4_setStation 16 = .ok (.iconst 3, 1) := by decide +kernel
theorem dX4_setStation_17 : decode cX4_setStation 17 = .ok (.invokestatic 28, 3) := by decide +kernel
theorem dX4_setStation_20 : decode cX4_setStation 20 = .ok (.aload_n 0, 1) := by decide +kernel
theorem dX4_setStation_21 : decode cX4_setStation 21 = .ok (.getfield 17, 3) := by decide +kernel
theorem dX4_setStation_24 : decode cX4_setStation 24 = .ok (.getfield 32, 3) := by decide +kernel
theorem dX4_setStation_27 : decode cX4_setStation 27 = .ok (.astore 4, 2) := by decide +kernel
theorem dX4_setStation_29 : decode cX4_setStation 29 = .ok (.aload_n 0, 1) := by decide +kernel
theorem dX4_setStation_30 : decode cX4_setStation 30 = .ok (.getfield 17, 3) := by decide +kernel
theorem dX4_setStation_33 : decode cX4_setStation 33 = .ok (.getfield 36, 3) := by decide +kernel
theorem dX4_setStation_36 : decode cX4_setStation 36 = .ok (.aload 4, 2) := by decide +kernel
theorem dX4_setStation_38 : decode cX4_setStation 38 = .ok (.getfield 40, 3) := by decide +kernel
theorem dX4_setStation_41 : decode cX4_setStation 41 = .ok (.iload_n 1, 1) := by decide +kernel
theorem dX4_setStation_42 : decode cX4_setStation 42 = .ok (.iaload, 1) := by decide +kernel
theorem dX4_setStation_43 : decode cX4_setStation 43 = .ok (.if_icmp .gt 24, 3) := by decide +kernel
theorem dX4_setStation_46 : decode cX4_setStation 46 = .ok (.aload_n 0, 1) := by decide +kernel
theorem dX4_setStation_47 : decode cX4_setStation 47 = .ok (.getfield 17, 3) := by decide +kernel
theorem dX4_setStation_50 : decode cX4_setStation 50 = .ok (.getfield 36, 3) := by decide +kernel
theorem dX4_setStation_53 : decode cX4_setStation 53 = .ok (.iload_n 2, 1) := by decide +kernel
theorem dX4_setStation_54 : decode cX4_setStation 54 = .ok (.if_icmp .gt 13, 3) := by decide +kernel
theorem dX4_setStation_57 : decode cX4_setStation 57 = .ok (.aload 4, 2) := by decide +kernel
theorem dX4_setStation_59 : decode cX4_setStation 59 = .ok (.iload_n 1, 1) := by decide +kernel
theorem dX4_setStation_60 : decode cX4_setStation 60 = .ok (.iload_n 2, 1) := by decide +kernel
theorem dX4_setStation_61 : decode cX4_setStation 61 = .ok (.invokevirtual 44, 3) := by decide +kernel
theorem dX4_setStation_64 : decode cX4_setStation 64 = .ok (.ifCond .ne 13, 3) := by decide +kernel
theorem dX4_setStation_67 : decode cX4_setStation 67 = .ok (.new 48, 3) := by decide +kernel
theorem dX4_setStation_70 : decode cX4_setStation 70 = .ok (.dup, 1) := by decide +kernel
theorem dX4_setStation_71 : decode cX4_setStation 71 = .ok (.ldc 50, 2) := by decide +kernel
theorem dX4_setStation_73 : decode cX4_setStation 73 = .ok (.invokespecial 52, 3) := by decide +kernel
theorem dX4_setStation_76 : decode cX4_setStation 76 = .ok (.athrow, 1) := by decide +kernel
theorem dX4_setStation_77 : decode cX4_setStation 77 = .ok (.bipush 10, 2) := by decide +kernel
theorem dX4_setStation_79 : decode cX4_setStation 79 = .ok (.aload 4, 2) := by decide +kernel
theorem dX4_setStation_81 : decode cX4_setStation 81 = .ok (.getfield 40, 3) := by decide +kernel
theorem dX4_setStation_84 : decode cX4_setStation 84 = .ok (.iload_n 1, 1) := by decide +kernel
theorem dX4_setStation_85 : decode cX4_setStation 85 = .ok (.iaload, 1) := by decide +kernel
theorem dX4_setStation_86 : decode cX4_setStation 86 = .ok (.imul, 1) := by decide +kernel
theorem dX4_setStation_87 : decode cX4_setStation 87 = .ok (.aload 4, 2) := by decide +kernel
theorem dX4_setStation_89 : decode cX4_setStation 89 = .ok (.getfield 55, 3) := by decide +kernel
theorem dX4_setStation_92 : decode cX4_setStation 92 = .ok (.iload_n 1, 1) := by decide +kernel
theorem dX4_setStation_93 : decode cX4_setStation 93 = .ok (.iaload, 1) := by decide +kernel
theorem dX4_setStation_94 : decode cX4_setStation 94 = .ok (.iadd, 1) := by decide +kernel
theorem dX4_setStation_95 : decode cX4_setStation 95 = .ok (.istore 5, 2) := by decide +kernel
theorem dX4_setStation_97 : decode cX4_setStation 97 = .ok (.aload 4, 2) := by decide +kernel
theorem dX4_setStation_99 : decode cX4_setStation 99 = .ok (.getfield 40, 3) := by decide +kernel
theorem dX4_setStation_102 : decode cX4_setStation 102 = .ok (.iload_n 1, 1) := by decide +kernel
theorem dX4_setStation_103 : decode cX4_setStation 103 = .ok (.iload_n 2, 1) := by decide +kernel
theorem dX4_setStation_104 : decode cX4_setStation 104 = .ok (.iastore, 1) := by decide +kernel
theorem dX4_setStation_105 : decode cX4_setStation 105 = .ok (.aload 4, 2) := by decide +kernel
theorem dX4_setStation_107 : decode cX4_setStation 107 = .ok (.getfield 55, 3) := by decide +kernel
theorem dX4_setStation_110 : decode cX4_setStation 110 = .ok (.iload_n 1, 1) := by decide +kernel
theorem dX4_setStation_111 : decode cX4_setStation 111 = .ok (.iload_n 3, 1) := by decide +kernel
theorem dX4_setStation_112 : decode cX4_setStation 112 = .ok (.iastore, 1) := by decide +kernel
theorem dX4_setStation_113 : decode cX4_setStation 113 = .ok (.iload 5, 2) := by decide +kernel
theorem dX4_setStation_115 : decode cX4_setStation 115 = .ok (.ireturn, 1) := by decide +kernel
set_option maxRecDepth 20000 in
theorem ggX4_post_X4_checkIndex : GoodIn wsX4_post wsX4_checkIndex := goodIn_ca (goodIn_r _ [9, 10, 11] (by decide +kernel) (by decide +kernel)) (goodIn_sub (fun _ h => List.mem_cons_of_mem _ (List.mem_append_right _ h)) (by decide +kernel))
set_option maxRecDepth 20000 in
theorem gX4_post_X4_checkIndex : GoodIn wsX4_post (va_wsS RX4 24 yX4_checkIndex wsX4_checkIndex) := goodIn_app (goodIn_of _ (by decide +kernel)) ggX4_post_X4_checkIndex
set_option maxRecDepth 20000 in
theorem ggX4_post_X2_addToBag : GoodIn wsX4_post wsX2_addToBag := goodIn_r _ [16, 17, 18, 19, 20, 21, 22, 23, 30, 31, 32, 33, 34, 35, 36, 37] (by decide +kernel) (by decide +kernel)
set_option maxRecDepth 20000 in
theorem gX4_post_X2_addToBag : GoodIn wsX4_post (wsV RX4 69 RX2 yX2_addToBag wsX2_addToBag) := goodIn_app (goodIn_of _ (by decide +kernel)) ggX4_post_X2_addToBag
theorem dX4_post_0 : decode cX4_post 0 = .ok (.iload_n 1, 1) := by decide +kernel
theorem dX4_post_1 : decode cX4_post 1 = .ok (.bipush 8, 2) := by decide +kernel
theorem dX4_post_3 : decode cX4_post 3 = .ok (.invokestatic 24, 3) := by decide +kernel
theorem dX4_post_6 : decode cX4_post 6 = .ok (.iload_n 2, 1) := by decide +kernel
theorem dX4_post_7 : decode cX4_post 7 = .ok (.bipush 16, 2) := by decide +kernel
theorem dX4_post_9 : decode cX4_post 9 = .ok (.invokestatic 24, 3) := by decide +kernel
theorem dX4_post_12 : decode cX4_post 12 = .ok (.aload_n 0, 1) := by decide +kernel
theorem dX4_post_13 : decode cX4_post 13 = .ok (.getfield 17, 3) := by decide +kernel
theorem dX4_post_16 : decode cX4_post 16 = .ok (.getfield 58, 3) := by decide +kernel
theorem dX4_post_19 : decode cX4_post 19 = .ok (.getfield 62, 3) := by decide +kernel
theorem dX4_post_22 : decode cX4_post 22 = .ok (.bipush 60, 2) := by decide +kernel
theorem dX4_post_24 : decode cX4_post 24 = .ok (.if_icmp .lt 13, 3) := by decide +kernel
theorem dX4_post_27 : decode cX4_post 27 = .ok (.new 48, 3) := by decide +kernel
theorem dX4_post_30 : decode cX4_post 30 = .ok (.dup, 1) := by decide +kernel
theorem dX4_post_31 : decode cX4_post 31 = .ok (.ldc 67, 2) := by decide +kernel
theorem dX4_post_33 : decode cX4_post 33 = .ok (.invokespecial 52, 3) := by decide +kernel
theorem dX4_post_36 : decode cX4_post 36 = .ok (.athrow, 1) := by decide +kernel
theorem dX4_post_37 : decode cX4_post 37 = .ok (.aload_n 0, 1) := by decide +kernel
theorem dX4_post_38 : decode cX4_post 38 = .ok (.getfield 17, 3) := by decide +kernel
theorem dX4_post_41 : decode cX4_post 41 = .ok (.getfield 58, 3) := by decide +kernel
theorem dX4_post_44 : decode cX4_post 44 = .ok (.iload_n 1, 1) := by decide +kernel
theorem dX4_post_45 : decode cX4_post 45 = .ok (.iload_n 2, 1) := by decide +kernel
theorem dX4_post_46 : decode cX4_post 46 = .ok (.invokevirtual 69, 3) := by decide +kernel
theorem dX4_post_49 : decode cX4_post 49 = .ok (.ireturn, 1) := by decide +kernel
set_option maxRecDepth 20000 in
theorem ggX4_hire_X4_checkArgument : GoodIn wsX4_hire wsX4_checkArgument := goodIn_ca (goodIn_r _ [10, 11, 12] (by decide +kernel) (by decide +kernel)) (goodIn_sub (fun _ h => List.mem_cons_of_mem _ (List.mem_append_right _ h)) (by decide +kernel))
set_option maxRecDepth 20000 in
theorem gX4_hire_X4_checkArgument : GoodIn wsX4_hire (va_wsS RX4 28 yX4_checkArgument wsX4_checkArgument) := goodIn_app (goodIn_of _ (by decide +kernel)) ggX4_hire_X4_checkArgument
set_option maxRecDepth 20000 in
theorem ggX4_hire_X0_add : GoodIn wsX4_hire wsX0_add := goodIn_r _ [17, 18, 19, 20, 21, 28, 29, 30, 31, 32, 33, 34, 35] (by decide +kernel) (by decide +kernel)
set_option maxRecDepth 20000 in
theorem gX4_hire_X0_add : GoodIn wsX4_hire (wsV RX4 83 RX0 yX0_add wsX0_add) := goodIn_app (goodIn_of _ (by decide +kernel)) ggX4_hire_X0_add
theorem dX4_hire_0 : decode cX4_hire 0 = .ok (.iload_n 1, 1) := by decide +kernel
theorem dX4_hire_1 : decode cX4_hire 1 = .ok (.iconst 1, 1) := by decide +kernel
theorem dX4_hire_2 : decode cX4_hire 2 = .ok (.bipush 9, 2) := by decide +kernel
theorem dX4_hire_4 : decode cX4_hire 4 = .ok (.invokestatic 28, 3) := by decide +kernel
theorem dX4_hire_7 : decode cX4_hire 7 = .ok (.iload_n 2, 1) := by decide +kernel
theorem dX4_hire_8 : decode cX4_hire 8 = .ok (.iconst 0, 1) := by decide +kernel
theorem dX4_hire_9 : decode cX4_hire 9 = .ok (.ldc 73, 2) := by decide +kernel
theorem dX4_hire_11 : decode cX4_hire 11 = .ok (.invokestatic 28, 3) := by decide +kernel
theorem dX4_hire_14 : decode cX4_hire 14 = .ok (.aload_n 0, 1) := by decide +kernel
theorem dX4_hire_15 : decode cX4_hire 15 = .ok (.getfield 17, 3) := by decide +kernel
theorem dX4_hire_18 : decode cX4_hire 18 = .ok (.getfield 74, 3) := by decide +kernel
theorem dX4_hire_21 : decode cX4_hire 21 = .ok (.getfield 78, 3) := by decide +kernel
theorem dX4_hire_24 : decode cX4_hire 24 = .ok (.iconst 4, 1) := by decide +kernel
theorem dX4_hire_25 : decode cX4_hire 25 = .ok (.if_icmp .lt 13, 3) := by decide +kernel
theorem dX4_hire_28 : decode cX4_hire 28 = .ok (.new 48, 3) := by decide +kernel
theorem dX4_hire_31 : decode cX4_hire 31 = .ok (.dup, 1) := by decide +kernel
theorem dX4_hire_32 : decode cX4_hire 32 = .ok (.ldc 81, 2) := by decide +kernel
theorem dX4_hire_34 : decode cX4_hire 34 = .ok (.invokespecial 52, 3) := by decide +kernel
theorem dX4_hire_37 : decode cX4_hire 37 = .ok (.athrow, 1) := by decide +kernel
theorem dX4_hire_38 : decode cX4_hire 38 = .ok (.aload_n 0, 1) := by decide +kernel
theorem dX4_hire_39 : decode cX4_hire 39 = .ok (.getfield 17, 3) := by decide +kernel
theorem dX4_hire_42 : decode cX4_hire 42 = .ok (.getfield 74, 3) := by decide +kernel
theorem dX4_hire_45 : decode cX4_hire 45 = .ok (.iload_n 1, 1) := by decide +kernel
theorem dX4_hire_46 : decode cX4_hire 46 = .ok (.iload_n 2, 1) := by decide +kernel
theorem dX4_hire_47 : decode cX4_hire 47 = .ok (.invokevirtual 83, 3) := by decide +kernel
theorem dX4_hire_50 : decode cX4_hire 50 = .ok (.ireturn, 1) := by decide +kernel
set_option maxRecDepth 20000 in
theorem ggX4_assign_X4_checkIndex : GoodIn wsX4_assign wsX4_checkIndex := goodIn_ca (goodIn_r _ [9, 10, 11] (by decide +kernel) (by decide +kernel)) (goodIn_sub (fun _ h => List.mem_cons_of_mem _ (List.mem_append_left _ (List.mem_append_right _ h))) (by decide +kernel))
set_option maxRecDepth 20000 in
theorem gX4_assign_X4_checkIndex : GoodIn wsX4_assign (va_wsS RX4 24 yX4_checkIndex wsX4_checkIndex) := goodIn_app (goodIn_of _ (by decide +kernel)) ggX4_assign_X4_checkIndex
set_option maxRecDepth 20000 in
theorem ggX4_assign_X4_checkArgument : GoodIn wsX4_assign wsX4_checkArgument := goodIn_ca (goodIn_r _ [14, 15, 16] (by decide +kernel) (by decide +kernel)) (goodIn_sub (fun _ h => List.mem_cons_of_mem _ (List.mem_append_right _ h)) (by decide +kernel))
set_option maxRecDepth 20000 in
theorem gX4_assign_X4_checkArgument : GoodIn wsX4_assign (va_wsS RX4 28 yX4_checkArgument wsX4_checkArgument) := goodIn_app (goodIn_of _ (by decide +kernel)) ggX4_assign_X4_checkArgument
theorem dX4_assign_0 : decode cX4_assign 0 = .ok (.iload_n 1, 1) := by decide +kernel
theorem dX4_assign_1 : decode cX4_assign 1 = .ok (.aload_n 0, 1) := by decide +kernel
theorem dX4_assign_2 : decode cX4_assign 2 = .ok (.getfield 17, 3) := by decide +kernel
theorem dX4_assign_5 : decode cX4_assign 5 = .ok (.getfield 74, 3) := by decide +kernel
theorem dX4_assign_8 : decode cX4_assign 8 = .ok (.getfield 78, 3) := by decide +kernel
theorem dX4_assign_11 : decode cX4_assign 11 = .ok (.invokestatic 24, 3) := by decide +kernel
theorem dX4_assign_14 : decode cX4_assign 14 = .ok (.iload_n 2, 1) := by decide +kernel
theorem dX4_assign_15 : decode cX4_assign 15 = .ok (.iconst 0, 1) := by decide +kernel
theorem dX4_assign_16 : decode cX4_assign 16 = .ok (.ldc 73, 2) := by decide +kernel
theorem dX4_assign_18 : decode cX4_assign 18 = .ok (.invokestatic 28, 3) := by decide +kernel
theorem dX4_assign_21 : decode cX4_assign 21 = .ok (.aload_n 0, 1) := by decide +kernel
theorem dX4_assign_22 : decode cX4_assign 22 = .ok (.getfield 17, 3) := by decide +kernel
theorem dX4_assign_25 : decode cX4_assign 25 = .ok (.getfield 74, 3) := by decide +kernel
theorem dX4_assign_28 : decode cX4_assign 28 = .ok (.getfield 86, 3) := by decide +kernel
theorem dX4_assign_31 : decode cX4_assign 31 = .ok (.iload_n 1, 1) := by decide +kernel
theorem dX4_assign_32 : decode cX4_assign 32 = .ok (.iaload, 1) := by decide +kernel
theorem dX4_assign_33 : decode cX4_assign 33 = .ok (.istore_n 3, 1) := by decide +kernel
theorem dX4_assign_34 : decode cX4_assign 34 = .ok (.aload_n 0, 1) := by decide +kernel
theorem dX4_assign_35 : decode cX4_assign 35 = .ok (.getfield 17, 3) := by decide +kernel
theorem dX4_assign_38 : decode cX4_assign 38 = .ok (.getfield 74, 3) := by decide +kernel
theorem dX4_assign_41 : decode cX4_assign 41 = .ok (.getfield 86, 3) := by decide +kernel
theorem dX4_assign_44 : decode cX4_assign 44 = .ok (.iload_n 1, 1) := by decide +kernel
theorem dX4_assign_45 : decode cX4_assign 45 = .ok (.iload_n 2, 1) := by decide +kernel
theorem dX4_assign_46 : decode cX4_assign 46 = .ok (.iastore, 1) := by decide +kernel
theorem dX4_assign_47 : decode cX4_assign 47 = .ok (.iload_n 3, 1) := by decide +kernel
theorem dX4_assign_48 : decode cX4_assign 48 = .ok (.ireturn, 1) := by decide +kernel
set_option maxRecDepth 20000 in
theorem ggX4_tea_X4_checkIndex : GoodIn wsX4_tea wsX4_checkIndex := goodIn_ca (goodIn_r _ [9, 10, 11] (by decide +kernel) (by decide +kernel)) (goodIn_sub (fun _ h => List.mem_cons_of_mem _ (List.mem_append_right _ h)) (by decide +kernel))
set_option maxRecDepth 20000 in
theorem gX4_tea_X4_checkIndex : GoodIn wsX4_tea (va_wsS RX4 24 yX4_checkIndex wsX4_checkIndex) := goodIn_app (goodIn_of _ (by decide +kernel)) ggX4_tea_X4_checkIndex
theorem dX4_tea_0 : decode cX4_tea 0 = .ok (.iload_n 1, 1) := by decide +kernel
theorem dX4_tea_1 : decode cX4_tea 1 = .ok (.aload_n 0, 1) := by decide +kernel
theorem dX4_tea_2 : decode cX4_tea 2 = .ok (.getfield 17, 3) := by decide +kernel
theorem dX4_tea_5 : decode cX4_tea 5 = .ok (.getfield 74, 3) := by decide +kernel
theorem dX4_tea_8 : decode cX4_tea 8 = .ok (.getfield 78, 3) := by decide +kernel
theorem dX4_tea_11 : decode cX4_tea 11 = .ok (.invokestatic 24, 3) := by decide +kernel
theorem dX4_tea_14 : decode cX4_tea 14 = .ok (.aload_n 0, 1) := by decide +kernel
theorem dX4_tea_15 : decode cX4_tea 15 = .ok (.getfield 17, 3) := by decide +kernel
theorem dX4_tea_18 : decode cX4_tea 18 = .ok (.getfield 74, 3) := by decide +kernel
theorem dX4_tea_21 : decode cX4_tea 21 = .ok (.getfield 89, 3) := by decide +kernel
theorem dX4_tea_24 : decode cX4_tea 24 = .ok (.iload_n 1, 1) := by decide +kernel
theorem dX4_tea_25 : decode cX4_tea 25 = .ok (.iaload, 1) := by decide +kernel
theorem dX4_tea_26 : decode cX4_tea 26 = .ok (.istore_n 2, 1) := by decide +kernel
theorem dX4_tea_27 : decode cX4_tea 27 = .ok (.aload_n 0, 1) := by decide +kernel
theorem dX4_tea_28 : decode cX4_tea 28 = .ok (.getfield 17, 3) := by decide +kernel
theorem dX4_tea_31 : decode cX4_tea 31 = .ok (.getfield 74, 3) := by decide +kernel
theorem dX4_tea_34 : decode cX4_tea 34 = .ok (.getfield 89, 3) := by decide +kernel
theorem dX4_tea_37 : decode cX4_tea 37 = .ok (.iload_n 1, 1) := by decide +kernel
theorem dX4_tea_38 : decode cX4_tea 38 = .ok (.iconst 0, 1) := by decide +kernel
theorem dX4_tea_39 : decode cX4_tea 39 = .ok (.iastore, 1) := by decide +kernel
theorem dX4_tea_40 : decode cX4_tea 40 = .ok (.aload_n 0, 1) := by decide +kernel
theorem dX4_tea_41 : decode cX4_tea 41 = .ok (.getfield 17, 3) := by decide +kernel
theorem dX4_tea_44 : decode cX4_tea 44 = .ok (.getfield 74, 3) := by decide +kernel
theorem dX4_tea_47 : decode cX4_tea 47 = .ok (.getfield 92, 3) := by decide +kernel
theorem dX4_tea_50 : decode cX4_tea 50 = .ok (.iload_n 1, 1) := by decide +kernel
theorem dX4_tea_51 : decode cX4_tea 51 = .ok (.iconst 1, 1) := by decide +kernel
theorem dX4_tea_52 : decode cX4_tea 52 = .ok (.iastore, 1) := by decide +kernel
theorem dX4_tea_53 : decode cX4_tea 53 = .ok (.iload_n 2, 1) := by decide +kernel
theorem dX4_tea_54 : decode cX4_tea 54 = .ok (.ireturn, 1) := by decide +kernel
set_option maxRecDepth 20000 in
theorem ggX4_letter_X4_checkIndex : GoodIn wsX4_letter wsX4_checkIndex := goodIn_ca (goodIn_r _ [7, 8, 9] (by decide +kernel) (by decide +kernel)) (goodIn_sub (fun _ h => List.mem_cons_of_mem _ (List.mem_append_right _ h)) (by decide +kernel))
set_option maxRecDepth 20000 in
theorem gX4_letter_X4_checkIndex : GoodIn wsX4_letter (va_wsS RX4 24 yX4_checkIndex wsX4_checkIndex) := goodIn_app (goodIn_of _ (by decide +kernel)) ggX4_letter_X4_checkIndex
set_option maxRecDepth 20000 in
theorem ggX4_letter_X2_fact : GoodIn wsX4_letter wsX2_fact := goodIn_r _ [14, 15, 16, 17, 18, 19, 26, 27, 28, 29, 30, 31, 32, 33] (by decide +kernel) (by decide +kernel)
set_option maxRecDepth 20000 in
theorem gX4_letter_X2_fact : GoodIn wsX4_letter (wsV RX4 95 RX2 yX2_fact wsX2_fact) := goodIn_app (goodIn_of _ (by decide +kernel)) ggX4_letter_X2_fact
theorem dX4_letter_0 : decode cX4_letter 0 = .ok (.iload_n 1, 1) := by decide +kernel
theorem dX4_letter_1 : decode cX4_letter 1 = .ok (.aload_n 0, 1) := by decide +kernel
theorem dX4_letter_2 : decode cX4_letter 2 = .ok (.getfield 17, 3) := by decide +kernel
theorem dX4_letter_5 : decode cX4_letter 5 = .ok (.getfield 58, 3) := by decide +kernel
theorem dX4_letter_8 : decode cX4_letter 8 = .ok (.getfield 62, 3) := by decide +kernel
theorem dX4_letter_11 : decode cX4_letter 11 = .ok (.invokestatic 24, 3) := by decide +kernel
theorem dX4_letter_14 : decode cX4_letter 14 = .ok (.iload_n 2, 1) := by decide +kernel
theorem dX4_letter_15 : decode cX4_letter 15 = .ok (.iconst 5, 1) := by decide +kernel
theorem dX4_letter_16 : decode cX4_letter 16 = .ok (.invokestatic 24, 3) := by decide +kernel
theorem dX4_letter_19 : decode cX4_letter 19 = .ok (.aload_n 0, 1) := by decide +kernel
theorem dX4_letter_20 : decode cX4_letter 20 = .ok (.getfield 17, 3) := by decide +kernel
theorem dX4_letter_23 : decode cX4_letter 23 = .ok (.getfield 58, 3) := by decide +kernel
theorem dX4_letter_26 : decode cX4_letter 26 = .ok (.iload_n 1, 1) := by decide +kernel
theorem dX4_letter_27 : decode cX4_letter 27 = .ok (.iload_n 2, 1) := by decide +kernel
theorem dX4_letter_28 : decode cX4_letter 28 = .ok (.invokevirtual 95, 3) := by decide +kernel
theorem dX4_letter_31 : decode cX4_letter 31 = .ok (.ireturn, 1) := by decide +kernel
set_option maxRecDepth 20000 in
theorem ggX4_sorter_X4_checkIndex : GoodIn wsX4_sorter wsX4_checkIndex := goodIn_ca (goodIn_r _ [7, 8, 9] (by decide +kernel) (by decide +kernel)) (goodIn_sub (fun _ h => List.mem_cons_of_mem _ (List.mem_append_right _ h)) (by decide +kernel))
set_option maxRecDepth 20000 in
theorem gX4_sorter_X4_checkIndex : GoodIn wsX4_sorter (va_wsS RX4 24 yX4_checkIndex wsX4_checkIndex) := goodIn_app (goodIn_of _ (by decide +kernel)) ggX4_sorter_X4_checkIndex
set_option maxRecDepth 20000 in
theorem ggX4_sorter_X0_fact : GoodIn wsX4_sorter wsX0_fact := goodIn_r _ [14, 15, 16, 17, 18, 19, 20, 21, 28, 29, 30, 31, 32, 33, 34, 35] (by decide +kernel) (by decide +kernel)
set_option maxRecDepth 20000 in
theorem gX4_sorter_X0_fact : GoodIn wsX4_sorter (wsV RX4 98 RX0 yX0_fact wsX0_fact) := goodIn_app (goodIn_of _ (by decide +kernel)) ggX4_sorter_X0_fact
theorem dX4_sorter_0 : decode cX4_sorter 0 = .ok (.iload_n 1, 1) := by decide +kernel
theorem dX4_sorter_1 : decode cX4_sorter 1 = .ok (.aload_n 0, 1) := by decide +kernel
theorem dX4_sorter_2 : decode cX4_sorter 2 = .ok (.getfield 17, 3) := by decide +kernel
theorem dX4_sorter_5 : decode cX4_sorter 5 = .ok (.getfield 74, 3) := by decide +kernel
theorem dX4_sorter_8 : decode cX4_sorter 8 = .ok (.getfield 78, 3) := by decide +kernel
theorem dX4_sorter_11 : decode cX4_sorter 11 = .ok (.invokestatic 24, 3) := by decide +kernel
theorem dX4_sorter_14 : decode cX4_sorter 14 = .ok (.iload_n 2, 1) := by decide +kernel
theorem dX4_sorter_15 : decode cX4_sorter 15 = .ok (.bipush 7, 2) := by decide +kernel
theorem dX4_sorter_17 : decode cX4_sorter 17 = .ok (.invokestatic 24, 3) := by decide +kernel
theorem dX4_sorter_20 : decode cX4_sorter 20 = .ok (.aload_n 0, 1) := by decide +kernel
theorem dX4_sorter_21 : decode cX4_sorter 21 = .ok (.getfield 17, 3) := by decide +kernel
theorem dX4_sorter_24 : decode cX4_sorter 24 = .ok (.getfield 74, 3) := by decide +kernel
theorem dX4_sorter_27 : decode cX4_sorter 27 = .ok (.iload_n 1, 1) := by decide +kernel
theorem dX4_sorter_28 : decode cX4_sorter 28 = .ok (.iload_n 2, 1) := by decide +kernel
theorem dX4_sorter_29 : decode cX4_sorter 29 = .ok (.invokevirtual 98, 3) := by decide +kernel
theorem dX4_sorter_32 : decode cX4_sorter 32 = .ok (.ireturn, 1) := by decide +kernel
set_option maxRecDepth 20000 in
theorem ggX4_hole_X4_checkIndex : GoodIn wsX4_hole wsX4_checkIndex := goodIn_ca (goodIn_r _ [7, 8, 9] (by decide +kernel) (by decide +kernel)) (goodIn_sub (fun _ h => List.mem_cons_of_mem _ (List.mem_append_right _ h)) (by decide +kernel))
set_option maxRecDepth 20000 in
theorem gX4_hole_X4_checkIndex : GoodIn wsX4_hole (va_wsS RX4 24 yX4_checkIndex wsX4_checkIndex) := goodIn_app (goodIn_of _ (by decide +kernel)) ggX4_hole_X4_checkIndex
theorem dX4_hole_0 : decode cX4_hole 0 = .ok (.iload_n 1, 1) := by decide +kernel
theorem dX4_hole_1 : decode cX4_hole 1 = .ok (.bipush 16, 2) := by decide +kernel
theorem dX4_hole_3 : decode cX4_hole 3 = .ok (.invokestatic 24, 3) := by decide +kernel
theorem dX4_hole_6 : decode cX4_hole 6 = .ok (.aload_n 0, 1) := by decide +kernel
theorem dX4_hole_7 : decode cX4_hole 7 = .ok (.getfield 17, 3) := by decide +kernel
theorem dX4_hole_10 : decode cX4_hole 10 = .ok (.getfield 58, 3) := by decide +kernel
theorem dX4_hole_13 : decode cX4_hole 13 = .ok (.getfield 99, 3) := by decide +kernel
theorem dX4_hole_16 : decode cX4_hole 16 = .ok (.iload_n 1, 1) := by decide +kernel
theorem dX4_hole_17 : decode cX4_hole 17 = .ok (.iaload, 1) := by decide +kernel
theorem dX4_hole_18 : decode cX4_hole 18 = .ok (.ireturn, 1) := by decide +kernel
set_option maxRecDepth 20000 in
theorem ggX4_station_X4_checkIndex : GoodIn wsX4_station wsX4_checkIndex := goodIn_ca (goodIn_r _ [9, 10, 11] (by decide +kernel) (by decide +kernel)) (goodIn_sub (fun _ h => List.mem_cons_of_mem _ (List.mem_append_right _ h)) (by decide +kernel))
set_option maxRecDepth 20000 in
theorem gX4_station_X4_checkIndex : GoodIn wsX4_station (va_wsS RX4 24 yX4_checkIndex wsX4_checkIndex) := goodIn_app (goodIn_of _ (by decide +kernel)) ggX4_station_X4_checkIndex
set_option maxRecDepth 20000 in
theorem ggX4_station_X2_lettersInBag : GoodIn wsX4_station wsX2_lettersInBag := goodIn_r _ [16, 17, 18, 19, 20, 15, 21, 22, 23, 32, 33, 34, 35, 36, 37, 38, 39] (by decide +kernel) (by decide +kernel)
set_option maxRecDepth 20000 in
theorem gX4_station_X2_lettersInBag : GoodIn wsX4_station (wsV RX4 102 RX2 yX2_lettersInBag wsX2_lettersInBag) := goodIn_app (goodIn_of _ (by decide +kernel)) ggX4_station_X2_lettersInBag
theorem dX4_station_0 : decode cX4_station 0 = .ok (.iload_n 1, 1) := by decide +kernel
theorem dX4_station_1 : decode cX4_station 1 = .ok (.bipush 8, 2) := by decide +kernel
theorem dX4_station_3 : decode cX4_station 3 = .ok (.invokestatic 24, 3) := by decide +kernel
theorem dX4_station_6 : decode cX4_station 6 = .ok (.iload_n 2, 1) := by decide +kernel
theorem dX4_station_7 : decode cX4_station 7 = .ok (.iconst 3, 1) := by decide +kernel
theorem dX4_station_8 : decode cX4_station 8 = .ok (.invokestatic 24, 3) := by decide +kernel
theorem dX4_station_11 : decode cX4_station 11 = .ok (.iload_n 2, 1) := by decide +kernel
theorem dX4_station_12 : decode cX4_station 12 = .ok (.lookupswitch 54 #[(0, 28), (1, 41)], 28) := by decide +kernel
theorem dX4_station_40 : decode cX4_station 40 = .ok (.aload_n 0, 1) := by decide +kernel
theorem dX4_station_41 : decode cX4_station 41 = .ok (.getfield 17, 3) := by decide +kernel
theorem dX4_station_44 : decode cX4_station 44 = .ok (.getfield 32, 3) := by decide +kernel
theorem dX4_station_47 : decode cX4_station 47 = .ok (.getfield 40, 3) := by decide +kernel
theorem dX4_station_50 : decode cX4_station 50 = .ok (.iload_n 1, 1) := by decide +kernel
theorem dX4_station_51 : decode cX4_station 51 = .ok (.iaload, 1) := by decide +kernel
theorem dX4_station_52 : decode cX4_station 52 = .ok (.ireturn, 1) := by decide +kernel
theorem dX4_station_53 : decode cX4_station 53 = .ok (.aload_n 0, 1) := by decide +kernel
theorem dX4_station_54 : decode cX4_station 54 = .ok (.getfield 17, 3) := by decide +kernel
theorem dX4_station_57 : decode cX4_station 57 = .ok (.getfield 32, 3) := by decide +kernel
theorem dX4_station_60 : decode cX4_station 60 = .ok (.getfield 55, 3) := by decide +kernel
theorem dX4_station_63 : decode cX4_station 63 = .ok (.iload_n 1, 1) := by decide +kernel
theorem dX4_station_64 : decode cX4_station 64 = .ok (.iaload, 1) := by decide +kernel
theorem dX4_station_65 : decode cX4_station 65 = .ok (.ireturn, 1) := by decide +kernel
theorem dX4_station_66 : decode cX4_station 66 = .ok (.aload_n 0, 1) := by decide +kernel
theorem dX4_station_67 : decode cX4_station 67 = .ok (.getfield 17, 3) := by decide +kernel
theorem dX4_station_70 : decode cX4_station 70 = .ok (.getfield 58, 3) := by decide +kernel
theorem dX4_station_73 : decode cX4_station 73 = .ok (.iload_n 1, 1) := by decide +kernel
theorem dX4_station_74 : decode cX4_station 74 = .ok (.invokevirtual 102, 3) := by decide +kernel
theorem dX4_station_77 : decode cX4_station 77 = .ok (.ireturn, 1) := by decide +kernel
set_option maxRecDepth 20000 in
theorem ggX4_count_X4_checkIndex : GoodIn wsX4_count wsX4_checkIndex := goodIn_ca (goodIn_r _ [12, 13, 14] (by decide +kernel) (by decide +kernel)) (goodIn_sub (fun _ h => List.mem_cons_of_mem _ (List.mem_append_right _ h)) (by decide +kernel))
set_option maxRecDepth 20000 in
theorem gX4_count_X4_checkIndex : GoodIn wsX4_count (va_wsS RX4 24 yX4_checkIndex wsX4_checkIndex) := goodIn_app (goodIn_of _ (by decide +kernel)) ggX4_count_X4_checkIndex
set_option maxRecDepth 20000 in
theorem ggX4_count_X1_nextFrom : GoodIn wsX4_count wsX1_nextFrom := goodIn_r _ [19, 20, 43, 44] (by decide +kernel) (by decide +kernel)
set_option maxRecDepth 20000 in
theorem gX4_count_X1_nextFrom : GoodIn wsX4_count (wsV RX4 106 RX1 yX1_nextFrom wsX1_nextFrom) := goodIn_app (goodIn_of _ (by decide +kernel)) ggX4_count_X1_nextFrom
theorem dX4_count_0 : decode cX4_count 0 = .ok (.iload_n 1, 1) := by decide +kernel
theorem dX4_count_1 : decode cX4_count 1 = .ok (.bipush 10, 2) := by decide +kernel
theorem dX4_count_3 : decode cX4_count 3 = .ok (.invokestatic 24, 3) := by decide +kernel
theorem dX4_count_6 : decode cX4_count 6 = .ok (.iload_n 1, 1) := by decide +kernel
theorem dX4_count_7 : decode cX4_count 7 = .ok (.tableswitch 101 0 9 #[53, 61, 72, 101, 101, 101, 101, 101, 101, 83], 53) := by decide +kernel
theorem dX4_count_60 : decode cX4_count 60 = .ok (.aload_n 0, 1) := by decide +kernel
theorem dX4_count_61 : decode cX4_count 61 = .ok (.getfield 17, 3) := by decide +kernel
theorem dX4_count_64 : decode cX4_count 64 = .ok (.getfield 36, 3) := by decide +kernel
theorem dX4_count_67 : decode cX4_count 67 = .ok (.ireturn, 1) := by decide +kernel
theorem dX4_count_68 : decode cX4_count 68 = .ok (.aload_n 0, 1) := by decide +kernel
theorem dX4_count_69 : decode cX4_count 69 = .ok (.getfield 17, 3) := by decide +kernel
theorem dX4_count_72 : decode cX4_count 72 = .ok (.getfield 58, 3) := by decide +kernel
theorem dX4_count_75 : decode cX4_count 75 = .ok (.getfield 62, 3) := by decide +kernel
theorem dX4_count_78 : decode cX4_count 78 = .ok (.ireturn, 1) := by decide +kernel
theorem dX4_count_79 : decode cX4_count 79 = .ok (.aload_n 0, 1) := by decide +kernel
theorem dX4_count_80 : decode cX4_count 80 = .ok (.getfield 17, 3) := by decide +kernel
theorem dX4_count_83 : decode cX4_count 83 = .ok (.getfield 74, 3) := by decide +kernel
theorem dX4_count_86 : decode cX4_count 86 = .ok (.getfield 78, 3) := by decide +kernel
theorem dX4_count_89 : decode cX4_count 89 = .ok (.ireturn, 1) := by decide +kernel
theorem dX4_count_90 : decode cX4_count 90 = .ok (.aload_n 0, 1) := by decide +kernel
theorem dX4_count_91 : decode cX4_count 91 = .ok (.getfield 17, 3) := by decide +kernel
theorem dX4_count_94 : decode cX4_count 94 = .ok (.getfield 32, 3) := by decide +kernel
theorem dX4_count_97 : decode cX4_count 97 = .ok (.aload_n 0, 1) := by decide +kernel
theorem dX4_count_98 : decode cX4_count 98 = .ok (.getfield 17, 3) := by decide +kernel
theorem dX4_count_101 : decode cX4_count 101 = .ok (.getfield 36, 3) := by decide +kernel
theorem dX4_count_104 : decode cX4_count 104 = .ok (.invokevirtual 106, 3) := by decide +kernel
theorem dX4_count_107 : decode cX4_count 107 = .ok (.ireturn, 1) := by decide +kernel
theorem dX4_count_108 : decode cX4_count 108 = .ok (.aload_n 0, 1) := by decide +kernel
theorem dX4_count_109 : decode cX4_count 109 = .ok (.getfield 17, 3) := by decide +kernel
theorem dX4_count_112 : decode cX4_count 112 = .ok (.getfield 58, 3) := by decide +kernel
theorem dX4_count_115 : decode cX4_count 115 = .ok (.getfield 109, 3) := by decide +kernel
theorem dX4_count_118 : decode cX4_count 118 = .ok (.iload_n 1, 1) := by decide +kernel
theorem dX4_count_119 : decode cX4_count 119 = .ok (.iconst 3, 1) := by decide +kernel
theorem dX4_count_120 : decode cX4_count 120 = .ok (.isub, 1) := by decide +kernel
theorem dX4_count_121 : decode cX4_count 121 = .ok (.iaload, 1) := by decide +kernel
theorem dX4_count_122 : decode cX4_count 122 = .ok (.ireturn, 1) := by decide +kernel
set_option maxRecDepth 20000 in
theorem ggX4_pass_X4_checkArgument : GoodIn wsX4_pass wsX4_checkArgument := goodIn_ca (goodIn_r _ [7, 8, 9] (by decide +kernel) (by decide +kernel)) (goodIn_sub (fun _ h => List.mem_cons_of_mem _ (List.mem_append_right _ h)) (by decide +kernel))
set_option maxRecDepth 20000 in
theorem gX4_pass_X4_checkArgument : GoodIn wsX4_pass (va_wsS RX4 28 yX4_checkArgument wsX4_checkArgument) := goodIn_app (goodIn_of _ (by decide +kernel)) ggX4_pass_X4_checkArgument
set_option maxRecDepth 20000 in
theorem ggX4_pass_X3_run : GoodIn wsX4_pass wsX3_run := goodIn_r _ [14, 15, 16, 17, 13, 18, 19, 20, 21, 22, 23, 24, 25, 26, 27, 28, 29, 30, 31, 32, 33, 34, 35, 36, 37, 38, 39, 40, 6, 41, 42, 43, 44, 45, 46, 47, 48, 49, 50, 51, 52, 53, 54, 55, 56, 57, 58, 59, 60, 61, 62, 63, 64, 65, 66, 67, 68, 69, 70, 71, 72, 73, 74, 75, 76, 77, 78, 79, 80, 81, 82, 83, 84, 85, 86, 87, 88, 89, 90, 91, 92, 93, 94, 95, 96, 97, 98, 99, 100, 101, 102, 103, 104, 105, 106, 107, 108, 109, 110, 111, 112, 113, 114, 115, 116, 117, 118, 119, 120, 121, 122, 123, 124, 125, 126, 127, 128, 129, 130, 131, 132, 133, 134, 135, 136, 137, 140, 141, 142, 143, 152, 153, 154, 155, 156, 157, 158, 159, 160, 161, 144, 145, 146, 147, 148, 149, 150, 151] (by decide +kernel) (by decide +kernel)
set_option maxRecDepth 20000 in
theorem gX4_pass_X3_run : GoodIn wsX4_pass (wsV RX4 112 RX3 yX3_run wsX3_run) := goodIn_app (goodIn_of _ (by decide +kernel)) ggX4_pass_X3_run
theorem dX4_pass_0 : decode cX4_pass 0 = .ok (.iload_n 1, 1) := by decide +kernel
theorem dX4_pass_1 : decode cX4_pass 1 = .ok (.iconst 1, 1) := by decide +kernel
theorem dX4_pass_2 : decode cX4_pass 2 = .ok (.sipush 300, 3) := by decide +kernel
theorem dX4_pass_5 : decode cX4_pass 5 = .ok (.invokestatic 28, 3) := by decide +kernel
theorem dX4_pass_8 : decode cX4_pass 8 = .ok (.aload_n 0, 1) := by decide +kernel
theorem dX4_pass_9 : decode cX4_pass 9 = .ok (.getfield 17, 3) := by decide +kernel
theorem dX4_pass_12 : decode cX4_pass 12 = .ok (.getfield 58, 3) := by decide +kernel
theorem dX4_pass_15 : decode cX4_pass 15 = .ok (.getfield 109, 3) := by decide +kernel
theorem dX4_pass_18 : decode cX4_pass 18 = .ok (.iconst 4, 1) := by decide +kernel
theorem dX4_pass_19 : decode cX4_pass 19 = .ok (.iaload, 1) := by decide +kernel
theorem dX4_pass_20 : decode cX4_pass 20 = .ok (.istore_n 2, 1) := by decide +kernel
theorem dX4_pass_21 : decode cX4_pass 21 = .ok (.aload_n 0, 1) := by decide +kernel
theorem dX4_pass_22 : decode cX4_pass 22 = .ok (.getfield 17, 3) := by decide +kernel
theorem dX4_pass_25 : decode cX4_pass 25 = .ok (.iload_n 1, 1) := by decide +kernel
theorem dX4_pass_26 : decode cX4_pass 26 = .ok (.invokevirtual 112, 3) := by decide +kernel
theorem dX4_pass_29 : decode cX4_pass 29 = .ok (.aload_n 0, 1) := by decide +kernel
theorem dX4_pass_30 : decode cX4_pass 30 = .ok (.getfield 17, 3) := by decide +kernel
theorem dX4_pass_33 : decode cX4_pass 33 = .ok (.getfield 58, 3) := by decide +kernel
theorem dX4_pass_36 : decode cX4_pass 36 = .ok (.getfield 109, 3) := by decide +kernel
theorem dX4_pass_39 : decode cX4_pass 39 = .ok (.iconst 4, 1) := by decide +kernel
theorem dX4_pass_40 : decode cX4_pass 40 = .ok (.iaload, 1) := by decide +kernel
theorem dX4_pass_41 : decode cX4_pass 41 = .ok (.iload_n 2, 1) := by decide +kernel
theorem dX4_pass_42 : decode cX4_pass 42 = .ok (.isub, 1) := by decide +kernel
theorem dX4_pass_43 : decode cX4_pass 43 = .ok (.ireturn, 1) := by decide +kernel
set_option maxRecDepth 20000 in
theorem ggX4_arrives_X4_checkIndex : GoodIn wsX4_arrives wsX4_checkIndex := goodIn_ca (goodIn_r _ [9, 10, 11] (by decide +kernel) (by decide +kernel)) (goodIn_sub (fun _ h => List.mem_cons_of_mem _ (List.mem_append_right _ h)) (by decide +kernel))
set_option maxRecDepth 20000 in
theorem gX4_arrives_X4_checkIndex : GoodIn wsX4_arrives (va_wsS RX4 24 yX4_checkIndex wsX4_checkIndex) := goodIn_app (goodIn_of _ (by decide +kernel)) ggX4_arrives_X4_checkIndex
set_option maxRecDepth 20000 in
theorem ggX4_arrives_X3_copyFrom : GoodIn wsX4_arrives wsX3_copyFrom := goodIn_r _ [16, 17, 18, 19, 20, 21, 22, 23, 24, 25, 26, 27, 28, 29, 30, 31, 32, 33, 34, 35, 36, 37, 38, 39, 40, 41, 42, 43, 44, 45, 46, 47, 48, 49, 50, 157, 158, 159, 160, 161, 162, 163, 164, 165, 166, 167, 168, 169, 170, 171, 172, 173, 174, 175, 176] (by decide +kernel) (by decide +kernel)
set_option maxRecDepth 20000 in
theorem gX4_arrives_X3_copyFrom : GoodIn wsX4_arrives (wsV RX4 116 RX3 yX3_copyFrom wsX3_copyFrom) := goodIn_app (goodIn_of _ (by decide +kernel)) ggX4_arrives_X3_copyFrom
set_option maxRecDepth 20000 in
theorem ggX4_arrives_X3_runMinute : GoodIn wsX4_arrives wsX3_runMinute := goodIn_r _ [54, 19, 55, 56, 57, 17, 58, 59, 60, 61, 15, 62, 18, 63, 64, 65, 66, 23, 67, 35, 25, 32, 26, 68, 8, 69, 70, 71, 72, 73, 33, 74, 75, 76, 77, 36, 78, 79, 80, 40, 81, 48, 49, 82, 83, 84, 85, 43, 46, 47, 86, 87, 88, 89, 90, 91, 92, 93, 94, 95, 96, 97, 98, 99, 100, 101, 102, 103, 104, 105, 106, 107, 108, 109, 110, 111, 112, 113, 114, 115, 116, 117, 118, 31, 119, 120, 121, 122, 123, 124, 125, 126, 127, 128, 34, 129, 130, 131, 132, 133, 134, 135, 136, 137, 138, 139, 140, 141, 142, 42, 143, 144, 145, 146, 147, 148, 149, 150, 151, 152, 153, 154, 157, 158, 159, 160, 169, 170, 171, 172, 173, 174, 175, 176, 177, 178, 161, 162, 163, 164, 165, 166, 167, 168] (by decide +kernel) (by decide +kernel)
set_option maxRecDepth 20000 in
theorem gX4_arrives_X3_runMinute : GoodIn wsX4_arrives (wsV RX4 123 RX3 yX3_runMinute wsX3_runMinute) := goodIn_app (goodIn_of _ (by decide +kernel)) ggX4_arrives_X3_runMinute
theorem dX4_arrives_0 : decode cX4_arrives 0 = .ok (.iload_n 1, 1) := by decide +kernel
theorem dX4_arrives_1 : decode cX4_arrives 1 = .ok (.aload_n 0, 1) := by decide +kernel
theorem dX4_arrives_2 : decode cX4_arrives 2 = .ok (.getfield 17, 3) := by decide +kernel
theorem dX4_arrives_5 : decode cX4_arrives 5 = .ok (.getfield 58, 3) := by decide +kernel
theorem dX4_arrives_8 : decode cX4_arrives 8 = .ok (.getfield 62, 3) := by decide +kernel
theorem dX4_arrives_11 : decode cX4_arrives 11 = .ok (.invokestatic 24, 3) := by decide +kernel
theorem dX4_arrives_14 : decode cX4_arrives 14 = .ok (.aload_n 0, 1) := by decide +kernel
theorem dX4_arrives_15 : decode cX4_arrives 15 = .ok (.getfield 21, 3) := by decide +kernel
theorem dX4_arrives_18 : decode cX4_arrives 18 = .ok (.aload_n 0, 1) := by decide +kernel
theorem dX4_arrives_19 : decode cX4_arrives 19 = .ok (.getfield 17, 3) := by decide +kernel
theorem dX4_arrives_22 : decode cX4_arrives 22 = .ok (.invokevirtual 116, 3) := by decide +kernel
theorem dX4_arrives_25 : decode cX4_arrives 25 = .ok (.iconst 0, 1) := by decide +kernel
theorem dX4_arrives_26 : decode cX4_arrives 26 = .ok (.istore_n 2, 1) := by decide +kernel
theorem dX4_arrives_27 : decode cX4_arrives 27 = .ok (.iload_n 2, 1) := by decide +kernel
theorem dX4_arrives_28 : decode cX4_arrives 28 = .ok (.sipush 300, 3) := by decide +kernel
theorem dX4_arrives_31 : decode cX4_arrives 31 = .ok (.if_icmp .gt 43, 3) := by decide +kernel
theorem dX4_arrives_34 : decode cX4_arrives 34 = .ok (.aload_n 0, 1) := by decide +kernel
theorem dX4_arrives_35 : decode cX4_arrives 35 = .ok (.getfield 21, 3) := by decide +kernel
theorem dX4_arrives_38 : decode cX4_arrives 38 = .ok (.getfield 58, 3) := by decide +kernel
theorem dX4_arrives_41 : decode cX4_arrives 41 = .ok (.getfield 120, 3) := by decide +kernel
theorem dX4_arrives_44 : decode cX4_arrives 44 = .ok (.iload_n 1, 1) := by decide +kernel
theorem dX4_arrives_45 : decode cX4_arrives 45 = .ok (.iaload, 1) := by decide +kernel
theorem dX4_arrives_46 : decode cX4_arrives 46 = .ok (.istore_n 3, 1) := by decide +kernel
theorem dX4_arrives_47 : decode cX4_arrives 47 = .ok (.iload_n 3, 1) := by decide +kernel
theorem dX4_arrives_48 : decode cX4_arrives 48 = .ok (.iconst 4, 1) := by decide +kernel
theorem dX4_arrives_49 : decode cX4_arrives 49 = .ok (.if_icmp .ne 5, 3) := by decide +kernel
theorem dX4_arrives_52 : decode cX4_arrives 52 = .ok (.iload_n 2, 1) := by decide +kernel
theorem dX4_arrives_53 : decode cX4_arrives 53 = .ok (.ireturn, 1) := by decide +kernel
theorem dX4_arrives_54 : decode cX4_arrives 54 = .ok (.iload_n 3, 1) := by decide +kernel
theorem dX4_arrives_55 : decode cX4_arrives 55 = .ok (.iconst 5, 1) := by decide +kernel
theorem dX4_arrives_56 : decode cX4_arrives 56 = .ok (.if_icmp .ne 5, 3) := by decide +kernel
theorem dX4_arrives_59 : decode cX4_arrives 59 = .ok (.iconst (-1), 1) := by decide +kernel
theorem dX4_arrives_60 : decode cX4_arrives 60 = .ok (.ireturn, 1) := by decide +kernel
theorem dX4_arrives_61 : decode cX4_arrives 61 = .ok (.aload_n 0, 1) := by decide +kernel
theorem dX4_arrives_62 : decode cX4_arrives 62 = .ok (.getfield 21, 3) := by decide +kernel
theorem dX4_arrives_65 : decode cX4_arrives 65 = .ok (.invokevirtual 123, 3) := by decide +kernel
theorem dX4_arrives_68 : decode cX4_arrives 68 = .ok (.iinc 2 1, 3) := by decide +kernel
theorem dX4_arrives_71 : decode cX4_arrives 71 = .ok (.goto (-44), 3) := by decide +kernel
theorem dX4_arrives_74 : decode cX4_arrives 74 = .ok (.iconst (-1), 1) := by decide +kernel
theorem dX4_arrives_75 : decode cX4_arrives 75 = .ok (.ireturn, 1) := by decide +kernel
set_option maxRecDepth 20000 in
theorem ggX4_foresee_X4_checkArgument : GoodIn wsX4_foresee wsX4_checkArgument := goodIn_ca (goodIn_r _ [10, 11, 12] (by decide +kernel) (by decide +kernel)) (goodIn_sub (fun _ h => List.mem_cons_of_mem _ (List.mem_append_right _ h)) (by decide +kernel))
set_option maxRecDepth 20000 in
theorem gX4_foresee_X4_checkArgument : GoodIn wsX4_foresee (va_wsS RX4 28 yX4_checkArgument wsX4_checkArgument) := goodIn_app (goodIn_of _ (by decide +kernel)) ggX4_foresee_X4_checkArgument
set_option maxRecDepth 20000 in
theorem ggX4_foresee_X3_copyFrom : GoodIn wsX4_foresee wsX3_copyFrom := goodIn_r _ [17, 18, 19, 20, 21, 22, 23, 24, 25, 26, 27, 28, 29, 30, 31, 32, 33, 34, 35, 36, 37, 38, 39, 40, 41, 42, 43, 44, 45, 46, 47, 48, 49, 50, 51, 162, 163, 164, 165, 166, 167, 168, 169, 170, 171, 172, 173, 174, 175, 176, 177, 178, 179, 180, 181] (by decide +kernel) (by decide +kernel)
set_option maxRecDepth 20000 in
theorem gX4_foresee_X3_copyFrom : GoodIn wsX4_foresee (wsV RX4 116 RX3 yX3_copyFrom wsX3_copyFrom) := goodIn_app (goodIn_of _ (by decide +kernel)) ggX4_foresee_X3_copyFrom
set_option maxRecDepth 20000 in
theorem ggX4_foresee_X3_run : GoodIn wsX4_foresee wsX3_run := goodIn_r _ [55, 56, 57, 58, 16, 59, 20, 60, 61, 62, 18, 63, 64, 65, 66, 67, 19, 68, 69, 70, 71, 24, 72, 36, 26, 33, 27, 73, 9, 74, 75, 76, 77, 78, 34, 79, 80, 81, 82, 37, 83, 84, 85, 41, 86, 49, 50, 87, 88, 89, 90, 44, 47, 48, 91, 92, 93, 94, 95, 96, 97, 98, 99, 100, 101, 102, 103, 104, 105, 106, 107, 108, 109, 110, 111, 112, 113, 114, 115, 116, 117, 118, 119, 120, 121, 122, 123, 32, 124, 125, 126, 127, 128, 129, 130, 131, 132, 133, 35, 134, 135, 136, 137, 138, 139, 140, 141, 142, 143, 144, 145, 146, 147, 43, 148, 149, 150, 151, 152, 153, 154, 155, 156, 157, 158, 159, 162, 163, 164, 165, 174, 175, 176, 177, 178, 179, 180, 181, 182, 183, 166, 167, 168, 169, 170, 171, 172, 173] (by decide +kernel) (by decide +kernel)
set_option maxRecDepth 20000 in
theorem gX4_foresee_X3_run : GoodIn wsX4_foresee (wsV RX4 112 RX3 yX3_run wsX3_run) := goodIn_app (goodIn_of _ (by decide +kernel)) ggX4_foresee_X3_run
theorem dX4_foresee_0 : decode cX4_foresee 0 = .ok (.iload_n 1, 1) := by decide +kernel
theorem dX4_foresee_1 : decode cX4_foresee 1 = .ok (.iconst 1, 1) := by decide +kernel
theorem dX4_foresee_2 : decode cX4_foresee 2 = .ok (.sipush 300, 3) := by decide +kernel
theorem dX4_foresee_5 : decode cX4_foresee 5 = .ok (.invokestatic 28, 3) := by decide +kernel
theorem dX4_foresee_8 : decode cX4_foresee 8 = .ok (.iload_n 2, 1) := by decide +kernel
theorem dX4_foresee_9 : decode cX4_foresee 9 = .ok (.iconst 3, 1) := by decide +kernel
theorem dX4_foresee_10 : decode cX4_foresee 10 = .ok (.if_icmp .lt 9, 3) := by decide +kernel
theorem dX4_foresee_13 : decode cX4_foresee 13 = .ok (.iload_n 2, 1) := by decide +kernel
theorem dX4_foresee_14 : decode cX4_foresee 14 = .ok (.bipush 8, 2) := by decide +kernel
theorem dX4_foresee_16 : decode cX4_foresee 16 = .ok (.if_icmp .le 13, 3) := by decide +kernel
theorem dX4_foresee_19 : decode cX4_foresee 19 = .ok (.new 126, 3) := by decide +kernel
theorem dX4_foresee_22 : decode cX4_foresee 22 = .ok (.dup, 1) := by decide +kernel
theorem dX4_foresee_23 : decode cX4_foresee 23 = .ok (.ldc 128, 2) := by decide +kernel
theorem dX4_foresee_25 : decode cX4_foresee 25 = .ok (.invokespecial 130, 3) := by decide +kernel
theorem dX4_foresee_28 : decode cX4_foresee 28 = .ok (.athrow, 1) := by decide +kernel
theorem dX4_foresee_29 : decode cX4_foresee 29 = .ok (.aload_n 0, 1) := by decide +kernel
theorem dX4_foresee_30 : decode cX4_foresee 30 = .ok (.getfield 21, 3) := by decide +kernel
theorem dX4_foresee_33 : decode cX4_foresee 33 = .ok (.aload_n 0, 1) := by decide +kernel
theorem dX4_foresee_34 : decode cX4_foresee 34 = .ok (.getfield 17, 3) := by decide +kernel
theorem dX4_foresee_37 : decode cX4_foresee 37 = .ok (.invokevirtual 116, 3) := by decide +kernel
theorem dX4_foresee_40 : decode cX4_foresee 40 = .ok (.aload_n 0, 1) := by decide +kernel
theorem dX4_foresee_41 : decode cX4_foresee 41 = .ok (.getfield 21, 3) := by decide +kernel
theorem dX4_foresee_44 : decode cX4_foresee 44 = .ok (.iload_n 1, 1) := by decide +kernel
theorem dX4_foresee_45 : decode cX4_foresee 45 = .ok (.invokevirtual 112, 3) := by decide +kernel
theorem dX4_foresee_48 : decode cX4_foresee 48 = .ok (.aload_n 0, 1) := by decide +kernel
theorem dX4_foresee_49 : decode cX4_foresee 49 = .ok (.getfield 21, 3) := by decide +kernel
theorem dX4_foresee_52 : decode cX4_foresee 52 = .ok (.getfield 58, 3) := by decide +kernel
theorem dX4_foresee_55 : decode cX4_foresee 55 = .ok (.getfield 109, 3) := by decide +kernel
theorem dX4_foresee_58 : decode cX4_foresee 58 = .ok (.iload_n 2, 1) := by decide +kernel
theorem dX4_foresee_59 : decode cX4_foresee 59 = .ok (.iconst 3, 1) := by decide +kernel
theorem dX4_foresee_60 : decode cX4_foresee 60 = .ok (.isub, 1) := by decide +kernel
theorem dX4_foresee_61 : decode cX4_foresee 61 = .ok (.iaload, 1) := by decide +kernel
theorem dX4_foresee_62 : decode cX4_foresee 62 = .ok (.ireturn, 1) := by decide +kernel
set_option maxRecDepth 20000 in
theorem ggX4_advise_X4_checkIndex : GoodIn wsX4_advise wsX4_checkIndex := goodIn_ca (goodIn_r _ [8, 9, 10] (by decide +kernel) (by decide +kernel)) (goodIn_sub (fun _ h => List.mem_cons_of_mem _ (List.mem_append_left _ (List.mem_append_right _ h))) (by decide +kernel))
set_option maxRecDepth 20000 in
theorem gX4_advise_X4_checkIndex : GoodIn wsX4_advise (va_wsS RX4 24 yX4_checkIndex wsX4_checkIndex) := goodIn_app (goodIn_of _ (by decide +kernel)) ggX4_advise_X4_checkIndex
set_option maxRecDepth 20000 in
theorem ggX4_advise_X4_checkArgument : GoodIn wsX4_advise wsX4_checkArgument := goodIn_ca (goodIn_r _ [13, 14, 15] (by decide +kernel) (by decide +kernel)) (goodIn_sub (fun _ h => List.mem_cons_of_mem _ (List.mem_append_right _ h)) (by decide +kernel))
set_option maxRecDepth 20000 in
theorem gX4_advise_X4_checkArgument : GoodIn wsX4_advise (va_wsS RX4 28 yX4_checkArgument wsX4_checkArgument) := goodIn_app (goodIn_of _ (by decide +kernel)) ggX4_advise_X4_checkArgument
set_option maxRecDepth 20000 in
theorem ggX4_advise_X4_deliveredIfAssigned : GoodIn wsX4_advise wsX4_deliveredIfAssigned := goodIn_r _ [19, 20, 1, 2, 4, 21, 22, 23, 24, 25, 26, 27, 28, 29, 30, 31, 32, 33, 34, 35, 36, 37, 38, 39, 40, 41, 42, 43, 44, 45, 46, 47, 48, 49, 50, 51, 52, 53, 54, 55, 56, 57, 58, 59, 60, 61, 62, 63, 64, 65, 66, 67, 68, 69, 70, 71, 72, 73, 74, 75, 76, 77, 78, 79, 80, 81, 82, 83, 7, 84, 85, 86, 87, 88, 89, 90, 91, 92, 93, 94, 95, 96, 97, 98, 99, 100, 101, 102, 103, 104, 105, 106, 107, 108, 109, 110, 111, 112, 113, 114, 115, 116, 117, 118, 119, 120, 121, 122, 123, 124, 125, 126, 127, 128, 129, 130, 131, 132, 133, 134, 135, 136, 137, 138, 139, 140, 141, 142, 143, 144, 145, 146, 147, 148, 149, 150, 151, 152, 153, 154, 155, 156, 157, 158, 159, 160, 161, 162, 163, 164, 165, 166, 167, 168, 169, 171, 172, 173, 174, 175, 176, 177, 178, 179, 180, 181, 182, 183, 184, 185, 186, 187, 188, 189, 190, 191, 192, 193, 194] (by decide +kernel) (by decide +kernel)
set_option maxRecDepth 20000 in
theorem gX4_advise_X4_deliveredIfAssigned : GoodIn wsX4_advise (wsV RX4 131 RX4 yX4_deliveredIfAssigned wsX4_deliveredIfAssigned) := goodIn_app (goodIn_of _ (by decide +kernel)) ggX4_advise_X4_deliveredIfAssigned
set_option maxRecDepth 20000 in
theorem ggX4_advise_X4_hasTown : GoodIn wsX4_advise wsX4_hasTown := goodIn_r _ [84] (by decide +kernel) (by decide +kernel)
set_option maxRecDepth 20000 in
theorem gX4_advise_X4_hasTown : GoodIn wsX4_advise (va_wsS RX4 135 yX4_hasTown wsX4_hasTown) := goodIn_app (goodIn_of _ (by decide +kernel)) ggX4_advise_X4_hasTown
theorem dX4_advise_0 : decode cX4_advise 0 = .ok (.iload_n 1, 1) := by decide +kernel
theorem dX4_advise_1 : decode cX4_advise 1 = .ok (.aload_n 0, 1) := by decide +kernel
theorem dX4_advise_2 : decode cX4_advise 2 = .ok (.getfield 17, 3) := by decide +kernel
theorem dX4_advise_5 : decode cX4_advise 5 = .ok (.getfield 74, 3) := by decide +kernel
theorem dX4_advise_8 : decode cX4_advise 8 = .ok (.getfield 78, 3) := by decide +kernel
theorem dX4_advise_11 : decode cX4_advise 11 = .ok (.invokestatic 24, 3) := by decide +kernel
theorem dX4_advise_14 : decode cX4_advise 14 = .ok (.iload_n 2, 1) := by decide +kernel
theorem dX4_advise_15 : decode cX4_advise 15 = .ok (.iconst 1, 1) := by decide +kernel
theorem dX4_advise_16 : decode cX4_advise 16 = .ok (.bipush 120, 2) := by decide +kernel
theorem dX4_advise_18 : decode cX4_advise 18 = .ok (.invokestatic 28, 3) := by decide +kernel
theorem dX4_advise_21 : decode cX4_advise 21 = .ok (.aload_n 0, 1) := by decide +kernel
theorem dX4_advise_22 : decode cX4_advise 22 = .ok (.getfield 17, 3) := by decide +kernel
theorem dX4_advise_25 : decode cX4_advise 25 = .ok (.getfield 74, 3) := by decide +kernel
theorem dX4_advise_28 : decode cX4_advise 28 = .ok (.getfield 86, 3) := by decide +kernel
theorem dX4_advise_31 : decode cX4_advise 31 = .ok (.iload_n 1, 1) := by decide +kernel
theorem dX4_advise_32 : decode cX4_advise 32 = .ok (.iaload, 1) := by decide +kernel
theorem dX4_advise_33 : decode cX4_advise 33 = .ok (.istore_n 3, 1) := by decide +kernel
theorem dX4_advise_34 : decode cX4_advise 34 = .ok (.aload_n 0, 1) := by decide +kernel
theorem dX4_advise_35 : decode cX4_advise 35 = .ok (.iload_n 1, 1) := by decide +kernel
theorem dX4_advise_36 : decode cX4_advise 36 = .ok (.iload_n 3, 1) := by decide +kernel
theorem dX4_advise_37 : decode cX4_advise 37 = .ok (.iload_n 2, 1) := by decide +kernel
theorem dX4_advise_38 : decode cX4_advise 38 = .ok (.invokevirtual 131, 3) := by decide +kernel
theorem dX4_advise_41 : decode cX4_advise 41 = .ok (.istore 4, 2) := by decide +kernel
theorem dX4_advise_43 : decode cX4_advise 43 = .ok (.iconst (-1), 1) := by decide +kernel
theorem dX4_advise_44 : decode cX4_advise 44 = .ok (.istore 5, 2) := by decide +kernel
theorem dX4_advise_46 : decode cX4_advise 46 = .ok (.iconst 0, 1) := by decide +kernel
theorem dX4_advise_47 : decode cX4_advise 47 = .ok (.istore 6, 2) := by decide +kernel
theorem dX4_advise_49 : decode cX4_advise 49 = .ok (.iload 6, 2) := by decide +kernel
theorem dX4_advise_51 : decode cX4_advise 51 = .ok (.bipush 16, 2) := by decide +kernel
theorem dX4_advise_53 : decode cX4_advise 53 = .ok (.if_icmp .ge 47, 3) := by decide +kernel
theorem dX4_advise_56 : decode cX4_advise 56 = .ok (.iload_n 3, 1) := by decide +kernel
theorem dX4_advise_57 : decode cX4_advise 57 = .ok (.iload 6, 2) := by decide +kernel
theorem dX4_advise_59 : decode cX4_advise 59 = .ok (.invokestatic 135, 3) := by decide +kernel
theorem dX4_advise_62 : decode cX4_advise 62 = .ok (.ifCond .ne 32, 3) := by decide +kernel
theorem dX4_advise_65 : decode cX4_advise 65 = .ok (.aload_n 0, 1) := by decide +kernel
theorem dX4_advise_66 : decode cX4_advise 66 = .ok (.iload_n 1, 1) := by decide +kernel
theorem dX4_advise_67 : decode cX4_advise 67 = .ok (.iload_n 3, 1) := by decide +kernel
theorem dX4_advise_68 : decode cX4_advise 68 = .ok (.iconst 1, 1) := by decide +kernel
theorem dX4_advise_69 : decode cX4_advise 69 = .ok (.iload 6, 2) := by decide +kernel
theorem dX4_advise_71 : decode cX4_advise 71 = .ok (.ishl, 1) := by decide +kernel
theorem dX4_advise_72 : decode cX4_advise 72 = .ok (.ior, 1) := by decide +kernel
theorem dX4_advise_73 : decode cX4_advise 73 = .ok (.iload_n 2, 1) := by decide +kernel
theorem dX4_advise_74 : decode cX4_advise 74 = .ok (.invokevirtual 131, 3) := by decide +kernel
theorem dX4_advise_77 : decode cX4_advise 77 = .ok (.istore 7, 2) := by decide +kernel
theorem dX4_advise_79 : decode cX4_advise 79 = .ok (.iload 7, 2) := by decide +kernel
theorem dX4_advise_81 : decode cX4_advise 81 = .ok (.iload 4, 2) := by decide +kernel
theorem dX4_advise_83 : decode cX4_advise 83 = .ok (.if_icmp .le 11, 3) := by decide +kernel
theorem dX4_advise_86 : decode cX4_advise 86 = .ok (.iload 7, 2) := by decide +kernel
theorem dX4_advise_88 : decode cX4_advise 88 = .ok (.istore 4, 2) := by decide +kernel
theorem dX4_advise_90 : decode cX4_advise 90 = .ok (.iload 6, 2) := by decide +kernel
theorem dX4_advise_92 : decode cX4_advise 92 = .ok (.istore 5, 2) := by decide +kernel
theorem dX4_advise_94 : decode cX4_advise 94 = .ok (.iinc 6 1, 3) := by decide +kernel
theorem dX4_advise_97 : decode cX4_advise 97 = .ok (.goto (-48), 3) := by decide +kernel
theorem dX4_advise_100 : decode cX4_advise 100 = .ok (.iload 5, 2) := by decide +kernel
theorem dX4_advise_102 : decode cX4_advise 102 = .ok (.ireturn, 1) := by decide +kernel
theorem dX4_share_0 : decode cX4_share 0 = .ok (.aload_n 0, 1) := by decide +kernel
theorem dX4_share_1 : decode cX4_share 1 = .ok (.getfield 17, 3) := by decide +kernel
theorem dX4_share_4 : decode cX4_share 4 = .ok (.getfield 58, 3) := by decide +kernel
theorem dX4_share_7 : decode cX4_share 7 = .ok (.getfield 109, 3) := by decide +kernel
theorem dX4_share_10 : decode cX4_share 10 = .ok (.iconst 4, 1) := by decide +kernel
theorem dX4_share_11 : decode cX4_share 11 = .ok (.iaload, 1) := by decide +kernel
theorem dX4_share_12 : decode cX4_share 12 = .ok (.istore_n 1, 1) := by decide +kernel
theorem dX4_share_13 : decode cX4_share 13 = .ok (.iload_n 1, 1) := by decide +kernel
theorem dX4_share_14 : decode cX4_share 14 = .ok (.aload_n 0, 1) := by decide +kernel
theorem dX4_share_15 : decode cX4_share 15 = .ok (.getfield 17, 3) := by decide +kernel
theorem dX4_share_18 : decode cX4_share 18 = .ok (.getfield 58, 3) := by decide +kernel
theorem dX4_share_21 : decode cX4_share 21 = .ok (.getfield 109, 3) := by decide +kernel
theorem dX4_share_24 : decode cX4_share 24 = .ok (.iconst 5, 1) := by decide +kernel
theorem dX4_share_25 : decode cX4_share 25 = .ok (.iaload, 1) := by decide +kernel
theorem dX4_share_26 : decode cX4_share 26 = .ok (.iadd, 1) := by decide +kernel
theorem dX4_share_27 : decode cX4_share 27 = .ok (.istore_n 2, 1) := by decide +kernel
theorem dX4_share_28 : decode cX4_share 28 = .ok (.iload_n 2, 1) := by decide +kernel
theorem dX4_share_29 : decode cX4_share 29 = .ok (.ifCond .ne 7, 3) := by decide +kernel
theorem dX4_share_32 : decode cX4_share 32 = .ok (.dconst 0, 1) := by decide +kernel
theorem dX4_share_33 : decode cX4_share 33 = .ok (.goto 8, 3) := by decide +kernel
theorem dX4_share_36 : decode cX4_share 36 = .ok (.iload_n 1, 1) := by decide +kernel
theorem dX4_share_37 : decode cX4_share 37 = .ok (.i2d, 1) := by decide +kernel
theorem dX4_share_38 : decode cX4_share 38 = .ok (.iload_n 2, 1) := by decide +kernel
theorem dX4_share_39 : decode cX4_share 39 = .ok (.i2d, 1) := by decide +kernel
theorem dX4_share_40 : decode cX4_share 40 = .ok (.ddiv, 1) := by decide +kernel
theorem dX4_share_41 : decode cX4_share 41 = .ok (.dreturn, 1) := by decide +kernel
set_option maxRecDepth 20000 in
theorem ggX4_digest_X4_count : GoodIn wsX4_digest wsX4_count := goodIn_ca (goodIn_r _ [12, 3, 13, 6, 7, 4, 5, 14, 15, 16, 17, 11, 18, 19, 20, 21, 22, 23, 24, 25, 26, 77, 78, 79, 80, 81, 82, 91, 92, 93, 94, 95, 96, 97, 98, 83, 84, 85, 86, 87, 88, 89, 90, 99, 100] (by decide +kernel) (by decide +kernel)) (goodIn_sub (fun _ h => List.mem_cons_of_mem _ (List.mem_append_right _ h)) (by decide +kernel))
set_option maxRecDepth 20000 in
theorem gX4_digest_X4_count : GoodIn wsX4_digest (wsV RX4 142 RX4 yX4_count wsX4_count) := goodIn_app (goodIn_of _ (by decide +kernel)) ggX4_digest_X4_count
set_option maxRecDepth 20000 in
theorem ggX4_digest_X4_station : GoodIn wsX4_digest wsX4_station := goodIn_ca (goodIn_r _ [30, 3, 14, 31, 32, 6, 16, 17, 11, 18, 19, 20, 33, 34, 35, 36, 37, 38, 39, 40, 41, 42, 43, 44, 77, 78, 79, 80, 81, 82, 99, 100, 91, 92, 93, 94, 95, 96, 97, 98] (by decide +kernel) (by decide +kernel)) (goodIn_sub (fun _ h => List.mem_cons_of_mem _ (List.mem_append_right _ h)) (by decide +kernel))
set_option maxRecDepth 20000 in
theorem gX4_digest_X4_station : GoodIn wsX4_digest (wsV RX4 145 RX4 yX4_station wsX4_station) := goodIn_app (goodIn_of _ (by decide +kernel)) ggX4_digest_X4_station
set_option maxRecDepth 20000 in
theorem ggX4_digest_X4_hole : GoodIn wsX4_digest wsX4_hole := goodIn_ca (goodIn_r _ [48, 3, 6, 49, 16, 17, 11, 18, 19, 20, 77, 78, 79, 80, 81, 82, 91, 92, 93, 94, 95, 96, 97, 98] (by decide +kernel) (by decide +kernel)) (goodIn_sub (fun _ h => List.mem_cons_of_mem _ (List.mem_append_right _ h)) (by decide +kernel))
set_option maxRecDepth 20000 in
theorem gX4_digest_X4_hole : GoodIn wsX4_digest (wsV RX4 148 RX4 yX4_hole wsX4_hole) := goodIn_app (goodIn_of _ (by decide +kernel)) ggX4_digest_X4_hole
set_option maxRecDepth 20000 in
theorem ggX4_digest_X4_sorter : GoodIn wsX4_digest wsX4_sorter := goodIn_ca (goodIn_r _ [53, 3, 4, 5, 16, 17, 11, 18, 19, 20, 54, 55, 56, 57, 58, 59, 60, 61, 62, 63, 64, 65, 77, 78, 79, 80, 81, 82, 83, 84, 85, 86, 87, 88, 89, 90] (by decide +kernel) (by decide +kernel)) (goodIn_sub (fun _ h => List.mem_cons_of_mem _ (List.mem_append_right _ h)) (by decide +kernel))
set_option maxRecDepth 20000 in
theorem gX4_digest_X4_sorter : GoodIn wsX4_digest (wsV RX4 151 RX4 yX4_sorter wsX4_sorter) := goodIn_app (goodIn_of _ (by decide +kernel)) ggX4_digest_X4_sorter
set_option maxRecDepth 20000 in
theorem ggX4_digest_X4_letter : GoodIn wsX4_digest wsX4_letter := goodIn_ca (goodIn_r _ [69, 3, 6, 7, 16, 17, 11, 18, 19, 20, 70, 71, 72, 36, 73, 43, 74, 44, 75, 76, 77, 78, 79, 80, 81, 82, 91, 92, 93, 94, 95, 96, 97, 98] (by decide +kernel) (by decide +kernel)) (goodIn_sub (fun _ h => List.mem_cons_of_mem _ (List.mem_append_right _ h)) (by decide +kernel))
set_option maxRecDepth 20000 in
theorem gX4_digest_X4_letter : GoodIn wsX4_digest (wsV RX4 154 RX4 yX4_letter wsX4_letter) := goodIn_app (goodIn_of _ (by decide +kernel)) ggX4_digest_X4_letter
theorem dX4_digest_0 : decode cX4_digest 0 = .ok (.ldc2_w 138, 3) := by decide +kernel
theorem dX4_digest_3 : decode cX4_digest 3 = .ok (.lstore_n 1, 1) := by decide +kernel
theorem dX4_digest_4 : decode cX4_digest 4 = .ok (.iconst 0, 1) := by decide +kernel
theorem dX4_digest_5 : decode cX4_digest 5 = .ok (.istore_n 3, 1) := by decide +kernel
theorem dX4_digest_6 : decode cX4_digest 6 = .ok (.iload_n 3, 1) := by decide +kernel
theorem dX4_digest_7 : decode cX4_digest 7 = .ok (.bipush 10, 2) := by decide +kernel
theorem dX4_digest_9 : decode cX4_digest 9 = .ok (.if_icmp .ge 22, 3) := by decide +kernel
theorem dX4_digest_12 : decode cX4_digest 12 = .ok (.lload_n 1, 1) := by decide +kernel
theorem dX4_digest_13 : decode cX4_digest 13 = .ok (.ldc2_w 140, 3) := by decide +kernel
theorem dX4_digest_16 : decode cX4_digest 16 = .ok (.lmul, 1) := by decide +kernel
theorem dX4_digest_17 : decode cX4_digest 17 = .ok (.aload_n 0, 1) := by decide +kernel
theorem dX4_digest_18 : decode cX4_digest 18 = .ok (.iload_n 3, 1) := by decide +kernel
theorem dX4_digest_19 : decode cX4_digest 19 = .ok (.invokevirtual 142, 3) := by decide +kernel
theorem dX4_digest_22 : decode cX4_digest 22 = .ok (.i2l, 1) := by decide +kernel
theorem dX4_digest_23 : decode cX4_digest 23 = .ok (.ladd, 1) := by decide +kernel
theorem dX4_digest_24 : decode cX4_digest 24 = .ok (.lstore_n 1, 1) := by decide +kernel
theorem dX4_digest_25 : decode cX4_digest 25 = .ok (.iinc 3 1, 3) := by decide +kernel
theorem dX4_digest_28 : decode cX4_digest 28 = .ok (.goto (-22), 3) := by decide +kernel
theorem dX4_digest_31 : decode cX4_digest 31 = .ok (.iconst 0, 1) := by decide +kernel
theorem dX4_digest_32 : decode cX4_digest 32 = .ok (.istore_n 3, 1) := by decide +kernel
theorem dX4_digest_33 : decode cX4_digest 33 = .ok (.iload_n 3, 1) := by decide +kernel
theorem dX4_digest_34 : decode cX4_digest 34 = .ok (.bipush 8, 2) := by decide +kernel
theorem dX4_digest_36 : decode cX4_digest 36 = .ok (.if_icmp .ge 39, 3) := by decide +kernel
theorem dX4_digest_39 : decode cX4_digest 39 = .ok (.iconst 0, 1) := by decide +kernel
theorem dX4_digest_40 : decode cX4_digest 40 = .ok (.istore 4, 2) := by decide +kernel
theorem dX4_digest_42 : decode cX4_digest 42 = .ok (.iload 4, 2) := by decide +kernel
theorem dX4_digest_44 : decode cX4_digest 44 = .ok (.iconst 3, 1) := by decide +kernel
theorem dX4_digest_45 : decode cX4_digest 45 = .ok (.if_icmp .ge 24, 3) := by decide +kernel
theorem dX4_digest_48 : decode cX4_digest 48 = .ok (.lload_n 1, 1) := by decide +kernel
theorem dX4_digest_49 : decode cX4_digest 49 = .ok (.ldc2_w 140, 3) := by decide +kernel
theorem dX4_digest_52 : decode cX4_digest 52 = .ok (.lmul, 1) := by decide +kernel
theorem dX4_digest_53 : decode cX4_digest 53 = .ok (.aload_n 0, 1) := by decide +kernel
theorem dX4_digest_54 : decode cX4_digest 54 = .ok (.iload_n 3, 1) := by decide +kernel
theorem dX4_digest_55 : decode cX4_digest 55 = .ok (.iload 4, 2) := by decide +kernel
theorem dX4_digest_57 : decode cX4_digest 57 = .ok (.invokevirtual 145, 3) := by decide +kernel
theorem dX4_digest_60 : decode cX4_digest 60 = .ok (.i2l, 1) := by decide +kernel
theorem dX4_digest_61 : decode cX4_digest 61 = .ok (.ladd, 1) := by decide +kernel
theorem dX4_digest_62 : decode cX4_digest 62 = .ok (.lstore_n 1, 1) := by decide +kernel
theorem dX4_digest_63 : decode cX4_digest 63 = .ok (.iinc 4 1, 3) := by decide +kernel
theorem dX4_digest_66 : decode cX4_digest 66 = .ok (.goto (-24), 3) := by decide +kernel
theorem dX4_digest_69 : decode cX4_digest 69 = .ok (.iinc 3 1, 3) := by decide +kernel
theorem dX4_digest_72 : decode cX4_digest 72 = .ok (.goto (-39), 3) := by decide +kernel
theorem dX4_digest_75 : decode cX4_digest 75 = .ok (.iconst 0, 1) := by decide +kernel
theorem dX4_digest_76 : decode cX4_digest 76 = .ok (.istore_n 3, 1) := by decide +kernel
theorem dX4_digest_77 : decode cX4_digest 77 = .ok (.iload_n 3, 1) := by decide +kernel
theorem dX4_digest_78 : decode cX4_digest 78 = .ok (.bipush 16, 2) := by decide +kernel
theorem dX4_digest_80 : decode cX4_digest 80 = .ok (.if_icmp .ge 22, 3) := by decide +kernel
theorem dX4_digest_83 : decode cX4_digest 83 = .ok (.lload_n 1, 1) := by decide +kernel
theorem dX4_digest_84 : decode cX4_digest 84 = .ok (.ldc2_w 140, 3) := by decide +kernel
theorem dX4_digest_87 : decode cX4_digest 87 = .ok (.lmul, 1) := by decide +kernel
theorem dX4_digest_88 : decode cX4_digest 88 = .ok (.aload_n 0, 1) := by decide +kernel
theorem dX4_digest_89 : decode cX4_digest 89 = .ok (.iload_n 3, 1) := by decide +kernel
theorem dX4_digest_90 : decode cX4_digest 90 = .ok (.invokevirtual 148, 3) := by decide +kernel
theorem dX4_digest_93 : decode cX4_digest 93 = .ok (.i2l, 1) := by decide +kernel
theorem dX4_digest_94 : decode cX4_digest 94 = .ok (.ladd, 1) := by decide +kernel
theorem dX4_digest_95 : decode cX4_digest 95 = .ok (.lstore_n 1, 1) := by decide +kernel
theorem dX4_digest_96 : decode cX4_digest 96 = .ok (.iinc 3 1, 3) := by decide +kernel
theorem dX4_digest_99 : decode cX4_digest 99 = .ok (.goto (-22), 3) := by decide +kernel
theorem dX4_digest_102 : decode cX4_digest 102 = .ok (.iconst 0, 1) := by decide +kernel
theorem dX4_digest_103 : decode cX4_digest 103 = .ok (.istore_n 3, 1) := by decide +kernel
theorem dX4_digest_104 : decode cX4_digest 104 = .ok (.iload_n 3, 1) := by decide +kernel
theorem dX4_digest_105 : decode cX4_digest 105 = .ok (.aload_n 0, 1) := by decide +kernel
theorem dX4_digest_106 : decode cX4_digest 106 = .ok (.getfield 17, 3) := by decide +kernel
theorem dX4_digest_109 : decode cX4_digest 109 = .ok (.getfield 74, 3) := by decide +kernel
theorem dX4_digest_112 : decode cX4_digest 112 = .ok (.getfield 78, 3) := by decide +kernel
theorem dX4_digest_115 : decode cX4_digest 115 = .ok (.if_icmp .ge 40, 3) := by decide +kernel
theorem dX4_digest_118 : decode cX4_digest 118 = .ok (.iconst 0, 1) := by decide +kernel
theorem dX4_digest_119 : decode cX4_digest 119 = .ok (.istore 4, 2) := by decide +kernel
theorem dX4_digest_121 : decode cX4_digest 121 = .ok (.iload 4, 2) := by decide +kernel
theorem dX4_digest_123 : decode cX4_digest 123 = .ok (.bipush 7, 2) := by decide +kernel
theorem dX4_digest_125 : decode cX4_digest 125 = .ok (.if_icmp .ge 24, 3) := by decide +kernel
theorem dX4_digest_128 : decode cX4_digest 128 = .ok (.lload_n 1, 1) := by decide +kernel
theorem dX4_digest_129 : decode cX4_digest 129 = .ok (.ldc2_w 140, 3) := by decide +kernel
theorem dX4_digest_132 : decode cX4_digest 132 = .ok (.lmul, 1) := by decide +kernel
theorem dX4_digest_133 : decode cX4_digest 133 = .ok (.aload_n 0, 1) := by decide +kernel
theorem dX4_digest_134 : decode cX4_digest 134 = .ok (.iload_n 3, 1) := by decide +kernel
theorem dX4_digest_135 : decode cX4_digest 135 = .ok (.iload 4, 2) := by decide +kernel
theorem dX4_digest_137 : decode cX4_digest 137 = .ok (.invokevirtual 151, 3) := by decide +kernel
theorem dX4_digest_140 : decode cX4_digest 140 = .ok (.i2l, 1) := by decide +kernel
theorem dX4_digest_141 : decode cX4_digest 141 = .ok (.ladd, 1) := by decide +kernel
theorem dX4_digest_142 : decode cX4_digest 142 = .ok (.lstore_n 1, 1) := by decide +kernel
theorem dX4_digest_143 : decode cX4_digest 143 = .ok (.iinc 4 1, 3) := by decide +kernel
theorem dX4_digest_146 : decode cX4_digest 146 = .ok (.goto (-25), 3) := by decide +kernel
theorem dX4_digest_149 : decode cX4_digest 149 = .ok (.iinc 3 1, 3) := by decide +kernel
theorem dX4_digest_152 : decode cX4_digest 152 = .ok (.goto (-48), 3) := by decide +kernel
theorem dX4_digest_155 : decode cX4_digest 155 = .ok (.iconst 0, 1) := by decide +kernel
theorem dX4_digest_156 : decode cX4_digest 156 = .ok (.istore_n 3, 1) := by decide +kernel
theorem dX4_digest_157 : decode cX4_digest 157 = .ok (.iload_n 3, 1) := by decide +kernel
theorem dX4_digest_158 : decode cX4_digest 158 = .ok (.aload_n 0, 1) := by decide +kernel
theorem dX4_digest_159 : decode cX4_digest 159 = .ok (.getfield 17, 3) := by decide +kernel
theorem dX4_digest_162 : decode cX4_digest 162 = .ok (.getfield 58, 3) := by decide +kernel
theorem dX4_digest_165 : decode cX4_digest 165 = .ok (.getfield 62, 3) := by decide +kernel
theorem dX4_digest_168 : decode cX4_digest 168 = .ok (.if_icmp .ge 39, 3) := by decide +kernel
theorem dX4_digest_171 : decode cX4_digest 171 = .ok (.iconst 0, 1) := by decide +kernel
theorem dX4_digest_172 : decode cX4_digest 172 = .ok (.istore 4, 2) := by decide +kernel
theorem dX4_digest_174 : decode cX4_digest 174 = .ok (.iload 4, 2) := by decide +kernel
theorem dX4_digest_176 : decode cX4_digest 176 = .ok (.iconst 5, 1) := by decide +kernel
theorem dX4_digest_177 : decode cX4_digest 177 = .ok (.if_icmp .ge 24, 3) := by decide +kernel
theorem dX4_digest_180 : decode cX4_digest 180 = .ok (.lload_n 1, 1) := by decide +kernel
theorem dX4_digest_181 : decode cX4_digest 181 = .ok (.ldc2_w 140, 3) := by decide +kernel
theorem dX4_digest_184 : decode cX4_digest 184 = .ok (.lmul, 1) := by decide +kernel
theorem dX4_digest_185 : decode cX4_digest 185 = .ok (.aload_n 0, 1) := by decide +kernel
theorem dX4_digest_186 : decode cX4_digest 186 = .ok (.iload_n 3, 1) := by decide +kernel
theorem dX4_digest_187 : decode cX4_digest 187 = .ok (.iload 4, 2) := by decide +kernel
theorem dX4_digest_189 : decode cX4_digest 189 = .ok (.invokevirtual 154, 3) := by decide +kernel
theorem dX4_digest_192 : decode cX4_digest 192 = .ok (.i2l, 1) := by decide +kernel
theorem dX4_digest_193 : decode cX4_digest 193 = .ok (.ladd, 1) := by decide +kernel
theorem dX4_digest_194 : decode cX4_digest 194 = .ok (.lstore_n 1, 1) := by decide +kernel
theorem dX4_digest_195 : decode cX4_digest 195 = .ok (.iinc 4 1, 3) := by decide +kernel
theorem dX4_digest_198 : decode cX4_digest 198 = .ok (.goto (-24), 3) := by decide +kernel
theorem dX4_digest_201 : decode cX4_digest 201 = .ok (.iinc 3 1, 3) := by decide +kernel
theorem dX4_digest_204 : decode cX4_digest 204 = .ok (.goto (-47), 3) := by decide +kernel
theorem dX4_digest_207 : decode cX4_digest 207 = .ok (.lload_n 1, 1) := by decide +kernel
theorem dX4_digest_208 : decode cX4_digest 208 = .ok (.lreturn, 1) := by decide +kernel
set_option maxRecDepth 20000 in
theorem ggX4_deliveredIfAssigned_X3_copyFrom : GoodIn wsX4_deliveredIfAssigned wsX3_copyFrom := goodIn_r _ [11, 12, 13, 14, 15, 16, 17, 18, 19, 20, 21, 22, 23, 24, 25, 26, 27, 28, 29, 30, 31, 32, 33, 34, 35, 36, 37, 38, 39, 40, 41, 42, 43, 44, 45, 157, 158, 159, 160, 169, 170, 171, 172, 173, 174, 175, 176, 161, 162, 163, 164, 165, 166, 167, 168] (by decide +kernel) (by decide +kernel)
set_option maxRecDepth 20000 in
theorem gX4_deliveredIfAssigned_X3_copyFrom : GoodIn wsX4_deliveredIfAssigned (wsV RX4 116 RX3 yX3_copyFrom wsX3_copyFrom) := goodIn_app (goodIn_of _ (by decide +kernel)) ggX4_deliveredIfAssigned_X3_copyFrom
set_option maxRecDepth 20000 in
theorem ggX4_deliveredIfAssigned_X3_run : GoodIn wsX4_deliveredIfAssigned wsX3_run := goodIn_r _ [49, 50, 51, 52, 10, 53, 14, 54, 55, 56, 12, 57, 58, 59, 60, 61, 13, 62, 63, 64, 65, 18, 66, 30, 20, 27, 21, 67, 68, 69, 70, 71, 72, 73, 28, 74, 75, 76, 77, 31, 78, 79, 80, 35, 81, 43, 44, 82, 83, 84, 85, 38, 41, 42, 86, 87, 88, 89, 90, 91, 92, 93, 94, 95, 96, 97, 98, 99, 100, 101, 102, 103, 104, 105, 106, 107, 108, 109, 110, 111, 112, 113, 114, 115, 116, 117, 118, 26, 119, 120, 121, 122, 123, 124, 125, 126, 127, 128, 29, 129, 130, 131, 132, 133, 134, 135, 136, 137, 138, 139, 140, 141, 142, 37, 143, 144, 145, 146, 147, 148, 149, 150, 151, 152, 153, 154, 157, 158, 159, 160, 161, 162, 163, 164, 165, 166, 167, 168, 177, 178, 169, 170, 171, 172, 173, 174, 175, 176] (by decide +kernel) (by decide +kernel)
set_option maxRecDepth 20000 in
theorem gX4_deliveredIfAssigned_X3_run : GoodIn wsX4_deliveredIfAssigned (wsV RX4 112 RX3 yX3_run wsX3_run) := goodIn_app (goodIn_of _ (by decide +kernel)) ggX4_deliveredIfAssigned_X3_run
theorem dX4_deliveredIfAssigned_0 : decode cX4_deliveredIfAssigned 0 = .ok (.aload_n 0, 1) := by decide +kernel
theorem dX4_deliveredIfAssigned_1 : decode cX4_deliveredIfAssigned 1 = .ok (.getfield 21, 3) := by decide +kernel
theorem dX4_deliveredIfAssigned_4 : decode cX4_deliveredIfAssigned 4 = .ok (.aload_n 0, 1) := by decide +kernel
theorem dX4_deliveredIfAssigned_5 : decode cX4_deliveredIfAssigned 5 = .ok (.getfield 17, 3) := by decide +kernel
theorem dX4_deliveredIfAssigned_8 : decode cX4_deliveredIfAssigned 8 = .ok (.invokevirtual 116, 3) := by decide +kernel
theorem dX4_deliveredIfAssigned_11 : decode cX4_deliveredIfAssigned 11 = .ok (.aload_n 0, 1) := by decide +kernel
theorem dX4_deliveredIfAssigned_12 : decode cX4_deliveredIfAssigned 12 = .ok (.getfield 21, 3) := by decide +kernel
theorem dX4_deliveredIfAssigned_15 : decode cX4_deliveredIfAssigned 15 = .ok (.getfield 74, 3) := by decide +kernel
theorem dX4_deliveredIfAssigned_18 : decode cX4_deliveredIfAssigned 18 = .ok (.getfield 86, 3) := by decide +kernel
theorem dX4_deliveredIfAssigned_21 : decode cX4_deliveredIfAssigned 21 = .ok (.iload_n 1, 1) := by decide +kernel
theorem dX4_deliveredIfAssigned_22 : decode cX4_deliveredIfAssigned 22 = .ok (.iload_n 2, 1) := by decide +kernel
theorem dX4_deliveredIfAssigned_23 : decode cX4_deliveredIfAssigned 23 = .ok (.iastore, 1) := by decide +kernel
theorem dX4_deliveredIfAssigned_24 : decode cX4_deliveredIfAssigned 24 = .ok (.aload_n 0, 1) := by decide +kernel
theorem dX4_deliveredIfAssigned_25 : decode cX4_deliveredIfAssigned 25 = .ok (.getfield 21, 3) := by decide +kernel
theorem dX4_deliveredIfAssigned_28 : decode cX4_deliveredIfAssigned 28 = .ok (.iload_n 3, 1) := by decide +kernel
theorem dX4_deliveredIfAssigned_29 : decode cX4_deliveredIfAssigned 29 = .ok (.invokevirtual 112, 3) := by decide +kernel
theorem dX4_deliveredIfAssigned_32 : decode cX4_deliveredIfAssigned 32 = .ok (.aload_n 0, 1) := by decide +kernel
theorem dX4_deliveredIfAssigned_33 : decode cX4_deliveredIfAssigned 33 = .ok (.getfield 21, 3) := by decide +kernel
theorem dX4_deliveredIfAssigned_36 : decode cX4_deliveredIfAssigned 36 = .ok (.getfield 58, 3) := by decide +kernel
theorem dX4_deliveredIfAssigned_39 : decode cX4_deliveredIfAssigned 39 = .ok (.getfield 109, 3) := by decide +kernel
theorem dX4_deliveredIfAssigned_42 : decode cX4_deliveredIfAssigned 42 = .ok (.iconst 4, 1) := by decide +kernel
theorem dX4_deliveredIfAssigned_43 : decode cX4_deliveredIfAssigned 43 = .ok (.iaload, 1) := by decide +kernel
theorem dX4_deliveredIfAssigned_44 : decode cX4_deliveredIfAssigned 44 = .ok (.ireturn, 1) := by decide +kernel
theorem dX4_checkIndex_0 : decode cX4_checkIndex 0 = .ok (.iload_n 0, 1) := by decide +kernel
theorem dX4_checkIndex_1 : decode cX4_checkIndex 1 = .ok (.ifCond .lt 8, 3) := by decide +kernel
theorem dX4_checkIndex_4 : decode cX4_checkIndex 4 = .ok (.iload_n 0, 1) := by decide +kernel
theorem dX4_checkIndex_5 : decode cX4_checkIndex 5 = .ok (.iload_n 1, 1) := by decide +kernel
theorem dX4_checkIndex_6 : decode cX4_checkIndex 6 = .ok (.if_icmp .lt 13, 3) := by decide +kernel
theorem dX4_checkIndex_9 : decode cX4_checkIndex 9 = .ok (.new 126, 3) := by decide +kernel
theorem dX4_checkIndex_12 : decode cX4_checkIndex 12 = .ok (.dup, 1) := by decide +kernel
theorem dX4_checkIndex_13 : decode cX4_checkIndex 13 = .ok (.ldc 157, 2) := by decide +kernel
theorem dX4_checkIndex_15 : decode cX4_checkIndex 15 = .ok (.invokespecial 130, 3) := by decide +kernel
theorem dX4_checkIndex_18 : decode cX4_checkIndex 18 = .ok (.athrow, 1) := by decide +kernel
theorem dX4_checkIndex_19 : decode cX4_checkIndex 19 = .ok (.return_, 1) := by decide +kernel
theorem dX4_checkArgument_0 : decode cX4_checkArgument 0 = .ok (.iload_n 0, 1) := by decide +kernel
theorem dX4_checkArgument_1 : decode cX4_checkArgument 1 = .ok (.iload_n 1, 1) := by decide +kernel
theorem dX4_checkArgument_2 : decode cX4_checkArgument 2 = .ok (.if_icmp .lt 8, 3) := by decide +kernel
theorem dX4_checkArgument_5 : decode cX4_checkArgument 5 = .ok (.iload_n 0, 1) := by decide +kernel
theorem dX4_checkArgument_6 : decode cX4_checkArgument 6 = .ok (.iload_n 2, 1) := by decide +kernel
theorem dX4_checkArgument_7 : decode cX4_checkArgument 7 = .ok (.if_icmp .le 13, 3) := by decide +kernel
theorem dX4_checkArgument_10 : decode cX4_checkArgument 10 = .ok (.new 159, 3) := by decide +kernel
theorem dX4_checkArgument_13 : decode cX4_checkArgument 13 = .ok (.dup, 1) := by decide +kernel
theorem dX4_checkArgument_14 : decode cX4_checkArgument 14 = .ok (.ldc 161, 2) := by decide +kernel
theorem dX4_checkArgument_16 : decode cX4_checkArgument 16 = .ok (.invokespecial 163, 3) := by decide +kernel
theorem dX4_checkArgument_19 : decode cX4_checkArgument 19 = .ok (.athrow, 1) := by decide +kernel
theorem dX4_checkArgument_20 : decode cX4_checkArgument 20 = .ok (.return_, 1) := by decide +kernel
theorem dX4_hasTown_0 : decode cX4_hasTown 0 = .ok (.iload_n 0, 1) := by decide +kernel
theorem dX4_hasTown_1 : decode cX4_hasTown 1 = .ok (.iload_n 1, 1) := by decide +kernel
theorem dX4_hasTown_2 : decode cX4_hasTown 2 = .ok (.ishr, 1) := by decide +kernel
theorem dX4_hasTown_3 : decode cX4_hasTown 3 = .ok (.iconst 1, 1) := by decide +kernel
theorem dX4_hasTown_4 : decode cX4_hasTown 4 = .ok (.iand, 1) := by decide +kernel
theorem dX4_hasTown_5 : decode cX4_hasTown 5 = .ok (.iconst 1, 1) := by decide +kernel
theorem dX4_hasTown_6 : decode cX4_hasTown 6 = .ok (.if_icmp .ne 7, 3) := by decide +kernel
theorem dX4_hasTown_9 : decode cX4_hasTown 9 = .ok (.iconst 1, 1) := by decide +kernel
theorem dX4_hasTown_10 : decode cX4_hasTown 10 = .ok (.goto 4, 3) := by decide +kernel
theorem dX4_hasTown_13 : decode cX4_hasTown 13 = .ok (.iconst 0, 1) := by decide +kernel
theorem dX4_hasTown_14 : decode cX4_hasTown 14 = .ok (.ireturn, 1) := by decide +kernel
theorem dX4_stationOf_0 : decode cX4_stationOf 0 = .ok (.iload_n 0, 1) := by decide +kernel
theorem dX4_stationOf_1 : decode cX4_stationOf 1 = .ok (.iconst 2, 1) := by decide +kernel
theorem dX4_stationOf_2 : decode cX4_stationOf 2 = .ok (.idiv, 1) := by decide +kernel
theorem dX4_stationOf_3 : decode cX4_stationOf 3 = .ok (.ireturn, 1) := by decide +kernel
theorem dX5_init_0 : decode cX5_init 0 = .ok (.aload_n 0, 1) := by decide +kernel
theorem dX5_init_1 : decode cX5_init 1 = .ok (.aload_n 1, 1) := by decide +kernel
theorem dX5_init_2 : decode cX5_init 2 = .ok (.putfield 3, 3) := by decide +kernel
theorem dX5_init_5 : decode cX5_init 5 = .ok (.aload_n 0, 1) := by decide +kernel
theorem dX5_init_6 : decode cX5_init 6 = .ok (.invokespecial 9, 3) := by decide +kernel
theorem dX5_init_9 : decode cX5_init 9 = .ok (.aload_n 0, 1) := by decide +kernel
theorem dX5_init_10 : decode cX5_init 10 = .ok (.bipush 60, 2) := by decide +kernel
theorem dX5_init_12 : decode cX5_init 12 = .ok (.newarray .int, 2) := by decide +kernel
theorem dX5_init_14 : decode cX5_init 14 = .ok (.putfield 15, 3) := by decide +kernel
theorem dX5_init_17 : decode cX5_init 17 = .ok (.aload_n 0, 1) := by decide +kernel
theorem dX5_init_18 : decode cX5_init 18 = .ok (.bipush 60, 2) := by decide +kernel
theorem dX5_init_20 : decode cX5_init 20 = .ok (.newarray .int, 2) := by decide +kernel
theorem dX5_init_22 : decode cX5_init 22 = .ok (.putfield 19, 3) := by decide +kernel
theorem dX5_init_25 : decode cX5_init 25 = .ok (.aload_n 0, 1) := by decide +kernel
theorem dX5_init_26 : decode cX5_init 26 = .ok (.bipush 60, 2) := by decide +kernel
theorem dX5_init_28 : decode cX5_init 28 = .ok (.newarray .int, 2) := by decide +kernel
theorem dX5_init_30 : decode cX5_init 30 = .ok (.putfield 22, 3) := by decide +kernel
theorem dX5_init_33 : decode cX5_init 33 = .ok (.aload_n 0, 1) := by decide +kernel
theorem dX5_init_34 : decode cX5_init 34 = .ok (.iconst 4, 1) := by decide +kernel
theorem dX5_init_35 : decode cX5_init 35 = .ok (.newarray .int, 2) := by decide +kernel
theorem dX5_init_37 : decode cX5_init 37 = .ok (.putfield 25, 3) := by decide +kernel
theorem dX5_init_40 : decode cX5_init 40 = .ok (.aload_n 0, 1) := by decide +kernel
theorem dX5_init_41 : decode cX5_init 41 = .ok (.iconst 4, 1) := by decide +kernel
theorem dX5_init_42 : decode cX5_init 42 = .ok (.newarray .int, 2) := by decide +kernel
theorem dX5_init_44 : decode cX5_init 44 = .ok (.putfield 28, 3) := by decide +kernel
theorem dX5_init_47 : decode cX5_init 47 = .ok (.aload_n 0, 1) := by decide +kernel
theorem dX5_init_48 : decode cX5_init 48 = .ok (.iconst 4, 1) := by decide +kernel
theorem dX5_init_49 : decode cX5_init 49 = .ok (.newarray .int, 2) := by decide +kernel
theorem dX5_init_51 : decode cX5_init 51 = .ok (.putfield 31, 3) := by decide +kernel
theorem dX5_init_54 : decode cX5_init 54 = .ok (.aload_n 0, 1) := by decide +kernel
theorem dX5_init_55 : decode cX5_init 55 = .ok (.iconst 4, 1) := by decide +kernel
theorem dX5_init_56 : decode cX5_init 56 = .ok (.newarray .int, 2) := by decide +kernel
theorem dX5_init_58 : decode cX5_init 58 = .ok (.putfield 34, 3) := by decide +kernel
theorem dX5_init_61 : decode cX5_init 61 = .ok (.aload_n 0, 1) := by decide +kernel
theorem dX5_init_62 : decode cX5_init 62 = .ok (.iconst 4, 1) := by decide +kernel
theorem dX5_init_63 : decode cX5_init 63 = .ok (.newarray .int, 2) := by decide +kernel
theorem dX5_init_65 : decode cX5_init 65 = .ok (.putfield 37, 3) := by decide +kernel
theorem dX5_init_68 : decode cX5_init 68 = .ok (.aload_n 0, 1) := by decide +kernel
theorem dX5_init_69 : decode cX5_init 69 = .ok (.iconst 4, 1) := by decide +kernel
theorem dX5_init_70 : decode cX5_init 70 = .ok (.newarray .int, 2) := by decide +kernel
theorem dX5_init_72 : decode cX5_init 72 = .ok (.putfield 40, 3) := by decide +kernel
theorem dX5_init_75 : decode cX5_init 75 = .ok (.return_, 1) := by decide +kernel
theorem dX5_copy_0 : decode cX5_copy 0 = .ok (.aload_n 1, 1) := by decide +kernel
theorem dX5_copy_1 : decode cX5_copy 1 = .ok (.iconst 0, 1) := by decide +kernel
theorem dX5_copy_2 : decode cX5_copy 2 = .ok (.aload_n 2, 1) := by decide +kernel
theorem dX5_copy_3 : decode cX5_copy 3 = .ok (.iconst 0, 1) := by decide +kernel
theorem dX5_copy_4 : decode cX5_copy 4 = .ok (.aload_n 1, 1) := by decide +kernel
theorem dX5_copy_5 : decode cX5_copy 5 = .ok (.arraylength, 1) := by decide +kernel
theorem dX5_copy_6 : decode cX5_copy 6 = .ok (.invokestatic 43, 3) := by decide +kernel
theorem dX5_copy_9 : decode cX5_copy 9 = .ok (.return_, 1) := by decide +kernel
set_option maxRecDepth 20000 in
theorem ggX5_become_X5_copy : GoodIn wsX5_become wsX5_copy := goodIn_r _ [15, 16, 17, 18, 19] (by decide +kernel) (by decide +kernel)
set_option maxRecDepth 20000 in
theorem gX5_become_X5_copy : GoodIn wsX5_become (wsV RX5 53 RX5 yX5_copy wsX5_copy) := goodIn_app (goodIn_of _ (by decide +kernel)) ggX5_become_X5_copy
theorem dX5_become_0 : decode cX5_become 0 = .ok (.aload_n 0, 1) := by decide +kernel
theorem dX5_become_1 : decode cX5_become 1 = .ok (.aload_n 1, 1) := by decide +kernel
theorem dX5_become_2 : decode cX5_become 2 = .ok (.getfield 49, 3) := by decide +kernel
theorem dX5_become_5 : decode cX5_become 5 = .ok (.putfield 49, 3) := by decide +kernel
theorem dX5_become_8 : decode cX5_become 8 = .ok (.aload_n 0, 1) := by decide +kernel
theorem dX5_become_9 : decode cX5_become 9 = .ok (.aload_n 1, 1) := by decide +kernel
theorem dX5_become_10 : decode cX5_become 10 = .ok (.getfield 15, 3) := by decide +kernel
theorem dX5_become_13 : decode cX5_become 13 = .ok (.aload_n 0, 1) := by decide +kernel
theorem dX5_become_14 : decode cX5_become 14 = .ok (.getfield 15, 3) := by decide +kernel
theorem dX5_become_17 : decode cX5_become 17 = .ok (.invokevirtual 53, 3) := by decide +kernel
theorem dX5_become_20 : decode cX5_become 20 = .ok (.aload_n 0, 1) := by decide +kernel
theorem dX5_become_21 : decode cX5_become 21 = .ok (.aload_n 1, 1) := by decide +kernel
theorem dX5_become_22 : decode cX5_become 22 = .ok (.getfield 19, 3) := by decide +kernel
theorem dX5_become_25 : decode cX5_become 25 = .ok (.aload_n 0, 1) := by decide +kernel
theorem dX5_become_26 : decode cX5_become 26 = .ok (.getfield 19, 3) := by decide +kernel
theorem dX5_become_29 : decode cX5_become 29 = .ok (.invokevirtual 53, 3) := by decide +kernel
theorem dX5_become_32 : decode cX5_become 32 = .ok (.aload_n 0, 1) := by decide +kernel
theorem dX5_become_33 : decode cX5_become 33 = .ok (.aload_n 1, 1) := by decide +kernel
theorem dX5_become_34 : decode cX5_become 34 = .ok (.getfield 22, 3) := by decide +kernel
theorem dX5_become_37 : decode cX5_become 37 = .ok (.aload_n 0, 1) := by decide +kernel
theorem dX5_become_38 : decode cX5_become 38 = .ok (.getfield 22, 3) := by decide +kernel
theorem dX5_become_41 : decode cX5_become 41 = .ok (.invokevirtual 53, 3) := by decide +kernel
theorem dX5_become_44 : decode cX5_become 44 = .ok (.aload_n 0, 1) := by decide +kernel
theorem dX5_become_45 : decode cX5_become 45 = .ok (.aload_n 1, 1) := by decide +kernel
theorem dX5_become_46 : decode cX5_become 46 = .ok (.getfield 25, 3) := by decide +kernel
theorem dX5_become_49 : decode cX5_become 49 = .ok (.aload_n 0, 1) := by decide +kernel
theorem dX5_become_50 : decode cX5_become 50 = .ok (.getfield 25, 3) := by decide +kernel
theorem dX5_become_53 : decode cX5_become 53 = .ok (.invokevirtual 53, 3) := by decide +kernel
theorem dX5_become_56 : decode cX5_become 56 = .ok (.aload_n 0, 1) := by decide +kernel
theorem dX5_become_57 : decode cX5_become 57 = .ok (.aload_n 1, 1) := by decide +kernel
theorem dX5_become_58 : decode cX5_become 58 = .ok (.getfield 28, 3) := by decide +kernel
theorem dX5_become_61 : decode cX5_become 61 = .ok (.aload_n 0, 1) := by decide +kernel
theorem dX5_become_62 : decode cX5_become 62 = .ok (.getfield 28, 3) := by decide +kernel
theorem dX5_become_65 : decode cX5_become 65 = .ok (.invokevirtual 53, 3) := by decide +kernel
theorem dX5_become_68 : decode cX5_become 68 = .ok (.aload_n 0, 1) := by decide +kernel
theorem dX5_become_69 : decode cX5_become 69 = .ok (.aload_n 1, 1) := by decide +kernel
theorem dX5_become_70 : decode cX5_become 70 = .ok (.getfield 31, 3) := by decide +kernel
theorem dX5_become_73 : decode cX5_become 73 = .ok (.aload_n 0, 1) := by decide +kernel
theorem dX5_become_74 : decode cX5_become 74 = .ok (.getfield 31, 3) := by decide +kernel
theorem dX5_become_77 : decode cX5_become 77 = .ok (.invokevirtual 53, 3) := by decide +kernel
theorem dX5_become_80 : decode cX5_become 80 = .ok (.aload_n 0, 1) := by decide +kernel
theorem dX5_become_81 : decode cX5_become 81 = .ok (.aload_n 1, 1) := by decide +kernel
theorem dX5_become_82 : decode cX5_become 82 = .ok (.getfield 34, 3) := by decide +kernel
theorem dX5_become_85 : decode cX5_become 85 = .ok (.aload_n 0, 1) := by decide +kernel
theorem dX5_become_86 : decode cX5_become 86 = .ok (.getfield 34, 3) := by decide +kernel
theorem dX5_become_89 : decode cX5_become 89 = .ok (.invokevirtual 53, 3) := by decide +kernel
theorem dX5_become_92 : decode cX5_become 92 = .ok (.aload_n 0, 1) := by decide +kernel
theorem dX5_become_93 : decode cX5_become 93 = .ok (.aload_n 1, 1) := by decide +kernel
theorem dX5_become_94 : decode cX5_become 94 = .ok (.getfield 37, 3) := by decide +kernel
theorem dX5_become_97 : decode cX5_become 97 = .ok (.aload_n 0, 1) := by decide +kernel
theorem dX5_become_98 : decode cX5_become 98 = .ok (.getfield 37, 3) := by decide +kernel
theorem dX5_become_101 : decode cX5_become 101 = .ok (.invokevirtual 53, 3) := by decide +kernel
theorem dX5_become_104 : decode cX5_become 104 = .ok (.aload_n 0, 1) := by decide +kernel
theorem dX5_become_105 : decode cX5_become 105 = .ok (.aload_n 1, 1) := by decide +kernel
theorem dX5_become_106 : decode cX5_become 106 = .ok (.getfield 40, 3) := by decide +kernel
theorem dX5_become_109 : decode cX5_become 109 = .ok (.aload_n 0, 1) := by decide +kernel
theorem dX5_become_110 : decode cX5_become 110 = .ok (.getfield 40, 3) := by decide +kernel
theorem dX5_become_113 : decode cX5_become 113 = .ok (.invokevirtual 53, 3) := by decide +kernel
theorem dX5_become_116 : decode cX5_become 116 = .ok (.return_, 1) := by decide +kernel
theorem dX5_are_0 : decode cX5_are 0 = .ok (.iconst 0, 1) := by decide +kernel
theorem dX5_are_1 : decode cX5_are 1 = .ok (.istore_n 2, 1) := by decide +kernel
theorem dX5_are_2 : decode cX5_are 2 = .ok (.iconst 0, 1) := by decide +kernel
theorem dX5_are_3 : decode cX5_are 3 = .ok (.istore_n 3, 1) := by decide +kernel
theorem dX5_are_4 : decode cX5_are 4 = .ok (.iload_n 3, 1) := by decide +kernel
theorem dX5_are_5 : decode cX5_are 5 = .ok (.aload_n 0, 1) := by decide +kernel
theorem dX5_are_6 : decode cX5_are 6 = .ok (.getfield 3, 3) := by decide +kernel
theorem dX5_are_9 : decode cX5_are 9 = .ok (.getfield 57, 3) := by decide +kernel
theorem dX5_are_12 : decode cX5_are 12 = .ok (.if_icmp .ge 27, 3) := by decide +kernel
theorem dX5_are_15 : decode cX5_are 15 = .ok (.iload_n 2, 1) := by decide +kernel
theorem dX5_are_16 : decode cX5_are 16 = .ok (.aload_n 0, 1) := by decide +kernel
theorem dX5_are_17 : decode cX5_are 17 = .ok (.getfield 15, 3) := by decide +kernel
theorem dX5_are_20 : decode cX5_are 20 = .ok (.iload_n 3, 1) := by decide +kernel
theorem dX5_are_21 : decode cX5_are 21 = .ok (.iaload, 1) := by decide +kernel
theorem dX5_are_22 : decode cX5_are 22 = .ok (.iload_n 1, 1) := by decide +kernel
theorem dX5_are_23 : decode cX5_are 23 = .ok (.if_icmp .ne 7, 3) := by decide +kernel
theorem dX5_are_26 : decode cX5_are 26 = .ok (.iconst 1, 1) := by decide +kernel
theorem dX5_are_27 : decode cX5_are 27 = .ok (.goto 4, 3) := by decide +kernel
theorem dX5_are_30 : decode cX5_are 30 = .ok (.iconst 0, 1) := by decide +kernel
theorem dX5_are_31 : decode cX5_are 31 = .ok (.iadd, 1) := by decide +kernel
theorem dX5_are_32 : decode cX5_are 32 = .ok (.istore_n 2, 1) := by decide +kernel
theorem dX5_are_33 : decode cX5_are 33 = .ok (.iinc 3 1, 3) := by decide +kernel
theorem dX5_are_36 : decode cX5_are 36 = .ok (.goto (-32), 3) := by decide +kernel
theorem dX5_are_39 : decode cX5_are 39 = .ok (.iload_n 2, 1) := by decide +kernel
theorem dX5_are_40 : decode cX5_are 40 = .ok (.ireturn, 1) := by decide +kernel
theorem dX5_inHole_0 : decode cX5_inHole 0 = .ok (.iconst 0, 1) := by decide +kernel
theorem dX5_inHole_1 : decode cX5_inHole 1 = .ok (.istore_n 2, 1) := by decide +kernel
theorem dX5_inHole_2 : decode cX5_inHole 2 = .ok (.iconst 0, 1) := by decide +kernel
theorem dX5_inHole_3 : decode cX5_inHole 3 = .ok (.istore_n 3, 1) := by decide +kernel
theorem dX5_inHole_4 : decode cX5_inHole 4 = .ok (.iload_n 3, 1) := by decide +kernel
theorem dX5_inHole_5 : decode cX5_inHole 5 = .ok (.aload_n 0, 1) := by decide +kernel
theorem dX5_inHole_6 : decode cX5_inHole 6 = .ok (.getfield 3, 3) := by decide +kernel
theorem dX5_inHole_9 : decode cX5_inHole 9 = .ok (.getfield 57, 3) := by decide +kernel
theorem dX5_inHole_12 : decode cX5_inHole 12 = .ok (.if_icmp .ge 40, 3) := by decide +kernel
theorem dX5_inHole_15 : decode cX5_inHole 15 = .ok (.iload_n 2, 1) := by decide +kernel
theorem dX5_inHole_16 : decode cX5_inHole 16 = .ok (.aload_n 0, 1) := by decide +kernel
theorem dX5_inHole_17 : decode cX5_inHole 17 = .ok (.getfield 15, 3) := by decide +kernel
theorem dX5_inHole_20 : decode cX5_inHole 20 = .ok (.iload_n 3, 1) := by decide +kernel
theorem dX5_inHole_21 : decode cX5_inHole 21 = .ok (.iaload, 1) := by decide +kernel
theorem dX5_inHole_22 : decode cX5_inHole 22 = .ok (.iconst 3, 1) := by decide +kernel
theorem dX5_inHole_23 : decode cX5_inHole 23 = .ok (.if_icmp .ne 20, 3) := by decide +kernel
theorem dX5_inHole_26 : decode cX5_inHole 26 = .ok (.aload_n 0, 1) := by decide +kernel
theorem dX5_inHole_27 : decode cX5_inHole 27 = .ok (.getfield 3, 3) := by decide +kernel
theorem dX5_inHole_30 : decode cX5_inHole 30 = .ok (.getfield 60, 3) := by decide +kernel
theorem dX5_inHole_33 : decode cX5_inHole 33 = .ok (.iload_n 3, 1) := by decide +kernel
theorem dX5_inHole_34 : decode cX5_inHole 34 = .ok (.iaload, 1) := by decide +kernel
theorem dX5_inHole_35 : decode cX5_inHole 35 = .ok (.iload_n 1, 1) := by decide +kernel
theorem dX5_inHole_36 : decode cX5_inHole 36 = .ok (.if_icmp .ne 7, 3) := by decide +kernel
theorem dX5_inHole_39 : decode cX5_inHole 39 = .ok (.iconst 1, 1) := by decide +kernel
theorem dX5_inHole_40 : decode cX5_inHole 40 = .ok (.goto 4, 3) := by decide +kernel
theorem dX5_inHole_43 : decode cX5_inHole 43 = .ok (.iconst 0, 1) := by decide +kernel
theorem dX5_inHole_44 : decode cX5_inHole 44 = .ok (.iadd, 1) := by decide +kernel
theorem dX5_inHole_45 : decode cX5_inHole 45 = .ok (.istore_n 2, 1) := by decide +kernel
theorem dX5_inHole_46 : decode cX5_inHole 46 = .ok (.iinc 3 1, 3) := by decide +kernel
theorem dX5_inHole_49 : decode cX5_inHole 49 = .ok (.goto (-45), 3) := by decide +kernel
theorem dX5_inHole_52 : decode cX5_inHole 52 = .ok (.iload_n 2, 1) := by decide +kernel
theorem dX5_inHole_53 : decode cX5_inHole 53 = .ok (.ireturn, 1) := by decide +kernel
theorem dX5_firstFor_0 : decode cX5_firstFor 0 = .ok (.iconst 0, 1) := by decide +kernel
theorem dX5_firstFor_1 : decode cX5_firstFor 1 = .ok (.istore_n 2, 1) := by decide +kernel
theorem dX5_firstFor_2 : decode cX5_firstFor 2 = .ok (.iload_n 2, 1) := by decide +kernel
theorem dX5_firstFor_3 : decode cX5_firstFor 3 = .ok (.aload_n 0, 1) := by decide +kernel
theorem dX5_firstFor_4 : decode cX5_firstFor 4 = .ok (.getfield 3, 3) := by decide +kernel
theorem dX5_firstFor_7 : decode cX5_firstFor 7 = .ok (.getfield 57, 3) := by decide +kernel
theorem dX5_firstFor_10 : decode cX5_firstFor 10 = .ok (.if_icmp .ge 43, 3) := by decide +kernel
theorem dX5_firstFor_13 : decode cX5_firstFor 13 = .ok (.aload_n 0, 1) := by decide +kernel
theorem dX5_firstFor_14 : decode cX5_firstFor 14 = .ok (.getfield 15, 3) := by decide +kernel
theorem dX5_firstFor_17 : decode cX5_firstFor 17 = .ok (.iload_n 2, 1) := by decide +kernel
theorem dX5_firstFor_18 : decode cX5_firstFor 18 = .ok (.iaload, 1) := by decide +kernel
theorem dX5_firstFor_19 : decode cX5_firstFor 19 = .ok (.iconst 1, 1) := by decide +kernel
theorem dX5_firstFor_20 : decode cX5_firstFor 20 = .ok (.if_icmp .ne 27, 3) := by decide +kernel
theorem dX5_firstFor_23 : decode cX5_firstFor 23 = .ok (.aload_n 0, 1) := by decide +kernel
theorem dX5_firstFor_24 : decode cX5_firstFor 24 = .ok (.getfield 25, 3) := by decide +kernel
theorem dX5_firstFor_27 : decode cX5_firstFor 27 = .ok (.iload_n 1, 1) := by decide +kernel
theorem dX5_firstFor_28 : decode cX5_firstFor 28 = .ok (.iaload, 1) := by decide +kernel
theorem dX5_firstFor_29 : decode cX5_firstFor 29 = .ok (.aload_n 0, 1) := by decide +kernel
theorem dX5_firstFor_30 : decode cX5_firstFor 30 = .ok (.getfield 3, 3) := by decide +kernel
theorem dX5_firstFor_33 : decode cX5_firstFor 33 = .ok (.getfield 60, 3) := by decide +kernel
theorem dX5_firstFor_36 : decode cX5_firstFor 36 = .ok (.iload_n 2, 1) := by decide +kernel
theorem dX5_firstFor_37 : decode cX5_firstFor 37 = .ok (.iaload, 1) := by decide +kernel
theorem dX5_firstFor_38 : decode cX5_firstFor 38 = .ok (.ishr, 1) := by decide +kernel
theorem dX5_firstFor_39 : decode cX5_firstFor 39 = .ok (.iconst 1, 1) := by decide +kernel
theorem dX5_firstFor_40 : decode cX5_firstFor 40 = .ok (.iand, 1) := by decide +kernel
theorem dX5_firstFor_41 : decode cX5_firstFor 41 = .ok (.iconst 1, 1) := by decide +kernel
theorem dX5_firstFor_42 : decode cX5_firstFor 42 = .ok (.if_icmp .ne 5, 3) := by decide +kernel
theorem dX5_firstFor_45 : decode cX5_firstFor 45 = .ok (.iload_n 2, 1) := by decide +kernel
theorem dX5_firstFor_46 : decode cX5_firstFor 46 = .ok (.ireturn, 1) := by decide +kernel
theorem dX5_firstFor_47 : decode cX5_firstFor 47 = .ok (.iinc 2 1, 3) := by decide +kernel
theorem dX5_firstFor_50 : decode cX5_firstFor 50 = .ok (.goto (-48), 3) := by decide +kernel
theorem dX5_firstFor_53 : decode cX5_firstFor 53 = .ok (.iconst (-1), 1) := by decide +kernel
theorem dX5_firstFor_54 : decode cX5_firstFor 54 = .ok (.ireturn, 1) := by decide +kernel
set_option maxRecDepth 20000 in
theorem ggX5_take_X5_firstFor : GoodIn wsX5_take wsX5_firstFor := goodIn_r _ [16, 3, 10, 17, 18, 19, 20, 21, 22, 23, 24, 25, 26, 27, 28, 29, 30, 31, 32, 33, 34, 35, 36, 37, 38] (by decide +kernel) (by decide +kernel)
set_option maxRecDepth 20000 in
theorem gX5_take_X5_firstFor : GoodIn wsX5_take (wsV RX5 63 RX5 yX5_firstFor wsX5_firstFor) := goodIn_app (goodIn_of _ (by decide +kernel)) ggX5_take_X5_firstFor
theorem dX5_take_0 : decode cX5_take 0 = .ok (.aload_n 0, 1) := by decide +kernel
theorem dX5_take_1 : decode cX5_take 1 = .ok (.iload_n 1, 1) := by decide +kernel
theorem dX5_take_2 : decode cX5_take 2 = .ok (.invokevirtual 63, 3) := by decide +kernel
theorem dX5_take_5 : decode cX5_take 5 = .ok (.istore_n 2, 1) := by decide +kernel
theorem dX5_take_6 : decode cX5_take 6 = .ok (.iload_n 2, 1) := by decide +kernel
theorem dX5_take_7 : decode cX5_take 7 = .ok (.iconst (-1), 1) := by decide +kernel
theorem dX5_take_8 : decode cX5_take 8 = .ok (.if_icmp .ne 4, 3) := by decide +kernel
theorem dX5_take_11 : decode cX5_take 11 = .ok (.return_, 1) := by decide +kernel
theorem dX5_take_12 : decode cX5_take 12 = .ok (.aload_n 0, 1) := by decide +kernel
theorem dX5_take_13 : decode cX5_take 13 = .ok (.getfield 34, 3) := by decide +kernel
theorem dX5_take_16 : decode cX5_take 16 = .ok (.iload_n 1, 1) := by decide +kernel
theorem dX5_take_17 : decode cX5_take 17 = .ok (.iload_n 2, 1) := by decide +kernel
theorem dX5_take_18 : decode cX5_take 18 = .ok (.iastore, 1) := by decide +kernel
theorem dX5_take_19 : decode cX5_take 19 = .ok (.aload_n 0, 1) := by decide +kernel
theorem dX5_take_20 : decode cX5_take 20 = .ok (.getfield 37, 3) := by decide +kernel
theorem dX5_take_23 : decode cX5_take 23 = .ok (.iload_n 1, 1) := by decide +kernel
theorem dX5_take_24 : decode cX5_take 24 = .ok (.iconst 1, 1) := by decide +kernel
theorem dX5_take_25 : decode cX5_take 25 = .ok (.aload_n 0, 1) := by decide +kernel
theorem dX5_take_26 : decode cX5_take 26 = .ok (.getfield 3, 3) := by decide +kernel
theorem dX5_take_29 : decode cX5_take 29 = .ok (.getfield 67, 3) := by decide +kernel
theorem dX5_take_32 : decode cX5_take 32 = .ok (.iload_n 1, 1) := by decide +kernel
theorem dX5_take_33 : decode cX5_take 33 = .ok (.iaload, 1) := by decide +kernel
theorem dX5_take_34 : decode cX5_take 34 = .ok (.aload_n 0, 1) := by decide +kernel
theorem dX5_take_35 : decode cX5_take 35 = .ok (.getfield 28, 3) := by decide +kernel
theorem dX5_take_38 : decode cX5_take 38 = .ok (.iload_n 1, 1) := by decide +kernel
theorem dX5_take_39 : decode cX5_take 39 = .ok (.iaload, 1) := by decide +kernel
theorem dX5_take_40 : decode cX5_take 40 = .ok (.iconst 5, 1) := by decide +kernel
theorem dX5_take_41 : decode cX5_take 41 = .ok (.idiv, 1) := by decide +kernel
theorem dX5_take_42 : decode cX5_take 42 = .ok (.iadd, 1) := by decide +kernel
theorem dX5_take_43 : decode cX5_take 43 = .ok (.iconst 2, 1) := by decide +kernel
theorem dX5_take_44 : decode cX5_take 44 = .ok (.aload_n 0, 1) := by decide +kernel
theorem dX5_take_45 : decode cX5_take 45 = .ok (.getfield 31, 3) := by decide +kernel
theorem dX5_take_48 : decode cX5_take 48 = .ok (.iload_n 1, 1) := by decide +kernel
theorem dX5_take_49 : decode cX5_take 49 = .ok (.iaload, 1) := by decide +kernel
theorem dX5_take_50 : decode cX5_take 50 = .ok (.imul, 1) := by decide +kernel
theorem dX5_take_51 : decode cX5_take 51 = .ok (.isub, 1) := by decide +kernel
theorem dX5_take_52 : decode cX5_take 52 = .ok (.invokestatic 70, 3) := by decide +kernel
theorem dX5_take_55 : decode cX5_take 55 = .ok (.iastore, 1) := by decide +kernel
theorem dX5_take_56 : decode cX5_take 56 = .ok (.aload_n 0, 1) := by decide +kernel
theorem dX5_take_57 : decode cX5_take 57 = .ok (.getfield 15, 3) := by decide +kernel
theorem dX5_take_60 : decode cX5_take 60 = .ok (.iload_n 2, 1) := by decide +kernel
theorem dX5_take_61 : decode cX5_take 61 = .ok (.iconst 2, 1) := by decide +kernel
theorem dX5_take_62 : decode cX5_take 62 = .ok (.iastore, 1) := by decide +kernel
theorem dX5_take_63 : decode cX5_take 63 = .ok (.aload_n 0, 1) := by decide +kernel
theorem dX5_take_64 : decode cX5_take 64 = .ok (.getfield 19, 3) := by decide +kernel
theorem dX5_take_67 : decode cX5_take 67 = .ok (.iload_n 2, 1) := by decide +kernel
theorem dX5_take_68 : decode cX5_take 68 = .ok (.iload_n 1, 1) := by decide +kernel
theorem dX5_take_69 : decode cX5_take 69 = .ok (.iastore, 1) := by decide +kernel
theorem dX5_take_70 : decode cX5_take 70 = .ok (.return_, 1) := by decide +kernel
theorem dX5_let_0 : decode cX5_let 0 = .ok (.aload_n 0, 1) := by decide +kernel
theorem dX5_let_1 : decode cX5_let 1 = .ok (.getfield 34, 3) := by decide +kernel
theorem dX5_let_4 : decode cX5_let 4 = .ok (.iload_n 1, 1) := by decide +kernel
theorem dX5_let_5 : decode cX5_let 5 = .ok (.iaload, 1) := by decide +kernel
theorem dX5_let_6 : decode cX5_let 6 = .ok (.istore_n 3, 1) := by decide +kernel
theorem dX5_let_7 : decode cX5_let 7 = .ok (.aload_n 0, 1) := by decide +kernel
theorem dX5_let_8 : decode cX5_let 8 = .ok (.getfield 15, 3) := by decide +kernel
theorem dX5_let_11 : decode cX5_let 11 = .ok (.iload_n 3, 1) := by decide +kernel
theorem dX5_let_12 : decode cX5_let 12 = .ok (.iload_n 2, 1) := by decide +kernel
theorem dX5_let_13 : decode cX5_let 13 = .ok (.iastore, 1) := by decide +kernel
theorem dX5_let_14 : decode cX5_let 14 = .ok (.aload_n 0, 1) := by decide +kernel
theorem dX5_let_15 : decode cX5_let 15 = .ok (.getfield 19, 3) := by decide +kernel
theorem dX5_let_18 : decode cX5_let 18 = .ok (.iload_n 3, 1) := by decide +kernel
theorem dX5_let_19 : decode cX5_let 19 = .ok (.iconst (-1), 1) := by decide +kernel
theorem dX5_let_20 : decode cX5_let 20 = .ok (.iastore, 1) := by decide +kernel
theorem dX5_let_21 : decode cX5_let 21 = .ok (.aload_n 0, 1) := by decide +kernel
theorem dX5_let_22 : decode cX5_let 22 = .ok (.getfield 34, 3) := by decide +kernel
theorem dX5_let_25 : decode cX5_let 25 = .ok (.iload_n 1, 1) := by decide +kernel
theorem dX5_let_26 : decode cX5_let 26 = .ok (.iconst (-1), 1) := by decide +kernel
theorem dX5_let_27 : decode cX5_let 27 = .ok (.iastore, 1) := by decide +kernel
theorem dX5_let_28 : decode cX5_let 28 = .ok (.aload_n 0, 1) := by decide +kernel
theorem dX5_let_29 : decode cX5_let 29 = .ok (.getfield 37, 3) := by decide +kernel
theorem dX5_let_32 : decode cX5_let 32 = .ok (.iload_n 1, 1) := by decide +kernel
theorem dX5_let_33 : decode cX5_let 33 = .ok (.iconst 0, 1) := by decide +kernel
theorem dX5_let_34 : decode cX5_let 34 = .ok (.iastore, 1) := by decide +kernel
theorem dX5_let_35 : decode cX5_let 35 = .ok (.return_, 1) := by decide +kernel
set_option maxRecDepth 20000 in
theorem ggX5_work_X5_take : GoodIn wsX5_work wsX5_take := goodIn_r _ [10, 1, 2, 3, 5, 11, 12, 13, 14, 15, 16, 17, 18, 19, 20, 9, 21, 22, 31, 32, 33, 34, 35, 36, 37, 38, 39, 40, 41, 42, 43, 44, 45, 46, 47, 48, 49, 50, 51] (by decide +kernel) (by decide +kernel)
set_option maxRecDepth 20000 in
theorem gX5_work_X5_take : GoodIn wsX5_work (wsV RX5 76 RX5 yX5_take wsX5_take) := goodIn_app (goodIn_of _ (by decide +kernel)) ggX5_work_X5_take
set_option maxRecDepth 20000 in
theorem ggX5_work_X5_inHole : GoodIn wsX5_work wsX5_inHole := goodIn_r _ [26, 3, 16, 31, 32, 33, 34, 35, 36, 37, 38, 39, 40, 41, 42, 43, 44, 45, 46, 47, 48, 49, 50, 51] (by decide +kernel) (by decide +kernel)
set_option maxRecDepth 20000 in
theorem gX5_work_X5_inHole : GoodIn wsX5_work (wsV RX5 80 RX5 yX5_inHole wsX5_inHole) := goodIn_app (goodIn_of _ (by decide +kernel)) ggX5_work_X5_inHole
set_option maxRecDepth 20000 in
theorem ggX5_work_X5_let : GoodIn wsX5_work wsX5_let := goodIn_r _ [30, 1, 16, 17, 2, 31, 32, 33, 34, 35, 36, 37, 38, 39, 40, 41] (by decide +kernel) (by decide +kernel)
set_option maxRecDepth 20000 in
theorem gX5_work_X5_let : GoodIn wsX5_work (wsV RX5 83 RX5 yX5_let wsX5_let) := goodIn_app (goodIn_of _ (by decide +kernel)) ggX5_work_X5_let
theorem dX5_work_0 : decode cX5_work 0 = .ok (.aload_n 0, 1) := by decide +kernel
theorem dX5_work_1 : decode cX5_work 1 = .ok (.getfield 34, 3) := by decide +kernel
theorem dX5_work_4 : decode cX5_work 4 = .ok (.iload_n 1, 1) := by decide +kernel
theorem dX5_work_5 : decode cX5_work 5 = .ok (.iaload, 1) := by decide +kernel
theorem dX5_work_6 : decode cX5_work 6 = .ok (.iconst (-1), 1) := by decide +kernel
theorem dX5_work_7 : decode cX5_work 7 = .ok (.if_icmp .ne 8, 3) := by decide +kernel
theorem dX5_work_10 : decode cX5_work 10 = .ok (.aload_n 0, 1) := by decide +kernel
theorem dX5_work_11 : decode cX5_work 11 = .ok (.iload_n 1, 1) := by decide +kernel
theorem dX5_work_12 : decode cX5_work 12 = .ok (.invokevirtual 76, 3) := by decide +kernel
theorem dX5_work_15 : decode cX5_work 15 = .ok (.aload_n 0, 1) := by decide +kernel
theorem dX5_work_16 : decode cX5_work 16 = .ok (.getfield 34, 3) := by decide +kernel
theorem dX5_work_19 : decode cX5_work 19 = .ok (.iload_n 1, 1) := by decide +kernel
theorem dX5_work_20 : decode cX5_work 20 = .ok (.iaload, 1) := by decide +kernel
theorem dX5_work_21 : decode cX5_work 21 = .ok (.iconst (-1), 1) := by decide +kernel
theorem dX5_work_22 : decode cX5_work 22 = .ok (.if_icmp .ne 4, 3) := by decide +kernel
theorem dX5_work_25 : decode cX5_work 25 = .ok (.return_, 1) := by decide +kernel
theorem dX5_work_26 : decode cX5_work 26 = .ok (.aload_n 0, 1) := by decide +kernel
theorem dX5_work_27 : decode cX5_work 27 = .ok (.getfield 37, 3) := by decide +kernel
theorem dX5_work_30 : decode cX5_work 30 = .ok (.iload_n 1, 1) := by decide +kernel
theorem dX5_work_31 : decode cX5_work 31 = .ok (.dup2, 1) := by decide +kernel
theorem dX5_work_32 : decode cX5_work 32 = .ok (.iaload, 1) := by decide +kernel
theorem dX5_work_33 : decode cX5_work 33 = .ok (.iconst 1, 1) := by decide +kernel
theorem dX5_work_34 : decode cX5_work 34 = .ok (.isub, 1) := by decide +kernel
theorem dX5_work_35 : decode cX5_work 35 = .ok (.iastore, 1) := by decide +kernel
theorem dX5_work_36 : decode cX5_work 36 = .ok (.aload_n 0, 1) := by decide +kernel
theorem dX5_work_37 : decode cX5_work 37 = .ok (.getfield 37, 3) := by decide +kernel
theorem dX5_work_40 : decode cX5_work 40 = .ok (.iload_n 1, 1) := by decide +kernel
theorem dX5_work_41 : decode cX5_work 41 = .ok (.iaload, 1) := by decide +kernel
theorem dX5_work_42 : decode cX5_work 42 = .ok (.ifCond .le 4, 3) := by decide +kernel
theorem dX5_work_45 : decode cX5_work 45 = .ok (.return_, 1) := by decide +kernel
theorem dX5_work_46 : decode cX5_work 46 = .ok (.aload_n 0, 1) := by decide +kernel
theorem dX5_work_47 : decode cX5_work 47 = .ok (.aload_n 0, 1) := by decide +kernel
theorem dX5_work_48 : decode cX5_work 48 = .ok (.getfield 3, 3) := by decide +kernel
theorem dX5_work_51 : decode cX5_work 51 = .ok (.getfield 60, 3) := by decide +kernel
theorem dX5_work_54 : decode cX5_work 54 = .ok (.aload_n 0, 1) := by decide +kernel
theorem dX5_work_55 : decode cX5_work 55 = .ok (.getfield 34, 3) := by decide +kernel
theorem dX5_work_58 : decode cX5_work 58 = .ok (.iload_n 1, 1) := by decide +kernel
theorem dX5_work_59 : decode cX5_work 59 = .ok (.iaload, 1) := by decide +kernel
theorem dX5_work_60 : decode cX5_work 60 = .ok (.iaload, 1) := by decide +kernel
theorem dX5_work_61 : decode cX5_work 61 = .ok (.invokevirtual 80, 3) := by decide +kernel
theorem dX5_work_64 : decode cX5_work 64 = .ok (.bipush 8, 2) := by decide +kernel
theorem dX5_work_66 : decode cX5_work 66 = .ok (.if_icmp .ge 7, 3) := by decide +kernel
theorem dX5_work_69 : decode cX5_work 69 = .ok (.iconst 1, 1) := by decide +kernel
theorem dX5_work_70 : decode cX5_work 70 = .ok (.goto 4, 3) := by decide +kernel
theorem dX5_work_73 : decode cX5_work 73 = .ok (.iconst 0, 1) := by decide +kernel
theorem dX5_work_74 : decode cX5_work 74 = .ok (.istore_n 2, 1) := by decide +kernel
theorem dX5_work_75 : decode cX5_work 75 = .ok (.aload_n 0, 1) := by decide +kernel
theorem dX5_work_76 : decode cX5_work 76 = .ok (.iload_n 1, 1) := by decide +kernel
theorem dX5_work_77 : decode cX5_work 77 = .ok (.iload_n 2, 1) := by decide +kernel
theorem dX5_work_78 : decode cX5_work 78 = .ok (.ifCond .eq 7, 3) := by decide +kernel
theorem dX5_work_81 : decode cX5_work 81 = .ok (.iconst 3, 1) := by decide +kernel
theorem dX5_work_82 : decode cX5_work 82 = .ok (.goto 4, 3) := by decide +kernel
theorem dX5_work_85 : decode cX5_work 85 = .ok (.iconst 1, 1) := by decide +kernel
theorem dX5_work_86 : decode cX5_work 86 = .ok (.invokevirtual 83, 3) := by decide +kernel
theorem dX5_work_89 : decode cX5_work 89 = .ok (.aload_n 0, 1) := by decide +kernel
theorem dX5_work_90 : decode cX5_work 90 = .ok (.getfield 40, 3) := by decide +kernel
theorem dX5_work_93 : decode cX5_work 93 = .ok (.iload_n 1, 1) := by decide +kernel
theorem dX5_work_94 : decode cX5_work 94 = .ok (.dup2, 1) := by decide +kernel
theorem dX5_work_95 : decode cX5_work 95 = .ok (.iaload, 1) := by decide +kernel
theorem dX5_work_96 : decode cX5_work 96 = .ok (.iload_n 2, 1) := by decide +kernel
theorem dX5_work_97 : decode cX5_work 97 = .ok (.ifCond .eq 7, 3) := by decide +kernel
theorem dX5_work_100 : decode cX5_work 100 = .ok (.iconst 1, 1) := by decide +kernel
theorem dX5_work_101 : decode cX5_work 101 = .ok (.goto 4, 3) := by decide +kernel
theorem dX5_work_104 : decode cX5_work 104 = .ok (.iconst 0, 1) := by decide +kernel
theorem dX5_work_105 : decode cX5_work 105 = .ok (.iadd, 1) := by decide +kernel
theorem dX5_work_106 : decode cX5_work 106 = .ok (.iastore, 1) := by decide +kernel
theorem dX5_work_107 : decode cX5_work 107 = .ok (.aload_n 0, 1) := by decide +kernel
theorem dX5_work_108 : decode cX5_work 108 = .ok (.getfield 28, 3) := by decide +kernel
theorem dX5_work_111 : decode cX5_work 111 = .ok (.iload_n 1, 1) := by decide +kernel
theorem dX5_work_112 : decode cX5_work 112 = .ok (.dup2, 1) := by decide +kernel
theorem dX5_work_113 : decode cX5_work 113 = .ok (.iaload, 1) := by decide +kernel
theorem dX5_work_114 : decode cX5_work 114 = .ok (.iconst 1, 1) := by decide +kernel
theorem dX5_work_115 : decode cX5_work 115 = .ok (.iadd, 1) := by decide +kernel
theorem dX5_work_116 : decode cX5_work 116 = .ok (.iastore, 1) := by decide +kernel
theorem dX5_work_117 : decode cX5_work 117 = .ok (.return_, 1) := by decide +kernel
set_option maxRecDepth 20000 in
theorem ggX5_end_X5_let : GoodIn wsX5_end wsX5_let := goodIn_r _ [9, 10, 1, 2, 11, 12, 13, 14, 15, 16, 17, 18, 19, 20, 21, 22] (by decide +kernel) (by decide +kernel)
set_option maxRecDepth 20000 in
theorem gX5_end_X5_let : GoodIn wsX5_end (wsV RX5 83 RX5 yX5_let wsX5_let) := goodIn_app (goodIn_of _ (by decide +kernel)) ggX5_end_X5_let
theorem dX5_end_0 : decode cX5_end 0 = .ok (.aload_n 0, 1) := by decide +kernel
theorem dX5_end_1 : decode cX5_end 1 = .ok (.getfield 15, 3) := by decide +kernel
theorem dX5_end_4 : decode cX5_end 4 = .ok (.iload_n 1, 1) := by decide +kernel
theorem dX5_end_5 : decode cX5_end 5 = .ok (.iaload, 1) := by decide +kernel
theorem dX5_end_6 : decode cX5_end 6 = .ok (.iconst 2, 1) := by decide +kernel
theorem dX5_end_7 : decode cX5_end 7 = .ok (.if_icmp .ne 14, 3) := by decide +kernel
theorem dX5_end_10 : decode cX5_end 10 = .ok (.aload_n 0, 1) := by decide +kernel
theorem dX5_end_11 : decode cX5_end 11 = .ok (.aload_n 0, 1) := by decide +kernel
theorem dX5_end_12 : decode cX5_end 12 = .ok (.getfield 19, 3) := by decide +kernel
theorem dX5_end_15 : decode cX5_end 15 = .ok (.iload_n 1, 1) := by decide +kernel
theorem dX5_end_16 : decode cX5_end 16 = .ok (.iaload, 1) := by decide +kernel
theorem dX5_end_17 : decode cX5_end 17 = .ok (.iload_n 2, 1) := by decide +kernel
theorem dX5_end_18 : decode cX5_end 18 = .ok (.invokevirtual 83, 3) := by decide +kernel
theorem dX5_end_21 : decode cX5_end 21 = .ok (.aload_n 0, 1) := by decide +kernel
theorem dX5_end_22 : decode cX5_end 22 = .ok (.getfield 15, 3) := by decide +kernel
theorem dX5_end_25 : decode cX5_end 25 = .ok (.iload_n 1, 1) := by decide +kernel
theorem dX5_end_26 : decode cX5_end 26 = .ok (.iload_n 2, 1) := by decide +kernel
theorem dX5_end_27 : decode cX5_end 27 = .ok (.iastore, 1) := by decide +kernel
theorem dX5_end_28 : decode cX5_end 28 = .ok (.aload_n 0, 1) := by decide +kernel
theorem dX5_end_29 : decode cX5_end 29 = .ok (.getfield 22, 3) := by decide +kernel
theorem dX5_end_32 : decode cX5_end 32 = .ok (.iload_n 1, 1) := by decide +kernel
theorem dX5_end_33 : decode cX5_end 33 = .ok (.aload_n 0, 1) := by decide +kernel
theorem dX5_end_34 : decode cX5_end 34 = .ok (.getfield 49, 3) := by decide +kernel
theorem dX5_end_37 : decode cX5_end 37 = .ok (.iastore, 1) := by decide +kernel
theorem dX5_end_38 : decode cX5_end 38 = .ok (.return_, 1) := by decide +kernel
set_option maxRecDepth 20000 in
theorem ggX5_passStation_X5_end : GoodIn wsX5_passStation wsX5_end := goodIn_r _ [7, 2, 8, 9, 10, 11, 12, 13, 6, 14, 15, 16, 17, 18, 19, 20, 21, 22, 23, 24, 25, 26, 27] (by decide +kernel) (by decide +kernel)
set_option maxRecDepth 20000 in
theorem gX5_passStation_X5_end : GoodIn wsX5_passStation (wsV RX5 87 RX5 yX5_end wsX5_end) := goodIn_app (goodIn_of _ (by decide +kernel)) ggX5_passStation_X5_end
theorem dX5_passStation_0 : decode cX5_passStation 0 = .ok (.iconst 0, 1) := by decide +kernel
theorem dX5_passStation_1 : decode cX5_passStation 1 = .ok (.istore_n 2, 1) := by decide +kernel
theorem dX5_passStation_2 : decode cX5_passStation 2 = .ok (.iload_n 2, 1) := by decide +kernel
theorem dX5_passStation_3 : decode cX5_passStation 3 = .ok (.aload_n 0, 1) := by decide +kernel
theorem dX5_passStation_4 : decode cX5_passStation 4 = .ok (.getfield 3, 3) := by decide +kernel
theorem dX5_passStation_7 : decode cX5_passStation 7 = .ok (.getfield 57, 3) := by decide +kernel
theorem dX5_passStation_10 : decode cX5_passStation 10 = .ok (.if_icmp .ge 83, 3) := by decide +kernel
theorem dX5_passStation_13 : decode cX5_passStation 13 = .ok (.aload_n 0, 1) := by decide +kernel
theorem dX5_passStation_14 : decode cX5_passStation 14 = .ok (.getfield 3, 3) := by decide +kernel
theorem dX5_passStation_17 : decode cX5_passStation 17 = .ok (.getfield 60, 3) := by decide +kernel
theorem dX5_passStation_20 : decode cX5_passStation 20 = .ok (.iload_n 2, 1) := by decide +kernel
theorem dX5_passStation_21 : decode cX5_passStation 21 = .ok (.iaload, 1) := by decide +kernel
theorem dX5_passStation_22 : decode cX5_passStation 22 = .ok (.iconst 2, 1) := by decide +kernel
theorem dX5_passStation_23 : decode cX5_passStation 23 = .ok (.idiv, 1) := by decide +kernel
theorem dX5_passStation_24 : decode cX5_passStation 24 = .ok (.iload_n 1, 1) := by decide +kernel
theorem dX5_passStation_25 : decode cX5_passStation 25 = .ok (.if_icmp .ne 7, 3) := by decide +kernel
theorem dX5_passStation_28 : decode cX5_passStation 28 = .ok (.iconst 1, 1) := by decide +kernel
theorem dX5_passStation_29 : decode cX5_passStation 29 = .ok (.goto 4, 3) := by decide +kernel
theorem dX5_passStation_32 : decode cX5_passStation 32 = .ok (.iconst 0, 1) := by decide +kernel
theorem dX5_passStation_33 : decode cX5_passStation 33 = .ok (.istore_n 3, 1) := by decide +kernel
theorem dX5_passStation_34 : decode cX5_passStation 34 = .ok (.iload_n 3, 1) := by decide +kernel
theorem dX5_passStation_35 : decode cX5_passStation 35 = .ok (.ifCond .eq 22, 3) := by decide +kernel
theorem dX5_passStation_38 : decode cX5_passStation 38 = .ok (.aload_n 0, 1) := by decide +kernel
theorem dX5_passStation_39 : decode cX5_passStation 39 = .ok (.getfield 15, 3) := by decide +kernel
theorem dX5_passStation_42 : decode cX5_passStation 42 = .ok (.iload_n 2, 1) := by decide +kernel
theorem dX5_passStation_43 : decode cX5_passStation 43 = .ok (.iaload, 1) := by decide +kernel
theorem dX5_passStation_44 : decode cX5_passStation 44 = .ok (.iconst 3, 1) := by decide +kernel
theorem dX5_passStation_45 : decode cX5_passStation 45 = .ok (.if_icmp .ne 12, 3) := by decide +kernel
theorem dX5_passStation_48 : decode cX5_passStation 48 = .ok (.aload_n 0, 1) := by decide +kernel
theorem dX5_passStation_49 : decode cX5_passStation 49 = .ok (.iload_n 2, 1) := by decide +kernel
theorem dX5_passStation_50 : decode cX5_passStation 50 = .ok (.iconst 4, 1) := by decide +kernel
theorem dX5_passStation_51 : decode cX5_passStation 51 = .ok (.invokevirtual 87, 3) := by decide +kernel
theorem dX5_passStation_54 : decode cX5_passStation 54 = .ok (.goto 33, 3) := by decide +kernel
theorem dX5_passStation_57 : decode cX5_passStation 57 = .ok (.iload_n 3, 1) := by decide +kernel
theorem dX5_passStation_58 : decode cX5_passStation 58 = .ok (.ifCond .eq 29, 3) := by decide +kernel
theorem dX5_passStation_61 : decode cX5_passStation 61 = .ok (.aload_n 0, 1) := by decide +kernel
theorem dX5_passStation_62 : decode cX5_passStation 62 = .ok (.getfield 15, 3) := by decide +kernel
theorem dX5_passStation_65 : decode cX5_passStation 65 = .ok (.iload_n 2, 1) := by decide +kernel
theorem dX5_passStation_66 : decode cX5_passStation 66 = .ok (.iaload, 1) := by decide +kernel
theorem dX5_passStation_67 : decode cX5_passStation 67 = .ok (.iconst 1, 1) := by decide +kernel
theorem dX5_passStation_68 : decode cX5_passStation 68 = .ok (.if_icmp .eq 13, 3) := by decide +kernel
theorem dX5_passStation_71 : decode cX5_passStation 71 = .ok (.aload_n 0, 1) := by decide +kernel
theorem dX5_passStation_72 : decode cX5_passStation 72 = .ok (.getfield 15, 3) := by decide +kernel
theorem dX5_passStation_75 : decode cX5_passStation 75 = .ok (.iload_n 2, 1) := by decide +kernel
theorem dX5_passStation_76 : decode cX5_passStation 76 = .ok (.iaload, 1) := by decide +kernel
theorem dX5_passStation_77 : decode cX5_passStation 77 = .ok (.iconst 2, 1) := by decide +kernel
theorem dX5_passStation_78 : decode cX5_passStation 78 = .ok (.if_icmp .ne 9, 3) := by decide +kernel
theorem dX5_passStation_81 : decode cX5_passStation 81 = .ok (.aload_n 0, 1) := by decide +kernel
theorem dX5_passStation_82 : decode cX5_passStation 82 = .ok (.iload_n 2, 1) := by decide +kernel
theorem dX5_passStation_83 : decode cX5_passStation 83 = .ok (.iconst 5, 1) := by decide +kernel
theorem dX5_passStation_84 : decode cX5_passStation 84 = .ok (.invokevirtual 87, 3) := by decide +kernel
theorem dX5_passStation_87 : decode cX5_passStation 87 = .ok (.iinc 2 1, 3) := by decide +kernel
theorem dX5_passStation_90 : decode cX5_passStation 90 = .ok (.goto (-88), 3) := by decide +kernel
theorem dX5_passStation_93 : decode cX5_passStation 93 = .ok (.iconst 0, 1) := by decide +kernel
theorem dX5_passStation_94 : decode cX5_passStation 94 = .ok (.istore_n 2, 1) := by decide +kernel
theorem dX5_passStation_95 : decode cX5_passStation 95 = .ok (.iload_n 2, 1) := by decide +kernel
theorem dX5_passStation_96 : decode cX5_passStation 96 = .ok (.aload_n 0, 1) := by decide +kernel
theorem dX5_passStation_97 : decode cX5_passStation 97 = .ok (.getfield 3, 3) := by decide +kernel
theorem dX5_passStation_100 : decode cX5_passStation 100 = .ok (.getfield 57, 3) := by decide +kernel
theorem dX5_passStation_103 : decode cX5_passStation 103 = .ok (.if_icmp .ge 65, 3) := by decide +kernel
theorem dX5_passStation_106 : decode cX5_passStation 106 = .ok (.aload_n 0, 1) := by decide +kernel
theorem dX5_passStation_107 : decode cX5_passStation 107 = .ok (.getfield 15, 3) := by decide +kernel
theorem dX5_passStation_110 : decode cX5_passStation 110 = .ok (.iload_n 2, 1) := by decide +kernel
theorem dX5_passStation_111 : decode cX5_passStation 111 = .ok (.iaload, 1) := by decide +kernel
theorem dX5_passStation_112 : decode cX5_passStation 112 = .ok (.ifCond .ne 50, 3) := by decide +kernel
theorem dX5_passStation_115 : decode cX5_passStation 115 = .ok (.aload_n 0, 1) := by decide +kernel
theorem dX5_passStation_116 : decode cX5_passStation 116 = .ok (.getfield 3, 3) := by decide +kernel
theorem dX5_passStation_119 : decode cX5_passStation 119 = .ok (.getfield 90, 3) := by decide +kernel
theorem dX5_passStation_122 : decode cX5_passStation 122 = .ok (.iload_n 2, 1) := by decide +kernel
theorem dX5_passStation_123 : decode cX5_passStation 123 = .ok (.iaload, 1) := by decide +kernel
theorem dX5_passStation_124 : decode cX5_passStation 124 = .ok (.iload_n 1, 1) := by decide +kernel
theorem dX5_passStation_125 : decode cX5_passStation 125 = .ok (.if_icmp .eq 6, 3) := by decide +kernel
theorem dX5_passStation_128 : decode cX5_passStation 128 = .ok (.goto 34, 3) := by decide +kernel
theorem dX5_passStation_131 : decode cX5_passStation 131 = .ok (.aload_n 0, 1) := by decide +kernel
theorem dX5_passStation_132 : decode cX5_passStation 132 = .ok (.getfield 3, 3) := by decide +kernel
theorem dX5_passStation_135 : decode cX5_passStation 135 = .ok (.getfield 60, 3) := by decide +kernel
theorem dX5_passStation_138 : decode cX5_passStation 138 = .ok (.iload_n 2, 1) := by decide +kernel
theorem dX5_passStation_139 : decode cX5_passStation 139 = .ok (.iaload, 1) := by decide +kernel
theorem dX5_passStation_140 : decode cX5_passStation 140 = .ok (.iconst 2, 1) := by decide +kernel
theorem dX5_passStation_141 : decode cX5_passStation 141 = .ok (.idiv, 1) := by decide +kernel
theorem dX5_passStation_142 : decode cX5_passStation 142 = .ok (.iload_n 1, 1) := by decide +kernel
theorem dX5_passStation_143 : decode cX5_passStation 143 = .ok (.if_icmp .gt 12, 3) := by decide +kernel
theorem dX5_passStation_146 : decode cX5_passStation 146 = .ok (.aload_n 0, 1) := by decide +kernel
theorem dX5_passStation_147 : decode cX5_passStation 147 = .ok (.iload_n 2, 1) := by decide +kernel
theorem dX5_passStation_148 : decode cX5_passStation 148 = .ok (.iconst 5, 1) := by decide +kernel
theorem dX5_passStation_149 : decode cX5_passStation 149 = .ok (.invokevirtual 87, 3) := by decide +kernel
theorem dX5_passStation_152 : decode cX5_passStation 152 = .ok (.goto 10, 3) := by decide +kernel
theorem dX5_passStation_155 : decode cX5_passStation 155 = .ok (.aload_n 0, 1) := by decide +kernel
theorem dX5_passStation_156 : decode cX5_passStation 156 = .ok (.getfield 15, 3) := by decide +kernel
theorem dX5_passStation_159 : decode cX5_passStation 159 = .ok (.iload_n 2, 1) := by decide +kernel
theorem dX5_passStation_160 : decode cX5_passStation 160 = .ok (.iconst 1, 1) := by decide +kernel
theorem dX5_passStation_161 : decode cX5_passStation 161 = .ok (.iastore, 1) := by decide +kernel
theorem dX5_passStation_162 : decode cX5_passStation 162 = .ok (.iinc 2 1, 3) := by decide +kernel
theorem dX5_passStation_165 : decode cX5_passStation 165 = .ok (.goto (-70), 3) := by decide +kernel
theorem dX5_passStation_168 : decode cX5_passStation 168 = .ok (.return_, 1) := by decide +kernel
set_option maxRecDepth 20000 in
theorem ggX5_shake_X5_inHole : GoodIn wsX5_shake wsX5_inHole := goodIn_r _ [9, 1, 4, 10, 11, 12, 13, 14, 15, 16, 17, 18, 19, 20, 21, 22, 23, 24, 25, 26, 27, 28, 29, 30] (by decide +kernel) (by decide +kernel)
set_option maxRecDepth 20000 in
theorem gX5_shake_X5_inHole : GoodIn wsX5_shake (wsV RX5 80 RX5 yX5_inHole wsX5_inHole) := goodIn_app (goodIn_of _ (by decide +kernel)) ggX5_shake_X5_inHole
theorem dX5_shake_0 : decode cX5_shake 0 = .ok (.iconst 0, 1) := by decide +kernel
theorem dX5_shake_1 : decode cX5_shake 1 = .ok (.istore_n 2, 1) := by decide +kernel
theorem dX5_shake_2 : decode cX5_shake 2 = .ok (.iload_n 2, 1) := by decide +kernel
theorem dX5_shake_3 : decode cX5_shake 3 = .ok (.aload_n 0, 1) := by decide +kernel
theorem dX5_shake_4 : decode cX5_shake 4 = .ok (.getfield 3, 3) := by decide +kernel
theorem dX5_shake_7 : decode cX5_shake 7 = .ok (.getfield 93, 3) := by decide +kernel
theorem dX5_shake_10 : decode cX5_shake 10 = .ok (.if_icmp .ge 35, 3) := by decide +kernel
theorem dX5_shake_13 : decode cX5_shake 13 = .ok (.iload_n 1, 1) := by decide +kernel
theorem dX5_shake_14 : decode cX5_shake 14 = .ok (.ifCond .le 10, 3) := by decide +kernel
theorem dX5_shake_17 : decode cX5_shake 17 = .ok (.aload_n 0, 1) := by decide +kernel
theorem dX5_shake_18 : decode cX5_shake 18 = .ok (.getfield 31, 3) := by decide +kernel
theorem dX5_shake_21 : decode cX5_shake 21 = .ok (.iload_n 2, 1) := by decide +kernel
theorem dX5_shake_22 : decode cX5_shake 22 = .ok (.iconst 0, 1) := by decide +kernel
theorem dX5_shake_23 : decode cX5_shake 23 = .ok (.iastore, 1) := by decide +kernel
theorem dX5_shake_24 : decode cX5_shake 24 = .ok (.iload_n 1, 1) := by decide +kernel
theorem dX5_shake_25 : decode cX5_shake 25 = .ok (.iconst 3, 1) := by decide +kernel
theorem dX5_shake_26 : decode cX5_shake 26 = .ok (.if_icmp .ne 13, 3) := by decide +kernel
theorem dX5_shake_29 : decode cX5_shake 29 = .ok (.aload_n 0, 1) := by decide +kernel
theorem dX5_shake_30 : decode cX5_shake 30 = .ok (.getfield 28, 3) := by decide +kernel
theorem dX5_shake_33 : decode cX5_shake 33 = .ok (.iload_n 2, 1) := by decide +kernel
theorem dX5_shake_34 : decode cX5_shake 34 = .ok (.dup2, 1) := by decide +kernel
theorem dX5_shake_35 : decode cX5_shake 35 = .ok (.iaload, 1) := by decide +kernel
theorem dX5_shake_36 : decode cX5_shake 36 = .ok (.iconst 3, 1) := by decide +kernel
theorem dX5_shake_37 : decode cX5_shake 37 = .ok (.iadd, 1) := by decide +kernel
theorem dX5_shake_38 : decode cX5_shake 38 = .ok (.iastore, 1) := by decide +kernel
theorem dX5_shake_39 : decode cX5_shake 39 = .ok (.iinc 2 1, 3) := by decide +kernel
theorem dX5_shake_42 : decode cX5_shake 42 = .ok (.goto (-40), 3) := by decide +kernel
theorem dX5_shake_45 : decode cX5_shake 45 = .ok (.iload_n 1, 1) := by decide +kernel
theorem dX5_shake_46 : decode cX5_shake 46 = .ok (.iconst 2, 1) := by decide +kernel
theorem dX5_shake_47 : decode cX5_shake 47 = .ok (.if_icmp .ge 4, 3) := by decide +kernel
theorem dX5_shake_50 : decode cX5_shake 50 = .ok (.return_, 1) := by decide +kernel
theorem dX5_shake_51 : decode cX5_shake 51 = .ok (.iconst 0, 1) := by decide +kernel
theorem dX5_shake_52 : decode cX5_shake 52 = .ok (.istore_n 2, 1) := by decide +kernel
theorem dX5_shake_53 : decode cX5_shake 53 = .ok (.iconst 1, 1) := by decide +kernel
theorem dX5_shake_54 : decode cX5_shake 54 = .ok (.istore_n 3, 1) := by decide +kernel
theorem dX5_shake_55 : decode cX5_shake 55 = .ok (.iload_n 3, 1) := by decide +kernel
theorem dX5_shake_56 : decode cX5_shake 56 = .ok (.bipush 16, 2) := by decide +kernel
theorem dX5_shake_58 : decode cX5_shake 58 = .ok (.if_icmp .ge 24, 3) := by decide +kernel
theorem dX5_shake_61 : decode cX5_shake 61 = .ok (.aload_n 0, 1) := by decide +kernel
theorem dX5_shake_62 : decode cX5_shake 62 = .ok (.iload_n 3, 1) := by decide +kernel
theorem dX5_shake_63 : decode cX5_shake 63 = .ok (.invokevirtual 80, 3) := by decide +kernel
theorem dX5_shake_66 : decode cX5_shake 66 = .ok (.aload_n 0, 1) := by decide +kernel
theorem dX5_shake_67 : decode cX5_shake 67 = .ok (.iload_n 2, 1) := by decide +kernel
theorem dX5_shake_68 : decode cX5_shake 68 = .ok (.invokevirtual 80, 3) := by decide +kernel
theorem dX5_shake_71 : decode cX5_shake 71 = .ok (.if_icmp .le 5, 3) := by decide +kernel
theorem dX5_shake_74 : decode cX5_shake 74 = .ok (.iload_n 3, 1) := by decide +kernel
theorem dX5_shake_75 : decode cX5_shake 75 = .ok (.istore_n 2, 1) := by decide +kernel
theorem dX5_shake_76 : decode cX5_shake 76 = .ok (.iinc 3 1, 3) := by decide +kernel
theorem dX5_shake_79 : decode cX5_shake 79 = .ok (.goto (-24), 3) := by decide +kernel
theorem dX5_shake_82 : decode cX5_shake 82 = .ok (.iconst 0, 1) := by decide +kernel
theorem dX5_shake_83 : decode cX5_shake 83 = .ok (.istore_n 3, 1) := by decide +kernel
theorem dX5_shake_84 : decode cX5_shake 84 = .ok (.iload_n 3, 1) := by decide +kernel
theorem dX5_shake_85 : decode cX5_shake 85 = .ok (.aload_n 0, 1) := by decide +kernel
theorem dX5_shake_86 : decode cX5_shake 86 = .ok (.getfield 3, 3) := by decide +kernel
theorem dX5_shake_89 : decode cX5_shake 89 = .ok (.getfield 57, 3) := by decide +kernel
theorem dX5_shake_92 : decode cX5_shake 92 = .ok (.if_icmp .ge 39, 3) := by decide +kernel
theorem dX5_shake_95 : decode cX5_shake 95 = .ok (.aload_n 0, 1) := by decide +kernel
theorem dX5_shake_96 : decode cX5_shake 96 = .ok (.getfield 15, 3) := by decide +kernel
theorem dX5_shake_99 : decode cX5_shake 99 = .ok (.iload_n 3, 1) := by decide +kernel
theorem dX5_shake_100 : decode cX5_shake 100 = .ok (.iaload, 1) := by decide +kernel
theorem dX5_shake_101 : decode cX5_shake 101 = .ok (.iconst 3, 1) := by decide +kernel
theorem dX5_shake_102 : decode cX5_shake 102 = .ok (.if_icmp .ne 23, 3) := by decide +kernel
theorem dX5_shake_105 : decode cX5_shake 105 = .ok (.aload_n 0, 1) := by decide +kernel
theorem dX5_shake_106 : decode cX5_shake 106 = .ok (.getfield 3, 3) := by decide +kernel
theorem dX5_shake_109 : decode cX5_shake 109 = .ok (.getfield 60, 3) := by decide +kernel
theorem dX5_shake_112 : decode cX5_shake 112 = .ok (.iload_n 3, 1) := by decide +kernel
theorem dX5_shake_113 : decode cX5_shake 113 = .ok (.iaload, 1) := by decide +kernel
theorem dX5_shake_114 : decode cX5_shake 114 = .ok (.iload_n 2, 1) := by decide +kernel
theorem dX5_shake_115 : decode cX5_shake 115 = .ok (.if_icmp .ne 10, 3) := by decide +kernel
theorem dX5_shake_118 : decode cX5_shake 118 = .ok (.aload_n 0, 1) := by decide +kernel
theorem dX5_shake_119 : decode cX5_shake 119 = .ok (.getfield 15, 3) := by decide +kernel
theorem dX5_shake_122 : decode cX5_shake 122 = .ok (.iload_n 3, 1) := by decide +kernel
theorem dX5_shake_123 : decode cX5_shake 123 = .ok (.iconst 1, 1) := by decide +kernel
theorem dX5_shake_124 : decode cX5_shake 124 = .ok (.iastore, 1) := by decide +kernel
theorem dX5_shake_125 : decode cX5_shake 125 = .ok (.iinc 3 1, 3) := by decide +kernel
theorem dX5_shake_128 : decode cX5_shake 128 = .ok (.goto (-44), 3) := by decide +kernel
theorem dX5_shake_131 : decode cX5_shake 131 = .ok (.return_, 1) := by decide +kernel
set_option maxRecDepth 20000 in
theorem ggX5_pass_X5_work : GoodIn wsX5_pass wsX5_work := goodIn_r _ [7, 8, 9, 1, 10, 11, 12, 13, 14, 6, 15, 16, 17, 18, 19, 20, 21, 22, 23, 24, 25, 26, 27, 28, 29, 30, 31, 32, 33, 34, 35, 53, 54, 55, 56, 57, 58, 59, 60, 61, 62, 63, 64, 65, 66, 67, 68, 69, 70, 71, 72, 73] (by decide +kernel) (by decide +kernel)
set_option maxRecDepth 20000 in
theorem gX5_pass_X5_work : GoodIn wsX5_pass (wsV RX5 96 RX5 yX5_work wsX5_work) := goodIn_app (goodIn_of _ (by decide +kernel)) ggX5_pass_X5_work
set_option maxRecDepth 20000 in
theorem ggX5_pass_X5_are : GoodIn wsX5_pass wsX5_are := goodIn_r _ [39, 1, 21, 53, 54, 55, 56, 57, 58, 59, 60, 61, 62, 63, 64, 65, 66, 67, 68, 69, 70, 71, 72, 73] (by decide +kernel) (by decide +kernel)
set_option maxRecDepth 20000 in
theorem gX5_pass_X5_are : GoodIn wsX5_pass (wsV RX5 99 RX5 yX5_are wsX5_are) := goodIn_app (goodIn_of _ (by decide +kernel)) ggX5_pass_X5_are
set_option maxRecDepth 20000 in
theorem ggX5_pass_X5_passStation : GoodIn wsX5_pass wsX5_passStation := goodIn_r _ [43, 1, 21, 44, 45, 46, 6, 47, 22, 48, 2, 32, 33, 34, 35, 8, 9, 53, 54, 55, 56, 57, 58, 59, 60, 61, 62, 63, 64, 65, 66, 67, 68, 69, 70, 71, 72, 73] (by decide +kernel) (by decide +kernel)
set_option maxRecDepth 20000 in
theorem gX5_pass_X5_passStation : GoodIn wsX5_pass (wsV RX5 105 RX5 yX5_passStation wsX5_passStation) := goodIn_app (goodIn_of _ (by decide +kernel)) ggX5_pass_X5_passStation
set_option maxRecDepth 20000 in
theorem ggX5_pass_X5_shake : GoodIn wsX5_pass wsX5_shake := goodIn_r _ [52, 1, 16, 11, 21, 28, 29, 30, 6, 31, 53, 54, 55, 56, 57, 58, 59, 60, 61, 62, 63, 64, 65, 66, 67, 68, 69, 70, 71, 72, 73] (by decide +kernel) (by decide +kernel)
set_option maxRecDepth 20000 in
theorem gX5_pass_X5_shake : GoodIn wsX5_pass (wsV RX5 111 RX5 yX5_shake wsX5_shake) := goodIn_app (goodIn_of _ (by decide +kernel)) ggX5_pass_X5_shake
theorem dX5_pass_0 : decode cX5_pass 0 = .ok (.iconst 0, 1) := by decide +kernel
theorem dX5_pass_1 : decode cX5_pass 1 = .ok (.istore_n 1, 1) := by decide +kernel
theorem dX5_pass_2 : decode cX5_pass 2 = .ok (.iload_n 1, 1) := by decide +kernel
theorem dX5_pass_3 : decode cX5_pass 3 = .ok (.aload_n 0, 1) := by decide +kernel
theorem dX5_pass_4 : decode cX5_pass 4 = .ok (.getfield 3, 3) := by decide +kernel
theorem dX5_pass_7 : decode cX5_pass 7 = .ok (.getfield 93, 3) := by decide +kernel
theorem dX5_pass_10 : decode cX5_pass 10 = .ok (.if_icmp .ge 14, 3) := by decide +kernel
theorem dX5_pass_13 : decode cX5_pass 13 = .ok (.aload_n 0, 1) := by decide +kernel
theorem dX5_pass_14 : decode cX5_pass 14 = .ok (.iload_n 1, 1) := by decide +kernel
theorem dX5_pass_15 : decode cX5_pass 15 = .ok (.invokevirtual 96, 3) := by decide +kernel
theorem dX5_pass_18 : decode cX5_pass 18 = .ok (.iinc 1 1, 3) := by decide +kernel
theorem dX5_pass_21 : decode cX5_pass 21 = .ok (.goto (-19), 3) := by decide +kernel
theorem dX5_pass_24 : decode cX5_pass 24 = .ok (.aload_n 0, 1) := by decide +kernel
theorem dX5_pass_25 : decode cX5_pass 25 = .ok (.iconst 4, 1) := by decide +kernel
theorem dX5_pass_26 : decode cX5_pass 26 = .ok (.invokevirtual 99, 3) := by decide +kernel
theorem dX5_pass_29 : decode cX5_pass 29 = .ok (.istore_n 1, 1) := by decide +kernel
theorem dX5_pass_30 : decode cX5_pass 30 = .ok (.iconst 0, 1) := by decide +kernel
theorem dX5_pass_31 : decode cX5_pass 31 = .ok (.istore_n 2, 1) := by decide +kernel
theorem dX5_pass_32 : decode cX5_pass 32 = .ok (.iload_n 2, 1) := by decide +kernel
theorem dX5_pass_33 : decode cX5_pass 33 = .ok (.bipush 8, 2) := by decide +kernel
theorem dX5_pass_35 : decode cX5_pass 35 = .ok (.if_icmp .ge 30, 3) := by decide +kernel
theorem dX5_pass_38 : decode cX5_pass 38 = .ok (.aload_n 0, 1) := by decide +kernel
theorem dX5_pass_39 : decode cX5_pass 39 = .ok (.getfield 3, 3) := by decide +kernel
theorem dX5_pass_42 : decode cX5_pass 42 = .ok (.getfield 102, 3) := by decide +kernel
theorem dX5_pass_45 : decode cX5_pass 45 = .ok (.iload_n 2, 1) := by decide +kernel
theorem dX5_pass_46 : decode cX5_pass 46 = .ok (.iaload, 1) := by decide +kernel
theorem dX5_pass_47 : decode cX5_pass 47 = .ok (.aload_n 0, 1) := by decide +kernel
theorem dX5_pass_48 : decode cX5_pass 48 = .ok (.getfield 49, 3) := by decide +kernel
theorem dX5_pass_51 : decode cX5_pass 51 = .ok (.if_icmp .ne 8, 3) := by decide +kernel
theorem dX5_pass_54 : decode cX5_pass 54 = .ok (.aload_n 0, 1) := by decide +kernel
theorem dX5_pass_55 : decode cX5_pass 55 = .ok (.iload_n 2, 1) := by decide +kernel
theorem dX5_pass_56 : decode cX5_pass 56 = .ok (.invokevirtual 105, 3) := by decide +kernel
theorem dX5_pass_59 : decode cX5_pass 59 = .ok (.iinc 2 1, 3) := by decide +kernel
theorem dX5_pass_62 : decode cX5_pass 62 = .ok (.goto (-30), 3) := by decide +kernel
theorem dX5_pass_65 : decode cX5_pass 65 = .ok (.iconst 0, 1) := by decide +kernel
theorem dX5_pass_66 : decode cX5_pass 66 = .ok (.istore_n 2, 1) := by decide +kernel
theorem dX5_pass_67 : decode cX5_pass 67 = .ok (.iload_n 2, 1) := by decide +kernel
theorem dX5_pass_68 : decode cX5_pass 68 = .ok (.bipush 8, 2) := by decide +kernel
theorem dX5_pass_70 : decode cX5_pass 70 = .ok (.if_icmp .ge 40, 3) := by decide +kernel
theorem dX5_pass_73 : decode cX5_pass 73 = .ok (.aload_n 0, 1) := by decide +kernel
theorem dX5_pass_74 : decode cX5_pass 74 = .ok (.getfield 3, 3) := by decide +kernel
theorem dX5_pass_77 : decode cX5_pass 77 = .ok (.getfield 102, 3) := by decide +kernel
theorem dX5_pass_80 : decode cX5_pass 80 = .ok (.iload_n 2, 1) := by decide +kernel
theorem dX5_pass_81 : decode cX5_pass 81 = .ok (.iaload, 1) := by decide +kernel
theorem dX5_pass_82 : decode cX5_pass 82 = .ok (.iconst 5, 1) := by decide +kernel
theorem dX5_pass_83 : decode cX5_pass 83 = .ok (.iadd, 1) := by decide +kernel
theorem dX5_pass_84 : decode cX5_pass 84 = .ok (.aload_n 0, 1) := by decide +kernel
theorem dX5_pass_85 : decode cX5_pass 85 = .ok (.getfield 49, 3) := by decide +kernel
theorem dX5_pass_88 : decode cX5_pass 88 = .ok (.if_icmp .ne 16, 3) := by decide +kernel
theorem dX5_pass_91 : decode cX5_pass 91 = .ok (.aload_n 0, 1) := by decide +kernel
theorem dX5_pass_92 : decode cX5_pass 92 = .ok (.aload_n 0, 1) := by decide +kernel
theorem dX5_pass_93 : decode cX5_pass 93 = .ok (.getfield 3, 3) := by decide +kernel
theorem dX5_pass_96 : decode cX5_pass 96 = .ok (.getfield 108, 3) := by decide +kernel
theorem dX5_pass_99 : decode cX5_pass 99 = .ok (.iload_n 2, 1) := by decide +kernel
theorem dX5_pass_100 : decode cX5_pass 100 = .ok (.iaload, 1) := by decide +kernel
theorem dX5_pass_101 : decode cX5_pass 101 = .ok (.invokevirtual 111, 3) := by decide +kernel
theorem dX5_pass_104 : decode cX5_pass 104 = .ok (.iinc 2 1, 3) := by decide +kernel
theorem dX5_pass_107 : decode cX5_pass 107 = .ok (.goto (-40), 3) := by decide +kernel
theorem dX5_pass_110 : decode cX5_pass 110 = .ok (.aload_n 0, 1) := by decide +kernel
theorem dX5_pass_111 : decode cX5_pass 111 = .ok (.dup, 1) := by decide +kernel
theorem dX5_pass_112 : decode cX5_pass 112 = .ok (.getfield 49, 3) := by decide +kernel
theorem dX5_pass_115 : decode cX5_pass 115 = .ok (.iconst 1, 1) := by decide +kernel
theorem dX5_pass_116 : decode cX5_pass 116 = .ok (.iadd, 1) := by decide +kernel
theorem dX5_pass_117 : decode cX5_pass 117 = .ok (.putfield 49, 3) := by decide +kernel
theorem dX5_pass_120 : decode cX5_pass 120 = .ok (.aload_n 0, 1) := by decide +kernel
theorem dX5_pass_121 : decode cX5_pass 121 = .ok (.iconst 4, 1) := by decide +kernel
theorem dX5_pass_122 : decode cX5_pass 122 = .ok (.invokevirtual 99, 3) := by decide +kernel
theorem dX5_pass_125 : decode cX5_pass 125 = .ok (.iload_n 1, 1) := by decide +kernel
theorem dX5_pass_126 : decode cX5_pass 126 = .ok (.isub, 1) := by decide +kernel
theorem dX5_pass_127 : decode cX5_pass 127 = .ok (.ireturn, 1) := by decide +kernel
set_option maxRecDepth 20000 in
theorem ggX5_pass__X5_pass : GoodIn wsX5_pass_ wsX5_pass := goodIn_r _ [5, 6, 7, 8, 9, 10, 4, 11, 12, 13, 14, 15, 16, 17, 18, 19, 20, 21, 22, 23, 24, 25, 26, 27, 28, 29, 30, 31, 32, 33, 34, 35, 36, 37, 38, 39, 40, 41, 42, 43, 44, 45, 46, 47, 48, 49, 50, 51, 52, 53, 54, 55, 56, 57, 58, 59, 60, 61, 62, 63, 64, 65, 66, 67, 68, 69, 70, 71, 72, 73, 74, 75, 76, 77] (by decide +kernel) (by decide +kernel)
set_option maxRecDepth 20000 in
theorem gX5_pass__X5_pass : GoodIn wsX5_pass_ (wsV RX5 114 RX5 yX5_pass wsX5_pass) := goodIn_app (goodIn_of _ (by decide +kernel)) ggX5_pass__X5_pass
theorem dX5_pass__0 : decode cX5_pass_ 0 = .ok (.iconst 0, 1) := by decide +kernel
theorem dX5_pass__1 : decode cX5_pass_ 1 = .ok (.istore_n 2, 1) := by decide +kernel
theorem dX5_pass__2 : decode cX5_pass_ 2 = .ok (.iconst 0, 1) := by decide +kernel
theorem dX5_pass__3 : decode cX5_pass_ 3 = .ok (.istore_n 3, 1) := by decide +kernel
theorem dX5_pass__4 : decode cX5_pass_ 4 = .ok (.iload_n 3, 1) := by decide +kernel
theorem dX5_pass__5 : decode cX5_pass_ 5 = .ok (.iload_n 1, 1) := by decide +kernel
theorem dX5_pass__6 : decode cX5_pass_ 6 = .ok (.if_icmp .ge 16, 3) := by decide +kernel
theorem dX5_pass__9 : decode cX5_pass_ 9 = .ok (.iload_n 2, 1) := by decide +kernel
theorem dX5_pass__10 : decode cX5_pass_ 10 = .ok (.aload_n 0, 1) := by decide +kernel
theorem dX5_pass__11 : decode cX5_pass_ 11 = .ok (.invokevirtual 114, 3) := by decide +kernel
theorem dX5_pass__14 : decode cX5_pass_ 14 = .ok (.iadd, 1) := by decide +kernel
theorem dX5_pass__15 : decode cX5_pass_ 15 = .ok (.istore_n 2, 1) := by decide +kernel
theorem dX5_pass__16 : decode cX5_pass_ 16 = .ok (.iinc 3 1, 3) := by decide +kernel
theorem dX5_pass__19 : decode cX5_pass_ 19 = .ok (.goto (-15), 3) := by decide +kernel
theorem dX5_pass__22 : decode cX5_pass_ 22 = .ok (.iload_n 2, 1) := by decide +kernel
theorem dX5_pass__23 : decode cX5_pass_ 23 = .ok (.ireturn, 1) := by decide +kernel
set_option maxRecDepth 20000 in
theorem ggX6_init_X5_init : GoodIn wsX6_init wsX5_init := goodIn_r _ [16, 17, 18, 2, 3, 4, 19, 20, 21, 22, 23, 24, 25, 26, 27, 38, 39, 40, 41, 42, 43, 44, 45, 46, 47, 48] (by decide +kernel) (by decide +kernel)
set_option maxRecDepth 20000 in
theorem gX6_init_X5_init_n27 : GoodIn wsX6_init (wsX5_init) := ggX6_init_X5_init
theorem dX6_init_0 : decode cX6_init 0 = .ok (.aload_n 0, 1) := by decide +kernel
theorem dX6_init_1 : decode cX6_init 1 = .ok (.invokespecial 1, 3) := by decide +kernel
theorem dX6_init_4 : decode cX6_init 4 = .ok (.aload_n 0, 1) := by decide +kernel
theorem dX6_init_5 : decode cX6_init 5 = .ok (.bipush 8, 2) := by decide +kernel
theorem dX6_init_7 : decode cX6_init 7 = .ok (.newarray .int, 2) := by decide +kernel
theorem dX6_init_9 : decode cX6_init 9 = .ok (.putfield 9, 3) := by decide +kernel
theorem dX6_init_12 : decode cX6_init 12 = .ok (.aload_n 0, 1) := by decide +kernel
theorem dX6_init_13 : decode cX6_init 13 = .ok (.bipush 8, 2) := by decide +kernel
theorem dX6_init_15 : decode cX6_init 15 = .ok (.newarray .int, 2) := by decide +kernel
theorem dX6_init_17 : decode cX6_init 17 = .ok (.putfield 13, 3) := by decide +kernel
theorem dX6_init_20 : decode cX6_init 20 = .ok (.aload_n 0, 1) := by decide +kernel
theorem dX6_init_21 : decode cX6_init 21 = .ok (.bipush 60, 2) := by decide +kernel
theorem dX6_init_23 : decode cX6_init 23 = .ok (.newarray .int, 2) := by decide +kernel
theorem dX6_init_25 : decode cX6_init 25 = .ok (.putfield 16, 3) := by decide +kernel
theorem dX6_init_28 : decode cX6_init 28 = .ok (.aload_n 0, 1) := by decide +kernel
theorem dX6_init_29 : decode cX6_init 29 = .ok (.bipush 60, 2) := by decide +kernel
theorem dX6_init_31 : decode cX6_init 31 = .ok (.newarray .int, 2) := by decide +kernel
theorem dX6_init_33 : decode cX6_init 33 = .ok (.putfield 19, 3) := by decide +kernel
theorem dX6_init_36 : decode cX6_init 36 = .ok (.aload_n 0, 1) := by decide +kernel
theorem dX6_init_37 : decode cX6_init 37 = .ok (.iconst 4, 1) := by decide +kernel
theorem dX6_init_38 : decode cX6_init 38 = .ok (.newarray .int, 2) := by decide +kernel
theorem dX6_init_40 : decode cX6_init 40 = .ok (.putfield 22, 3) := by decide +kernel
theorem dX6_init_43 : decode cX6_init 43 = .ok (.aload_n 0, 1) := by decide +kernel
theorem dX6_init_44 : decode cX6_init 44 = .ok (.new 25, 3) := by decide +kernel
theorem dX6_init_47 : decode cX6_init 47 = .ok (.dup, 1) := by decide +kernel
theorem dX6_init_48 : decode cX6_init 48 = .ok (.aload_n 0, 1) := by decide +kernel
theorem dX6_init_49 : decode cX6_init 49 = .ok (.invokespecial 27, 3) := by decide +kernel
theorem dX6_init_52 : decode cX6_init 52 = .ok (.putfield 30, 3) := by decide +kernel
theorem dX6_init_55 : decode cX6_init 55 = .ok (.aload_n 0, 1) := by decide +kernel
theorem dX6_init_56 : decode cX6_init 56 = .ok (.new 25, 3) := by decide +kernel
theorem dX6_init_59 : decode cX6_init 59 = .ok (.dup, 1) := by decide +kernel
theorem dX6_init_60 : decode cX6_init 60 = .ok (.aload_n 0, 1) := by decide +kernel
theorem dX6_init_61 : decode cX6_init 61 = .ok (.invokespecial 27, 3) := by decide +kernel
theorem dX6_init_64 : decode cX6_init 64 = .ok (.putfield 34, 3) := by decide +kernel
theorem dX6_init_67 : decode cX6_init 67 = .ok (.iconst 0, 1) := by decide +kernel
theorem dX6_init_68 : decode cX6_init 68 = .ok (.istore_n 1, 1) := by decide +kernel
theorem dX6_init_69 : decode cX6_init 69 = .ok (.iload_n 1, 1) := by decide +kernel
theorem dX6_init_70 : decode cX6_init 70 = .ok (.bipush 8, 2) := by decide +kernel
theorem dX6_init_72 : decode cX6_init 72 = .ok (.if_icmp .ge 22, 3) := by decide +kernel
theorem dX6_init_75 : decode cX6_init 75 = .ok (.aload_n 0, 1) := by decide +kernel
theorem dX6_init_76 : decode cX6_init 76 = .ok (.getfield 9, 3) := by decide +kernel
theorem dX6_init_79 : decode cX6_init 79 = .ok (.iload_n 1, 1) := by decide +kernel
theorem dX6_init_80 : decode cX6_init 80 = .ok (.bipush 20, 2) := by decide +kernel
theorem dX6_init_82 : decode cX6_init 82 = .ok (.iload_n 1, 1) := by decide +kernel
theorem dX6_init_83 : decode cX6_init 83 = .ok (.imul, 1) := by decide +kernel
theorem dX6_init_84 : decode cX6_init 84 = .ok (.bipush 20, 2) := by decide +kernel
theorem dX6_init_86 : decode cX6_init 86 = .ok (.iadd, 1) := by decide +kernel
theorem dX6_init_87 : decode cX6_init 87 = .ok (.iastore, 1) := by decide +kernel
theorem dX6_init_88 : decode cX6_init 88 = .ok (.iinc 1 1, 3) := by decide +kernel
theorem dX6_init_91 : decode cX6_init 91 = .ok (.goto (-22), 3) := by decide +kernel
theorem dX6_init_94 : decode cX6_init 94 = .ok (.return_, 1) := by decide +kernel
theorem dX6_thrown_0 : decode cX6_thrown 0 = .ok (.aload_n 0, 1) := by decide +kernel
theorem dX6_thrown_1 : decode cX6_thrown 1 = .ok (.getfield 37, 3) := by decide +kernel
theorem dX6_thrown_4 : decode cX6_thrown 4 = .ok (.ireturn, 1) := by decide +kernel
theorem dX6_no_0 : decode cX6_no 0 = .ok (.aload_n 0, 1) := by decide +kernel
theorem dX6_no_1 : decode cX6_no 1 = .ok (.iload_n 1, 1) := by decide +kernel
theorem dX6_no_2 : decode cX6_no 2 = .ok (.putfield 37, 3) := by decide +kernel
theorem dX6_no_5 : decode cX6_no 5 = .ok (.iconst 0, 1) := by decide +kernel
theorem dX6_no_6 : decode cX6_no 6 = .ok (.ireturn, 1) := by decide +kernel
theorem dX6_isIn_0 : decode cX6_isIn 0 = .ok (.iload_n 0, 1) := by decide +kernel
theorem dX6_isIn_1 : decode cX6_isIn 1 = .ok (.iload_n 1, 1) := by decide +kernel
theorem dX6_isIn_2 : decode cX6_isIn 2 = .ok (.if_icmp .lt 12, 3) := by decide +kernel
theorem dX6_isIn_5 : decode cX6_isIn 5 = .ok (.iload_n 0, 1) := by decide +kernel
theorem dX6_isIn_6 : decode cX6_isIn 6 = .ok (.iload_n 2, 1) := by decide +kernel
theorem dX6_isIn_7 : decode cX6_isIn 7 = .ok (.if_icmp .gt 7, 3) := by decide +kernel
theorem dX6_isIn_10 : decode cX6_isIn 10 = .ok (.iconst 1, 1) := by decide +kernel
theorem dX6_isIn_11 : decode cX6_isIn 11 = .ok (.goto 4, 3) := by decide +kernel
theorem dX6_isIn_14 : decode cX6_isIn 14 = .ok (.iconst 0, 1) := by decide +kernel
theorem dX6_isIn_15 : decode cX6_isIn 15 = .ok (.ireturn, 1) := by decide +kernel
set_option maxRecDepth 20000 in
theorem ggX6_isStation_X6_isIn : GoodIn wsX6_isStation wsX6_isIn := goodIn_r _ [4] (by decide +kernel) (by decide +kernel)
set_option maxRecDepth 20000 in
theorem gX6_isStation_X6_isIn : GoodIn wsX6_isStation (va_wsS RX6 41 yX6_isIn wsX6_isIn) := goodIn_app (goodIn_of _ (by decide +kernel)) ggX6_isStation_X6_isIn
theorem dX6_isStation_0 : decode cX6_isStation 0 = .ok (.iload_n 0, 1) := by decide +kernel
theorem dX6_isStation_1 : decode cX6_isStation 1 = .ok (.iconst 0, 1) := by decide +kernel
theorem dX6_isStation_2 : decode cX6_isStation 2 = .ok (.bipush 7, 2) := by decide +kernel
theorem dX6_isStation_4 : decode cX6_isStation 4 = .ok (.invokestatic 41, 3) := by decide +kernel
theorem dX6_isStation_7 : decode cX6_isStation 7 = .ok (.ireturn, 1) := by decide +kernel
set_option maxRecDepth 20000 in
theorem ggX6_isTown_X6_isIn : GoodIn wsX6_isTown wsX6_isIn := goodIn_r _ [4] (by decide +kernel) (by decide +kernel)
set_option maxRecDepth 20000 in
theorem gX6_isTown_X6_isIn : GoodIn wsX6_isTown (va_wsS RX6 41 yX6_isIn wsX6_isIn) := goodIn_app (goodIn_of _ (by decide +kernel)) ggX6_isTown_X6_isIn
theorem dX6_isTown_0 : decode cX6_isTown 0 = .ok (.iload_n 0, 1) := by decide +kernel
theorem dX6_isTown_1 : decode cX6_isTown 1 = .ok (.iconst 0, 1) := by decide +kernel
theorem dX6_isTown_2 : decode cX6_isTown 2 = .ok (.bipush 15, 2) := by decide +kernel
theorem dX6_isTown_4 : decode cX6_isTown 4 = .ok (.invokestatic 41, 3) := by decide +kernel
theorem dX6_isTown_7 : decode cX6_isTown 7 = .ok (.ireturn, 1) := by decide +kernel
set_option maxRecDepth 20000 in
theorem ggX6_isSet_X6_isIn : GoodIn wsX6_isSet wsX6_isIn := goodIn_r _ [5] (by decide +kernel) (by decide +kernel)
set_option maxRecDepth 20000 in
theorem gX6_isSet_X6_isIn : GoodIn wsX6_isSet (va_wsS RX6 41 yX6_isIn wsX6_isIn) := goodIn_app (goodIn_of _ (by decide +kernel)) ggX6_isSet_X6_isIn
theorem dX6_isSet_0 : decode cX6_isSet 0 = .ok (.iload_n 0, 1) := by decide +kernel
theorem dX6_isSet_1 : decode cX6_isSet 1 = .ok (.iconst 0, 1) := by decide +kernel
theorem dX6_isSet_2 : decode cX6_isSet 2 = .ok (.ldc 45, 2) := by decide +kernel
theorem dX6_isSet_4 : decode cX6_isSet 4 = .ok (.invokestatic 41, 3) := by decide +kernel
theorem dX6_isSet_7 : decode cX6_isSet 7 = .ok (.ireturn, 1) := by decide +kernel
set_option maxRecDepth 20000 in
theorem ggX6_isLetter_X6_isIn : GoodIn wsX6_isLetter wsX6_isIn := goodIn_r _ [5] (by decide +kernel) (by decide +kernel)
set_option maxRecDepth 20000 in
theorem gX6_isLetter_X6_isIn : GoodIn wsX6_isLetter (va_wsS RX6 41 yX6_isIn wsX6_isIn) := goodIn_app (goodIn_of _ (by decide +kernel)) ggX6_isLetter_X6_isIn
theorem dX6_isLetter_0 : decode cX6_isLetter 0 = .ok (.iload_n 1, 1) := by decide +kernel
theorem dX6_isLetter_1 : decode cX6_isLetter 1 = .ok (.iconst 0, 1) := by decide +kernel
theorem dX6_isLetter_2 : decode cX6_isLetter 2 = .ok (.aload_n 0, 1) := by decide +kernel
theorem dX6_isLetter_3 : decode cX6_isLetter 3 = .ok (.getfield 46, 3) := by decide +kernel
theorem dX6_isLetter_6 : decode cX6_isLetter 6 = .ok (.iconst 1, 1) := by decide +kernel
theorem dX6_isLetter_7 : decode cX6_isLetter 7 = .ok (.isub, 1) := by decide +kernel
theorem dX6_isLetter_8 : decode cX6_isLetter 8 = .ok (.invokestatic 41, 3) := by decide +kernel
theorem dX6_isLetter_11 : decode cX6_isLetter 11 = .ok (.ireturn, 1) := by decide +kernel
set_option maxRecDepth 20000 in
theorem ggX6_isSorter_X6_isIn : GoodIn wsX6_isSorter wsX6_isIn := goodIn_r _ [5] (by decide +kernel) (by decide +kernel)
set_option maxRecDepth 20000 in
theorem gX6_isSorter_X6_isIn : GoodIn wsX6_isSorter (va_wsS RX6 41 yX6_isIn wsX6_isIn) := goodIn_app (goodIn_of _ (by decide +kernel)) ggX6_isSorter_X6_isIn
theorem dX6_isSorter_0 : decode cX6_isSorter 0 = .ok (.iload_n 1, 1) := by decide +kernel
theorem dX6_isSorter_1 : decode cX6_isSorter 1 = .ok (.iconst 0, 1) := by decide +kernel
theorem dX6_isSorter_2 : decode cX6_isSorter 2 = .ok (.aload_n 0, 1) := by decide +kernel
theorem dX6_isSorter_3 : decode cX6_isSorter 3 = .ok (.getfield 49, 3) := by decide +kernel
theorem dX6_isSorter_6 : decode cX6_isSorter 6 = .ok (.iconst 1, 1) := by decide +kernel
theorem dX6_isSorter_7 : decode cX6_isSorter 7 = .ok (.isub, 1) := by decide +kernel
theorem dX6_isSorter_8 : decode cX6_isSorter 8 = .ok (.invokestatic 41, 3) := by decide +kernel
theorem dX6_isSorter_11 : decode cX6_isSorter 11 = .ok (.ireturn, 1) := by decide +kernel
theorem dX6_wouldRise_0 : decode cX6_wouldRise 0 = .ok (.iload_n 1, 1) := by decide +kernel
theorem dX6_wouldRise_1 : decode cX6_wouldRise 1 = .ok (.ifCond .eq 15, 3) := by decide +kernel
theorem dX6_wouldRise_4 : decode cX6_wouldRise 4 = .ok (.aload_n 0, 1) := by decide +kernel
theorem dX6_wouldRise_5 : decode cX6_wouldRise 5 = .ok (.getfield 9, 3) := by decide +kernel
theorem dX6_wouldRise_8 : decode cX6_wouldRise 8 = .ok (.iload_n 1, 1) := by decide +kernel
theorem dX6_wouldRise_9 : decode cX6_wouldRise 9 = .ok (.iconst 1, 1) := by decide +kernel
theorem dX6_wouldRise_10 : decode cX6_wouldRise 10 = .ok (.isub, 1) := by decide +kernel
theorem dX6_wouldRise_11 : decode cX6_wouldRise 11 = .ok (.iaload, 1) := by decide +kernel
theorem dX6_wouldRise_12 : decode cX6_wouldRise 12 = .ok (.iload_n 2, 1) := by decide +kernel
theorem dX6_wouldRise_13 : decode cX6_wouldRise 13 = .ok (.if_icmp .ge 25, 3) := by decide +kernel
theorem dX6_wouldRise_16 : decode cX6_wouldRise 16 = .ok (.iload_n 1, 1) := by decide +kernel
theorem dX6_wouldRise_17 : decode cX6_wouldRise 17 = .ok (.bipush 7, 2) := by decide +kernel
theorem dX6_wouldRise_19 : decode cX6_wouldRise 19 = .ok (.if_icmp .eq 15, 3) := by decide +kernel
theorem dX6_wouldRise_22 : decode cX6_wouldRise 22 = .ok (.iload_n 2, 1) := by decide +kernel
theorem dX6_wouldRise_23 : decode cX6_wouldRise 23 = .ok (.aload_n 0, 1) := by decide +kernel
theorem dX6_wouldRise_24 : decode cX6_wouldRise 24 = .ok (.getfield 9, 3) := by decide +kernel
theorem dX6_wouldRise_27 : decode cX6_wouldRise 27 = .ok (.iload_n 1, 1) := by decide +kernel
theorem dX6_wouldRise_28 : decode cX6_wouldRise 28 = .ok (.iconst 1, 1) := by decide +kernel
theorem dX6_wouldRise_29 : decode cX6_wouldRise 29 = .ok (.iadd, 1) := by decide +kernel
theorem dX6_wouldRise_30 : decode cX6_wouldRise 30 = .ok (.iaload, 1) := by decide +kernel
theorem dX6_wouldRise_31 : decode cX6_wouldRise 31 = .ok (.if_icmp .ge 7, 3) := by decide +kernel
theorem dX6_wouldRise_34 : decode cX6_wouldRise 34 = .ok (.iconst 1, 1) := by decide +kernel
theorem dX6_wouldRise_35 : decode cX6_wouldRise 35 = .ok (.goto 4, 3) := by decide +kernel
theorem dX6_wouldRise_38 : decode cX6_wouldRise 38 = .ok (.iconst 0, 1) := by decide +kernel
theorem dX6_wouldRise_39 : decode cX6_wouldRise 39 = .ok (.ireturn, 1) := by decide +kernel
set_option maxRecDepth 20000 in
theorem ggX6_setStation_X6_isStation : GoodIn wsX6_setStation wsX6_isStation := goodIn_r _ [8, 9, 10, 7, 11] (by decide +kernel) (by decide +kernel)
set_option maxRecDepth 20000 in
theorem gX6_setStation_X6_isStation : GoodIn wsX6_setStation (va_wsS RX6 52 yX6_isStation wsX6_isStation) := goodIn_app (goodIn_of _ (by decide +kernel)) ggX6_setStation_X6_isStation
set_option maxRecDepth 20000 in
theorem ggX6_setStation_X6_no : GoodIn wsX6_setStation wsX6_no := goodIn_r _ [15, 1, 20, 21, 22, 23, 24, 25, 26, 27, 28, 29] (by decide +kernel) (by decide +kernel)
set_option maxRecDepth 20000 in
theorem gX6_setStation_X6_no : GoodIn wsX6_setStation (wsV RX6 56 RX6 yX6_no wsX6_no) := goodIn_app (goodIn_of _ (by decide +kernel)) ggX6_setStation_X6_no
set_option maxRecDepth 20000 in
theorem ggX6_setStation_X6_isIn : GoodIn wsX6_setStation wsX6_isIn := goodIn_r _ [11] (by decide +kernel) (by decide +kernel)
set_option maxRecDepth 20000 in
theorem gX6_setStation_X6_isIn : GoodIn wsX6_setStation (va_wsS RX6 41 yX6_isIn wsX6_isIn) := goodIn_app (goodIn_of _ (by decide +kernel)) ggX6_setStation_X6_isIn
set_option maxRecDepth 20000 in
theorem ggX6_setStation_X6_wouldRise : GoodIn wsX6_setStation wsX6_wouldRise := goodIn_r _ [19, 3, 20, 21, 22, 23, 24, 25, 26, 27, 28, 29] (by decide +kernel) (by decide +kernel)
set_option maxRecDepth 20000 in
theorem gX6_setStation_X6_wouldRise : GoodIn wsX6_setStation (wsV RX6 63 RX6 yX6_wouldRise wsX6_wouldRise) := goodIn_app (goodIn_of _ (by decide +kernel)) ggX6_setStation_X6_wouldRise
theorem dX6_setStation_0 : decode cX6_setStation 0 = .ok (.aload_n 0, 1) := by decide +kernel
theorem dX6_setStation_1 : decode cX6_setStation 1 = .ok (.iconst 0, 1) := by decide +kernel
theorem dX6_setStation_2 : decode cX6_setStation 2 = .ok (.putfield 37, 3) := by decide +kernel
theorem dX6_setStation_5 : decode cX6_setStation 5 = .ok (.iload_n 1, 1) := by decide +kernel
theorem dX6_setStation_6 : decode cX6_setStation 6 = .ok (.invokestatic 52, 3) := by decide +kernel
theorem dX6_setStation_9 : decode cX6_setStation 9 = .ok (.ifCond .ne 9, 3) := by decide +kernel
theorem dX6_setStation_12 : decode cX6_setStation 12 = .ok (.aload_n 0, 1) := by decide +kernel
theorem dX6_setStation_13 : decode cX6_setStation 13 = .ok (.iconst 1, 1) := by decide +kernel
theorem dX6_setStation_14 : decode cX6_setStation 14 = .ok (.invokevirtual 56, 3) := by decide +kernel
theorem dX6_setStation_17 : decode cX6_setStation 17 = .ok (.ireturn, 1) := by decide +kernel
theorem dX6_setStation_18 : decode cX6_setStation 18 = .ok (.iload_n 2, 1) := by decide +kernel
theorem dX6_setStation_19 : decode cX6_setStation 19 = .ok (.iconst 1, 1) := by decide +kernel
theorem dX6_setStation_20 : decode cX6_setStation 20 = .ok (.sipush 999, 3) := by decide +kernel
theorem dX6_setStation_23 : decode cX6_setStation 23 = .ok (.invokestatic 41, 3) := by decide +kernel
theorem dX6_setStation_26 : decode cX6_setStation 26 = .ok (.ifCond .eq 12, 3) := by decide +kernel
theorem dX6_setStation_29 : decode cX6_setStation 29 = .ok (.iload_n 3, 1) := by decide +kernel
theorem dX6_setStation_30 : decode cX6_setStation 30 = .ok (.iconst 0, 1) := by decide +kernel
theorem dX6_setStation_31 : decode cX6_setStation 31 = .ok (.iconst 3, 1) := by decide +kernel
theorem dX6_setStation_32 : decode cX6_setStation 32 = .ok (.invokestatic 41, 3) := by decide +kernel
theorem dX6_setStation_35 : decode cX6_setStation 35 = .ok (.ifCond .ne 9, 3) := by decide +kernel
theorem dX6_setStation_38 : decode cX6_setStation 38 = .ok (.aload_n 0, 1) := by decide +kernel
theorem dX6_setStation_39 : decode cX6_setStation 39 = .ok (.iconst 2, 1) := by decide +kernel
theorem dX6_setStation_40 : decode cX6_setStation 40 = .ok (.invokevirtual 56, 3) := by decide +kernel
theorem dX6_setStation_43 : decode cX6_setStation 43 = .ok (.ireturn, 1) := by decide +kernel
theorem dX6_setStation_44 : decode cX6_setStation 44 = .ok (.aload_n 0, 1) := by decide +kernel
theorem dX6_setStation_45 : decode cX6_setStation 45 = .ok (.getfield 30, 3) := by decide +kernel
theorem dX6_setStation_48 : decode cX6_setStation 48 = .ok (.getfield 60, 3) := by decide +kernel
theorem dX6_setStation_51 : decode cX6_setStation 51 = .ok (.aload_n 0, 1) := by decide +kernel
theorem dX6_setStation_52 : decode cX6_setStation 52 = .ok (.getfield 9, 3) := by decide +kernel
theorem dX6_setStation_55 : decode cX6_setStation 55 = .ok (.iload_n 1, 1) := by decide +kernel
theorem dX6_setStation_56 : decode cX6_setStation 56 = .ok (.iaload, 1) := by decide +kernel
theorem dX6_setStation_57 : decode cX6_setStation 57 = .ok (.if_icmp .gt 23, 3) := by decide +kernel
theorem dX6_setStation_60 : decode cX6_setStation 60 = .ok (.aload_n 0, 1) := by decide +kernel
theorem dX6_setStation_61 : decode cX6_setStation 61 = .ok (.getfield 30, 3) := by decide +kernel
theorem dX6_setStation_64 : decode cX6_setStation 64 = .ok (.getfield 60, 3) := by decide +kernel
theorem dX6_setStation_67 : decode cX6_setStation 67 = .ok (.iload_n 2, 1) := by decide +kernel
theorem dX6_setStation_68 : decode cX6_setStation 68 = .ok (.if_icmp .gt 12, 3) := by decide +kernel
theorem dX6_setStation_71 : decode cX6_setStation 71 = .ok (.aload_n 0, 1) := by decide +kernel
theorem dX6_setStation_72 : decode cX6_setStation 72 = .ok (.iload_n 1, 1) := by decide +kernel
theorem dX6_setStation_73 : decode cX6_setStation 73 = .ok (.iload_n 2, 1) := by decide +kernel
theorem dX6_setStation_74 : decode cX6_setStation 74 = .ok (.invokevirtual 63, 3) := by decide +kernel
theorem dX6_setStation_77 : decode cX6_setStation 77 = .ok (.ifCond .ne 9, 3) := by decide +kernel
theorem dX6_setStation_80 : decode cX6_setStation 80 = .ok (.aload_n 0, 1) := by decide +kernel
theorem dX6_setStation_81 : decode cX6_setStation 81 = .ok (.iconst 3, 1) := by decide +kernel
theorem dX6_setStation_82 : decode cX6_setStation 82 = .ok (.invokevirtual 56, 3) := by decide +kernel
theorem dX6_setStation_85 : decode cX6_setStation 85 = .ok (.ireturn, 1) := by decide +kernel
theorem dX6_setStation_86 : decode cX6_setStation 86 = .ok (.bipush 10, 2) := by decide +kernel
theorem dX6_setStation_88 : decode cX6_setStation 88 = .ok (.aload_n 0, 1) := by decide +kernel
theorem dX6_setStation_89 : decode cX6_setStation 89 = .ok (.getfield 9, 3) := by decide +kernel
theorem dX6_setStation_92 : decode cX6_setStation 92 = .ok (.iload_n 1, 1) := by decide +kernel
theorem dX6_setStation_93 : decode cX6_setStation 93 = .ok (.iaload, 1) := by decide +kernel
theorem dX6_setStation_94 : decode cX6_setStation 94 = .ok (.imul, 1) := by decide +kernel
theorem dX6_setStation_95 : decode cX6_setStation 95 = .ok (.aload_n 0, 1) := by decide +kernel
theorem dX6_setStation_96 : decode cX6_setStation 96 = .ok (.getfield 13, 3) := by decide +kernel
theorem dX6_setStation_99 : decode cX6_setStation 99 = .ok (.iload_n 1, 1) := by decide +kernel
theorem dX6_setStation_100 : decode cX6_setStation 100 = .ok (.iaload, 1) := by decide +kernel
theorem dX6_setStation_101 : decode cX6_setStation 101 = .ok (.iadd, 1) := by decide +kernel
theorem dX6_setStation_102 : decode cX6_setStation 102 = .ok (.istore 4, 2) := by decide +kernel
theorem dX6_setStation_104 : decode cX6_setStation 104 = .ok (.aload_n 0, 1) := by decide +kernel
theorem dX6_setStation_105 : decode cX6_setStation 105 = .ok (.getfield 9, 3) := by decide +kernel
theorem dX6_setStation_108 : decode cX6_setStation 108 = .ok (.iload_n 1, 1) := by decide +kernel
theorem dX6_setStation_109 : decode cX6_setStation 109 = .ok (.iload_n 2, 1) := by decide +kernel
theorem dX6_setStation_110 : decode cX6_setStation 110 = .ok (.iastore, 1) := by decide +kernel
theorem dX6_setStation_111 : decode cX6_setStation 111 = .ok (.aload_n 0, 1) := by decide +kernel
theorem dX6_setStation_112 : decode cX6_setStation 112 = .ok (.getfield 13, 3) := by decide +kernel
theorem dX6_setStation_115 : decode cX6_setStation 115 = .ok (.iload_n 1, 1) := by decide +kernel
theorem dX6_setStation_116 : decode cX6_setStation 116 = .ok (.iload_n 3, 1) := by decide +kernel
theorem dX6_setStation_117 : decode cX6_setStation 117 = .ok (.iastore, 1) := by decide +kernel
theorem dX6_setStation_118 : decode cX6_setStation 118 = .ok (.iload 4, 2) := by decide +kernel
theorem dX6_setStation_120 : decode cX6_setStation 120 = .ok (.ireturn, 1) := by decide +kernel
set_option maxRecDepth 20000 in
theorem ggX6_post_X6_isStation : GoodIn wsX6_post wsX6_isStation := goodIn_r _ [9, 10, 11, 8, 12] (by decide +kernel) (by decide +kernel)
set_option maxRecDepth 20000 in
theorem gX6_post_X6_isStation : GoodIn wsX6_post (va_wsS RX6 52 yX6_isStation wsX6_isStation) := goodIn_app (goodIn_of _ (by decide +kernel)) ggX6_post_X6_isStation
set_option maxRecDepth 20000 in
theorem ggX6_post_X6_isTown : GoodIn wsX6_post wsX6_isTown := goodIn_r _ [15, 10, 11, 8, 12] (by decide +kernel) (by decide +kernel)
set_option maxRecDepth 20000 in
theorem gX6_post_X6_isTown : GoodIn wsX6_post (va_wsS RX6 67 yX6_isTown wsX6_isTown) := goodIn_app (goodIn_of _ (by decide +kernel)) ggX6_post_X6_isTown
set_option maxRecDepth 20000 in
theorem ggX6_post_X6_no : GoodIn wsX6_post wsX6_no := goodIn_r _ [19, 1, 20, 21, 22, 23, 24, 25, 26, 27, 28, 29] (by decide +kernel) (by decide +kernel)
set_option maxRecDepth 20000 in
theorem gX6_post_X6_no : GoodIn wsX6_post (wsV RX6 56 RX6 yX6_no wsX6_no) := goodIn_app (goodIn_of _ (by decide +kernel)) ggX6_post_X6_no
theorem dX6_post_0 : decode cX6_post 0 = .ok (.aload_n 0, 1) := by decide +kernel
theorem dX6_post_1 : decode cX6_post 1 = .ok (.iconst 0, 1) := by decide +kernel
theorem dX6_post_2 : decode cX6_post 2 = .ok (.putfield 37, 3) := by decide +kernel
theorem dX6_post_5 : decode cX6_post 5 = .ok (.iload_n 1, 1) := by decide +kernel
theorem dX6_post_6 : decode cX6_post 6 = .ok (.invokestatic 52, 3) := by decide +kernel
theorem dX6_post_9 : decode cX6_post 9 = .ok (.ifCond .eq 10, 3) := by decide +kernel
theorem dX6_post_12 : decode cX6_post 12 = .ok (.iload_n 2, 1) := by decide +kernel
theorem dX6_post_13 : decode cX6_post 13 = .ok (.invokestatic 67, 3) := by decide +kernel
theorem dX6_post_16 : decode cX6_post 16 = .ok (.ifCond .ne 9, 3) := by decide +kernel
theorem dX6_post_19 : decode cX6_post 19 = .ok (.aload_n 0, 1) := by decide +kernel
theorem dX6_post_20 : decode cX6_post 20 = .ok (.iconst 1, 1) := by decide +kernel
theorem dX6_post_21 : decode cX6_post 21 = .ok (.invokevirtual 56, 3) := by decide +kernel
theorem dX6_post_24 : decode cX6_post 24 = .ok (.ireturn, 1) := by decide +kernel
theorem dX6_post_25 : decode cX6_post 25 = .ok (.aload_n 0, 1) := by decide +kernel
theorem dX6_post_26 : decode cX6_post 26 = .ok (.getfield 46, 3) := by decide +kernel
theorem dX6_post_29 : decode cX6_post 29 = .ok (.bipush 60, 2) := by decide +kernel
theorem dX6_post_31 : decode cX6_post 31 = .ok (.if_icmp .ne 9, 3) := by decide +kernel
theorem dX6_post_34 : decode cX6_post 34 = .ok (.aload_n 0, 1) := by decide +kernel
theorem dX6_post_35 : decode cX6_post 35 = .ok (.iconst 2, 1) := by decide +kernel
theorem dX6_post_36 : decode cX6_post 36 = .ok (.invokevirtual 56, 3) := by decide +kernel
theorem dX6_post_39 : decode cX6_post 39 = .ok (.ireturn, 1) := by decide +kernel
theorem dX6_post_40 : decode cX6_post 40 = .ok (.aload_n 0, 1) := by decide +kernel
theorem dX6_post_41 : decode cX6_post 41 = .ok (.getfield 19, 3) := by decide +kernel
theorem dX6_post_44 : decode cX6_post 44 = .ok (.aload_n 0, 1) := by decide +kernel
theorem dX6_post_45 : decode cX6_post 45 = .ok (.getfield 46, 3) := by decide +kernel
theorem dX6_post_48 : decode cX6_post 48 = .ok (.iload_n 1, 1) := by decide +kernel
theorem dX6_post_49 : decode cX6_post 49 = .ok (.iastore, 1) := by decide +kernel
theorem dX6_post_50 : decode cX6_post 50 = .ok (.aload_n 0, 1) := by decide +kernel
theorem dX6_post_51 : decode cX6_post 51 = .ok (.getfield 16, 3) := by decide +kernel
theorem dX6_post_54 : decode cX6_post 54 = .ok (.aload_n 0, 1) := by decide +kernel
theorem dX6_post_55 : decode cX6_post 55 = .ok (.getfield 46, 3) := by decide +kernel
theorem dX6_post_58 : decode cX6_post 58 = .ok (.iload_n 2, 1) := by decide +kernel
theorem dX6_post_59 : decode cX6_post 59 = .ok (.iastore, 1) := by decide +kernel
theorem dX6_post_60 : decode cX6_post 60 = .ok (.aload_n 0, 1) := by decide +kernel
theorem dX6_post_61 : decode cX6_post 61 = .ok (.getfield 30, 3) := by decide +kernel
theorem dX6_post_64 : decode cX6_post 64 = .ok (.getfield 70, 3) := by decide +kernel
theorem dX6_post_67 : decode cX6_post 67 = .ok (.aload_n 0, 1) := by decide +kernel
theorem dX6_post_68 : decode cX6_post 68 = .ok (.getfield 46, 3) := by decide +kernel
theorem dX6_post_71 : decode cX6_post 71 = .ok (.iconst (-1), 1) := by decide +kernel
theorem dX6_post_72 : decode cX6_post 72 = .ok (.iastore, 1) := by decide +kernel
theorem dX6_post_73 : decode cX6_post 73 = .ok (.aload_n 0, 1) := by decide +kernel
theorem dX6_post_74 : decode cX6_post 74 = .ok (.getfield 30, 3) := by decide +kernel
theorem dX6_post_77 : decode cX6_post 77 = .ok (.getfield 73, 3) := by decide +kernel
theorem dX6_post_80 : decode cX6_post 80 = .ok (.aload_n 0, 1) := by decide +kernel
theorem dX6_post_81 : decode cX6_post 81 = .ok (.getfield 46, 3) := by decide +kernel
theorem dX6_post_84 : decode cX6_post 84 = .ok (.iconst (-1), 1) := by decide +kernel
theorem dX6_post_85 : decode cX6_post 85 = .ok (.iastore, 1) := by decide +kernel
theorem dX6_post_86 : decode cX6_post 86 = .ok (.aload_n 0, 1) := by decide +kernel
theorem dX6_post_87 : decode cX6_post 87 = .ok (.dup, 1) := by decide +kernel
theorem dX6_post_88 : decode cX6_post 88 = .ok (.getfield 46, 3) := by decide +kernel
theorem dX6_post_91 : decode cX6_post 91 = .ok (.iconst 1, 1) := by decide +kernel
theorem dX6_post_92 : decode cX6_post 92 = .ok (.iadd, 1) := by decide +kernel
theorem dX6_post_93 : decode cX6_post 93 = .ok (.putfield 46, 3) := by decide +kernel
theorem dX6_post_96 : decode cX6_post 96 = .ok (.aload_n 0, 1) := by decide +kernel
theorem dX6_post_97 : decode cX6_post 97 = .ok (.getfield 46, 3) := by decide +kernel
theorem dX6_post_100 : decode cX6_post 100 = .ok (.iconst 1, 1) := by decide +kernel
theorem dX6_post_101 : decode cX6_post 101 = .ok (.isub, 1) := by decide +kernel
theorem dX6_post_102 : decode cX6_post 102 = .ok (.ireturn, 1) := by decide +kernel
set_option maxRecDepth 20000 in
theorem ggX6_hire_X6_isIn : GoodIn wsX6_hire wsX6_isIn := goodIn_r _ [8] (by decide +kernel) (by decide +kernel)
set_option maxRecDepth 20000 in
theorem gX6_hire_X6_isIn : GoodIn wsX6_hire (va_wsS RX6 41 yX6_isIn wsX6_isIn) := goodIn_app (goodIn_of _ (by decide +kernel)) ggX6_hire_X6_isIn
set_option maxRecDepth 20000 in
theorem ggX6_hire_X6_isSet : GoodIn wsX6_hire wsX6_isSet := goodIn_r _ [11, 12, 5, 6, 7, 8] (by decide +kernel) (by decide +kernel)
set_option maxRecDepth 20000 in
theorem gX6_hire_X6_isSet : GoodIn wsX6_hire (va_wsS RX6 76 yX6_isSet wsX6_isSet) := goodIn_app (goodIn_of _ (by decide +kernel)) ggX6_hire_X6_isSet
set_option maxRecDepth 20000 in
theorem ggX6_hire_X6_no : GoodIn wsX6_hire wsX6_no := goodIn_r _ [16, 1, 17, 18, 19, 20, 21, 22, 23, 24, 25, 26] (by decide +kernel) (by decide +kernel)
set_option maxRecDepth 20000 in
theorem gX6_hire_X6_no : GoodIn wsX6_hire (wsV RX6 56 RX6 yX6_no wsX6_no) := goodIn_app (goodIn_of _ (by decide +kernel)) ggX6_hire_X6_no
theorem dX6_hire_0 : decode cX6_hire 0 = .ok (.aload_n 0, 1) := by decide +kernel
theorem dX6_hire_1 : decode cX6_hire 1 = .ok (.iconst 0, 1) := by decide +kernel
theorem dX6_hire_2 : decode cX6_hire 2 = .ok (.putfield 37, 3) := by decide +kernel
theorem dX6_hire_5 : decode cX6_hire 5 = .ok (.iload_n 1, 1) := by decide +kernel
theorem dX6_hire_6 : decode cX6_hire 6 = .ok (.iconst 1, 1) := by decide +kernel
theorem dX6_hire_7 : decode cX6_hire 7 = .ok (.bipush 9, 2) := by decide +kernel
theorem dX6_hire_9 : decode cX6_hire 9 = .ok (.invokestatic 41, 3) := by decide +kernel
theorem dX6_hire_12 : decode cX6_hire 12 = .ok (.ifCond .eq 10, 3) := by decide +kernel
theorem dX6_hire_15 : decode cX6_hire 15 = .ok (.iload_n 2, 1) := by decide +kernel
theorem dX6_hire_16 : decode cX6_hire 16 = .ok (.invokestatic 76, 3) := by decide +kernel
theorem dX6_hire_19 : decode cX6_hire 19 = .ok (.ifCond .ne 9, 3) := by decide +kernel
theorem dX6_hire_22 : decode cX6_hire 22 = .ok (.aload_n 0, 1) := by decide +kernel
theorem dX6_hire_23 : decode cX6_hire 23 = .ok (.iconst 1, 1) := by decide +kernel
theorem dX6_hire_24 : decode cX6_hire 24 = .ok (.invokevirtual 56, 3) := by decide +kernel
theorem dX6_hire_27 : decode cX6_hire 27 = .ok (.ireturn, 1) := by decide +kernel
theorem dX6_hire_28 : decode cX6_hire 28 = .ok (.aload_n 0, 1) := by decide +kernel
theorem dX6_hire_29 : decode cX6_hire 29 = .ok (.getfield 49, 3) := by decide +kernel
theorem dX6_hire_32 : decode cX6_hire 32 = .ok (.iconst 4, 1) := by decide +kernel
theorem dX6_hire_33 : decode cX6_hire 33 = .ok (.if_icmp .ne 9, 3) := by decide +kernel
theorem dX6_hire_36 : decode cX6_hire 36 = .ok (.aload_n 0, 1) := by decide +kernel
theorem dX6_hire_37 : decode cX6_hire 37 = .ok (.iconst 2, 1) := by decide +kernel
theorem dX6_hire_38 : decode cX6_hire 38 = .ok (.invokevirtual 56, 3) := by decide +kernel
theorem dX6_hire_41 : decode cX6_hire 41 = .ok (.ireturn, 1) := by decide +kernel
theorem dX6_hire_42 : decode cX6_hire 42 = .ok (.aload_n 0, 1) := by decide +kernel
theorem dX6_hire_43 : decode cX6_hire 43 = .ok (.getfield 22, 3) := by decide +kernel
theorem dX6_hire_46 : decode cX6_hire 46 = .ok (.aload_n 0, 1) := by decide +kernel
theorem dX6_hire_47 : decode cX6_hire 47 = .ok (.getfield 49, 3) := by decide +kernel
theorem dX6_hire_50 : decode cX6_hire 50 = .ok (.iload_n 1, 1) := by decide +kernel
theorem dX6_hire_51 : decode cX6_hire 51 = .ok (.iastore, 1) := by decide +kernel
theorem dX6_hire_52 : decode cX6_hire 52 = .ok (.aload_n 0, 1) := by decide +kernel
theorem dX6_hire_53 : decode cX6_hire 53 = .ok (.getfield 30, 3) := by decide +kernel
theorem dX6_hire_56 : decode cX6_hire 56 = .ok (.getfield 79, 3) := by decide +kernel
theorem dX6_hire_59 : decode cX6_hire 59 = .ok (.aload_n 0, 1) := by decide +kernel
theorem dX6_hire_60 : decode cX6_hire 60 = .ok (.getfield 49, 3) := by decide +kernel
theorem dX6_hire_63 : decode cX6_hire 63 = .ok (.iload_n 2, 1) := by decide +kernel
theorem dX6_hire_64 : decode cX6_hire 64 = .ok (.iastore, 1) := by decide +kernel
theorem dX6_hire_65 : decode cX6_hire 65 = .ok (.aload_n 0, 1) := by decide +kernel
theorem dX6_hire_66 : decode cX6_hire 66 = .ok (.getfield 30, 3) := by decide +kernel
theorem dX6_hire_69 : decode cX6_hire 69 = .ok (.getfield 82, 3) := by decide +kernel
theorem dX6_hire_72 : decode cX6_hire 72 = .ok (.aload_n 0, 1) := by decide +kernel
theorem dX6_hire_73 : decode cX6_hire 73 = .ok (.getfield 49, 3) := by decide +kernel
theorem dX6_hire_76 : decode cX6_hire 76 = .ok (.iconst (-1), 1) := by decide +kernel
theorem dX6_hire_77 : decode cX6_hire 77 = .ok (.iastore, 1) := by decide +kernel
theorem dX6_hire_78 : decode cX6_hire 78 = .ok (.aload_n 0, 1) := by decide +kernel
theorem dX6_hire_79 : decode cX6_hire 79 = .ok (.dup, 1) := by decide +kernel
theorem dX6_hire_80 : decode cX6_hire 80 = .ok (.getfield 49, 3) := by decide +kernel
theorem dX6_hire_83 : decode cX6_hire 83 = .ok (.iconst 1, 1) := by decide +kernel
theorem dX6_hire_84 : decode cX6_hire 84 = .ok (.iadd, 1) := by decide +kernel
theorem dX6_hire_85 : decode cX6_hire 85 = .ok (.putfield 49, 3) := by decide +kernel
theorem dX6_hire_88 : decode cX6_hire 88 = .ok (.aload_n 0, 1) := by decide +kernel
theorem dX6_hire_89 : decode cX6_hire 89 = .ok (.getfield 49, 3) := by decide +kernel
theorem dX6_hire_92 : decode cX6_hire 92 = .ok (.iconst 1, 1) := by decide +kernel
theorem dX6_hire_93 : decode cX6_hire 93 = .ok (.isub, 1) := by decide +kernel
theorem dX6_hire_94 : decode cX6_hire 94 = .ok (.ireturn, 1) := by decide +kernel
set_option maxRecDepth 20000 in
theorem ggX6_assign_X6_isSorter : GoodIn wsX6_assign wsX6_isSorter := goodIn_r _ [7, 8, 9, 10, 6, 11, 20, 21, 22, 23, 24, 25, 26, 27, 28, 29] (by decide +kernel) (by decide +kernel)
set_option maxRecDepth 20000 in
theorem gX6_assign_X6_isSorter : GoodIn wsX6_assign (wsV RX6 85 RX6 yX6_isSorter wsX6_isSorter) := goodIn_app (goodIn_of _ (by decide +kernel)) ggX6_assign_X6_isSorter
set_option maxRecDepth 20000 in
theorem ggX6_assign_X6_no : GoodIn wsX6_assign wsX6_no := goodIn_r _ [15, 1, 20, 21, 22, 23, 24, 25, 26, 27, 28, 29] (by decide +kernel) (by decide +kernel)
set_option maxRecDepth 20000 in
theorem gX6_assign_X6_no : GoodIn wsX6_assign (wsV RX6 56 RX6 yX6_no wsX6_no) := goodIn_app (goodIn_of _ (by decide +kernel)) ggX6_assign_X6_no
set_option maxRecDepth 20000 in
theorem ggX6_assign_X6_isSet : GoodIn wsX6_assign wsX6_isSet := goodIn_r _ [18, 19, 9, 10, 6, 11] (by decide +kernel) (by decide +kernel)
set_option maxRecDepth 20000 in
theorem gX6_assign_X6_isSet : GoodIn wsX6_assign (va_wsS RX6 76 yX6_isSet wsX6_isSet) := goodIn_app (goodIn_of _ (by decide +kernel)) ggX6_assign_X6_isSet
theorem dX6_assign_0 : decode cX6_assign 0 = .ok (.aload_n 0, 1) := by decide +kernel
theorem dX6_assign_1 : decode cX6_assign 1 = .ok (.iconst 0, 1) := by decide +kernel
theorem dX6_assign_2 : decode cX6_assign 2 = .ok (.putfield 37, 3) := by decide +kernel
theorem dX6_assign_5 : decode cX6_assign 5 = .ok (.aload_n 0, 1) := by decide +kernel
theorem dX6_assign_6 : decode cX6_assign 6 = .ok (.iload_n 1, 1) := by decide +kernel
theorem dX6_assign_7 : decode cX6_assign 7 = .ok (.invokevirtual 85, 3) := by decide +kernel
theorem dX6_assign_10 : decode cX6_assign 10 = .ok (.ifCond .ne 9, 3) := by decide +kernel
theorem dX6_assign_13 : decode cX6_assign 13 = .ok (.aload_n 0, 1) := by decide +kernel
theorem dX6_assign_14 : decode cX6_assign 14 = .ok (.iconst 1, 1) := by decide +kernel
theorem dX6_assign_15 : decode cX6_assign 15 = .ok (.invokevirtual 56, 3) := by decide +kernel
theorem dX6_assign_18 : decode cX6_assign 18 = .ok (.ireturn, 1) := by decide +kernel
theorem dX6_assign_19 : decode cX6_assign 19 = .ok (.iload_n 2, 1) := by decide +kernel
theorem dX6_assign_20 : decode cX6_assign 20 = .ok (.invokestatic 76, 3) := by decide +kernel
theorem dX6_assign_23 : decode cX6_assign 23 = .ok (.ifCond .ne 9, 3) := by decide +kernel
theorem dX6_assign_26 : decode cX6_assign 26 = .ok (.aload_n 0, 1) := by decide +kernel
theorem dX6_assign_27 : decode cX6_assign 27 = .ok (.iconst 2, 1) := by decide +kernel
theorem dX6_assign_28 : decode cX6_assign 28 = .ok (.invokevirtual 56, 3) := by decide +kernel
theorem dX6_assign_31 : decode cX6_assign 31 = .ok (.ireturn, 1) := by decide +kernel
theorem dX6_assign_32 : decode cX6_assign 32 = .ok (.aload_n 0, 1) := by decide +kernel
theorem dX6_assign_33 : decode cX6_assign 33 = .ok (.getfield 30, 3) := by decide +kernel
theorem dX6_assign_36 : decode cX6_assign 36 = .ok (.getfield 79, 3) := by decide +kernel
theorem dX6_assign_39 : decode cX6_assign 39 = .ok (.iload_n 1, 1) := by decide +kernel
theorem dX6_assign_40 : decode cX6_assign 40 = .ok (.iaload, 1) := by decide +kernel
theorem dX6_assign_41 : decode cX6_assign 41 = .ok (.istore_n 3, 1) := by decide +kernel
theorem dX6_assign_42 : decode cX6_assign 42 = .ok (.aload_n 0, 1) := by decide +kernel
theorem dX6_assign_43 : decode cX6_assign 43 = .ok (.getfield 30, 3) := by decide +kernel
theorem dX6_assign_46 : decode cX6_assign 46 = .ok (.getfield 79, 3) := by decide +kernel
theorem dX6_assign_49 : decode cX6_assign 49 = .ok (.iload_n 1, 1) := by decide +kernel
theorem dX6_assign_50 : decode cX6_assign 50 = .ok (.iload_n 2, 1) := by decide +kernel
theorem dX6_assign_51 : decode cX6_assign 51 = .ok (.iastore, 1) := by decide +kernel
theorem dX6_assign_52 : decode cX6_assign 52 = .ok (.iload_n 3, 1) := by decide +kernel
theorem dX6_assign_53 : decode cX6_assign 53 = .ok (.ireturn, 1) := by decide +kernel
set_option maxRecDepth 20000 in
theorem ggX6_tea_X6_isSorter : GoodIn wsX6_tea wsX6_isSorter := goodIn_r _ [7, 8, 9, 10, 6, 11, 16, 17, 18, 19, 20, 21, 22, 23, 24, 25] (by decide +kernel) (by decide +kernel)
set_option maxRecDepth 20000 in
theorem gX6_tea_X6_isSorter : GoodIn wsX6_tea (wsV RX6 85 RX6 yX6_isSorter wsX6_isSorter) := goodIn_app (goodIn_of _ (by decide +kernel)) ggX6_tea_X6_isSorter
set_option maxRecDepth 20000 in
theorem ggX6_tea_X6_no : GoodIn wsX6_tea wsX6_no := goodIn_r _ [15, 1, 16, 17, 18, 19, 20, 21, 22, 23, 24, 25] (by decide +kernel) (by decide +kernel)
set_option maxRecDepth 20000 in
theorem gX6_tea_X6_no : GoodIn wsX6_tea (wsV RX6 56 RX6 yX6_no wsX6_no) := goodIn_app (goodIn_of _ (by decide +kernel)) ggX6_tea_X6_no
theorem dX6_tea_0 : decode cX6_tea 0 = .ok (.aload_n 0, 1) := by decide +kernel
theorem dX6_tea_1 : decode cX6_tea 1 = .ok (.iconst 0, 1) := by decide +kernel
theorem dX6_tea_2 : decode cX6_tea 2 = .ok (.putfield 37, 3) := by decide +kernel
theorem dX6_tea_5 : decode cX6_tea 5 = .ok (.aload_n 0, 1) := by decide +kernel
theorem dX6_tea_6 : decode cX6_tea 6 = .ok (.iload_n 1, 1) := by decide +kernel
theorem dX6_tea_7 : decode cX6_tea 7 = .ok (.invokevirtual 85, 3) := by decide +kernel
theorem dX6_tea_10 : decode cX6_tea 10 = .ok (.ifCond .ne 9, 3) := by decide +kernel
theorem dX6_tea_13 : decode cX6_tea 13 = .ok (.aload_n 0, 1) := by decide +kernel
theorem dX6_tea_14 : decode cX6_tea 14 = .ok (.iconst 1, 1) := by decide +kernel
theorem dX6_tea_15 : decode cX6_tea 15 = .ok (.invokevirtual 56, 3) := by decide +kernel
theorem dX6_tea_18 : decode cX6_tea 18 = .ok (.ireturn, 1) := by decide +kernel
theorem dX6_tea_19 : decode cX6_tea 19 = .ok (.aload_n 0, 1) := by decide +kernel
theorem dX6_tea_20 : decode cX6_tea 20 = .ok (.getfield 30, 3) := by decide +kernel
theorem dX6_tea_23 : decode cX6_tea 23 = .ok (.getfield 88, 3) := by decide +kernel
theorem dX6_tea_26 : decode cX6_tea 26 = .ok (.iload_n 1, 1) := by decide +kernel
theorem dX6_tea_27 : decode cX6_tea 27 = .ok (.iaload, 1) := by decide +kernel
theorem dX6_tea_28 : decode cX6_tea 28 = .ok (.istore_n 2, 1) := by decide +kernel
theorem dX6_tea_29 : decode cX6_tea 29 = .ok (.aload_n 0, 1) := by decide +kernel
theorem dX6_tea_30 : decode cX6_tea 30 = .ok (.getfield 30, 3) := by decide +kernel
theorem dX6_tea_33 : decode cX6_tea 33 = .ok (.getfield 88, 3) := by decide +kernel
theorem dX6_tea_36 : decode cX6_tea 36 = .ok (.iload_n 1, 1) := by decide +kernel
theorem dX6_tea_37 : decode cX6_tea 37 = .ok (.iconst 0, 1) := by decide +kernel
theorem dX6_tea_38 : decode cX6_tea 38 = .ok (.iastore, 1) := by decide +kernel
theorem dX6_tea_39 : decode cX6_tea 39 = .ok (.aload_n 0, 1) := by decide +kernel
theorem dX6_tea_40 : decode cX6_tea 40 = .ok (.getfield 30, 3) := by decide +kernel
theorem dX6_tea_43 : decode cX6_tea 43 = .ok (.getfield 91, 3) := by decide +kernel
theorem dX6_tea_46 : decode cX6_tea 46 = .ok (.iload_n 1, 1) := by decide +kernel
theorem dX6_tea_47 : decode cX6_tea 47 = .ok (.iconst 1, 1) := by decide +kernel
theorem dX6_tea_48 : decode cX6_tea 48 = .ok (.iastore, 1) := by decide +kernel
theorem dX6_tea_49 : decode cX6_tea 49 = .ok (.iload_n 2, 1) := by decide +kernel
theorem dX6_tea_50 : decode cX6_tea 50 = .ok (.ireturn, 1) := by decide +kernel
theorem dX6_letterTold_0 : decode cX6_letterTold 0 = .ok (.iconst 5, 1) := by decide +kernel
theorem dX6_letterTold_1 : decode cX6_letterTold 1 = .ok (.newarray .int, 2) := by decide +kernel
theorem dX6_letterTold_3 : decode cX6_letterTold 3 = .ok (.dup, 1) := by decide +kernel
theorem dX6_letterTold_4 : decode cX6_letterTold 4 = .ok (.iconst 0, 1) := by decide +kernel
theorem dX6_letterTold_5 : decode cX6_letterTold 5 = .ok (.aload_n 0, 1) := by decide +kernel
theorem dX6_letterTold_6 : decode cX6_letterTold 6 = .ok (.getfield 30, 3) := by decide +kernel
theorem dX6_letterTold_9 : decode cX6_letterTold 9 = .ok (.getfield 94, 3) := by decide +kernel
theorem dX6_letterTold_12 : decode cX6_letterTold 12 = .ok (.iload_n 1, 1) := by decide +kernel
theorem dX6_letterTold_13 : decode cX6_letterTold 13 = .ok (.iaload, 1) := by decide +kernel
theorem dX6_letterTold_14 : decode cX6_letterTold 14 = .ok (.iastore, 1) := by decide +kernel
theorem dX6_letterTold_15 : decode cX6_letterTold 15 = .ok (.dup, 1) := by decide +kernel
theorem dX6_letterTold_16 : decode cX6_letterTold 16 = .ok (.iconst 1, 1) := by decide +kernel
theorem dX6_letterTold_17 : decode cX6_letterTold 17 = .ok (.aload_n 0, 1) := by decide +kernel
theorem dX6_letterTold_18 : decode cX6_letterTold 18 = .ok (.getfield 16, 3) := by decide +kernel
theorem dX6_letterTold_21 : decode cX6_letterTold 21 = .ok (.iload_n 1, 1) := by decide +kernel
theorem dX6_letterTold_22 : decode cX6_letterTold 22 = .ok (.iaload, 1) := by decide +kernel
theorem dX6_letterTold_23 : decode cX6_letterTold 23 = .ok (.iastore, 1) := by decide +kernel
theorem dX6_letterTold_24 : decode cX6_letterTold 24 = .ok (.dup, 1) := by decide +kernel
theorem dX6_letterTold_25 : decode cX6_letterTold 25 = .ok (.iconst 2, 1) := by decide +kernel
theorem dX6_letterTold_26 : decode cX6_letterTold 26 = .ok (.aload_n 0, 1) := by decide +kernel
theorem dX6_letterTold_27 : decode cX6_letterTold 27 = .ok (.getfield 19, 3) := by decide +kernel
theorem dX6_letterTold_30 : decode cX6_letterTold 30 = .ok (.iload_n 1, 1) := by decide +kernel
theorem dX6_letterTold_31 : decode cX6_letterTold 31 = .ok (.iaload, 1) := by decide +kernel
theorem dX6_letterTold_32 : decode cX6_letterTold 32 = .ok (.iastore, 1) := by decide +kernel
theorem dX6_letterTold_33 : decode cX6_letterTold 33 = .ok (.dup, 1) := by decide +kernel
theorem dX6_letterTold_34 : decode cX6_letterTold 34 = .ok (.iconst 3, 1) := by decide +kernel
theorem dX6_letterTold_35 : decode cX6_letterTold 35 = .ok (.aload_n 0, 1) := by decide +kernel
theorem dX6_letterTold_36 : decode cX6_letterTold 36 = .ok (.getfield 30, 3) := by decide +kernel
theorem dX6_letterTold_39 : decode cX6_letterTold 39 = .ok (.getfield 70, 3) := by decide +kernel
theorem dX6_letterTold_42 : decode cX6_letterTold 42 = .ok (.iload_n 1, 1) := by decide +kernel
theorem dX6_letterTold_43 : decode cX6_letterTold 43 = .ok (.iaload, 1) := by decide +kernel
theorem dX6_letterTold_44 : decode cX6_letterTold 44 = .ok (.iastore, 1) := by decide +kernel
theorem dX6_letterTold_45 : decode cX6_letterTold 45 = .ok (.dup, 1) := by decide +kernel
theorem dX6_letterTold_46 : decode cX6_letterTold 46 = .ok (.iconst 4, 1) := by decide +kernel
theorem dX6_letterTold_47 : decode cX6_letterTold 47 = .ok (.aload_n 0, 1) := by decide +kernel
theorem dX6_letterTold_48 : decode cX6_letterTold 48 = .ok (.getfield 30, 3) := by decide +kernel
theorem dX6_letterTold_51 : decode cX6_letterTold 51 = .ok (.getfield 73, 3) := by decide +kernel
theorem dX6_letterTold_54 : decode cX6_letterTold 54 = .ok (.iload_n 1, 1) := by decide +kernel
theorem dX6_letterTold_55 : decode cX6_letterTold 55 = .ok (.iaload, 1) := by decide +kernel
theorem dX6_letterTold_56 : decode cX6_letterTold 56 = .ok (.iastore, 1) := by decide +kernel
theorem dX6_letterTold_57 : decode cX6_letterTold 57 = .ok (.astore_n 3, 1) := by decide +kernel
theorem dX6_letterTold_58 : decode cX6_letterTold 58 = .ok (.aload_n 3, 1) := by decide +kernel
theorem dX6_letterTold_59 : decode cX6_letterTold 59 = .ok (.iload_n 2, 1) := by decide +kernel
theorem dX6_letterTold_60 : decode cX6_letterTold 60 = .ok (.iaload, 1) := by decide +kernel
theorem dX6_letterTold_61 : decode cX6_letterTold 61 = .ok (.ireturn, 1) := by decide +kernel
set_option maxRecDepth 20000 in
theorem ggX6_letter_X6_isLetter : GoodIn wsX6_letter wsX6_isLetter := goodIn_r _ [6, 7, 8, 9, 5, 10, 23, 24, 25, 26, 27, 28, 29, 30, 31, 32] (by decide +kernel) (by decide +kernel)
set_option maxRecDepth 20000 in
theorem gX6_letter_X6_isLetter : GoodIn wsX6_letter (wsV RX6 97 RX6 yX6_isLetter wsX6_isLetter) := goodIn_app (goodIn_of _ (by decide +kernel)) ggX6_letter_X6_isLetter
set_option maxRecDepth 20000 in
theorem ggX6_letter_X6_isIn : GoodIn wsX6_letter wsX6_isIn := goodIn_r _ [10] (by decide +kernel) (by decide +kernel)
set_option maxRecDepth 20000 in
theorem gX6_letter_X6_isIn : GoodIn wsX6_letter (va_wsS RX6 41 yX6_isIn wsX6_isIn) := goodIn_app (goodIn_of _ (by decide +kernel)) ggX6_letter_X6_isIn
set_option maxRecDepth 20000 in
theorem ggX6_letter_X6_letterTold : GoodIn wsX6_letter wsX6_letterTold := goodIn_r _ [14, 15, 16, 17, 18, 23, 24, 25, 26, 27, 28, 29, 30, 31, 32, 33, 34, 35, 36, 37, 38, 39, 40, 41, 42, 43] (by decide +kernel) (by decide +kernel)
set_option maxRecDepth 20000 in
theorem gX6_letter_X6_letterTold : GoodIn wsX6_letter (wsV RX6 100 RX6 yX6_letterTold wsX6_letterTold) := goodIn_app (goodIn_of _ (by decide +kernel)) ggX6_letter_X6_letterTold
set_option maxRecDepth 20000 in
theorem ggX6_letter_X6_no : GoodIn wsX6_letter wsX6_no := goodIn_r _ [22, 1, 23, 24, 25, 26, 27, 28, 29, 30, 31, 32] (by decide +kernel) (by decide +kernel)
set_option maxRecDepth 20000 in
theorem gX6_letter_X6_no : GoodIn wsX6_letter (wsV RX6 56 RX6 yX6_no wsX6_no) := goodIn_app (goodIn_of _ (by decide +kernel)) ggX6_letter_X6_no
theorem dX6_letter_0 : decode cX6_letter 0 = .ok (.aload_n 0, 1) := by decide +kernel
theorem dX6_letter_1 : decode cX6_letter 1 = .ok (.iconst 0, 1) := by decide +kernel
theorem dX6_letter_2 : decode cX6_letter 2 = .ok (.putfield 37, 3) := by decide +kernel
theorem dX6_letter_5 : decode cX6_letter 5 = .ok (.aload_n 0, 1) := by decide +kernel
theorem dX6_letter_6 : decode cX6_letter 6 = .ok (.iload_n 1, 1) := by decide +kernel
theorem dX6_letter_7 : decode cX6_letter 7 = .ok (.invokevirtual 97, 3) := by decide +kernel
theorem dX6_letter_10 : decode cX6_letter 10 = .ok (.ifCond .eq 21, 3) := by decide +kernel
theorem dX6_letter_13 : decode cX6_letter 13 = .ok (.iload_n 2, 1) := by decide +kernel
theorem dX6_letter_14 : decode cX6_letter 14 = .ok (.iconst 0, 1) := by decide +kernel
theorem dX6_letter_15 : decode cX6_letter 15 = .ok (.iconst 4, 1) := by decide +kernel
theorem dX6_letter_16 : decode cX6_letter 16 = .ok (.invokestatic 41, 3) := by decide +kernel
theorem dX6_letter_19 : decode cX6_letter 19 = .ok (.ifCond .eq 12, 3) := by decide +kernel
theorem dX6_letter_22 : decode cX6_letter 22 = .ok (.aload_n 0, 1) := by decide +kernel
theorem dX6_letter_23 : decode cX6_letter 23 = .ok (.iload_n 1, 1) := by decide +kernel
theorem dX6_letter_24 : decode cX6_letter 24 = .ok (.iload_n 2, 1) := by decide +kernel
theorem dX6_letter_25 : decode cX6_letter 25 = .ok (.invokevirtual 100, 3) := by decide +kernel
theorem dX6_letter_28 : decode cX6_letter 28 = .ok (.goto 8, 3) := by decide +kernel
theorem dX6_letter_31 : decode cX6_letter 31 = .ok (.aload_n 0, 1) := by decide +kernel
theorem dX6_letter_32 : decode cX6_letter 32 = .ok (.iconst 1, 1) := by decide +kernel
theorem dX6_letter_33 : decode cX6_letter 33 = .ok (.invokevirtual 56, 3) := by decide +kernel
theorem dX6_letter_36 : decode cX6_letter 36 = .ok (.ireturn, 1) := by decide +kernel
theorem dX6_sorterTold_0 : decode cX6_sorterTold 0 = .ok (.bipush 7, 2) := by decide +kernel
theorem dX6_sorterTold_2 : decode cX6_sorterTold 2 = .ok (.newarray .int, 2) := by decide +kernel
theorem dX6_sorterTold_4 : decode cX6_sorterTold 4 = .ok (.dup, 1) := by decide +kernel
theorem dX6_sorterTold_5 : decode cX6_sorterTold 5 = .ok (.iconst 0, 1) := by decide +kernel
theorem dX6_sorterTold_6 : decode cX6_sorterTold 6 = .ok (.aload_n 0, 1) := by decide +kernel
theorem dX6_sorterTold_7 : decode cX6_sorterTold 7 = .ok (.getfield 22, 3) := by decide +kernel
theorem dX6_sorterTold_10 : decode cX6_sorterTold 10 = .ok (.iload_n 1, 1) := by decide +kernel
theorem dX6_sorterTold_11 : decode cX6_sorterTold 11 = .ok (.iaload, 1) := by decide +kernel
theorem dX6_sorterTold_12 : decode cX6_sorterTold 12 = .ok (.iastore, 1) := by decide +kernel
theorem dX6_sorterTold_13 : decode cX6_sorterTold 13 = .ok (.dup, 1) := by decide +kernel
theorem dX6_sorterTold_14 : decode cX6_sorterTold 14 = .ok (.iconst 1, 1) := by decide +kernel
theorem dX6_sorterTold_15 : decode cX6_sorterTold 15 = .ok (.aload_n 0, 1) := by decide +kernel
theorem dX6_sorterTold_16 : decode cX6_sorterTold 16 = .ok (.getfield 30, 3) := by decide +kernel
theorem dX6_sorterTold_19 : decode cX6_sorterTold 19 = .ok (.getfield 79, 3) := by decide +kernel
theorem dX6_sorterTold_22 : decode cX6_sorterTold 22 = .ok (.iload_n 1, 1) := by decide +kernel
theorem dX6_sorterTold_23 : decode cX6_sorterTold 23 = .ok (.iaload, 1) := by decide +kernel
theorem dX6_sorterTold_24 : decode cX6_sorterTold 24 = .ok (.iastore, 1) := by decide +kernel
theorem dX6_sorterTold_25 : decode cX6_sorterTold 25 = .ok (.dup, 1) := by decide +kernel
theorem dX6_sorterTold_26 : decode cX6_sorterTold 26 = .ok (.iconst 2, 1) := by decide +kernel
theorem dX6_sorterTold_27 : decode cX6_sorterTold 27 = .ok (.aload_n 0, 1) := by decide +kernel
theorem dX6_sorterTold_28 : decode cX6_sorterTold 28 = .ok (.getfield 30, 3) := by decide +kernel
theorem dX6_sorterTold_31 : decode cX6_sorterTold 31 = .ok (.getfield 88, 3) := by decide +kernel
theorem dX6_sorterTold_34 : decode cX6_sorterTold 34 = .ok (.iload_n 1, 1) := by decide +kernel
theorem dX6_sorterTold_35 : decode cX6_sorterTold 35 = .ok (.iaload, 1) := by decide +kernel
theorem dX6_sorterTold_36 : decode cX6_sorterTold 36 = .ok (.iastore, 1) := by decide +kernel
theorem dX6_sorterTold_37 : decode cX6_sorterTold 37 = .ok (.dup, 1) := by decide +kernel
theorem dX6_sorterTold_38 : decode cX6_sorterTold 38 = .ok (.iconst 3, 1) := by decide +kernel
theorem dX6_sorterTold_39 : decode cX6_sorterTold 39 = .ok (.aload_n 0, 1) := by decide +kernel
theorem dX6_sorterTold_40 : decode cX6_sorterTold 40 = .ok (.getfield 30, 3) := by decide +kernel
theorem dX6_sorterTold_43 : decode cX6_sorterTold 43 = .ok (.getfield 91, 3) := by decide +kernel
theorem dX6_sorterTold_46 : decode cX6_sorterTold 46 = .ok (.iload_n 1, 1) := by decide +kernel
theorem dX6_sorterTold_47 : decode cX6_sorterTold 47 = .ok (.iaload, 1) := by decide +kernel
theorem dX6_sorterTold_48 : decode cX6_sorterTold 48 = .ok (.iastore, 1) := by decide +kernel
theorem dX6_sorterTold_49 : decode cX6_sorterTold 49 = .ok (.dup, 1) := by decide +kernel
theorem dX6_sorterTold_50 : decode cX6_sorterTold 50 = .ok (.iconst 4, 1) := by decide +kernel
theorem dX6_sorterTold_51 : decode cX6_sorterTold 51 = .ok (.aload_n 0, 1) := by decide +kernel
theorem dX6_sorterTold_52 : decode cX6_sorterTold 52 = .ok (.getfield 30, 3) := by decide +kernel
theorem dX6_sorterTold_55 : decode cX6_sorterTold 55 = .ok (.getfield 82, 3) := by decide +kernel
theorem dX6_sorterTold_58 : decode cX6_sorterTold 58 = .ok (.iload_n 1, 1) := by decide +kernel
theorem dX6_sorterTold_59 : decode cX6_sorterTold 59 = .ok (.iaload, 1) := by decide +kernel
theorem dX6_sorterTold_60 : decode cX6_sorterTold 60 = .ok (.iastore, 1) := by decide +kernel
theorem dX6_sorterTold_61 : decode cX6_sorterTold 61 = .ok (.dup, 1) := by decide +kernel
theorem dX6_sorterTold_62 : decode cX6_sorterTold 62 = .ok (.iconst 5, 1) := by decide +kernel
theorem dX6_sorterTold_63 : decode cX6_sorterTold 63 = .ok (.aload_n 0, 1) := by decide +kernel
theorem dX6_sorterTold_64 : decode cX6_sorterTold 64 = .ok (.getfield 30, 3) := by decide +kernel
theorem dX6_sorterTold_67 : decode cX6_sorterTold 67 = .ok (.getfield 104, 3) := by decide +kernel
theorem dX6_sorterTold_70 : decode cX6_sorterTold 70 = .ok (.iload_n 1, 1) := by decide +kernel
theorem dX6_sorterTold_71 : decode cX6_sorterTold 71 = .ok (.iaload, 1) := by decide +kernel
theorem dX6_sorterTold_72 : decode cX6_sorterTold 72 = .ok (.iastore, 1) := by decide +kernel
theorem dX6_sorterTold_73 : decode cX6_sorterTold 73 = .ok (.dup, 1) := by decide +kernel
theorem dX6_sorterTold_74 : decode cX6_sorterTold 74 = .ok (.bipush 6, 2) := by decide +kernel
theorem dX6_sorterTold_76 : decode cX6_sorterTold 76 = .ok (.aload_n 0, 1) := by decide +kernel
theorem dX6_sorterTold_77 : decode cX6_sorterTold 77 = .ok (.getfield 30, 3) := by decide +kernel
theorem dX6_sorterTold_80 : decode cX6_sorterTold 80 = .ok (.getfield 107, 3) := by decide +kernel
theorem dX6_sorterTold_83 : decode cX6_sorterTold 83 = .ok (.iload_n 1, 1) := by decide +kernel
theorem dX6_sorterTold_84 : decode cX6_sorterTold 84 = .ok (.iaload, 1) := by decide +kernel
theorem dX6_sorterTold_85 : decode cX6_sorterTold 85 = .ok (.iastore, 1) := by decide +kernel
theorem dX6_sorterTold_86 : decode cX6_sorterTold 86 = .ok (.astore_n 3, 1) := by decide +kernel
theorem dX6_sorterTold_87 : decode cX6_sorterTold 87 = .ok (.aload_n 3, 1) := by decide +kernel
theorem dX6_sorterTold_88 : decode cX6_sorterTold 88 = .ok (.iload_n 2, 1) := by decide +kernel
theorem dX6_sorterTold_89 : decode cX6_sorterTold 89 = .ok (.iaload, 1) := by decide +kernel
theorem dX6_sorterTold_90 : decode cX6_sorterTold 90 = .ok (.ireturn, 1) := by decide +kernel
set_option maxRecDepth 20000 in
theorem ggX6_sorter_X6_isSorter : GoodIn wsX6_sorter wsX6_isSorter := goodIn_r _ [6, 7, 8, 9, 5, 10, 22, 23, 24, 25, 26, 27, 28, 29, 30, 31] (by decide +kernel) (by decide +kernel)
set_option maxRecDepth 20000 in
theorem gX6_sorter_X6_isSorter : GoodIn wsX6_sorter (wsV RX6 85 RX6 yX6_isSorter wsX6_isSorter) := goodIn_app (goodIn_of _ (by decide +kernel)) ggX6_sorter_X6_isSorter
set_option maxRecDepth 20000 in
theorem ggX6_sorter_X6_isIn : GoodIn wsX6_sorter wsX6_isIn := goodIn_r _ [10] (by decide +kernel) (by decide +kernel)
set_option maxRecDepth 20000 in
theorem gX6_sorter_X6_isIn : GoodIn wsX6_sorter (va_wsS RX6 41 yX6_isIn wsX6_isIn) := goodIn_app (goodIn_of _ (by decide +kernel)) ggX6_sorter_X6_isIn
set_option maxRecDepth 20000 in
theorem ggX6_sorter_X6_sorterTold : GoodIn wsX6_sorter wsX6_sorterTold := goodIn_r _ [14, 15, 16, 17, 22, 23, 24, 25, 26, 27, 28, 29, 30, 31, 32, 33, 34, 35, 36, 37, 38, 39, 40, 41, 42] (by decide +kernel) (by decide +kernel)
set_option maxRecDepth 20000 in
theorem gX6_sorter_X6_sorterTold : GoodIn wsX6_sorter (wsV RX6 110 RX6 yX6_sorterTold wsX6_sorterTold) := goodIn_app (goodIn_of _ (by decide +kernel)) ggX6_sorter_X6_sorterTold
set_option maxRecDepth 20000 in
theorem ggX6_sorter_X6_no : GoodIn wsX6_sorter wsX6_no := goodIn_r _ [21, 1, 22, 23, 24, 25, 26, 27, 28, 29, 30, 31] (by decide +kernel) (by decide +kernel)
set_option maxRecDepth 20000 in
theorem gX6_sorter_X6_no : GoodIn wsX6_sorter (wsV RX6 56 RX6 yX6_no wsX6_no) := goodIn_app (goodIn_of _ (by decide +kernel)) ggX6_sorter_X6_no
theorem dX6_sorter_0 : decode cX6_sorter 0 = .ok (.aload_n 0, 1) := by decide +kernel
theorem dX6_sorter_1 : decode cX6_sorter 1 = .ok (.iconst 0, 1) := by decide +kernel
theorem dX6_sorter_2 : decode cX6_sorter 2 = .ok (.putfield 37, 3) := by decide +kernel
theorem dX6_sorter_5 : decode cX6_sorter 5 = .ok (.aload_n 0, 1) := by decide +kernel
theorem dX6_sorter_6 : decode cX6_sorter 6 = .ok (.iload_n 1, 1) := by decide +kernel
theorem dX6_sorter_7 : decode cX6_sorter 7 = .ok (.invokevirtual 85, 3) := by decide +kernel
theorem dX6_sorter_10 : decode cX6_sorter 10 = .ok (.ifCond .eq 22, 3) := by decide +kernel
theorem dX6_sorter_13 : decode cX6_sorter 13 = .ok (.iload_n 2, 1) := by decide +kernel
theorem dX6_sorter_14 : decode cX6_sorter 14 = .ok (.iconst 0, 1) := by decide +kernel
theorem dX6_sorter_15 : decode cX6_sorter 15 = .ok (.bipush 6, 2) := by decide +kernel
theorem dX6_sorter_17 : decode cX6_sorter 17 = .ok (.invokestatic 41, 3) := by decide +kernel
theorem dX6_sorter_20 : decode cX6_sorter 20 = .ok (.ifCond .eq 12, 3) := by decide +kernel
theorem dX6_sorter_23 : decode cX6_sorter 23 = .ok (.aload_n 0, 1) := by decide +kernel
theorem dX6_sorter_24 : decode cX6_sorter 24 = .ok (.iload_n 1, 1) := by decide +kernel
theorem dX6_sorter_25 : decode cX6_sorter 25 = .ok (.iload_n 2, 1) := by decide +kernel
theorem dX6_sorter_26 : decode cX6_sorter 26 = .ok (.invokevirtual 110, 3) := by decide +kernel
theorem dX6_sorter_29 : decode cX6_sorter 29 = .ok (.goto 8, 3) := by decide +kernel
theorem dX6_sorter_32 : decode cX6_sorter 32 = .ok (.aload_n 0, 1) := by decide +kernel
theorem dX6_sorter_33 : decode cX6_sorter 33 = .ok (.iconst 1, 1) := by decide +kernel
theorem dX6_sorter_34 : decode cX6_sorter 34 = .ok (.invokevirtual 56, 3) := by decide +kernel
theorem dX6_sorter_37 : decode cX6_sorter 37 = .ok (.ireturn, 1) := by decide +kernel
set_option maxRecDepth 20000 in
theorem ggX6_hole_X6_isTown : GoodIn wsX6_hole wsX6_isTown := goodIn_r _ [6, 7, 8, 5, 9] (by decide +kernel) (by decide +kernel)
set_option maxRecDepth 20000 in
theorem gX6_hole_X6_isTown : GoodIn wsX6_hole (va_wsS RX6 67 yX6_isTown wsX6_isTown) := goodIn_app (goodIn_of _ (by decide +kernel)) ggX6_hole_X6_isTown
set_option maxRecDepth 20000 in
theorem ggX6_hole_X5_inHole : GoodIn wsX6_hole wsX5_inHole := goodIn_r _ [14, 15, 16, 31, 32, 33, 34, 35, 36, 37, 38, 39, 40, 41, 21, 22, 23, 24, 25, 26, 27, 28, 29, 30] (by decide +kernel) (by decide +kernel)
set_option maxRecDepth 20000 in
theorem gX6_hole_X5_inHole : GoodIn wsX6_hole (wsV RX6 113 RX5 yX5_inHole wsX5_inHole) := goodIn_app (goodIn_of _ (by decide +kernel)) ggX6_hole_X5_inHole
set_option maxRecDepth 20000 in
theorem ggX6_hole_X6_no : GoodIn wsX6_hole wsX6_no := goodIn_r _ [20, 1, 21, 22, 23, 24, 25, 26, 27, 28, 29, 30] (by decide +kernel) (by decide +kernel)
set_option maxRecDepth 20000 in
theorem gX6_hole_X6_no : GoodIn wsX6_hole (wsV RX6 56 RX6 yX6_no wsX6_no) := goodIn_app (goodIn_of _ (by decide +kernel)) ggX6_hole_X6_no
theorem dX6_hole_0 : decode cX6_hole 0 = .ok (.aload_n 0, 1) := by decide +kernel
theorem dX6_hole_1 : decode cX6_hole 1 = .ok (.iconst 0, 1) := by decide +kernel
theorem dX6_hole_2 : decode cX6_hole 2 = .ok (.putfield 37, 3) := by decide +kernel
theorem dX6_hole_5 : decode cX6_hole 5 = .ok (.iload_n 1, 1) := by decide +kernel
theorem dX6_hole_6 : decode cX6_hole 6 = .ok (.invokestatic 67, 3) := by decide +kernel
theorem dX6_hole_9 : decode cX6_hole 9 = .ok (.ifCond .eq 14, 3) := by decide +kernel
theorem dX6_hole_12 : decode cX6_hole 12 = .ok (.aload_n 0, 1) := by decide +kernel
theorem dX6_hole_13 : decode cX6_hole 13 = .ok (.getfield 30, 3) := by decide +kernel
theorem dX6_hole_16 : decode cX6_hole 16 = .ok (.iload_n 1, 1) := by decide +kernel
theorem dX6_hole_17 : decode cX6_hole 17 = .ok (.invokevirtual 113, 3) := by decide +kernel
theorem dX6_hole_20 : decode cX6_hole 20 = .ok (.goto 8, 3) := by decide +kernel
theorem dX6_hole_23 : decode cX6_hole 23 = .ok (.aload_n 0, 1) := by decide +kernel
theorem dX6_hole_24 : decode cX6_hole 24 = .ok (.iconst 1, 1) := by decide +kernel
theorem dX6_hole_25 : decode cX6_hole 25 = .ok (.invokevirtual 56, 3) := by decide +kernel
theorem dX6_hole_28 : decode cX6_hole 28 = .ok (.ireturn, 1) := by decide +kernel
theorem dX6_stationTold_0 : decode cX6_stationTold 0 = .ok (.iconst 0, 1) := by decide +kernel
theorem dX6_stationTold_1 : decode cX6_stationTold 1 = .ok (.istore_n 3, 1) := by decide +kernel
theorem dX6_stationTold_2 : decode cX6_stationTold 2 = .ok (.iconst 0, 1) := by decide +kernel
theorem dX6_stationTold_3 : decode cX6_stationTold 3 = .ok (.istore 4, 2) := by decide +kernel
theorem dX6_stationTold_5 : decode cX6_stationTold 5 = .ok (.iload 4, 2) := by decide +kernel
theorem dX6_stationTold_7 : decode cX6_stationTold 7 = .ok (.aload_n 0, 1) := by decide +kernel
theorem dX6_stationTold_8 : decode cX6_stationTold 8 = .ok (.getfield 46, 3) := by decide +kernel
theorem dX6_stationTold_11 : decode cX6_stationTold 11 = .ok (.if_icmp .ge 41, 3) := by decide +kernel
theorem dX6_stationTold_14 : decode cX6_stationTold 14 = .ok (.iload_n 3, 1) := by decide +kernel
theorem dX6_stationTold_15 : decode cX6_stationTold 15 = .ok (.aload_n 0, 1) := by decide +kernel
theorem dX6_stationTold_16 : decode cX6_stationTold 16 = .ok (.getfield 30, 3) := by decide +kernel
theorem dX6_stationTold_19 : decode cX6_stationTold 19 = .ok (.getfield 94, 3) := by decide +kernel
theorem dX6_stationTold_22 : decode cX6_stationTold 22 = .ok (.iload 4, 2) := by decide +kernel
theorem dX6_stationTold_24 : decode cX6_stationTold 24 = .ok (.iaload, 1) := by decide +kernel
theorem dX6_stationTold_25 : decode cX6_stationTold 25 = .ok (.ifCond .ne 18, 3) := by decide +kernel
theorem dX6_stationTold_28 : decode cX6_stationTold 28 = .ok (.aload_n 0, 1) := by decide +kernel
theorem dX6_stationTold_29 : decode cX6_stationTold 29 = .ok (.getfield 19, 3) := by decide +kernel
theorem dX6_stationTold_32 : decode cX6_stationTold 32 = .ok (.iload 4, 2) := by decide +kernel
theorem dX6_stationTold_34 : decode cX6_stationTold 34 = .ok (.iaload, 1) := by decide +kernel
theorem dX6_stationTold_35 : decode cX6_stationTold 35 = .ok (.iload_n 1, 1) := by decide +kernel
theorem dX6_stationTold_36 : decode cX6_stationTold 36 = .ok (.if_icmp .ne 7, 3) := by decide +kernel
theorem dX6_stationTold_39 : decode cX6_stationTold 39 = .ok (.iconst 1, 1) := by decide +kernel
theorem dX6_stationTold_40 : decode cX6_stationTold 40 = .ok (.goto 4, 3) := by decide +kernel
theorem dX6_stationTold_43 : decode cX6_stationTold 43 = .ok (.iconst 0, 1) := by decide +kernel
theorem dX6_stationTold_44 : decode cX6_stationTold 44 = .ok (.iadd, 1) := by decide +kernel
theorem dX6_stationTold_45 : decode cX6_stationTold 45 = .ok (.istore_n 3, 1) := by decide +kernel
theorem dX6_stationTold_46 : decode cX6_stationTold 46 = .ok (.iinc 4 1, 3) := by decide +kernel
theorem dX6_stationTold_49 : decode cX6_stationTold 49 = .ok (.goto (-44), 3) := by decide +kernel
theorem dX6_stationTold_52 : decode cX6_stationTold 52 = .ok (.iload_n 2, 1) := by decide +kernel
theorem dX6_stationTold_53 : decode cX6_stationTold 53 = .ok (.ifCond .ne 12, 3) := by decide +kernel
theorem dX6_stationTold_56 : decode cX6_stationTold 56 = .ok (.aload_n 0, 1) := by decide +kernel
theorem dX6_stationTold_57 : decode cX6_stationTold 57 = .ok (.getfield 9, 3) := by decide +kernel
theorem dX6_stationTold_60 : decode cX6_stationTold 60 = .ok (.iload_n 1, 1) := by decide +kernel
theorem dX6_stationTold_61 : decode cX6_stationTold 61 = .ok (.iaload, 1) := by decide +kernel
theorem dX6_stationTold_62 : decode cX6_stationTold 62 = .ok (.goto 18, 3) := by decide +kernel
theorem dX6_stationTold_65 : decode cX6_stationTold 65 = .ok (.iload_n 2, 1) := by decide +kernel
theorem dX6_stationTold_66 : decode cX6_stationTold 66 = .ok (.iconst 1, 1) := by decide +kernel
theorem dX6_stationTold_67 : decode cX6_stationTold 67 = .ok (.if_icmp .ne 12, 3) := by decide +kernel
theorem dX6_stationTold_70 : decode cX6_stationTold 70 = .ok (.aload_n 0, 1) := by decide +kernel
theorem dX6_stationTold_71 : decode cX6_stationTold 71 = .ok (.getfield 13, 3) := by decide +kernel
theorem dX6_stationTold_74 : decode cX6_stationTold 74 = .ok (.iload_n 1, 1) := by decide +kernel
theorem dX6_stationTold_75 : decode cX6_stationTold 75 = .ok (.iaload, 1) := by decide +kernel
theorem dX6_stationTold_76 : decode cX6_stationTold 76 = .ok (.goto 4, 3) := by decide +kernel
theorem dX6_stationTold_79 : decode cX6_stationTold 79 = .ok (.iload_n 3, 1) := by decide +kernel
theorem dX6_stationTold_80 : decode cX6_stationTold 80 = .ok (.ireturn, 1) := by decide +kernel
set_option maxRecDepth 20000 in
theorem ggX6_station_X6_isStation : GoodIn wsX6_station wsX6_isStation := goodIn_r _ [5, 6, 7, 4, 8] (by decide +kernel) (by decide +kernel)
set_option maxRecDepth 20000 in
theorem gX6_station_X6_isStation : GoodIn wsX6_station (va_wsS RX6 52 yX6_isStation wsX6_isStation) := goodIn_app (goodIn_of _ (by decide +kernel)) ggX6_station_X6_isStation
set_option maxRecDepth 20000 in
theorem ggX6_station_X6_isIn : GoodIn wsX6_station wsX6_isIn := goodIn_r _ [8] (by decide +kernel) (by decide +kernel)
set_option maxRecDepth 20000 in
theorem gX6_station_X6_isIn : GoodIn wsX6_station (va_wsS RX6 41 yX6_isIn wsX6_isIn) := goodIn_app (goodIn_of _ (by decide +kernel)) ggX6_station_X6_isIn
set_option maxRecDepth 20000 in
theorem ggX6_station_X6_stationTold : GoodIn wsX6_station wsX6_stationTold := goodIn_r _ [12, 13, 14, 15, 16, 17, 22, 23, 24, 25, 26, 27, 28, 29, 30, 31, 32, 33, 34, 35, 36, 37, 38, 39, 40, 41, 42] (by decide +kernel) (by decide +kernel)
set_option maxRecDepth 20000 in
theorem gX6_station_X6_stationTold : GoodIn wsX6_station (wsV RX6 116 RX6 yX6_stationTold wsX6_stationTold) := goodIn_app (goodIn_of _ (by decide +kernel)) ggX6_station_X6_stationTold
set_option maxRecDepth 20000 in
theorem ggX6_station_X6_no : GoodIn wsX6_station wsX6_no := goodIn_r _ [21, 1, 22, 23, 24, 25, 26, 27, 28, 29, 30, 31] (by decide +kernel) (by decide +kernel)
set_option maxRecDepth 20000 in
theorem gX6_station_X6_no : GoodIn wsX6_station (wsV RX6 56 RX6 yX6_no wsX6_no) := goodIn_app (goodIn_of _ (by decide +kernel)) ggX6_station_X6_no
theorem dX6_station_0 : decode cX6_station 0 = .ok (.aload_n 0, 1) := by decide +kernel
theorem dX6_station_1 : decode cX6_station 1 = .ok (.iconst 0, 1) := by decide +kernel
theorem dX6_station_2 : decode cX6_station 2 = .ok (.putfield 37, 3) := by decide +kernel
theorem dX6_station_5 : decode cX6_station 5 = .ok (.iload_n 1, 1) := by decide +kernel
theorem dX6_station_6 : decode cX6_station 6 = .ok (.invokestatic 52, 3) := by decide +kernel
theorem dX6_station_9 : decode cX6_station 9 = .ok (.ifCond .eq 21, 3) := by decide +kernel
theorem dX6_station_12 : decode cX6_station 12 = .ok (.iload_n 2, 1) := by decide +kernel
theorem dX6_station_13 : decode cX6_station 13 = .ok (.iconst 0, 1) := by decide +kernel
theorem dX6_station_14 : decode cX6_station 14 = .ok (.iconst 2, 1) := by decide +kernel
theorem dX6_station_15 : decode cX6_station 15 = .ok (.invokestatic 41, 3) := by decide +kernel
theorem dX6_station_18 : decode cX6_station 18 = .ok (.ifCond .eq 12, 3) := by decide +kernel
theorem dX6_station_21 : decode cX6_station 21 = .ok (.aload_n 0, 1) := by decide +kernel
theorem dX6_station_22 : decode cX6_station 22 = .ok (.iload_n 1, 1) := by decide +kernel
theorem dX6_station_23 : decode cX6_station 23 = .ok (.iload_n 2, 1) := by decide +kernel
theorem dX6_station_24 : decode cX6_station 24 = .ok (.invokevirtual 116, 3) := by decide +kernel
theorem dX6_station_27 : decode cX6_station 27 = .ok (.goto 8, 3) := by decide +kernel
theorem dX6_station_30 : decode cX6_station 30 = .ok (.aload_n 0, 1) := by decide +kernel
theorem dX6_station_31 : decode cX6_station 31 = .ok (.iconst 1, 1) := by decide +kernel
theorem dX6_station_32 : decode cX6_station 32 = .ok (.invokevirtual 56, 3) := by decide +kernel
theorem dX6_station_35 : decode cX6_station 35 = .ok (.ireturn, 1) := by decide +kernel
set_option maxRecDepth 20000 in
theorem ggX6_counted_X6_isIn : GoodIn wsX6_counted wsX6_isIn := goodIn_r _ [8] (by decide +kernel) (by decide +kernel)
set_option maxRecDepth 20000 in
theorem gX6_counted_X6_isIn : GoodIn wsX6_counted (va_wsS RX6 41 yX6_isIn wsX6_isIn) := goodIn_app (goodIn_of _ (by decide +kernel)) ggX6_counted_X6_isIn
set_option maxRecDepth 20000 in
theorem ggX6_counted_X5_are : GoodIn wsX6_counted wsX5_are := goodIn_r _ [13, 14, 15, 26, 27, 28, 29, 30, 31, 32, 33, 34, 35, 36, 16, 17, 18, 19, 20, 21, 22, 23, 24, 25] (by decide +kernel) (by decide +kernel)
set_option maxRecDepth 20000 in
theorem gX6_counted_X5_are : GoodIn wsX6_counted (wsV RX6 119 RX5 yX5_are wsX5_are) := goodIn_app (goodIn_of _ (by decide +kernel)) ggX6_counted_X5_are
theorem dX6_counted_0 : decode cX6_counted 0 = .ok (.iload_n 1, 1) := by decide +kernel
theorem dX6_counted_1 : decode cX6_counted 1 = .ok (.iconst 3, 1) := by decide +kernel
theorem dX6_counted_2 : decode cX6_counted 2 = .ok (.bipush 8, 2) := by decide +kernel
theorem dX6_counted_4 : decode cX6_counted 4 = .ok (.invokestatic 41, 3) := by decide +kernel
theorem dX6_counted_7 : decode cX6_counted 7 = .ok (.ifCond .eq 14, 3) := by decide +kernel
theorem dX6_counted_10 : decode cX6_counted 10 = .ok (.aload_n 0, 1) := by decide +kernel
theorem dX6_counted_11 : decode cX6_counted 11 = .ok (.getfield 30, 3) := by decide +kernel
theorem dX6_counted_14 : decode cX6_counted 14 = .ok (.iload_n 1, 1) := by decide +kernel
theorem dX6_counted_15 : decode cX6_counted 15 = .ok (.iconst 3, 1) := by decide +kernel
theorem dX6_counted_16 : decode cX6_counted 16 = .ok (.isub, 1) := by decide +kernel
theorem dX6_counted_17 : decode cX6_counted 17 = .ok (.invokevirtual 119, 3) := by decide +kernel
theorem dX6_counted_20 : decode cX6_counted 20 = .ok (.ireturn, 1) := by decide +kernel
theorem dX6_counted_21 : decode cX6_counted 21 = .ok (.iconst 0, 1) := by decide +kernel
theorem dX6_counted_22 : decode cX6_counted 22 = .ok (.istore_n 2, 1) := by decide +kernel
theorem dX6_counted_23 : decode cX6_counted 23 = .ok (.iload_n 2, 1) := by decide +kernel
theorem dX6_counted_24 : decode cX6_counted 24 = .ok (.bipush 8, 2) := by decide +kernel
theorem dX6_counted_26 : decode cX6_counted 26 = .ok (.if_icmp .ge 25, 3) := by decide +kernel
theorem dX6_counted_29 : decode cX6_counted 29 = .ok (.aload_n 0, 1) := by decide +kernel
theorem dX6_counted_30 : decode cX6_counted 30 = .ok (.getfield 9, 3) := by decide +kernel
theorem dX6_counted_33 : decode cX6_counted 33 = .ok (.iload_n 2, 1) := by decide +kernel
theorem dX6_counted_34 : decode cX6_counted 34 = .ok (.iaload, 1) := by decide +kernel
theorem dX6_counted_35 : decode cX6_counted 35 = .ok (.aload_n 0, 1) := by decide +kernel
theorem dX6_counted_36 : decode cX6_counted 36 = .ok (.getfield 30, 3) := by decide +kernel
theorem dX6_counted_39 : decode cX6_counted 39 = .ok (.getfield 60, 3) := by decide +kernel
theorem dX6_counted_42 : decode cX6_counted 42 = .ok (.if_icmp .ge 9, 3) := by decide +kernel
theorem dX6_counted_45 : decode cX6_counted 45 = .ok (.iinc 2 1, 3) := by decide +kernel
theorem dX6_counted_48 : decode cX6_counted 48 = .ok (.goto (-25), 3) := by decide +kernel
theorem dX6_counted_51 : decode cX6_counted 51 = .ok (.iload_n 1, 1) := by decide +kernel
theorem dX6_counted_52 : decode cX6_counted 52 = .ok (.ifCond .ne 13, 3) := by decide +kernel
theorem dX6_counted_55 : decode cX6_counted 55 = .ok (.aload_n 0, 1) := by decide +kernel
theorem dX6_counted_56 : decode cX6_counted 56 = .ok (.getfield 30, 3) := by decide +kernel
theorem dX6_counted_59 : decode cX6_counted 59 = .ok (.getfield 60, 3) := by decide +kernel
theorem dX6_counted_62 : decode cX6_counted 62 = .ok (.goto 28, 3) := by decide +kernel
theorem dX6_counted_65 : decode cX6_counted 65 = .ok (.iload_n 1, 1) := by decide +kernel
theorem dX6_counted_66 : decode cX6_counted 66 = .ok (.iconst 1, 1) := by decide +kernel
theorem dX6_counted_67 : decode cX6_counted 67 = .ok (.if_icmp .ne 10, 3) := by decide +kernel
theorem dX6_counted_70 : decode cX6_counted 70 = .ok (.aload_n 0, 1) := by decide +kernel
theorem dX6_counted_71 : decode cX6_counted 71 = .ok (.getfield 46, 3) := by decide +kernel
theorem dX6_counted_74 : decode cX6_counted 74 = .ok (.goto 16, 3) := by decide +kernel
theorem dX6_counted_77 : decode cX6_counted 77 = .ok (.iload_n 1, 1) := by decide +kernel
theorem dX6_counted_78 : decode cX6_counted 78 = .ok (.iconst 2, 1) := by decide +kernel
theorem dX6_counted_79 : decode cX6_counted 79 = .ok (.if_icmp .ne 10, 3) := by decide +kernel
theorem dX6_counted_82 : decode cX6_counted 82 = .ok (.aload_n 0, 1) := by decide +kernel
theorem dX6_counted_83 : decode cX6_counted 83 = .ok (.getfield 49, 3) := by decide +kernel
theorem dX6_counted_86 : decode cX6_counted 86 = .ok (.goto 4, 3) := by decide +kernel
theorem dX6_counted_89 : decode cX6_counted 89 = .ok (.iload_n 2, 1) := by decide +kernel
theorem dX6_counted_90 : decode cX6_counted 90 = .ok (.ireturn, 1) := by decide +kernel
set_option maxRecDepth 20000 in
theorem ggX6_count_X6_isIn : GoodIn wsX6_count wsX6_isIn := goodIn_r _ [5] (by decide +kernel) (by decide +kernel)
set_option maxRecDepth 20000 in
theorem gX6_count_X6_isIn : GoodIn wsX6_count (va_wsS RX6 41 yX6_isIn wsX6_isIn) := goodIn_app (goodIn_of _ (by decide +kernel)) ggX6_count_X6_isIn
set_option maxRecDepth 20000 in
theorem ggX6_count_X6_counted : GoodIn wsX6_count wsX6_counted := goodIn_r _ [9, 10, 11, 12, 13, 2, 3, 4, 5, 14, 15, 16, 17, 18, 19, 20, 25, 26, 27, 28, 29, 30, 31, 32, 33, 34, 35, 36, 37, 38, 39, 40, 41, 42, 43, 44, 45] (by decide +kernel) (by decide +kernel)
set_option maxRecDepth 20000 in
theorem gX6_count_X6_counted : GoodIn wsX6_count (wsV RX6 122 RX6 yX6_counted wsX6_counted) := goodIn_app (goodIn_of _ (by decide +kernel)) ggX6_count_X6_counted
set_option maxRecDepth 20000 in
theorem ggX6_count_X6_no : GoodIn wsX6_count wsX6_no := goodIn_r _ [24, 1, 25, 26, 27, 28, 29, 30, 31, 32, 33, 34] (by decide +kernel) (by decide +kernel)
set_option maxRecDepth 20000 in
theorem gX6_count_X6_no : GoodIn wsX6_count (wsV RX6 56 RX6 yX6_no wsX6_no) := goodIn_app (goodIn_of _ (by decide +kernel)) ggX6_count_X6_no
theorem dX6_count_0 : decode cX6_count 0 = .ok (.aload_n 0, 1) := by decide +kernel
theorem dX6_count_1 : decode cX6_count 1 = .ok (.iconst 0, 1) := by decide +kernel
theorem dX6_count_2 : decode cX6_count 2 = .ok (.putfield 37, 3) := by decide +kernel
theorem dX6_count_5 : decode cX6_count 5 = .ok (.iload_n 1, 1) := by decide +kernel
theorem dX6_count_6 : decode cX6_count 6 = .ok (.iconst 0, 1) := by decide +kernel
theorem dX6_count_7 : decode cX6_count 7 = .ok (.bipush 9, 2) := by decide +kernel
theorem dX6_count_9 : decode cX6_count 9 = .ok (.invokestatic 41, 3) := by decide +kernel
theorem dX6_count_12 : decode cX6_count 12 = .ok (.ifCond .eq 11, 3) := by decide +kernel
theorem dX6_count_15 : decode cX6_count 15 = .ok (.aload_n 0, 1) := by decide +kernel
theorem dX6_count_16 : decode cX6_count 16 = .ok (.iload_n 1, 1) := by decide +kernel
theorem dX6_count_17 : decode cX6_count 17 = .ok (.invokevirtual 122, 3) := by decide +kernel
theorem dX6_count_20 : decode cX6_count 20 = .ok (.goto 8, 3) := by decide +kernel
theorem dX6_count_23 : decode cX6_count 23 = .ok (.aload_n 0, 1) := by decide +kernel
theorem dX6_count_24 : decode cX6_count 24 = .ok (.iconst 1, 1) := by decide +kernel
theorem dX6_count_25 : decode cX6_count 25 = .ok (.invokevirtual 56, 3) := by decide +kernel
theorem dX6_count_28 : decode cX6_count 28 = .ok (.ireturn, 1) := by decide +kernel
set_option maxRecDepth 20000 in
theorem ggX6_pass_X6_isIn : GoodIn wsX6_pass wsX6_isIn := goodIn_r _ [6] (by decide +kernel) (by decide +kernel)
set_option maxRecDepth 20000 in
theorem gX6_pass_X6_isIn : GoodIn wsX6_pass (va_wsS RX6 41 yX6_isIn wsX6_isIn) := goodIn_app (goodIn_of _ (by decide +kernel)) ggX6_pass_X6_isIn
set_option maxRecDepth 20000 in
theorem ggX6_pass_X5_pass_ : GoodIn wsX6_pass wsX5_pass_ := goodIn_r _ [11, 12, 13, 14, 10, 15, 16, 17, 18, 19, 20, 21, 22, 23, 24, 25, 26, 27, 28, 29, 30, 31, 32, 33, 34, 35, 36, 37, 38, 39, 40, 41, 42, 43, 44, 45, 46, 47, 48, 49, 50, 51, 52, 53, 54, 55, 56, 57, 58, 59, 60, 61, 62, 63, 64, 65, 66, 81, 82, 83, 84, 85, 86, 87, 88, 89, 90, 91, 71, 72, 73, 74, 75, 76, 77, 78, 79, 80] (by decide +kernel) (by decide +kernel)
set_option maxRecDepth 20000 in
theorem gX6_pass_X5_pass_ : GoodIn wsX6_pass (wsV RX6 125 RX5 yX5_pass_ wsX5_pass_) := goodIn_app (goodIn_of _ (by decide +kernel)) ggX6_pass_X5_pass_
set_option maxRecDepth 20000 in
theorem ggX6_pass_X6_no : GoodIn wsX6_pass wsX6_no := goodIn_r _ [70, 1, 71, 72, 73, 74, 75, 76, 77, 78, 79, 80] (by decide +kernel) (by decide +kernel)
set_option maxRecDepth 20000 in
theorem gX6_pass_X6_no : GoodIn wsX6_pass (wsV RX6 56 RX6 yX6_no wsX6_no) := goodIn_app (goodIn_of _ (by decide +kernel)) ggX6_pass_X6_no
theorem dX6_pass_0 : decode cX6_pass 0 = .ok (.aload_n 0, 1) := by decide +kernel
theorem dX6_pass_1 : decode cX6_pass 1 = .ok (.iconst 0, 1) := by decide +kernel
theorem dX6_pass_2 : decode cX6_pass 2 = .ok (.putfield 37, 3) := by decide +kernel
theorem dX6_pass_5 : decode cX6_pass 5 = .ok (.iload_n 1, 1) := by decide +kernel
theorem dX6_pass_6 : decode cX6_pass 6 = .ok (.iconst 1, 1) := by decide +kernel
theorem dX6_pass_7 : decode cX6_pass 7 = .ok (.sipush 300, 3) := by decide +kernel
theorem dX6_pass_10 : decode cX6_pass 10 = .ok (.invokestatic 41, 3) := by decide +kernel
theorem dX6_pass_13 : decode cX6_pass 13 = .ok (.ifCond .eq 14, 3) := by decide +kernel
theorem dX6_pass_16 : decode cX6_pass 16 = .ok (.aload_n 0, 1) := by decide +kernel
theorem dX6_pass_17 : decode cX6_pass 17 = .ok (.getfield 30, 3) := by decide +kernel
theorem dX6_pass_20 : decode cX6_pass 20 = .ok (.iload_n 1, 1) := by decide +kernel
theorem dX6_pass_21 : decode cX6_pass 21 = .ok (.invokevirtual 125, 3) := by decide +kernel
theorem dX6_pass_24 : decode cX6_pass 24 = .ok (.goto 8, 3) := by decide +kernel
theorem dX6_pass_27 : decode cX6_pass 27 = .ok (.aload_n 0, 1) := by decide +kernel
theorem dX6_pass_28 : decode cX6_pass 28 = .ok (.iconst 1, 1) := by decide +kernel
theorem dX6_pass_29 : decode cX6_pass 29 = .ok (.invokevirtual 56, 3) := by decide +kernel
theorem dX6_pass_32 : decode cX6_pass 32 = .ok (.ireturn, 1) := by decide +kernel
set_option maxRecDepth 20000 in
theorem ggX6_arrives_X6_isLetter : GoodIn wsX6_arrives wsX6_isLetter := goodIn_r _ [8, 9, 10, 11, 7, 12, 85, 86, 87, 88, 89, 90, 91, 92, 93, 94] (by decide +kernel) (by decide +kernel)
set_option maxRecDepth 20000 in
theorem gX6_arrives_X6_isLetter : GoodIn wsX6_arrives (wsV RX6 97 RX6 yX6_isLetter wsX6_isLetter) := goodIn_app (goodIn_of _ (by decide +kernel)) ggX6_arrives_X6_isLetter
set_option maxRecDepth 20000 in
theorem ggX6_arrives_X6_no : GoodIn wsX6_arrives wsX6_no := goodIn_r _ [16, 1, 85, 86, 87, 88, 89, 90, 91, 92, 93, 94] (by decide +kernel) (by decide +kernel)
set_option maxRecDepth 20000 in
theorem gX6_arrives_X6_no : GoodIn wsX6_arrives (wsV RX6 56 RX6 yX6_no wsX6_no) := goodIn_app (goodIn_of _ (by decide +kernel)) ggX6_arrives_X6_no
set_option maxRecDepth 20000 in
theorem ggX6_arrives_X5_become : GoodIn wsX6_arrives wsX5_become := goodIn_r _ [21, 22, 23, 24, 25, 26, 27, 28, 29, 30, 31, 32, 33, 34, 20, 35, 36, 37, 38, 39, 95, 96, 97, 98, 99, 100, 101, 102, 103, 104, 105] (by decide +kernel) (by decide +kernel)
set_option maxRecDepth 20000 in
theorem gX6_arrives_X5_become : GoodIn wsX6_arrives (wsV RX6 128 RX5 yX5_become wsX5_become) := goodIn_app (goodIn_of _ (by decide +kernel)) ggX6_arrives_X5_become
set_option maxRecDepth 20000 in
theorem ggX6_arrives_X5_pass : GoodIn wsX6_arrives wsX5_pass := goodIn_r _ [43, 44, 22, 45, 46, 47, 20, 48, 29, 30, 31, 27, 49, 50, 51, 52, 28, 53, 54, 55, 56, 23, 24, 57, 58, 59, 60, 26, 61, 62, 63, 64, 65, 66, 67, 68, 69, 70, 71, 72, 73, 74, 75, 76, 77, 78, 79, 80, 25, 81, 82, 83, 84, 95, 96, 97, 98, 99, 100, 101, 102, 103, 104, 105, 85, 86, 87, 88, 89, 90, 91, 92, 93, 94] (by decide +kernel) (by decide +kernel)
set_option maxRecDepth 20000 in
theorem gX6_arrives_X5_pass : GoodIn wsX6_arrives (wsV RX6 132 RX5 yX5_pass wsX5_pass) := goodIn_app (goodIn_of _ (by decide +kernel)) ggX6_arrives_X5_pass
theorem dX6_arrives_0 : decode cX6_arrives 0 = .ok (.aload_n 0, 1) := by decide +kernel
theorem dX6_arrives_1 : decode cX6_arrives 1 = .ok (.iconst 0, 1) := by decide +kernel
theorem dX6_arrives_2 : decode cX6_arrives 2 = .ok (.putfield 37, 3) := by decide +kernel
theorem dX6_arrives_5 : decode cX6_arrives 5 = .ok (.aload_n 0, 1) := by decide +kernel
theorem dX6_arrives_6 : decode cX6_arrives 6 = .ok (.iload_n 1, 1) := by decide +kernel
theorem dX6_arrives_7 : decode cX6_arrives 7 = .ok (.invokevirtual 97, 3) := by decide +kernel
theorem dX6_arrives_10 : decode cX6_arrives 10 = .ok (.ifCond .ne 9, 3) := by decide +kernel
theorem dX6_arrives_13 : decode cX6_arrives 13 = .ok (.aload_n 0, 1) := by decide +kernel
theorem dX6_arrives_14 : decode cX6_arrives 14 = .ok (.iconst 1, 1) := by decide +kernel
theorem dX6_arrives_15 : decode cX6_arrives 15 = .ok (.invokevirtual 56, 3) := by decide +kernel
theorem dX6_arrives_18 : decode cX6_arrives 18 = .ok (.ireturn, 1) := by decide +kernel
theorem dX6_arrives_19 : decode cX6_arrives 19 = .ok (.aload_n 0, 1) := by decide +kernel
theorem dX6_arrives_20 : decode cX6_arrives 20 = .ok (.getfield 34, 3) := by decide +kernel
theorem dX6_arrives_23 : decode cX6_arrives 23 = .ok (.aload_n 0, 1) := by decide +kernel
theorem dX6_arrives_24 : decode cX6_arrives 24 = .ok (.getfield 30, 3) := by decide +kernel
theorem dX6_arrives_27 : decode cX6_arrives 27 = .ok (.invokevirtual 128, 3) := by decide +kernel
theorem dX6_arrives_30 : decode cX6_arrives 30 = .ok (.iconst 0, 1) := by decide +kernel
theorem dX6_arrives_31 : decode cX6_arrives 31 = .ok (.istore_n 2, 1) := by decide +kernel
theorem dX6_arrives_32 : decode cX6_arrives 32 = .ok (.iload_n 2, 1) := by decide +kernel
theorem dX6_arrives_33 : decode cX6_arrives 33 = .ok (.sipush 300, 3) := by decide +kernel
theorem dX6_arrives_36 : decode cX6_arrives 36 = .ok (.if_icmp .gt 32, 3) := by decide +kernel
theorem dX6_arrives_39 : decode cX6_arrives 39 = .ok (.aload_n 0, 1) := by decide +kernel
theorem dX6_arrives_40 : decode cX6_arrives 40 = .ok (.getfield 34, 3) := by decide +kernel
theorem dX6_arrives_43 : decode cX6_arrives 43 = .ok (.getfield 94, 3) := by decide +kernel
theorem dX6_arrives_46 : decode cX6_arrives 46 = .ok (.iload_n 1, 1) := by decide +kernel
theorem dX6_arrives_47 : decode cX6_arrives 47 = .ok (.iaload, 1) := by decide +kernel
theorem dX6_arrives_48 : decode cX6_arrives 48 = .ok (.iconst 4, 1) := by decide +kernel
theorem dX6_arrives_49 : decode cX6_arrives 49 = .ok (.if_icmp .ne 5, 3) := by decide +kernel
theorem dX6_arrives_52 : decode cX6_arrives 52 = .ok (.iload_n 2, 1) := by decide +kernel
theorem dX6_arrives_53 : decode cX6_arrives 53 = .ok (.ireturn, 1) := by decide +kernel
theorem dX6_arrives_54 : decode cX6_arrives 54 = .ok (.aload_n 0, 1) := by decide +kernel
theorem dX6_arrives_55 : decode cX6_arrives 55 = .ok (.getfield 34, 3) := by decide +kernel
theorem dX6_arrives_58 : decode cX6_arrives 58 = .ok (.invokevirtual 132, 3) := by decide +kernel
theorem dX6_arrives_61 : decode cX6_arrives 61 = .ok (.pop, 1) := by decide +kernel
theorem dX6_arrives_62 : decode cX6_arrives 62 = .ok (.iinc 2 1, 3) := by decide +kernel
theorem dX6_arrives_65 : decode cX6_arrives 65 = .ok (.goto (-33), 3) := by decide +kernel
theorem dX6_arrives_68 : decode cX6_arrives 68 = .ok (.iconst (-1), 1) := by decide +kernel
theorem dX6_arrives_69 : decode cX6_arrives 69 = .ok (.ireturn, 1) := by decide +kernel
set_option maxRecDepth 20000 in
theorem ggX6_foresee_X6_isIn : GoodIn wsX6_foresee wsX6_isIn := goodIn_r _ [7] (by decide +kernel) (by decide +kernel)
set_option maxRecDepth 20000 in
theorem gX6_foresee_X6_isIn : GoodIn wsX6_foresee (va_wsS RX6 41 yX6_isIn wsX6_isIn) := goodIn_app (goodIn_of _ (by decide +kernel)) ggX6_foresee_X6_isIn
set_option maxRecDepth 20000 in
theorem ggX6_foresee_X6_no : GoodIn wsX6_foresee wsX6_no := goodIn_r _ [11, 1, 85, 86, 87, 88, 89, 90, 91, 92, 93, 94] (by decide +kernel) (by decide +kernel)
set_option maxRecDepth 20000 in
theorem gX6_foresee_X6_no : GoodIn wsX6_foresee (wsV RX6 56 RX6 yX6_no wsX6_no) := goodIn_app (goodIn_of _ (by decide +kernel)) ggX6_foresee_X6_no
set_option maxRecDepth 20000 in
theorem ggX6_foresee_X5_become : GoodIn wsX6_foresee wsX5_become := goodIn_r _ [16, 17, 18, 19, 20, 21, 22, 23, 24, 25, 26, 27, 28, 29, 15, 30, 31, 32, 33, 34, 95, 96, 97, 98, 99, 100, 101, 102, 103, 104, 105] (by decide +kernel) (by decide +kernel)
set_option maxRecDepth 20000 in
theorem gX6_foresee_X5_become : GoodIn wsX6_foresee (wsV RX6 128 RX5 yX5_become wsX5_become) := goodIn_app (goodIn_of _ (by decide +kernel)) ggX6_foresee_X5_become
set_option maxRecDepth 20000 in
theorem ggX6_foresee_X5_pass_ : GoodIn wsX6_foresee wsX5_pass_ := goodIn_r _ [38, 39, 40, 41, 15, 42, 43, 17, 44, 45, 46, 47, 24, 25, 26, 22, 48, 49, 50, 51, 23, 52, 53, 54, 55, 18, 19, 56, 57, 58, 59, 21, 60, 61, 62, 63, 64, 65, 66, 67, 68, 69, 70, 71, 72, 73, 74, 75, 76, 77, 78, 79, 20, 80, 81, 82, 83, 95, 96, 97, 98, 99, 100, 101, 102, 103, 104, 105, 85, 86, 87, 88, 89, 90, 91, 92, 93, 94] (by decide +kernel) (by decide +kernel)
set_option maxRecDepth 20000 in
theorem gX6_foresee_X5_pass_ : GoodIn wsX6_foresee (wsV RX6 125 RX5 yX5_pass_ wsX5_pass_) := goodIn_app (goodIn_of _ (by decide +kernel)) ggX6_foresee_X5_pass_
set_option maxRecDepth 20000 in
theorem ggX6_foresee_X5_are : GoodIn wsX6_foresee wsX5_are := goodIn_r _ [71, 43, 18, 95, 96, 97, 98, 99, 100, 101, 102, 103, 104, 105, 85, 86, 87, 88, 89, 90, 91, 92, 93, 94] (by decide +kernel) (by decide +kernel)
set_option maxRecDepth 20000 in
theorem gX6_foresee_X5_are : GoodIn wsX6_foresee (wsV RX6 119 RX5 yX5_are wsX5_are) := goodIn_app (goodIn_of _ (by decide +kernel)) ggX6_foresee_X5_are
theorem dX6_foresee_0 : decode cX6_foresee 0 = .ok (.aload_n 0, 1) := by decide +kernel
theorem dX6_foresee_1 : decode cX6_foresee 1 = .ok (.iconst 0, 1) := by decide +kernel
theorem dX6_foresee_2 : decode cX6_foresee 2 = .ok (.putfield 37, 3) := by decide +kernel
theorem dX6_foresee_5 : decode cX6_foresee 5 = .ok (.iload_n 1, 1) := by decide +kernel
theorem dX6_foresee_6 : decode cX6_foresee 6 = .ok (.iconst 1, 1) := by decide +kernel
theorem dX6_foresee_7 : decode cX6_foresee 7 = .ok (.sipush 300, 3) := by decide +kernel
theorem dX6_foresee_10 : decode cX6_foresee 10 = .ok (.invokestatic 41, 3) := by decide +kernel
theorem dX6_foresee_13 : decode cX6_foresee 13 = .ok (.ifCond .ne 9, 3) := by decide +kernel
theorem dX6_foresee_16 : decode cX6_foresee 16 = .ok (.aload_n 0, 1) := by decide +kernel
theorem dX6_foresee_17 : decode cX6_foresee 17 = .ok (.iconst 1, 1) := by decide +kernel
theorem dX6_foresee_18 : decode cX6_foresee 18 = .ok (.invokevirtual 56, 3) := by decide +kernel
theorem dX6_foresee_21 : decode cX6_foresee 21 = .ok (.ireturn, 1) := by decide +kernel
theorem dX6_foresee_22 : decode cX6_foresee 22 = .ok (.iload_n 2, 1) := by decide +kernel
theorem dX6_foresee_23 : decode cX6_foresee 23 = .ok (.iconst 3, 1) := by decide +kernel
theorem dX6_foresee_24 : decode cX6_foresee 24 = .ok (.bipush 8, 2) := by decide +kernel
theorem dX6_foresee_26 : decode cX6_foresee 26 = .ok (.invokestatic 41, 3) := by decide +kernel
theorem dX6_foresee_29 : decode cX6_foresee 29 = .ok (.ifCond .ne 9, 3) := by decide +kernel
theorem dX6_foresee_32 : decode cX6_foresee 32 = .ok (.aload_n 0, 1) := by decide +kernel
theorem dX6_foresee_33 : decode cX6_foresee 33 = .ok (.iconst 2, 1) := by decide +kernel
theorem dX6_foresee_34 : decode cX6_foresee 34 = .ok (.invokevirtual 56, 3) := by decide +kernel
theorem dX6_foresee_37 : decode cX6_foresee 37 = .ok (.ireturn, 1) := by decide +kernel
theorem dX6_foresee_38 : decode cX6_foresee 38 = .ok (.aload_n 0, 1) := by decide +kernel
theorem dX6_foresee_39 : decode cX6_foresee 39 = .ok (.getfield 34, 3) := by decide +kernel
theorem dX6_foresee_42 : decode cX6_foresee 42 = .ok (.aload_n 0, 1) := by decide +kernel
theorem dX6_foresee_43 : decode cX6_foresee 43 = .ok (.getfield 30, 3) := by decide +kernel
theorem dX6_foresee_46 : decode cX6_foresee 46 = .ok (.invokevirtual 128, 3) := by decide +kernel
theorem dX6_foresee_49 : decode cX6_foresee 49 = .ok (.aload_n 0, 1) := by decide +kernel
theorem dX6_foresee_50 : decode cX6_foresee 50 = .ok (.getfield 34, 3) := by decide +kernel
theorem dX6_foresee_53 : decode cX6_foresee 53 = .ok (.iload_n 1, 1) := by decide +kernel
theorem dX6_foresee_54 : decode cX6_foresee 54 = .ok (.invokevirtual 125, 3) := by decide +kernel
theorem dX6_foresee_57 : decode cX6_foresee 57 = .ok (.pop, 1) := by decide +kernel
theorem dX6_foresee_58 : decode cX6_foresee 58 = .ok (.aload_n 0, 1) := by decide +kernel
theorem dX6_foresee_59 : decode cX6_foresee 59 = .ok (.getfield 34, 3) := by decide +kernel
theorem dX6_foresee_62 : decode cX6_foresee 62 = .ok (.iload_n 2, 1) := by decide +kernel
theorem dX6_foresee_63 : decode cX6_foresee 63 = .ok (.iconst 3, 1) := by decide +kernel
theorem dX6_foresee_64 : decode cX6_foresee 64 = .ok (.isub, 1) := by decide +kernel
theorem dX6_foresee_65 : decode cX6_foresee 65 = .ok (.invokevirtual 119, 3) := by decide +kernel
theorem dX6_foresee_68 : decode cX6_foresee 68 = .ok (.ireturn, 1) := by decide +kernel
set_option maxRecDepth 20000 in
theorem ggX6_advise_X6_isSorter : GoodIn wsX6_advise wsX6_isSorter := goodIn_r _ [8, 9, 10, 11, 7, 12, 89, 90, 91, 92, 93, 94, 95, 96, 97, 98] (by decide +kernel) (by decide +kernel)
set_option maxRecDepth 20000 in
theorem gX6_advise_X6_isSorter : GoodIn wsX6_advise (wsV RX6 85 RX6 yX6_isSorter wsX6_isSorter) := goodIn_app (goodIn_of _ (by decide +kernel)) ggX6_advise_X6_isSorter
set_option maxRecDepth 20000 in
theorem ggX6_advise_X6_no : GoodIn wsX6_advise wsX6_no := goodIn_r _ [16, 1, 89, 90, 91, 92, 93, 94, 95, 96, 97, 98] (by decide +kernel) (by decide +kernel)
set_option maxRecDepth 20000 in
theorem gX6_advise_X6_no : GoodIn wsX6_advise (wsV RX6 56 RX6 yX6_no wsX6_no) := goodIn_app (goodIn_of _ (by decide +kernel)) ggX6_advise_X6_no
set_option maxRecDepth 20000 in
theorem ggX6_advise_X6_isIn : GoodIn wsX6_advise wsX6_isIn := goodIn_r _ [12] (by decide +kernel) (by decide +kernel)
set_option maxRecDepth 20000 in
theorem gX6_advise_X6_isIn : GoodIn wsX6_advise (va_wsS RX6 41 yX6_isIn wsX6_isIn) := goodIn_app (goodIn_of _ (by decide +kernel)) ggX6_advise_X6_isIn
set_option maxRecDepth 20000 in
theorem ggX6_advise_X5_become : GoodIn wsX6_advise wsX5_become := goodIn_r _ [21, 22, 23, 24, 25, 26, 27, 28, 29, 30, 31, 32, 33, 34, 20, 35, 36, 37, 38, 39, 99, 100, 101, 102, 103, 104, 105, 106, 107, 108, 109] (by decide +kernel) (by decide +kernel)
set_option maxRecDepth 20000 in
theorem gX6_advise_X5_become : GoodIn wsX6_advise (wsV RX6 128 RX5 yX5_become wsX5_become) := goodIn_app (goodIn_of _ (by decide +kernel)) ggX6_advise_X5_become
set_option maxRecDepth 20000 in
theorem ggX6_advise_X5_pass_ : GoodIn wsX6_advise wsX5_pass_ := goodIn_r _ [43, 44, 45, 46, 20, 47, 48, 22, 49, 50, 51, 52, 29, 30, 31, 27, 53, 54, 55, 56, 28, 57, 58, 59, 60, 23, 24, 61, 62, 63, 64, 26, 65, 66, 67, 68, 69, 70, 71, 72, 73, 74, 75, 76, 77, 78, 79, 80, 81, 82, 83, 84, 25, 85, 86, 87, 88, 99, 100, 101, 102, 103, 104, 105, 106, 107, 108, 109, 89, 90, 91, 92, 93, 94, 95, 96, 97, 98] (by decide +kernel) (by decide +kernel)
set_option maxRecDepth 20000 in
theorem gX6_advise_X5_pass_ : GoodIn wsX6_advise (wsV RX6 125 RX5 yX5_pass_ wsX5_pass_) := goodIn_app (goodIn_of _ (by decide +kernel)) ggX6_advise_X5_pass_
theorem dX6_advise_0 : decode cX6_advise 0 = .ok (.aload_n 0, 1) := by decide +kernel
theorem dX6_advise_1 : decode cX6_advise 1 = .ok (.iconst 0, 1) := by decide +kernel
theorem dX6_advise_2 : decode cX6_advise 2 = .ok (.putfield 37, 3) := by decide +kernel
theorem dX6_advise_5 : decode cX6_advise 5 = .ok (.aload_n 0, 1) := by decide +kernel
theorem dX6_advise_6 : decode cX6_advise 6 = .ok (.iload_n 1, 1) := by decide +kernel
theorem dX6_advise_7 : decode cX6_advise 7 = .ok (.invokevirtual 85, 3) := by decide +kernel
theorem dX6_advise_10 : decode cX6_advise 10 = .ok (.ifCond .ne 9, 3) := by decide +kernel
theorem dX6_advise_13 : decode cX6_advise 13 = .ok (.aload_n 0, 1) := by decide +kernel
theorem dX6_advise_14 : decode cX6_advise 14 = .ok (.iconst 1, 1) := by decide +kernel
theorem dX6_advise_15 : decode cX6_advise 15 = .ok (.invokevirtual 56, 3) := by decide +kernel
theorem dX6_advise_18 : decode cX6_advise 18 = .ok (.ireturn, 1) := by decide +kernel
theorem dX6_advise_19 : decode cX6_advise 19 = .ok (.iload_n 2, 1) := by decide +kernel
theorem dX6_advise_20 : decode cX6_advise 20 = .ok (.iconst 1, 1) := by decide +kernel
theorem dX6_advise_21 : decode cX6_advise 21 = .ok (.bipush 120, 2) := by decide +kernel
theorem dX6_advise_23 : decode cX6_advise 23 = .ok (.invokestatic 41, 3) := by decide +kernel
theorem dX6_advise_26 : decode cX6_advise 26 = .ok (.ifCond .ne 9, 3) := by decide +kernel
theorem dX6_advise_29 : decode cX6_advise 29 = .ok (.aload_n 0, 1) := by decide +kernel
theorem dX6_advise_30 : decode cX6_advise 30 = .ok (.iconst 2, 1) := by decide +kernel
theorem dX6_advise_31 : decode cX6_advise 31 = .ok (.invokevirtual 56, 3) := by decide +kernel
theorem dX6_advise_34 : decode cX6_advise 34 = .ok (.ireturn, 1) := by decide +kernel
theorem dX6_advise_35 : decode cX6_advise 35 = .ok (.aload_n 0, 1) := by decide +kernel
theorem dX6_advise_36 : decode cX6_advise 36 = .ok (.getfield 34, 3) := by decide +kernel
theorem dX6_advise_39 : decode cX6_advise 39 = .ok (.aload_n 0, 1) := by decide +kernel
theorem dX6_advise_40 : decode cX6_advise 40 = .ok (.getfield 30, 3) := by decide +kernel
theorem dX6_advise_43 : decode cX6_advise 43 = .ok (.invokevirtual 128, 3) := by decide +kernel
theorem dX6_advise_46 : decode cX6_advise 46 = .ok (.aload_n 0, 1) := by decide +kernel
theorem dX6_advise_47 : decode cX6_advise 47 = .ok (.getfield 34, 3) := by decide +kernel
theorem dX6_advise_50 : decode cX6_advise 50 = .ok (.iload_n 2, 1) := by decide +kernel
theorem dX6_advise_51 : decode cX6_advise 51 = .ok (.invokevirtual 125, 3) := by decide +kernel
theorem dX6_advise_54 : decode cX6_advise 54 = .ok (.istore_n 3, 1) := by decide +kernel
theorem dX6_advise_55 : decode cX6_advise 55 = .ok (.iconst (-1), 1) := by decide +kernel
theorem dX6_advise_56 : decode cX6_advise 56 = .ok (.istore 4, 2) := by decide +kernel
theorem dX6_advise_58 : decode cX6_advise 58 = .ok (.iconst 0, 1) := by decide +kernel
theorem dX6_advise_59 : decode cX6_advise 59 = .ok (.istore 5, 2) := by decide +kernel
theorem dX6_advise_61 : decode cX6_advise 61 = .ok (.iload 5, 2) := by decide +kernel
theorem dX6_advise_63 : decode cX6_advise 63 = .ok (.bipush 16, 2) := by decide +kernel
theorem dX6_advise_65 : decode cX6_advise 65 = .ok (.if_icmp .ge 62, 3) := by decide +kernel
theorem dX6_advise_68 : decode cX6_advise 68 = .ok (.aload_n 0, 1) := by decide +kernel
theorem dX6_advise_69 : decode cX6_advise 69 = .ok (.getfield 34, 3) := by decide +kernel
theorem dX6_advise_72 : decode cX6_advise 72 = .ok (.aload_n 0, 1) := by decide +kernel
theorem dX6_advise_73 : decode cX6_advise 73 = .ok (.getfield 30, 3) := by decide +kernel
theorem dX6_advise_76 : decode cX6_advise 76 = .ok (.invokevirtual 128, 3) := by decide +kernel
theorem dX6_advise_79 : decode cX6_advise 79 = .ok (.aload_n 0, 1) := by decide +kernel
theorem dX6_advise_80 : decode cX6_advise 80 = .ok (.getfield 34, 3) := by decide +kernel
theorem dX6_advise_83 : decode cX6_advise 83 = .ok (.getfield 79, 3) := by decide +kernel
theorem dX6_advise_86 : decode cX6_advise 86 = .ok (.iload_n 1, 1) := by decide +kernel
theorem dX6_advise_87 : decode cX6_advise 87 = .ok (.dup2, 1) := by decide +kernel
theorem dX6_advise_88 : decode cX6_advise 88 = .ok (.iaload, 1) := by decide +kernel
theorem dX6_advise_89 : decode cX6_advise 89 = .ok (.iconst 1, 1) := by decide +kernel
theorem dX6_advise_90 : decode cX6_advise 90 = .ok (.iload 5, 2) := by decide +kernel
theorem dX6_advise_92 : decode cX6_advise 92 = .ok (.ishl, 1) := by decide +kernel
theorem dX6_advise_93 : decode cX6_advise 93 = .ok (.ior, 1) := by decide +kernel
theorem dX6_advise_94 : decode cX6_advise 94 = .ok (.iastore, 1) := by decide +kernel
theorem dX6_advise_95 : decode cX6_advise 95 = .ok (.aload_n 0, 1) := by decide +kernel
theorem dX6_advise_96 : decode cX6_advise 96 = .ok (.getfield 34, 3) := by decide +kernel
theorem dX6_advise_99 : decode cX6_advise 99 = .ok (.iload_n 2, 1) := by decide +kernel
theorem dX6_advise_100 : decode cX6_advise 100 = .ok (.invokevirtual 125, 3) := by decide +kernel
theorem dX6_advise_103 : decode cX6_advise 103 = .ok (.istore 6, 2) := by decide +kernel
theorem dX6_advise_105 : decode cX6_advise 105 = .ok (.iload 6, 2) := by decide +kernel
theorem dX6_advise_107 : decode cX6_advise 107 = .ok (.iload_n 3, 1) := by decide +kernel
theorem dX6_advise_108 : decode cX6_advise 108 = .ok (.if_icmp .gt 6, 3) := by decide +kernel
theorem dX6_advise_111 : decode cX6_advise 111 = .ok (.goto 10, 3) := by decide +kernel
theorem dX6_advise_114 : decode cX6_advise 114 = .ok (.iload 6, 2) := by decide +kernel
theorem dX6_advise_116 : decode cX6_advise 116 = .ok (.istore_n 3, 1) := by decide +kernel
theorem dX6_advise_117 : decode cX6_advise 117 = .ok (.iload 5, 2) := by decide +kernel
theorem dX6_advise_119 : decode cX6_advise 119 = .ok (.istore 4, 2) := by decide +kernel
theorem dX6_advise_121 : decode cX6_advise 121 = .ok (.iinc 5 1, 3) := by decide +kernel
theorem dX6_advise_124 : decode cX6_advise 124 = .ok (.goto (-63), 3) := by decide +kernel
theorem dX6_advise_127 : decode cX6_advise 127 = .ok (.iload 4, 2) := by decide +kernel
theorem dX6_advise_129 : decode cX6_advise 129 = .ok (.ireturn, 1) := by decide +kernel
set_option maxRecDepth 20000 in
theorem ggX6_share_X5_are : GoodIn wsX6_share wsX5_are := goodIn_r _ [7, 8, 9, 20, 21, 22, 23, 24, 25, 26, 27, 28, 29, 30, 10, 11, 12, 13, 14, 15, 16, 17, 18, 19] (by decide +kernel) (by decide +kernel)
set_option maxRecDepth 20000 in
theorem gX6_share_X5_are : GoodIn wsX6_share (wsV RX6 119 RX5 yX5_are wsX5_are) := goodIn_app (goodIn_of _ (by decide +kernel)) ggX6_share_X5_are
theorem dX6_share_0 : decode cX6_share 0 = .ok (.aload_n 0, 1) := by decide +kernel
theorem dX6_share_1 : decode cX6_share 1 = .ok (.iconst 0, 1) := by decide +kernel
theorem dX6_share_2 : decode cX6_share 2 = .ok (.putfield 37, 3) := by decide +kernel
theorem dX6_share_5 : decode cX6_share 5 = .ok (.aload_n 0, 1) := by decide +kernel
theorem dX6_share_6 : decode cX6_share 6 = .ok (.getfield 30, 3) := by decide +kernel
theorem dX6_share_9 : decode cX6_share 9 = .ok (.iconst 4, 1) := by decide +kernel
theorem dX6_share_10 : decode cX6_share 10 = .ok (.invokevirtual 119, 3) := by decide +kernel
theorem dX6_share_13 : decode cX6_share 13 = .ok (.aload_n 0, 1) := by decide +kernel
theorem dX6_share_14 : decode cX6_share 14 = .ok (.getfield 30, 3) := by decide +kernel
theorem dX6_share_17 : decode cX6_share 17 = .ok (.iconst 5, 1) := by decide +kernel
theorem dX6_share_18 : decode cX6_share 18 = .ok (.invokevirtual 119, 3) := by decide +kernel
theorem dX6_share_21 : decode cX6_share 21 = .ok (.iadd, 1) := by decide +kernel
theorem dX6_share_22 : decode cX6_share 22 = .ok (.istore_n 1, 1) := by decide +kernel
theorem dX6_share_23 : decode cX6_share 23 = .ok (.iload_n 1, 1) := by decide +kernel
theorem dX6_share_24 : decode cX6_share 24 = .ok (.ifCond .ne 7, 3) := by decide +kernel
theorem dX6_share_27 : decode cX6_share 27 = .ok (.dconst 0, 1) := by decide +kernel
theorem dX6_share_28 : decode cX6_share 28 = .ok (.goto 15, 3) := by decide +kernel
theorem dX6_share_31 : decode cX6_share 31 = .ok (.aload_n 0, 1) := by decide +kernel
theorem dX6_share_32 : decode cX6_share 32 = .ok (.getfield 30, 3) := by decide +kernel
theorem dX6_share_35 : decode cX6_share 35 = .ok (.iconst 4, 1) := by decide +kernel
theorem dX6_share_36 : decode cX6_share 36 = .ok (.invokevirtual 119, 3) := by decide +kernel
theorem dX6_share_39 : decode cX6_share 39 = .ok (.i2d, 1) := by decide +kernel
theorem dX6_share_40 : decode cX6_share 40 = .ok (.iload_n 1, 1) := by decide +kernel
theorem dX6_share_41 : decode cX6_share 41 = .ok (.i2d, 1) := by decide +kernel
theorem dX6_share_42 : decode cX6_share 42 = .ok (.ddiv, 1) := by decide +kernel
theorem dX6_share_43 : decode cX6_share 43 = .ok (.dreturn, 1) := by decide +kernel
set_option maxRecDepth 20000 in
theorem ggX6_digest_X6_counted : GoodIn wsX6_digest wsX6_counted := goodIn_r _ [11, 4, 12, 6, 5, 13, 14, 10, 15, 16, 17, 18, 19, 20, 21, 22, 44, 45, 46, 47, 48, 49, 50, 51, 52, 53, 54, 55, 56, 57, 58, 59, 60, 61, 62, 63, 64] (by decide +kernel) (by decide +kernel)
set_option maxRecDepth 20000 in
theorem gX6_digest_X6_counted : GoodIn wsX6_digest (wsV RX6 122 RX6 yX6_counted wsX6_counted) := goodIn_app (goodIn_of _ (by decide +kernel)) ggX6_digest_X6_counted
set_option maxRecDepth 20000 in
theorem ggX6_digest_X6_stationTold : GoodIn wsX6_digest wsX6_stationTold := goodIn_r _ [26, 6, 4, 27, 12, 28, 44, 45, 46, 47, 48, 49, 50, 51, 52, 53, 54, 55, 56, 57, 58, 59, 60, 61, 62, 63, 64] (by decide +kernel) (by decide +kernel)
set_option maxRecDepth 20000 in
theorem gX6_digest_X6_stationTold : GoodIn wsX6_digest (wsV RX6 116 RX6 yX6_stationTold wsX6_stationTold) := goodIn_app (goodIn_of _ (by decide +kernel)) ggX6_digest_X6_stationTold
set_option maxRecDepth 20000 in
theorem ggX6_digest_X5_inHole : GoodIn wsX6_digest wsX5_inHole := goodIn_r _ [32, 21, 22, 54, 55, 56, 57, 58, 59, 60, 61, 62, 63, 64, 44, 45, 46, 47, 48, 49, 50, 51, 52, 53] (by decide +kernel) (by decide +kernel)
set_option maxRecDepth 20000 in
theorem gX6_digest_X5_inHole : GoodIn wsX6_digest (wsV RX6 113 RX5 yX5_inHole wsX5_inHole) := goodIn_app (goodIn_of _ (by decide +kernel)) ggX6_digest_X5_inHole
set_option maxRecDepth 20000 in
theorem ggX6_digest_X6_sorterTold : GoodIn wsX6_digest wsX6_sorterTold := goodIn_r _ [36, 37, 38, 4, 44, 45, 46, 47, 48, 49, 50, 51, 52, 53, 54, 55, 56, 57, 58, 59, 60, 61, 62, 63, 64] (by decide +kernel) (by decide +kernel)
set_option maxRecDepth 20000 in
theorem gX6_digest_X6_sorterTold : GoodIn wsX6_digest (wsV RX6 110 RX6 yX6_sorterTold wsX6_sorterTold) := goodIn_app (goodIn_of _ (by decide +kernel)) ggX6_digest_X6_sorterTold
set_option maxRecDepth 20000 in
theorem ggX6_digest_X6_letterTold : GoodIn wsX6_digest wsX6_letterTold := goodIn_r _ [42, 37, 4, 43, 27, 44, 45, 46, 47, 48, 49, 50, 51, 52, 53, 54, 55, 56, 57, 58, 59, 60, 61, 62, 63, 64] (by decide +kernel) (by decide +kernel)
set_option maxRecDepth 20000 in
theorem gX6_digest_X6_letterTold : GoodIn wsX6_digest (wsV RX6 100 RX6 yX6_letterTold wsX6_letterTold) := goodIn_app (goodIn_of _ (by decide +kernel)) ggX6_digest_X6_letterTold
theorem dX6_digest_0 : decode cX6_digest 0 = .ok (.aload_n 0, 1) := by decide +kernel
theorem dX6_digest_1 : decode cX6_digest 1 = .ok (.iconst 0, 1) := by decide +kernel
theorem dX6_digest_2 : decode cX6_digest 2 = .ok (.putfield 37, 3) := by decide +kernel
theorem dX6_digest_5 : decode cX6_digest 5 = .ok (.ldc2_w 135, 3) := by decide +kernel
theorem dX6_digest_8 : decode cX6_digest 8 = .ok (.lstore_n 1, 1) := by decide +kernel
theorem dX6_digest_9 : decode cX6_digest 9 = .ok (.iconst 0, 1) := by decide +kernel
theorem dX6_digest_10 : decode cX6_digest 10 = .ok (.istore_n 3, 1) := by decide +kernel
theorem dX6_digest_11 : decode cX6_digest 11 = .ok (.iload_n 3, 1) := by decide +kernel
theorem dX6_digest_12 : decode cX6_digest 12 = .ok (.bipush 10, 2) := by decide +kernel
theorem dX6_digest_14 : decode cX6_digest 14 = .ok (.if_icmp .ge 22, 3) := by decide +kernel
theorem dX6_digest_17 : decode cX6_digest 17 = .ok (.lload_n 1, 1) := by decide +kernel
theorem dX6_digest_18 : decode cX6_digest 18 = .ok (.ldc2_w 137, 3) := by decide +kernel
theorem dX6_digest_21 : decode cX6_digest 21 = .ok (.lmul, 1) := by decide +kernel
theorem dX6_digest_22 : decode cX6_digest 22 = .ok (.aload_n 0, 1) := by decide +kernel
theorem dX6_digest_23 : decode cX6_digest 23 = .ok (.iload_n 3, 1) := by decide +kernel
theorem dX6_digest_24 : decode cX6_digest 24 = .ok (.invokevirtual 122, 3) := by decide +kernel
theorem dX6_digest_27 : decode cX6_digest 27 = .ok (.i2l, 1) := by decide +kernel
theorem dX6_digest_28 : decode cX6_digest 28 = .ok (.ladd, 1) := by decide +kernel
theorem dX6_digest_29 : decode cX6_digest 29 = .ok (.lstore_n 1, 1) := by decide +kernel
theorem dX6_digest_30 : decode cX6_digest 30 = .ok (.iinc 3 1, 3) := by decide +kernel
theorem dX6_digest_33 : decode cX6_digest 33 = .ok (.goto (-22), 3) := by decide +kernel
theorem dX6_digest_36 : decode cX6_digest 36 = .ok (.iconst 0, 1) := by decide +kernel
theorem dX6_digest_37 : decode cX6_digest 37 = .ok (.istore_n 3, 1) := by decide +kernel
theorem dX6_digest_38 : decode cX6_digest 38 = .ok (.iload_n 3, 1) := by decide +kernel
theorem dX6_digest_39 : decode cX6_digest 39 = .ok (.bipush 8, 2) := by decide +kernel
theorem dX6_digest_41 : decode cX6_digest 41 = .ok (.if_icmp .ge 39, 3) := by decide +kernel
theorem dX6_digest_44 : decode cX6_digest 44 = .ok (.iconst 0, 1) := by decide +kernel
theorem dX6_digest_45 : decode cX6_digest 45 = .ok (.istore 4, 2) := by decide +kernel
theorem dX6_digest_47 : decode cX6_digest 47 = .ok (.iload 4, 2) := by decide +kernel
theorem dX6_digest_49 : decode cX6_digest 49 = .ok (.iconst 3, 1) := by decide +kernel
theorem dX6_digest_50 : decode cX6_digest 50 = .ok (.if_icmp .ge 24, 3) := by decide +kernel
theorem dX6_digest_53 : decode cX6_digest 53 = .ok (.lload_n 1, 1) := by decide +kernel
theorem dX6_digest_54 : decode cX6_digest 54 = .ok (.ldc2_w 137, 3) := by decide +kernel
theorem dX6_digest_57 : decode cX6_digest 57 = .ok (.lmul, 1) := by decide +kernel
theorem dX6_digest_58 : decode cX6_digest 58 = .ok (.aload_n 0, 1) := by decide +kernel
theorem dX6_digest_59 : decode cX6_digest 59 = .ok (.iload_n 3, 1) := by decide +kernel
theorem dX6_digest_60 : decode cX6_digest 60 = .ok (.iload 4, 2) := by decide +kernel
theorem dX6_digest_62 : decode cX6_digest 62 = .ok (.invokevirtual 116, 3) := by decide +kernel
theorem dX6_digest_65 : decode cX6_digest 65 = .ok (.i2l, 1) := by decide +kernel
theorem dX6_digest_66 : decode cX6_digest 66 = .ok (.ladd, 1) := by decide +kernel
theorem dX6_digest_67 : decode cX6_digest 67 = .ok (.lstore_n 1, 1) := by decide +kernel
theorem dX6_digest_68 : decode cX6_digest 68 = .ok (.iinc 4 1, 3) := by decide +kernel
theorem dX6_digest_71 : decode cX6_digest 71 = .ok (.goto (-24), 3) := by decide +kernel
theorem dX6_digest_74 : decode cX6_digest 74 = .ok (.iinc 3 1, 3) := by decide +kernel
theorem dX6_digest_77 : decode cX6_digest 77 = .ok (.goto (-39), 3) := by decide +kernel
theorem dX6_digest_80 : decode cX6_digest 80 = .ok (.iconst 0, 1) := by decide +kernel
theorem dX6_digest_81 : decode cX6_digest 81 = .ok (.istore_n 3, 1) := by decide +kernel
theorem dX6_digest_82 : decode cX6_digest 82 = .ok (.iload_n 3, 1) := by decide +kernel
theorem dX6_digest_83 : decode cX6_digest 83 = .ok (.bipush 16, 2) := by decide +kernel
theorem dX6_digest_85 : decode cX6_digest 85 = .ok (.if_icmp .ge 25, 3) := by decide +kernel
theorem dX6_digest_88 : decode cX6_digest 88 = .ok (.lload_n 1, 1) := by decide +kernel
theorem dX6_digest_89 : decode cX6_digest 89 = .ok (.ldc2_w 137, 3) := by decide +kernel
theorem dX6_digest_92 : decode cX6_digest 92 = .ok (.lmul, 1) := by decide +kernel
theorem dX6_digest_93 : decode cX6_digest 93 = .ok (.aload_n 0, 1) := by decide +kernel
theorem dX6_digest_94 : decode cX6_digest 94 = .ok (.getfield 30, 3) := by decide +kernel
theorem dX6_digest_97 : decode cX6_digest 97 = .ok (.iload_n 3, 1) := by decide +kernel
theorem dX6_digest_98 : decode cX6_digest 98 = .ok (.invokevirtual 113, 3) := by decide +kernel
theorem dX6_digest_101 : decode cX6_digest 101 = .ok (.i2l, 1) := by decide +kernel
theorem dX6_digest_102 : decode cX6_digest 102 = .ok (.ladd, 1) := by decide +kernel
theorem dX6_digest_103 : decode cX6_digest 103 = .ok (.lstore_n 1, 1) := by decide +kernel
theorem dX6_digest_104 : decode cX6_digest 104 = .ok (.iinc 3 1, 3) := by decide +kernel
theorem dX6_digest_107 : decode cX6_digest 107 = .ok (.goto (-25), 3) := by decide +kernel
theorem dX6_digest_110 : decode cX6_digest 110 = .ok (.iconst 0, 1) := by decide +kernel
theorem dX6_digest_111 : decode cX6_digest 111 = .ok (.istore_n 3, 1) := by decide +kernel
theorem dX6_digest_112 : decode cX6_digest 112 = .ok (.iload_n 3, 1) := by decide +kernel
theorem dX6_digest_113 : decode cX6_digest 113 = .ok (.aload_n 0, 1) := by decide +kernel
theorem dX6_digest_114 : decode cX6_digest 114 = .ok (.getfield 49, 3) := by decide +kernel
theorem dX6_digest_117 : decode cX6_digest 117 = .ok (.if_icmp .ge 40, 3) := by decide +kernel
theorem dX6_digest_120 : decode cX6_digest 120 = .ok (.iconst 0, 1) := by decide +kernel
theorem dX6_digest_121 : decode cX6_digest 121 = .ok (.istore 4, 2) := by decide +kernel
theorem dX6_digest_123 : decode cX6_digest 123 = .ok (.iload 4, 2) := by decide +kernel
theorem dX6_digest_125 : decode cX6_digest 125 = .ok (.bipush 7, 2) := by decide +kernel
theorem dX6_digest_127 : decode cX6_digest 127 = .ok (.if_icmp .ge 24, 3) := by decide +kernel
theorem dX6_digest_130 : decode cX6_digest 130 = .ok (.lload_n 1, 1) := by decide +kernel
theorem dX6_digest_131 : decode cX6_digest 131 = .ok (.ldc2_w 137, 3) := by decide +kernel
theorem dX6_digest_134 : decode cX6_digest 134 = .ok (.lmul, 1) := by decide +kernel
theorem dX6_digest_135 : decode cX6_digest 135 = .ok (.aload_n 0, 1) := by decide +kernel
theorem dX6_digest_136 : decode cX6_digest 136 = .ok (.iload_n 3, 1) := by decide +kernel
theorem dX6_digest_137 : decode cX6_digest 137 = .ok (.iload 4, 2) := by decide +kernel
theorem dX6_digest_139 : decode cX6_digest 139 = .ok (.invokevirtual 110, 3) := by decide +kernel
theorem dX6_digest_142 : decode cX6_digest 142 = .ok (.i2l, 1) := by decide +kernel
theorem dX6_digest_143 : decode cX6_digest 143 = .ok (.ladd, 1) := by decide +kernel
theorem dX6_digest_144 : decode cX6_digest 144 = .ok (.lstore_n 1, 1) := by decide +kernel
theorem dX6_digest_145 : decode cX6_digest 145 = .ok (.iinc 4 1, 3) := by decide +kernel
theorem dX6_digest_148 : decode cX6_digest 148 = .ok (.goto (-25), 3) := by decide +kernel
theorem dX6_digest_151 : decode cX6_digest 151 = .ok (.iinc 3 1, 3) := by decide +kernel
theorem dX6_digest_154 : decode cX6_digest 154 = .ok (.goto (-42), 3) := by decide +kernel
theorem dX6_digest_157 : decode cX6_digest 157 = .ok (.iconst 0, 1) := by decide +kernel
theorem dX6_digest_158 : decode cX6_digest 158 = .ok (.istore_n 3, 1) := by decide +kernel
theorem dX6_digest_159 : decode cX6_digest 159 = .ok (.iload_n 3, 1) := by decide +kernel
theorem dX6_digest_160 : decode cX6_digest 160 = .ok (.aload_n 0, 1) := by decide +kernel
theorem dX6_digest_161 : decode cX6_digest 161 = .ok (.getfield 46, 3) := by decide +kernel
theorem dX6_digest_164 : decode cX6_digest 164 = .ok (.if_icmp .ge 39, 3) := by decide +kernel
theorem dX6_digest_167 : decode cX6_digest 167 = .ok (.iconst 0, 1) := by decide +kernel
theorem dX6_digest_168 : decode cX6_digest 168 = .ok (.istore 4, 2) := by decide +kernel
theorem dX6_digest_170 : decode cX6_digest 170 = .ok (.iload 4, 2) := by decide +kernel
theorem dX6_digest_172 : decode cX6_digest 172 = .ok (.iconst 5, 1) := by decide +kernel
theorem dX6_digest_173 : decode cX6_digest 173 = .ok (.if_icmp .ge 24, 3) := by decide +kernel
theorem dX6_digest_176 : decode cX6_digest 176 = .ok (.lload_n 1, 1) := by decide +kernel
theorem dX6_digest_177 : decode cX6_digest 177 = .ok (.ldc2_w 137, 3) := by decide +kernel
theorem dX6_digest_180 : decode cX6_digest 180 = .ok (.lmul, 1) := by decide +kernel
theorem dX6_digest_181 : decode cX6_digest 181 = .ok (.aload_n 0, 1) := by decide +kernel
theorem dX6_digest_182 : decode cX6_digest 182 = .ok (.iload_n 3, 1) := by decide +kernel
theorem dX6_digest_183 : decode cX6_digest 183 = .ok (.iload 4, 2) := by decide +kernel
theorem dX6_digest_185 : decode cX6_digest 185 = .ok (.invokevirtual 100, 3) := by decide +kernel
theorem dX6_digest_188 : decode cX6_digest 188 = .ok (.i2l, 1) := by decide +kernel
theorem dX6_digest_189 : decode cX6_digest 189 = .ok (.ladd, 1) := by decide +kernel
theorem dX6_digest_190 : decode cX6_digest 190 = .ok (.lstore_n 1, 1) := by decide +kernel
theorem dX6_digest_191 : decode cX6_digest 191 = .ok (.iinc 4 1, 3) := by decide +kernel
theorem dX6_digest_194 : decode cX6_digest 194 = .ok (.goto (-24), 3) := by decide +kernel
theorem dX6_digest_197 : decode cX6_digest 197 = .ok (.iinc 3 1, 3) := by decide +kernel
theorem dX6_digest_200 : decode cX6_digest 200 = .ok (.goto (-41), 3) := by decide +kernel
theorem dX6_digest_203 : decode cX6_digest 203 = .ok (.lload_n 1, 1) := by decide +kernel
theorem dX6_digest_204 : decode cX6_digest 204 = .ok (.lreturn, 1) := by decide +kernel
theorem dJ9_max_7cf53_0 : decode cJ9_max_7cf53 0 = .ok (.iload_n 0, 1) := by decide +kernel
theorem dJ9_max_7cf53_1 : decode cJ9_max_7cf53 1 = .ok (.iload_n 1, 1) := by decide +kernel
theorem dJ9_max_7cf53_2 : decode cJ9_max_7cf53 2 = .ok (.if_icmp .lt 7, 3) := by decide +kernel
theorem dJ9_max_7cf53_5 : decode cJ9_max_7cf53 5 = .ok (.iload_n 0, 1) := by decide +kernel
theorem dJ9_max_7cf53_6 : decode cJ9_max_7cf53 6 = .ok (.goto 4, 3) := by decide +kernel
theorem dJ9_max_7cf53_9 : decode cJ9_max_7cf53 9 = .ok (.iload_n 1, 1) := by decide +kernel
theorem dJ9_max_7cf53_10 : decode cJ9_max_7cf53 10 = .ok (.ireturn, 1) := by decide +kernel
end
section
/-! loops, searches and counts as functions; the class's methods as functions of the record -/
theorem nI_inc (n : Nat) : nI n + Int32.ofInt 1 = nI (n + 1) := (nI_succ n).symm
theorem b01t {P : Prop} [Decidable P] (h : (if P then (1 : Int32) else 0) = 0) : ¬ P := by
  intro hp
  rw [if_pos hp] at h
  exact absurd h (by decide)
theorem b01f {P : Prop} [Decidable P] (h : ¬ (if P then (1 : Int32) else 0) = 0) : P := by
  by_cases hp : P
  · exact hp
  · rw [if_neg hp] at h
    exact absurd rfl h
theorem lp_in {x : Int32} {i N : Nat} (hx : x = nI N) (hN : N ≤ 2147483647) (hi : i ≤ N) (h : ¬ x ≤ nI i) : i < N := by
  rcases Nat.lt_or_ge i N with q | q
  · exact q
  · exact absurd (by rw [hx]; exact nI_le q (by omega)) h
theorem lp_out {x : Int32} {i N : Nat} (hx : x = nI N) (hN : N ≤ 2147483647) (hi : i ≤ N) (h : x ≤ nI i) : i = N := by
  rcases Nat.lt_or_ge i N with q | q
  · exact absurd h (by rw [hx]; exact nI_ge q (by omega))
  · omega
theorem NW.F {s : State} {args : Array Value} (h : NW s) {a : String} {i : Nat} {b n d h9 : String} (hm : Cond.fieldLinkNest a i b n d h9 ∈ NWs) : (Cond.fieldLinkNest a i b n d h9).before args s = true := va_Nw.use rfl (h _ hm)
theorem NW.M {s : State} (h : NW s) {a : String} {i : Nat} {x : MethodName} {h9 : String} (hm : Cond.methodLinkNest a i x h9 ∈ NWs) : va_Nw (.methodLinkNest a i x h9) s := h _ hm
def itN (F : Nat → Rc → Rc) : Nat → Rc → Rc
  | 0, u => u
  | n + 1, u => F n (itN F n u)
theorem itN_s {F : Nat → Rc → Rc} {n : Nat} {u : Rc} : itN F (n + 1) u = F n (itN F n u) := rfl
def fnd (p : Nat → Bool) : Nat → Int32
  | 0 => -1
  | n + 1 => if fnd p n = -1 then (if p n = true then nI n else -1) else fnd p n
theorem nI_nm1 {n : Nat} (h : n ≤ 2147483647) : ¬ nI n = -1 := by
  intro q
  have h1 := congrArg Int32.toInt q
  rw [nI_toInt (by omega)] at h1
  have h2 : (-1 : Int32).toInt = -1 := by decide
  omega
theorem fnd_no {p : Nat → Bool} : ∀ {n : Nat}, (∀ k, k < n → p k = false) → fnd p n = -1
  | 0, _ => rfl
  | n + 1, h => by
    rw [fnd, fnd_no (fun k hk => h k (by omega)), if_pos rfl, h n (by omega)]
    rfl
theorem fnd_at {p : Nat → Bool} {i : Nat} (hp : p i = true) (hb : ∀ k, k < i → p k = false) : ∀ {n : Nat}, i < n → n ≤ 2147483647 → fnd p n = nI i
  | 0, h, _ => absurd h (by omega)
  | n + 1, h, hn => by
    rw [fnd]
    rcases Nat.lt_or_ge i n with q | q
    · rw [fnd_at hp hb q (by omega), if_neg (nI_nm1 (by omega))]
    · have e : i = n := by omega
      subst e
      rw [fnd_no hb, if_pos rfl, if_pos hp]
/-- what a search answers: none, or the first place -/
theorem fnd_spec (p : Nat → Bool) : ∀ (n : Nat), n ≤ 2147483647 → (fnd p n = -1 ∧ ∀ k, k < n → p k = false) ∨ ∃ i, i < n ∧ fnd p n = nI i ∧ p i = true ∧ ∀ k, k < i → p k = false
  | 0, _ => Or.inl ⟨rfl, fun k h => absurd h (by omega)⟩
  | n + 1, hn => by
    rcases fnd_spec p n (by omega) with ⟨h1, h2⟩ | ⟨i, h1, h2, h3, h4⟩
    · cases hp : p n with
      | true => exact Or.inr ⟨n, by omega, by rw [fnd, h1, if_pos rfl, if_pos hp], hp, h2⟩
      | false =>
        refine Or.inl ⟨by rw [fnd, h1, if_pos rfl, hp]; rfl, fun k hk => ?_⟩
        rcases Nat.lt_or_ge k n with q | q
        · exact h2 k q
        · have e : k = n := by omega
          rw [e]; exact hp
    · exact Or.inr ⟨i, by omega, by rw [fnd, h2, if_neg (nI_nm1 (by omega))], h3, h4⟩
def cntN (p : Nat → Bool) : Nat → Int32
  | 0 => 0
  | n + 1 => cntN p n + (if p n = true then 1 else 0)
abbrev hasT (a b : Int32) : Prop := (a >>> (b &&& 31)) &&& 1 = 1
def setR (u : Rc) (f : Nat) (row : Nat → Int32) : Rc := fun g => if g = f then row else u g
-- what a field may hold
def good (f : Nat) (v : Int32) : Prop := match f with
  | 0 => vp_in v 61
  | 1 => vp_in v 16
  | 2 => vp_in v 8
  | 3 => vp_in v 6
  | 4 => v = -1 ∨ vp_in v 4
  | 10 => vp_in v 5
  | 15 => v = -1 ∨ vp_in v 60
  | _ => True
def Ok (u : Rc) : Prop := ∀ f j, good f (u f j)
theorem Ok.ptt {u : Rc} (h : Ok u) {f i : Nat} {v : Int32} (hv : good f v) : Ok (put u f i v) := by
  intro g j
  rw [put_at]
  by_cases q : g = f ∧ j = i
  · rw [if_pos q, q.1]; exact hv
  · rw [if_neg q]; exact h g j
theorem Ok.n {u : Rc} (h : Ok u) : u 0 0 = nI (iv (u 0 0)) := vi_eq (n := 61) (h 0 0) (by decide)
theorem Ok.n60 {u : Rc} (h : Ok u) : iv (u 0 0) ≤ 60 := Nat.le_of_lt_succ (vi_lt (n := 61) (h 0 0))
theorem Ok.k {u : Rc} (h : Ok u) : u 10 0 = nI (iv (u 10 0)) := vi_eq (n := 5) (h 10 0) (by decide)
theorem Ok.k4 {u : Rc} (h : Ok u) : iv (u 10 0) ≤ 4 := Nat.le_of_lt_succ (vi_lt (n := 5) (h 10 0))
theorem Ok.held {u : Rc} (h : Ok u) {s : Nat} (c : ¬ u 15 s = -1) : vp_in (u 15 s) 60 := (h 15 s).resolve_left c
theorem Ok.hold {u : Rc} (h : Ok u) {s : Nat} (c : ¬ u 4 s = -1) : vp_in (u 4 s) 4 := (h 4 s).resolve_left c
def Fr (u w : Rc) : Prop := ∀ g, (g ≤ 2 ∨ (10 ≤ g ∧ g ≤ 12)) → w g = u g
theorem Fr.rf {u : Rc} : Fr u u := fun _ _ => rfl
theorem Fr.tr {u v w : Rc} (h : Fr u v) (h2 : Fr v w) : Fr u w := fun g hg => (h2 g hg).trans (h g hg)
theorem Fr.ptt {u w : Rc} (h : Fr u w) {f i : Nat} {v : Int32} (hf : ¬ (f ≤ 2 ∨ (10 ≤ f ∧ f ≤ 12))) : Fr u (put w f i v) := fun g hg => by
  rw [put_rw (fun q => hf (by rw [← q]; exact hg))]
  exact h g hg
/-- a step that keeps what the fields may hold, and the fields that no minute changes -/
def Pr (u w : Rc) : Prop := Ok u → Ok w ∧ Fr u w
theorem Pr.rf {u : Rc} : Pr u u := fun h => ⟨h, Fr.rf⟩
theorem Pr.tr {u v w : Rc} (h : Pr u v) (h2 : Pr v w) : Pr u w := fun k => ⟨(h2 (h k).1).1, (h k).2.tr (h2 (h k).1).2⟩
theorem Pr.ptt {u w : Rc} (h : Pr u w) {f i : Nat} {v : Int32} (hf : ¬ (f ≤ 2 ∨ (10 ≤ f ∧ f ≤ 12))) (hv : Ok u → good f v) : Pr u (put w f i v) := fun k => ⟨(h k).1.ptt (hv k), (h k).2.ptt hf⟩
theorem Pr.if {u v w : Rc} {c : Prop} [Decidable c] (h : c → Pr u v) (h2 : ¬ c → Pr u w) : Pr u (if c then v else w) := by
  by_cases q : c
  · rw [if_pos q]; exact h q
  · rw [if_neg q]; exact h2 q
theorem Pr.it {F : Nat → Rc → Rc} (h : ∀ j w, Pr w (F j w)) {u : Rc} : ∀ n, Pr u (itN F n u)
  | 0 => Pr.rf
  | n + 1 => (Pr.it h n).tr (h n _)
def opt (p : Rc → Prop) [DecidablePred p] (f : Rc → Rc) (u : Rc) : Rc := if p u then f u else u
theorem opt_t {p : Rc → Prop} [DecidablePred p] {f : Rc → Rc} {u : Rc} (h : p u) : opt p f u = f u := if_pos h
theorem opt_f {p : Rc → Prop} [DecidablePred p] {f : Rc → Rc} {u : Rc} (h : ¬ p u) : opt p f u = u := if_neg h
theorem Pr.opt {p : Rc → Prop} [DecidablePred p] {f : Rc → Rc} {u v : Rc} (h : Pr u v) (hf : p v → Pr v (f v)) : Pr u (opt p f v) := by
  by_cases q : p v
  · rw [opt_t q]; exact h.tr (hf q)
  · rw [opt_f q]; exact h
-- the mail
def mvA (j : Nat) (u : Rc) : Rc := put u 6 (iv (u 3 j)) (u 6 (iv (u 3 j)) - 1)
def mvB (t : Int32) (u : Rc) : Rc := put u 6 (iv t) (u 6 (iv t) + 1)
def mvC (j : Nat) (u : Rc) : Rc := put u 7 (iv (u 1 j)) (u 7 (iv (u 1 j)) - 1)
def mvD (j : Nat) (u : Rc) : Rc := put u 7 (iv (u 1 j)) (u 7 (iv (u 1 j)) + 1)
def mvF (u : Rc) (j : Nat) (t : Int32) : Rc := put (put (opt (fun _ => t = 3) (mvD j) (opt (fun _ => u 3 j = 3) (mvC j) (mvB t (mvA j u)))) 4 j (-1)) 3 j t
def mvH (u : Rc) (j : Nat) (sv : Int32) : Rc := put (mvF u j 2) 4 j sv
def endF (u : Rc) (j : Nat) (how mn : Int32) : Rc := put (mvF u j how) 5 j mn
def incS (f : Nat) (u : Rc) : Rc := put u f 0 (u f 0 + 1)
def addF (u : Rc) (st tw : Int32) : Rc := incS 0 (incS 6 (put (put (put (put (put u 1 (iv (u 0 0)) tw) 2 (iv (u 0 0)) st) 3 (iv (u 0 0)) 0) 4 (iv (u 0 0)) (-1)) 5 (iv (u 0 0)) (-1)))
def mfact (u : Rc) (j : Nat) (w : Nat) : Int32 := match w with
  | 0 => u 3 j
  | 1 => u 1 j
  | 2 => u 2 j
  | 3 => u 4 j
  | _ => u 5 j
def firstF (u : Rc) (tw : Int32) : Int32 := if u 6 1 = 0 then -1 else fnd (fun k => decide (u 3 k = 1 ∧ hasT tw (u 1 k))) (iv (u 0 0))
abbrev inBag (u : Rc) (j : Nat) (st : Int32) : Prop := u 3 j = 0 ∧ u 2 j = st
def lbagF (u : Rc) (st : Int32) : Int32 := cntN (fun k => decide (inBag u k st)) (iv (u 0 0))
def fullN (h : Nat → Int32) : Nat → Nat
  | 0 => 0
  | m + 1 => if h (m + 1) ≤ h (fullN h m) then fullN h m else m + 1
theorem fullN_le (h : Nat → Int32) : ∀ m, fullN h m ≤ m
  | 0 => Nat.le_refl 0
  | m + 1 => by
    have := fullN_le h m
    rw [fullN]
    split <;> omega
def spillB (t : Int32) (j : Nat) (w : Rc) : Rc := opt (fun w => w 3 j = 3 ∧ w 1 j = t) (fun w => mvF w j 1) w
def spillF (t : Int32) (u : Rc) : Rc := itN (spillB t) (iv (u 0 0)) u
-- the crew
def needF (u : Rc) (s : Nat) : Int32 := if 1 ≤ u 11 s + u 13 s / 5 - 2 * u 14 s then u 11 s + u 13 s / 5 - 2 * u 14 s else 1
def takeF (u : Rc) (s : Nat) (x : Int32) : Rc := put (put u 15 s x) 16 s (needF (put u 15 s x) s)
def freeF (u : Rc) (s : Nat) : Rc := put (put u 15 s (-1)) 16 s 0
def spTeaF (u : Rc) : Rc := itN (fun s w => put w 14 s 0) (iv (u 10 0)) u
def tireF (by' : Int32) (u : Rc) : Rc := itN (fun s w => put w 13 s (w 13 s + by')) (iv (u 10 0)) u
def crAddF (u : Rc) (pc tw : Int32) : Rc := incS 10 (put (put (put u 11 (iv (u 10 0)) pc) 12 (iv (u 10 0)) tw) 15 (iv (u 10 0)) (-1))
def cfact (u : Rc) (s : Nat) (w : Nat) : Int32 := match w with
  | 0 => u 11 s
  | 1 => u 12 s
  | 2 => u 13 s
  | 3 => u 14 s
  | 4 => u 15 s
  | 5 => u 16 s
  | _ => u 17 s
-- the line
abbrev riseF (r : Rc) (st : Nat) (mn : Int32) : Prop := (st = 0 ∨ ¬ mn ≤ r 20 (st - 1)) ∧ (st = 7 ∨ ¬ r 20 (st + 1) ≤ mn)
def psdF (r : Rc) (mn : Int32) : Int32 := fnd (fun k => decide (r 20 k = mn)) 8
def nxtF (r : Rc) (mn : Int32) : Int32 := if fnd (fun k => decide (¬ r 20 k < mn)) 8 = -1 then 8 else fnd (fun k => decide (¬ r 20 k < mn)) 8
-- the train
def tkF (s : Nat) (u : Rc) : Rc := if firstF u (u 12 s) = -1 then u else takeF (mvH u (iv (firstF u (u 12 s))) (nI s)) s (firstF u (u 12 s))
def addB (s : Nat) (x : Int32) (w : Rc) : Rc := put w 17 s (w 17 s + x)
def tirB (s : Nat) (w : Rc) : Rc := put w 13 s (w 13 s + 1)
def decB (s : Nat) (w : Rc) : Rc := put w 16 s (w 16 s - 1)
def putA (s : Nat) (u : Rc) : Rc := if 8 ≤ u 7 (iv (u 1 (iv (u 15 s)))) then mvF u (iv (u 15 s)) 1 else addB s 1 (mvF u (iv (u 15 s)) 3)
def putF (s : Nat) (u : Rc) : Rc := freeF (tirB s (putA s u)) s
def wkF (s : Nat) (u : Rc) : Rc := opt (fun w => w 16 s ≤ 0) (putF s) (decB s u)
def endM (how : Int32) (j : Nat) (u : Rc) : Rc := endF u j how (u 30 0)
def hinF (st : Int32) (j : Nat) (u : Rc) : Rc := if u 1 j / 2 ≤ st then endM 5 j u else mvF u j 1
def houtF (j : Nat) (u : Rc) : Rc :=
  if u 3 j = 3 then endM 4 j u
  else if u 3 j = 1 ∨ u 3 j = 2 then endM 5 j (opt (fun _ => ¬ u 4 j = -1) (fun w => freeF w (iv (u 4 j))) u)
  else u
def srvB (st : Int32) (j : Nat) (w : Rc) : Rc := if inBag w j st then hinF st j w else if w 1 j / 2 = st then houtF j w else w
def srvF (st : Int32) (u : Rc) : Rc := itN (srvB st) (iv (u 0 0)) u
def shkF (jl : Int32) (u : Rc) : Rc := opt (fun _ => ¬ jl < 3) (tireF 3) (opt (fun _ => ¬ jl < 2) (fun w => spillF (nI (fullN (w 7) 15)) w) (opt (fun _ => ¬ jl < 1) spTeaF u))
def sorB (s : Nat) (w : Rc) : Rc := opt (fun w => ¬ w 15 s = -1) (wkF s) (opt (fun w => w 15 s = -1) (tkF s) w)
def minF (r u : Rc) : Rc := incS 30 (opt (fun w => ¬ psdF r (w 30 0 - 5) = -1) (fun w => shkF (r 21 (iv (psdF r (w 30 0 - 5)))) w) (opt (fun w => ¬ psdF r (w 30 0) = -1) (fun w => srvF (psdF r (w 30 0)) w) (itN sorB (iv (u 10 0)) u)))
def runF (r : Rc) (n : Nat) (u : Rc) : Rc := itN (fun _ w => minF r w) n u
def cpM (u v : Rc) : Rc := fun g => if g ≤ 7 then v g else u g
def cpC (u v : Rc) : Rc := fun g => if 10 ≤ g ∧ g ≤ 17 then v g else u g
-- the reference: n its model, q one State
def areR (n q : Rc) (w : Int32) : Int32 := cntN (fun k => decide (q 3 k = w)) (iv (n 0 0))
def holeR (n q : Rc) (t : Int32) : Int32 := cntN (fun k => decide (q 3 k = 3 ∧ n 1 k = t)) (iv (n 0 0))
def fforR (n q : Rc) (s : Nat) : Int32 := fnd (fun k => decide (q 3 k = 1 ∧ hasT (q 12 s) (n 1 k))) (iv (n 0 0))
def ndR (n q : Rc) (s : Nat) : Int32 := if 1 < n 11 s + q 13 s / 5 - 2 * q 14 s then n 11 s + q 13 s / 5 - 2 * q 14 s else 1
def tkX (n q : Rc) (s : Nat) (x : Int32) : Rc := put (put (put (put q 15 s x) 16 s (ndR n (put q 15 s x) s)) 3 (iv x) 2) 4 (iv x) (nI s)
def takR (n : Rc) (s : Nat) (q : Rc) : Rc := if fforR n q s = -1 then q else tkX n q s (fforR n q s)
def letR (s : Nat) (t : Int32) (q : Rc) : Rc := put (put (put (put q 3 (iv (q 15 s)) t) 4 (iv (q 15 s)) (-1)) 15 s (-1)) 16 s 0
def donR (n : Rc) (s : Nat) (q : Rc) : Rc := if 8 ≤ holeR n q (n 1 (iv (q 15 s))) then tirB s (addB s 0 (letR s 1 q)) else tirB s (addB s 1 (letR s 3 q))
def wk2R (n : Rc) (s : Nat) (q : Rc) : Rc := opt (fun w => w 16 s ≤ 0) (donR n s) (decB s q)
def wrkR (n : Rc) (s : Nat) (q : Rc) : Rc := opt (fun w => ¬ w 15 s = -1) (wk2R n s) (opt (fun w => w 15 s = -1) (takR n s) q)
def stampB (j : Nat) (w : Rc) : Rc := put w 5 j (w 30 0)
def endR (j : Nat) (t : Int32) (q : Rc) : Rc := stampB j (put (opt (fun w => w 3 j = 2) (fun w => letR (iv (w 4 j)) t w) q) 3 j t)
def ps1R (n : Rc) (st : Int32) (j : Nat) (w : Rc) : Rc := if n 1 j / 2 = st ∧ w 3 j = 3 then endR j 4 w else if n 1 j / 2 = st ∧ (w 3 j = 1 ∨ w 3 j = 2) then endR j 5 w else w
def ps2R (n : Rc) (st : Int32) (j : Nat) (w : Rc) : Rc := if w 3 j = 0 ∧ n 2 j = st then (if n 1 j / 2 ≤ st then endR j 5 w else put w 3 j 1) else w
def pstR (n : Rc) (st : Int32) (q : Rc) : Rc := itN (ps2R n st) (iv (n 0 0)) (itN (ps1R n st) (iv (n 0 0)) q)
def shB (b : Int32) (s : Nat) (w : Rc) : Rc := opt (fun _ => b = 3) (fun w => put w 13 s (w 13 s + 3)) (opt (fun _ => ¬ b ≤ 0) (fun w => put w 14 s 0) w)
def spB (n : Rc) (f : Int32) (j : Nat) (w : Rc) : Rc := opt (fun w => w 3 j = 3 ∧ n 1 j = f) (fun w => put w 3 j 1) w
def shkR (n : Rc) (b : Int32) (q : Rc) : Rc := opt (fun _ => ¬ b < 2) (fun w => itN (spB n (nI (fullN (fun t => holeR n w (nI t)) 15))) (iv (n 0 0)) w) (itN (shB b) (iv (n 10 0)) q)
def mdR (n q : Rc) : Rc := itN (wrkR n) (iv (n 10 0)) q
def psR (n q : Rc) : Rc := incS 30 (itN (fun st => opt (fun w => n 20 st + 5 = w 30 0) (shkR n (n 21 st))) 8 (itN (fun st => opt (fun w => n 20 st = w 30 0) (pstR n (nI st))) 8 (mdR n q)))
def psA (n q : Rc) : Int32 := areR n (psR n q) 4 - areR n (mdR n q) 4
def psN (n : Rc) (k : Nat) (q : Rc) : Rc := itN (fun _ w => psR n w) k q
def sumR (n q : Rc) : Nat → Int32
  | 0 => 0
  | k + 1 => sumR n q k + psA n (psN n k q)
-- what each step keeps
theorem vp_lit {x : Int32} {n : Nat} (h : ¬ (x < 0 ∨ n ≤ x.toNatClampNeg)) : vp_in x n := h
theorem Pr.pt (f : Nat) {u w : Rc} {i : Nat} {v : Int32} (h : Pr u w) (hf : ¬ (f ≤ 2 ∨ (10 ≤ f ∧ f ≤ 12))) (hv : ∀ x, good f x) : Pr u (put w f i v) := Pr.ptt h hf (fun _ => hv v)
theorem Pr.p4 {u w : Rc} {i : Nat} {v : Int32} (h : Pr u w) (hv : v = -1 ∨ vp_in v 4) : Pr u (put w 4 i v) := Pr.ptt h (by omega) (fun _ => hv)
theorem Pr.p3 {u w : Rc} {i : Nat} {v : Int32} (h : Pr u w) (hv : vp_in v 6) : Pr u (put w 3 i v) := Pr.ptt h (by omega) (fun _ => hv)
theorem Pr.p15 {u w : Rc} {i : Nat} {v : Int32} (h : Pr u w) (hv : v = -1 ∨ vp_in v 60) : Pr u (put w 15 i v) := Pr.ptt h (by omega) (fun _ => hv)
theorem mv_pr {u : Rc} {j : Nat} {t : Int32} (ht : vp_in t 6) : Pr u (mvF u j t) := by
  unfold mvF
  refine Pr.p3 (Pr.p4 (Pr.opt (Pr.opt ?_ (fun _ => ?_)) (fun _ => ?_)) (Or.inl rfl)) ht
  · exact Pr.pt 6 (Pr.pt 6 Pr.rf (by omega) (fun _ => trivial)) (by omega) (fun _ => trivial)
  · exact Pr.pt 7 Pr.rf (by omega) (fun _ => trivial)
  · exact Pr.pt 7 Pr.rf (by omega) (fun _ => trivial)
theorem free_pr {u : Rc} {s : Nat} : Pr u (freeF u s) := Pr.pt 16 (Pr.p15 Pr.rf (Or.inl rfl)) (by omega) (fun _ => trivial)
theorem endF_pr {u : Rc} {j : Nat} {t mn : Int32} (ht : vp_in t 6) : Pr u (endF u j t mn) := Pr.pt 5 (mv_pr ht) (by omega) (fun _ => trivial)
theorem mvH_pr {u : Rc} {j s : Nat} (hs : s < 4) : Pr u (mvH u j (nI s)) := Pr.p4 (mv_pr (vp_lit (by decide))) (Or.inr (vi_of hs (by decide)))
theorem takeF_pr {u : Rc} {s : Nat} {x : Int32} (hx : vp_in x 60) : Pr u (takeF u s x) := Pr.pt 16 (Pr.p15 Pr.rf (Or.inr hx)) (by omega) (fun _ => trivial)
theorem firstF_in {u : Rc} (ok : Ok u) {tw : Int32} (h : ¬ firstF u tw = -1) : vp_in (firstF u tw) 60 := by
  have hn := ok.n60
  unfold firstF at h ⊢
  by_cases c : u 6 1 = 0
  · rw [if_pos c] at h; exact absurd rfl h
  · rw [if_neg c] at h ⊢
    rcases fnd_spec (fun k => decide (u 3 k = 1 ∧ hasT tw (u 1 k))) (iv (u 0 0)) (by omega) with ⟨h1, -⟩ | ⟨i, h1, h2, -, -⟩
    · exact absurd h1 h
    · rw [h2]; exact vi_of (by omega) (by decide)
theorem psd_in {r : Rc} {x : Int32} (h : ¬ psdF r x = -1) : vp_in (psdF r x) 8 := by
  unfold psdF at h ⊢
  rcases fnd_spec (fun k => decide (r 20 k = x)) 8 (by omega) with ⟨h1, -⟩ | ⟨i, h1, h2, -, -⟩
  · exact absurd h1 h
  · rw [h2]; exact vi_of h1 (by decide)
theorem tkF_pr {u : Rc} {s : Nat} (hs : s < 4) : Pr u (tkF s u) := fun ok => by
  unfold tkF
  by_cases c : firstF u (u 12 s) = -1
  · rw [if_pos c]; exact Pr.rf ok
  · rw [if_neg c]
    exact ((mvH_pr hs).tr (takeF_pr (firstF_in ok c))) ok
theorem putF_pr {u : Rc} {s : Nat} : Pr u (putF s u) := by
  unfold putF tirB putA addB
  refine Pr.tr ?_ free_pr
  refine Pr.pt 13 ?_ (by omega) (fun _ => trivial)
  exact Pr.if (fun _ => mv_pr (vp_lit (by decide))) (fun _ => Pr.pt 17 (mv_pr (vp_lit (by decide))) (by omega) (fun _ => trivial))
theorem decB_pr {u : Rc} {s : Nat} : Pr u (decB s u) := Pr.pt 16 Pr.rf (by omega) (fun _ => trivial)
theorem wkF_pr {u : Rc} {s : Nat} : Pr u (wkF s u) := Pr.opt decB_pr (fun _ => putF_pr)
theorem sorB_pr {u : Rc} {s : Nat} (hs : s < 4) : Pr u (sorB s u) := Pr.opt (Pr.opt Pr.rf (fun _ => tkF_pr hs)) (fun _ => wkF_pr)
theorem endM_pr {u : Rc} {j : Nat} {t : Int32} (ht : vp_in t 6) : Pr u (endM t j u) := endF_pr ht
theorem hinF_pr {u : Rc} {j : Nat} {st : Int32} : Pr u (hinF st j u) := Pr.if (fun _ => endM_pr (vp_lit (by decide))) (fun _ => mv_pr (vp_lit (by decide)))
theorem houtF_pr {u : Rc} {j : Nat} : Pr u (houtF j u) := by
  have v4 : vp_in 4 6 := vp_lit (by decide)
  have v5 : vp_in 5 6 := vp_lit (by decide)
  have h1 : Pr u (opt (fun _ => ¬ u 4 j = -1) (fun w => freeF w (iv (u 4 j))) u) := Pr.opt Pr.rf (fun _ => free_pr)
  have h2 : Pr u (endM 5 j (opt (fun _ => ¬ u 4 j = -1) (fun w => freeF w (iv (u 4 j))) u)) := h1.tr (endM_pr v5)
  have h3 : Pr u (endM 4 j u) := endM_pr v4
  unfold houtF
  by_cases c : u 3 j = 3
  · rw [if_pos c]; exact h3
  · rw [if_neg c]
    by_cases c2 : u 3 j = 1 ∨ u 3 j = 2
    · rw [if_pos c2]; exact h2
    · rw [if_neg c2]; exact Pr.rf
theorem srvB_pr {u : Rc} {j : Nat} {st : Int32} : Pr u (srvB st j u) := Pr.if (fun _ => hinF_pr) (fun _ => Pr.if (fun _ => houtF_pr) (fun _ => Pr.rf))
theorem srvF_pr {u : Rc} {st : Int32} : Pr u (srvF st u) := Pr.it (fun _ _ => srvB_pr) _
theorem spillB_pr {u : Rc} {j : Nat} {t : Int32} : Pr u (spillB t j u) := Pr.opt Pr.rf (fun _ => mv_pr (vp_lit (by decide)))
theorem spillF_pr {u : Rc} {t : Int32} : Pr u (spillF t u) := Pr.it (fun _ _ => spillB_pr) _
theorem spTea_pr {u : Rc} : Pr u (spTeaF u) := Pr.it (fun _ _ => Pr.pt 14 Pr.rf (by omega) (fun _ => trivial)) _
theorem tire_pr {u : Rc} {x : Int32} : Pr u (tireF x u) := Pr.it (fun _ _ => Pr.pt 13 Pr.rf (by omega) (fun _ => trivial)) _
theorem shkF_pr {u : Rc} {x : Int32} : Pr u (shkF x u) := Pr.opt (Pr.opt (Pr.opt Pr.rf (fun _ => spTea_pr)) (fun _ => spillF_pr)) (fun _ => tire_pr)
theorem sors_pr {u : Rc} : ∀ {n : Nat}, n ≤ 4 → Pr u (itN sorB n u)
  | 0, _ => Pr.rf
  | n + 1, h => (sors_pr (by omega)).tr (sorB_pr (by omega))
theorem tick_pr {u : Rc} : Pr u (incS 30 u) := Pr.pt 30 Pr.rf (by omega) (fun _ => trivial)
theorem minF_pr {r u : Rc} : Pr u (minF r u) := fun ok => by
  have h1 : Pr u (itN sorB (iv (u 10 0)) u) := sors_pr ok.k4
  unfold minF
  refine Pr.tr (Pr.opt (Pr.opt h1 (fun _ => ?_)) (fun _ => ?_)) tick_pr ok
  · exact srvF_pr
  · exact shkF_pr
theorem runF_pr {r u : Rc} {n : Nat} : Pr u (runF r n u) := Pr.it (fun _ _ => minF_pr) _
end
section
/-! the worlds (laid by wip/whole/gen/gen.py), a row copied whole -/
abbrev w0 (cI : ClassId) : va_W := []
abbrev wMail (cI : ClassId) (a : Nat → Nat) (u : Rc) : va_W := [(a 0, .inr (2, [.int (u 0 0), .ref (a 1), .ref (a 2), .ref (a 3), .ref (a 4), .ref (a 5), .ref (a 6), .ref (a 7)])), (a 1, .inl (cI, 60, .inl (u 1))), (a 2, .inl (cI, 60, .inl (u 2))), (a 3, .inl (cI, 60, .inl (u 3))), (a 4, .inl (cI, 60, .inl (u 4))), (a 5, .inl (cI, 60, .inl (u 5))), (a 6, .inl (cI, 6, .inl (u 6))), (a 7, .inl (cI, 16, .inl (u 7)))]
abbrev wMail2 (cI : ClassId) (a : Nat → Nat) (b : Nat → Nat) (u : Rc) (v : Rc) : va_W := [(a 0, .inr (2, [.int (u 0 0), .ref (a 1), .ref (a 2), .ref (a 3), .ref (a 4), .ref (a 5), .ref (a 6), .ref (a 7)])), (a 1, .inl (cI, 60, .inl (u 1))), (a 2, .inl (cI, 60, .inl (u 2))), (a 3, .inl (cI, 60, .inl (u 3))), (a 4, .inl (cI, 60, .inl (u 4))), (a 5, .inl (cI, 60, .inl (u 5))), (a 6, .inl (cI, 6, .inl (u 6))), (a 7, .inl (cI, 16, .inl (u 7))), (b 0, .inr (2, [.int (v 0 0), .ref (b 1), .ref (b 2), .ref (b 3), .ref (b 4), .ref (b 5), .ref (b 6), .ref (b 7)])), (b 1, .inl (cI, 60, .inl (v 1))), (b 2, .inl (cI, 60, .inl (v 2))), (b 3, .inl (cI, 60, .inl (v 3))), (b 4, .inl (cI, 60, .inl (v 4))), (b 5, .inl (cI, 60, .inl (v 5))), (b 6, .inl (cI, 6, .inl (v 6))), (b 7, .inl (cI, 16, .inl (v 7)))]
abbrev wCrew (cI : ClassId) (a : Nat → Nat) (u : Rc) : va_W := [(a 10, .inr (0, [.int (u 10 0), .ref (a 11), .ref (a 12), .ref (a 13), .ref (a 14), .ref (a 15), .ref (a 16), .ref (a 17)])), (a 11, .inl (cI, 4, .inl (u 11))), (a 12, .inl (cI, 4, .inl (u 12))), (a 13, .inl (cI, 4, .inl (u 13))), (a 14, .inl (cI, 4, .inl (u 14))), (a 15, .inl (cI, 4, .inl (u 15))), (a 16, .inl (cI, 4, .inl (u 16))), (a 17, .inl (cI, 4, .inl (u 17)))]
abbrev wCrew2 (cI : ClassId) (a : Nat → Nat) (b : Nat → Nat) (u : Rc) (v : Rc) : va_W := [(a 10, .inr (0, [.int (u 10 0), .ref (a 11), .ref (a 12), .ref (a 13), .ref (a 14), .ref (a 15), .ref (a 16), .ref (a 17)])), (a 11, .inl (cI, 4, .inl (u 11))), (a 12, .inl (cI, 4, .inl (u 12))), (a 13, .inl (cI, 4, .inl (u 13))), (a 14, .inl (cI, 4, .inl (u 14))), (a 15, .inl (cI, 4, .inl (u 15))), (a 16, .inl (cI, 4, .inl (u 16))), (a 17, .inl (cI, 4, .inl (u 17))), (b 10, .inr (0, [.int (v 10 0), .ref (b 11), .ref (b 12), .ref (b 13), .ref (b 14), .ref (b 15), .ref (b 16), .ref (b 17)])), (b 11, .inl (cI, 4, .inl (v 11))), (b 12, .inl (cI, 4, .inl (v 12))), (b 13, .inl (cI, 4, .inl (v 13))), (b 14, .inl (cI, 4, .inl (v 14))), (b 15, .inl (cI, 4, .inl (v 15))), (b 16, .inl (cI, 4, .inl (v 16))), (b 17, .inl (cI, 4, .inl (v 17)))]
abbrev wLine (cI : ClassId) (g : Nat → Nat) (r : Rc) : va_W := [(g 0, .inr (1, [.ref (g 20), .ref (g 21)])), (g 20, .inl (cI, 8, .inl (r 20))), (g 21, .inl (cI, 8, .inl (r 21)))]
abbrev wTr (cI : ClassId) (g : Nat → Nat) (a : Nat → Nat) (r : Rc) (u : Rc) : va_W := [(a 30, .inr (3, [.ref (g 0), .ref (a 0), .ref (a 10), .int (u 30 0)])), (a 0, .inr (2, [.int (u 0 0), .ref (a 1), .ref (a 2), .ref (a 3), .ref (a 4), .ref (a 5), .ref (a 6), .ref (a 7)])), (a 1, .inl (cI, 60, .inl (u 1))), (a 2, .inl (cI, 60, .inl (u 2))), (a 3, .inl (cI, 60, .inl (u 3))), (a 4, .inl (cI, 60, .inl (u 4))), (a 5, .inl (cI, 60, .inl (u 5))), (a 6, .inl (cI, 6, .inl (u 6))), (a 7, .inl (cI, 16, .inl (u 7))), (a 10, .inr (0, [.int (u 10 0), .ref (a 11), .ref (a 12), .ref (a 13), .ref (a 14), .ref (a 15), .ref (a 16), .ref (a 17)])), (a 11, .inl (cI, 4, .inl (u 11))), (a 12, .inl (cI, 4, .inl (u 12))), (a 13, .inl (cI, 4, .inl (u 13))), (a 14, .inl (cI, 4, .inl (u 14))), (a 15, .inl (cI, 4, .inl (u 15))), (a 16, .inl (cI, 4, .inl (u 16))), (a 17, .inl (cI, 4, .inl (u 17))), (g 0, .inr (1, [.ref (g 20), .ref (g 21)])), (g 20, .inl (cI, 8, .inl (r 20))), (g 21, .inl (cI, 8, .inl (r 21)))]
abbrev wTr2 (cI : ClassId) (g : Nat → Nat) (a : Nat → Nat) (b : Nat → Nat) (u : Rc) (v : Rc) : va_W := [(a 30, .inr (3, [.ref (g 0), .ref (a 0), .ref (a 10), .int (u 30 0)])), (a 0, .inr (2, [.int (u 0 0), .ref (a 1), .ref (a 2), .ref (a 3), .ref (a 4), .ref (a 5), .ref (a 6), .ref (a 7)])), (a 1, .inl (cI, 60, .inl (u 1))), (a 2, .inl (cI, 60, .inl (u 2))), (a 3, .inl (cI, 60, .inl (u 3))), (a 4, .inl (cI, 60, .inl (u 4))), (a 5, .inl (cI, 60, .inl (u 5))), (a 6, .inl (cI, 6, .inl (u 6))), (a 7, .inl (cI, 16, .inl (u 7))), (a 10, .inr (0, [.int (u 10 0), .ref (a 11), .ref (a 12), .ref (a 13), .ref (a 14), .ref (a 15), .ref (a 16), .ref (a 17)])), (a 11, .inl (cI, 4, .inl (u 11))), (a 12, .inl (cI, 4, .inl (u 12))), (a 13, .inl (cI, 4, .inl (u 13))), (a 14, .inl (cI, 4, .inl (u 14))), (a 15, .inl (cI, 4, .inl (u 15))), (a 16, .inl (cI, 4, .inl (u 16))), (a 17, .inl (cI, 4, .inl (u 17))), (b 30, .inr (3, [.ref (g 0), .ref (b 0), .ref (b 10), .int (v 30 0)])), (b 0, .inr (2, [.int (v 0 0), .ref (b 1), .ref (b 2), .ref (b 3), .ref (b 4), .ref (b 5), .ref (b 6), .ref (b 7)])), (b 1, .inl (cI, 60, .inl (v 1))), (b 2, .inl (cI, 60, .inl (v 2))), (b 3, .inl (cI, 60, .inl (v 3))), (b 4, .inl (cI, 60, .inl (v 4))), (b 5, .inl (cI, 60, .inl (v 5))), (b 6, .inl (cI, 6, .inl (v 6))), (b 7, .inl (cI, 16, .inl (v 7))), (b 10, .inr (0, [.int (v 10 0), .ref (b 11), .ref (b 12), .ref (b 13), .ref (b 14), .ref (b 15), .ref (b 16), .ref (b 17)])), (b 11, .inl (cI, 4, .inl (v 11))), (b 12, .inl (cI, 4, .inl (v 12))), (b 13, .inl (cI, 4, .inl (v 13))), (b 14, .inl (cI, 4, .inl (v 14))), (b 15, .inl (cI, 4, .inl (v 15))), (b 16, .inl (cI, 4, .inl (v 16))), (b 17, .inl (cI, 4, .inl (v 17)))]
abbrev wX (cI : ClassId) (x : Nat) (g : Nat → Nat) (a : Nat → Nat) (b : Nat → Nat) (r : Rc) (u : Rc) (v : Rc) : va_W := [(x, .inr (4, [.ref (a 30), .ref (b 30)])), (a 30, .inr (3, [.ref (g 0), .ref (a 0), .ref (a 10), .int (u 30 0)])), (a 0, .inr (2, [.int (u 0 0), .ref (a 1), .ref (a 2), .ref (a 3), .ref (a 4), .ref (a 5), .ref (a 6), .ref (a 7)])), (a 1, .inl (cI, 60, .inl (u 1))), (a 2, .inl (cI, 60, .inl (u 2))), (a 3, .inl (cI, 60, .inl (u 3))), (a 4, .inl (cI, 60, .inl (u 4))), (a 5, .inl (cI, 60, .inl (u 5))), (a 6, .inl (cI, 6, .inl (u 6))), (a 7, .inl (cI, 16, .inl (u 7))), (a 10, .inr (0, [.int (u 10 0), .ref (a 11), .ref (a 12), .ref (a 13), .ref (a 14), .ref (a 15), .ref (a 16), .ref (a 17)])), (a 11, .inl (cI, 4, .inl (u 11))), (a 12, .inl (cI, 4, .inl (u 12))), (a 13, .inl (cI, 4, .inl (u 13))), (a 14, .inl (cI, 4, .inl (u 14))), (a 15, .inl (cI, 4, .inl (u 15))), (a 16, .inl (cI, 4, .inl (u 16))), (a 17, .inl (cI, 4, .inl (u 17))), (g 0, .inr (1, [.ref (g 20), .ref (g 21)])), (g 20, .inl (cI, 8, .inl (r 20))), (g 21, .inl (cI, 8, .inl (r 21))), (b 30, .inr (3, [.ref (g 0), .ref (b 0), .ref (b 10), .int (v 30 0)])), (b 0, .inr (2, [.int (v 0 0), .ref (b 1), .ref (b 2), .ref (b 3), .ref (b 4), .ref (b 5), .ref (b 6), .ref (b 7)])), (b 1, .inl (cI, 60, .inl (v 1))), (b 2, .inl (cI, 60, .inl (v 2))), (b 3, .inl (cI, 60, .inl (v 3))), (b 4, .inl (cI, 60, .inl (v 4))), (b 5, .inl (cI, 60, .inl (v 5))), (b 6, .inl (cI, 6, .inl (v 6))), (b 7, .inl (cI, 16, .inl (v 7))), (b 10, .inr (0, [.int (v 10 0), .ref (b 11), .ref (b 12), .ref (b 13), .ref (b 14), .ref (b 15), .ref (b 16), .ref (b 17)])), (b 11, .inl (cI, 4, .inl (v 11))), (b 12, .inl (cI, 4, .inl (v 12))), (b 13, .inl (cI, 4, .inl (v 13))), (b 14, .inl (cI, 4, .inl (v 14))), (b 15, .inl (cI, 4, .inl (v 15))), (b 16, .inl (cI, 4, .inl (v 16))), (b 17, .inl (cI, 4, .inl (v 17)))]
abbrev wSt (cI : ClassId) (h : Nat → Nat) (k : Nat) (k1 : Nat) (b : Nat → Nat) (n : Rc) (q : Rc) : va_W := [(b 30, .inr (5, [.int (q 30 0), .ref (b 3), .ref (b 4), .ref (b 5), .ref (b 12), .ref (b 13), .ref (b 14), .ref (b 15), .ref (b 16), .ref (b 17), .ref (h 0)])), (b 3, .inl (cI, 60, .inl (q 3))), (b 4, .inl (cI, 60, .inl (q 4))), (b 5, .inl (cI, 60, .inl (q 5))), (b 12, .inl (cI, 4, .inl (q 12))), (b 13, .inl (cI, 4, .inl (q 13))), (b 14, .inl (cI, 4, .inl (q 14))), (b 15, .inl (cI, 4, .inl (q 15))), (b 16, .inl (cI, 4, .inl (q 16))), (b 17, .inl (cI, 4, .inl (q 17))), (h 0, .inr (6, [.int (n 31 0), .ref (h 20), .ref (h 21), .int (n 0 0), .ref (h 1), .ref (h 2), .int (n 10 0), .ref (h 11), .ref (k), .ref (k1)])), (h 20, .inl (cI, 8, .inl (n 20))), (h 21, .inl (cI, 8, .inl (n 21))), (h 1, .inl (cI, 60, .inl (n 1))), (h 2, .inl (cI, 60, .inl (n 2))), (h 11, .inl (cI, 4, .inl (n 11)))]
abbrev wSt2 (cI : ClassId) (h : Nat → Nat) (b : Nat → Nat) (d : Nat → Nat) (q : Rc) (w : Rc) : va_W := [(b 30, .inr (5, [.int (q 30 0), .ref (b 3), .ref (b 4), .ref (b 5), .ref (b 12), .ref (b 13), .ref (b 14), .ref (b 15), .ref (b 16), .ref (b 17), .ref (h 0)])), (b 3, .inl (cI, 60, .inl (q 3))), (b 4, .inl (cI, 60, .inl (q 4))), (b 5, .inl (cI, 60, .inl (q 5))), (b 12, .inl (cI, 4, .inl (q 12))), (b 13, .inl (cI, 4, .inl (q 13))), (b 14, .inl (cI, 4, .inl (q 14))), (b 15, .inl (cI, 4, .inl (q 15))), (b 16, .inl (cI, 4, .inl (q 16))), (b 17, .inl (cI, 4, .inl (q 17))), (d 30, .inr (5, [.int (w 30 0), .ref (d 3), .ref (d 4), .ref (d 5), .ref (d 12), .ref (d 13), .ref (d 14), .ref (d 15), .ref (d 16), .ref (d 17), .ref (h 0)])), (d 3, .inl (cI, 60, .inl (w 3))), (d 4, .inl (cI, 60, .inl (w 4))), (d 5, .inl (cI, 60, .inl (w 5))), (d 12, .inl (cI, 4, .inl (w 12))), (d 13, .inl (cI, 4, .inl (w 13))), (d 14, .inl (cI, 4, .inl (w 14))), (d 15, .inl (cI, 4, .inl (w 15))), (d 16, .inl (cI, 4, .inl (w 16))), (d 17, .inl (cI, 4, .inl (w 17)))]
abbrev wMo (cI : ClassId) (h : Nat → Nat) (b : Nat → Nat) (d : Nat → Nat) (n : Rc) (q : Rc) (w : Rc) : va_W := [(h 0, .inr (6, [.int (n 31 0), .ref (h 20), .ref (h 21), .int (n 0 0), .ref (h 1), .ref (h 2), .int (n 10 0), .ref (h 11), .ref (b 30), .ref (d 30)])), (h 20, .inl (cI, 8, .inl (n 20))), (h 21, .inl (cI, 8, .inl (n 21))), (h 1, .inl (cI, 60, .inl (n 1))), (h 2, .inl (cI, 60, .inl (n 2))), (h 11, .inl (cI, 4, .inl (n 11))), (b 30, .inr (5, [.int (q 30 0), .ref (b 3), .ref (b 4), .ref (b 5), .ref (b 12), .ref (b 13), .ref (b 14), .ref (b 15), .ref (b 16), .ref (b 17), .ref (h 0)])), (b 3, .inl (cI, 60, .inl (q 3))), (b 4, .inl (cI, 60, .inl (q 4))), (b 5, .inl (cI, 60, .inl (q 5))), (b 12, .inl (cI, 4, .inl (q 12))), (b 13, .inl (cI, 4, .inl (q 13))), (b 14, .inl (cI, 4, .inl (q 14))), (b 15, .inl (cI, 4, .inl (q 15))), (b 16, .inl (cI, 4, .inl (q 16))), (b 17, .inl (cI, 4, .inl (q 17))), (d 30, .inr (5, [.int (w 30 0), .ref (d 3), .ref (d 4), .ref (d 5), .ref (d 12), .ref (d 13), .ref (d 14), .ref (d 15), .ref (d 16), .ref (d 17), .ref (h 0)])), (d 3, .inl (cI, 60, .inl (w 3))), (d 4, .inl (cI, 60, .inl (w 4))), (d 5, .inl (cI, 60, .inl (w 5))), (d 12, .inl (cI, 4, .inl (w 12))), (d 13, .inl (cI, 4, .inl (w 13))), (d 14, .inl (cI, 4, .inl (w 14))), (d 15, .inl (cI, 4, .inl (w 15))), (d 16, .inl (cI, 4, .inl (w 16))), (d 17, .inl (cI, 4, .inl (w 17)))]

theorem va_Da {A : Nat → Prop} {ws ws' : va_W} (h : va_D A ws) (e : ws'.map (fun q => q.1) = ws.map (fun q => q.1)) : va_D A ws' := by
  have key : ∀ (i : Nat) (p : Nat × va_E), ws'[i]? = some p → ∃ p', ws[i]? = some p' ∧ p'.1 = p.1 := by
    intro i p hp
    have h1 : (ws'.map (fun q => q.1))[i]? = some p.1 := by rw [List.getElem?_map, hp]; rfl
    rw [e, List.getElem?_map] at h1
    cases hq : ws[i]? with
    | none => rw [hq] at h1; cases h1
    | some p' => rw [hq] at h1; exact ⟨p', rfl, Option.some.inj h1⟩
  refine ⟨fun i j p q hp hq hpq => ?_, fun k q hq => ?_⟩
  · obtain ⟨p', h1, h2⟩ := key i p hp
    obtain ⟨q', h3, h4⟩ := key j q hq
    exact h.1 i j p' q' h1 h3 (by rw [h2, h4, hpq])
  · obtain ⟨q', h3, h4⟩ := key k q hq
    rw [← h4]
    exact h.2 k q' h3
theorem va_row {D : va_G} {cl : List vw_C} {ws : va_W} {H : Heap} {q1 a n : Nat} {cI : ClassId} {f g : Nat → Int32} (same : ∀ j, j < n → f j = g j) (h : va_P D cl (ws.set q1 (a, .inl (cI, n, .inl f))) H) : va_P D cl (ws.set q1 (a, .inl (cI, n, .inl g))) H := by
  intro k p hp
  by_cases hk : q1 = k
  · subst hk
    by_cases hl : q1 < ws.length
    · rw [List.getElem?_set_self hl] at hp
      have h1 := h q1 (a, .inl (cI, n, .inl f)) (List.getElem?_set_self hl)
      have h2 : vp_cell cI (n, .inl f) = vp_cell cI (n, .inl g) := by
        rw [vp_cell_i, vp_cell_i]
        have : (fun j : Fin n => Value.int (f j.val)) = fun j : Fin n => Value.int (g j.val) := funext (fun j => by rw [same j.1 j.2])
        show ({ cls := cI, slots := Array.ofFn (n := n) fun j => Value.int (f j.val), vm := .none } : Cell) = { cls := cI, slots := Array.ofFn (n := n) fun j => Value.int (g j.val), vm := .none }
        rw [this]
      cases hp
      show H[a]? = some (vp_cell cI (n, .inl g))
      rw [← h2]
      exact h1
    · rw [List.getElem?_eq_none (by rw [List.length_set]; omega)] at hp
      cases hp
  · rw [List.getElem?_set_ne hk] at hp
    exact h k p (by rw [List.getElem?_set_ne hk]; exact hp)
section XCP
variable {p : Program} {l : Launch} {e : Env} {R : Room} {s : State} {m : MethodId} {args : Array Value} {below : List Frame} {meth : Method} {c : Code} {H : Heap} {locs : List Loc} {cells slots : Nat} {Q : State → Prop}
variable {cc : ByteArray} {pc : Nat} {ls : Array Slot} {rest : List Value} {D : va_G} {cl : List vw_C} {A : Nat → Prop} {a : Nat} {tys : List (ClassId × FieldType)} {ws : va_W} {H0 : Heap}
theorem xcopy (hexec : p.tables.exec = Jvm.exec) (hb : c.code = cc) (hml : c.maxLocals = ls.size) {own : String} {index : Nat} (hown : s.vm.findClass own = some m.cls) (hlink : (Cond.methodLink own index arraycopyName).before args s = true) (hnat : (Cond.native arraycopyName).before args s = true) (hstat : (Cond.static arraycopyName).before args s = true) (hini : (Cond.initialized "java/lang/System").before args s = true)
    (hK : va_K D cl tys s) (hP : va_P D cl ws H) (hD : va_D A ws) (hS : va_S A H0 H locs) (q0 q1 : Nat) {a0 : Nat} {cI : ClassId} {n : Nat} {f g : Nat → Int32} (ha0 : ws[q0]? = some (a0, .inl (cI, n, .inl f))) (ha1 : ws[q1]? = some (a, .inl (cI, n, .inl g))) (ht : tys[0]? = some (cI, .int)) (w1 : va_W) (hw : ws.set q1 (a, .inl (cI, n, .inl f)) = w1)
    {x : Int32} (hx : x = nI n) (hn : n ≤ 2147483647) (hframes : 1 ≤ R.frames) (hlocals : (rest.map fun v => v.category).sum + (nativeFrameWords "java/lang/System" "arraycopy" 5 + 11) ≤ R.locals) (hdg : decode cc pc = .ok (.invokestatic index, 3))
    (kk : ∀ (H1 : Heap) (locs1 : List Loc), va_P D cl w1 H1 → va_D A w1 → va_S A H0 H1 locs1 → W p l e R s m args below meth c H1 locs1 cells slots Q (F0 m (pc + 3) ls rest)) : W p l e R s m args below meth c H locs cells slots Q (F0 m pc ls (.int x :: .int 0 :: .ref a :: .int 0 :: .ref a0 :: rest)) := by
  have e0 : (0 : Int32).toNatClampNeg = 0 := by decide
  have ex : x.toNatClampNeg = n := by rw [hx]; exact nI_clamp (by omega)
  refine va_copyi hexec hb hml hown hlink hnat hstat hini hK hP hD hS q0 q1 0 0 ha0 ha1 ht ht rfl (by decide) (by decide) (by rw [hx]; exact nI_pos (by omega)) (by rw [e0, ex]; omega) (by rw [e0, ex]; omega) (fun i _ => rfl) hframes hlocals hdg (fun H1 locs1 h1 h2 h3 => kk H1 locs1 ?_ ?_ h3)
  · rw [← hw]
    refine va_row (fun j hj => ?_) h1
    rw [e0, ex, pk_cpy_in (Nat.zero_le _) (by omega)]
    congr 1
    omega
  · rw [← hw]
    exact va_Da h2 (by rw [List.map_set, List.map_set])
end XCP
theorem cnt_t {p : Nat → Bool} {n : Nat} (h : p n = true) : cntN p (n + 1) = cntN p n + 1 := by
  rw [cntN, if_pos h]
theorem cnt_f {p : Nat → Bool} {n : Nat} (h : p n = false) : cntN p (n + 1) = cntN p n := by
  rw [cntN, if_neg (by rw [h]; decide), Int32.add_zero]
theorem Pr.n {u w : Rc} (h : Pr u w) (ok : Ok u) : w 0 0 = nI (iv (u 0 0)) := by rw [(h ok).2 0 (by omega)]; exact ok.n
theorem Pr.k {u w : Rc} (h : Pr u w) (ok : Ok u) : w 10 0 = nI (iv (u 10 0)) := by rw [(h ok).2 10 (by omega)]; exact ok.k
theorem Pr.ok {u w : Rc} (h : Pr u w) (ok : Ok u) : Ok w := (h ok).1
/-- the other cells of a caller's world, by their places -/
def sel (W0 : va_W) (is : List Nat) : va_W := is.filterMap (fun i => W0[i]?)
section YCALL
variable {p : Program} {l : Launch} {e : Env} {R : Room} {s : State} {m : MethodId} {args : Array Value} {below : List Frame} {meth : Method} {c : Code} {H : Heap} {locs : List Loc} {cells slots : Nat} {Q : State → Prop}
variable {y : MethodName} {wsY : List Cond} {rm : Room} {As rest st0 : List Value} {ls : Array Slot} {pc : Nat} {D : va_G} {cI : ClassId} {A : Nat → Prop} {W0 Wc W1 : va_W} {H0 : Heap}
theorem ycalli {r : Int32} (hI : Inv p l e R s m args below meth c H locs cells slots y wsY rm As (F0 m pc ls st0) rest) (hM : CI l y wsY rm D cI As Wc r W1) (hK : va_K D vwCl [(cI, .int)] s) (hN : NW s) (hA : ∀ q, H0.size ≤ q → A q) (hP : va_P D vwCl W0 H) (hD : va_D A W0) (hS : va_S A H0 H locs)
    (W2 : va_W) (isC isR isB : List Nat) (hC : isC.map (fun i => W0[i]?) = Wc.map some) (hR : isR.map (fun i => W0[i]?) = (sel W0 isR).map some) (hB : isB.map (fun i => (sel W0 isR ++ W1)[i]?) = W2.map some) (hnn : va_nd isC = true ∧ va_nd isR = true ∧ va_nd isB = true ∧ isR.all (fun i => !isC.contains i) = true) (hf : cells + rm.cells ≤ R.cells ∧ slots + rm.slots ≤ R.slots)
    (kk : ∀ (H1 : Heap) (locs1 : List Loc), va_P D vwCl W2 H1 → va_D A W2 → va_S A H0 H1 locs1 → W p l e R s m args below meth c H1 locs1 (cells + rm.cells) (slots + rm.slots) Q (F0 m (pc + 3) ls (.int r :: rest))) : W p l e R s m args below meth c H locs cells slots Q (F0 m pc ls st0) :=
  xcalli hI hM hK hN hA hP hD hS isC isR isB hC hR hB hnn hf kk
theorem ycalll {r : Int64} (hI : Inv p l e R s m args below meth c H locs cells slots y wsY rm As (F0 m pc ls st0) rest) (hM : CL l y wsY rm D cI As Wc r W1) (hK : va_K D vwCl [(cI, .int)] s) (hN : NW s) (hA : ∀ q, H0.size ≤ q → A q) (hP : va_P D vwCl W0 H) (hD : va_D A W0) (hS : va_S A H0 H locs)
    (W2 : va_W) (isC isR isB : List Nat) (hC : isC.map (fun i => W0[i]?) = Wc.map some) (hR : isR.map (fun i => W0[i]?) = (sel W0 isR).map some) (hB : isB.map (fun i => (sel W0 isR ++ W1)[i]?) = W2.map some) (hnn : va_nd isC = true ∧ va_nd isR = true ∧ va_nd isB = true ∧ isR.all (fun i => !isC.contains i) = true) (hf : cells + rm.cells ≤ R.cells ∧ slots + rm.slots ≤ R.slots)
    (kk : ∀ (H1 : Heap) (locs1 : List Loc), va_P D vwCl W2 H1 → va_D A W2 → va_S A H0 H1 locs1 → W p l e R s m args below meth c H1 locs1 (cells + rm.cells) (slots + rm.slots) Q (F0 m (pc + 3) ls (.long r :: rest))) : W p l e R s m args below meth c H locs cells slots Q (F0 m pc ls st0) :=
  xcalll hI hM hK hN hA hP hD hS isC isR isB hC hR hB hnn hf kk
theorem ycallv (hI : Inv p l e R s m args below meth c H locs cells slots y wsY rm As (F0 m pc ls st0) rest) (hM : CV l y wsY rm D cI As Wc W1) (hK : va_K D vwCl [(cI, .int)] s) (hN : NW s) (hA : ∀ q, H0.size ≤ q → A q) (hP : va_P D vwCl W0 H) (hD : va_D A W0) (hS : va_S A H0 H locs)
    (W2 : va_W) (isC isR isB : List Nat) (hC : isC.map (fun i => W0[i]?) = Wc.map some) (hR : isR.map (fun i => W0[i]?) = (sel W0 isR).map some) (hB : isB.map (fun i => (sel W0 isR ++ W1)[i]?) = W2.map some) (hnn : va_nd isC = true ∧ va_nd isR = true ∧ va_nd isB = true ∧ isR.all (fun i => !isC.contains i) = true) (hf : cells + rm.cells ≤ R.cells ∧ slots + rm.slots ≤ R.slots)
    (kk : ∀ (H1 : Heap) (locs1 : List Loc), va_P D vwCl W2 H1 → va_D A W2 → va_S A H0 H1 locs1 → W p l e R s m args below meth c H1 locs1 (cells + rm.cells) (slots + rm.slots) Q (F0 m (pc + 3) ls rest)) : W p l e R s m args below meth c H locs cells slots Q (F0 m pc ls st0) :=
  xcallv hI hM hK hN hA hP hD hS isC isR isB hC hR hB hnn hf kk
end YCALL
end
section
set_option maxHeartbeats 4000000 in
set_option maxRecDepth 100000 in
theorem c_X4_hasTown (l : Launch) (D : va_G) (cI : ClassId) (x y : Int32) : CI l yX4_hasTown wsX4_hasTown ({ frames := 0, cells := 0, slots := 0, locals := 0 } : Room) D cI [.int x, .int y] (w0 cI) (if hasT x y then 1 else 0) (w0 cI) := by
  refine CI.mk (cc := cX4_hasTown) (maxL := 2) (ret := (some .boolean)) rfl (by split <;> rfl) (by decide) rfl (Nat.le_of_ble_eq_true rfl) ?_
  intro p e s m args below meth c A Q ls hx hb hts hown hml hK hN hA hP hD hS hl fin
  have hown : s.vm.findClass RX4 = some m.cls := hown
  have hl : lv_has ls 2 [(0, .int x), (1, .int y)] := hl
  refine lv_iload_n hx hb dX4_hasTown_0 rfl (lv_at hl 0 rfl) ?_
  refine lv_iload_n hx hb dX4_hasTown_1 rfl (lv_at hl 1 rfl) ?_
  refine lv_ishr hx hb dX4_hasTown_2 ?_
  refine lv_iconst (v := 1) hx hb dX4_hasTown_3 (by decide) ?_
  refine lv_iand hx hb dX4_hasTown_4 ?_
  refine lv_iconst (v := 1) hx hb dX4_hasTown_5 (by decide) ?_
  refine lv_icmp_ne (tgt := 13) hx hb dX4_hasTown_6 (by decide) (fun c1 => ?_) (fun c1 => ?_)
  · skip
    refine lv_iconst (v := 0) hx hb dX4_hasTown_13 (by decide) ?_
    exact fin _ _ _ _ _ _ _ _ (by  simp only [hasT, c1, ↓reduceIte, not_false_eq_true, not_true_eq_false, and_true, true_and, and_false, false_and, or_true, true_or, or_false, false_or, and_self, or_self]) rfl hP hD hS (Nat.le_of_ble_eq_true rfl) (Nat.le_of_ble_eq_true rfl) dX4_hasTown_14
  · skip
    refine lv_iconst (v := 1) hx hb dX4_hasTown_9 (by decide) ?_
    refine lv_goto (tgt := 14) hx hb dX4_hasTown_10 (by decide) ?_
    exact fin _ _ _ _ _ _ _ _ (by  simp only [hasT, c1, ↓reduceIte, not_false_eq_true, not_true_eq_false, and_true, true_and, and_false, false_and, or_true, true_or, or_false, false_or, and_self, or_self]) rfl hP hD hS (Nat.le_of_ble_eq_true rfl) (Nat.le_of_ble_eq_true rfl) dX4_hasTown_14
set_option maxHeartbeats 4000000 in
set_option maxRecDepth 100000 in
theorem c_X4_stationOf (l : Launch) (D : va_G) (cI : ClassId) (x : Int32) : CI l yX4_stationOf wsX4_stationOf ({ frames := 0, cells := 0, slots := 0, locals := 0 } : Room) D cI [.int x] (w0 cI) (x / 2) (w0 cI) := by
  refine CI.mk (cc := cX4_stationOf) (maxL := 1) (ret := (some .int)) rfl rfl (by decide) rfl (Nat.le_of_ble_eq_true rfl) ?_
  intro p e s m args below meth c A Q ls hx hb hts hown hml hK hN hA hP hD hS hl fin
  have hown : s.vm.findClass RX4 = some m.cls := hown
  have hl : lv_has ls 1 [(0, .int x)] := hl
  refine lv_iload_n hx hb dX4_stationOf_0 rfl (lv_at hl 0 rfl) ?_
  refine lv_iconst (v := 2) hx hb dX4_stationOf_1 (by decide) ?_
  refine lv_idiv hx hb dX4_stationOf_2 (by decide) ?_
  exact fin _ _ _ _ _ _ _ _ rfl rfl hP hD hS (Nat.le_of_ble_eq_true rfl) (Nat.le_of_ble_eq_true rfl) dX4_stationOf_3
set_option maxHeartbeats 4000000 in
set_option maxRecDepth 100000 in
theorem c_X4_checkIndex (l : Launch) (D : va_G) (cI : ClassId) (x y : Int32) (h : ¬ x < 0) (h2 : x < y) : CV l yX4_checkIndex wsX4_checkIndex ({ frames := 0, cells := 0, slots := 0, locals := 0 } : Room) D cI [.int x, .int y] (w0 cI) (w0 cI) := by
  refine CV.mk (cc := cX4_checkIndex) (maxL := 2) (by decide) rfl (Nat.le_of_ble_eq_true rfl) ?_
  intro p e s m args below meth c A Q ls hx hb hts hown hml hK hN hA hP hD hS hl fin
  have hown : s.vm.findClass RX4 = some m.cls := hown
  have hl : lv_has ls 2 [(0, .int x), (1, .int y)] := hl
  refine lv_iload_n hx hb dX4_checkIndex_0 rfl (lv_at hl 0 rfl) ?_
  refine lv_if_lt (tgt := 9) hx hb dX4_checkIndex_1 (by decide) (fun c1 => ?_) (fun c1 => ?_)
  · exact absurd c1 h
  · skip
    refine lv_iload_n hx hb dX4_checkIndex_4 rfl (lv_at hl 0 rfl) ?_
    refine lv_iload_n hx hb dX4_checkIndex_5 rfl (lv_at hl 1 rfl) ?_
    refine lv_icmp_lt (tgt := 19) hx hb dX4_checkIndex_6 (by decide) (fun c2 => ?_) (fun c2 => ?_)
    · skip
      exact fin _ _ _ _ _ _ _ rfl hP hD hS (Nat.le_of_ble_eq_true rfl) (Nat.le_of_ble_eq_true rfl) dX4_checkIndex_19
    · exact absurd h2 c2
set_option maxHeartbeats 4000000 in
set_option maxRecDepth 100000 in
theorem c_X4_checkArgument (l : Launch) (D : va_G) (cI : ClassId) (x y z : Int32) (h : ¬ x < y) (h2 : x ≤ z) : CV l yX4_checkArgument wsX4_checkArgument ({ frames := 0, cells := 0, slots := 0, locals := 0 } : Room) D cI [.int x, .int y, .int z] (w0 cI) (w0 cI) := by
  refine CV.mk (cc := cX4_checkArgument) (maxL := 3) (by decide) rfl (Nat.le_of_ble_eq_true rfl) ?_
  intro p e s m args below meth c A Q ls hx hb hts hown hml hK hN hA hP hD hS hl fin
  have hown : s.vm.findClass RX4 = some m.cls := hown
  have hl : lv_has ls 3 [(0, .int x), (1, .int y), (2, .int z)] := hl
  refine lv_iload_n hx hb dX4_checkArgument_0 rfl (lv_at hl 0 rfl) ?_
  refine lv_iload_n hx hb dX4_checkArgument_1 rfl (lv_at hl 1 rfl) ?_
  refine lv_icmp_lt (tgt := 10) hx hb dX4_checkArgument_2 (by decide) (fun c1 => ?_) (fun c1 => ?_)
  · exact absurd c1 h
  · skip
    refine lv_iload_n hx hb dX4_checkArgument_5 rfl (lv_at hl 0 rfl) ?_
    refine lv_iload_n hx hb dX4_checkArgument_6 rfl (lv_at hl 2 rfl) ?_
    refine lv_icmp_le (tgt := 20) hx hb dX4_checkArgument_7 (by decide) (fun c2 => ?_) (fun c2 => ?_)
    · skip
      exact fin _ _ _ _ _ _ _ rfl hP hD hS (Nat.le_of_ble_eq_true rfl) (Nat.le_of_ble_eq_true rfl) dX4_checkArgument_20
    · exact absurd h2 c2
set_option maxHeartbeats 4000000 in
set_option maxRecDepth 100000 in
theorem c_X0_add (l : Launch) (D : va_G) (cI : ClassId) (a : Nat → Nat) (u : Rc) (ok : Ok u) (hk : iv (u 10 0) < 4) (x y : Int32) : CI l yX0_add wsX0_add ({ frames := 0, cells := 0, slots := 0, locals := 0 } : Room) D cI [.ref (a 10), .int x, .int y] (wCrew cI a u) (u 10 0) (wCrew cI a (crAddF u x y)) := by
  refine CI.mk (cc := cX0_add) (maxL := 4) (ret := (some .int)) rfl rfl (by decide) rfl (Nat.le_of_ble_eq_true rfl) ?_
  intro p e s m args below meth c A Q ls hx hb hts hown hml hK hN hA hP hD hS hl fin
  have hown : s.vm.findClass RX0 = some m.cls := hown
  have hl : lv_has ls 4 [(0, .ref (a 10)), (1, .int x), (2, .int y)] := hl
  have f9 := hts (.fieldLink RX0 9 "NightSorters$Crew" "size" "I") (by decide +kernel)
  have f15 := hts (.fieldLink RX0 15 "NightSorters$Crew" "pace" "[I") (by decide +kernel)
  have f19 := hts (.fieldLink RX0 19 "NightSorters$Crew" "towns" "[I") (by decide +kernel)
  have f28 := hts (.fieldLink RX0 28 "NightSorters$Crew" "held" "[I") (by decide +kernel)
  have inX0 : ∀ w ∈ wsX00, w ∈ wsX0_add := by decide +kernel
  refine lv_aload_n hx hb dX0_add_0 rfl (lv_at hl 0 rfl) ?_
  refine va_get (D := D) (ci := 0) (v := .int (u 10 0)) (C := RX0) (T := TX0) (N := 8) hx hb hts inX0 hown hK hP 0 rfl rfl 0 (by decide) f9 (fun _ h9 => h9) rfl dX0_add_1 ?_
  refine lv_istore_n (lv' := [(3, .int (u 10 0)), (0, .ref (a 10)), (1, .int x), (2, .int y)]) hx hb dX0_add_4 rfl hl (by decide) rfl (fun ls hl => ?_)
  refine lv_aload_n hx hb dX0_add_5 rfl (lv_at hl 1 rfl) ?_
  refine va_get (D := D) (ci := 0) (v := .ref (a 11)) (C := RX0) (T := TX0) (N := 8) hx hb hts inX0 hown hK hP 0 rfl rfl 1 (by decide) f15 (fun _ h9 => h9) rfl dX0_add_6 ?_
  refine lv_iload_n hx hb dX0_add_9 rfl (lv_at hl 0 rfl) ?_
  refine lv_iload_n hx hb dX0_add_10 rfl (lv_at hl 2 rfl) ?_
  obtain ⟨u1, eu1⟩ : ∃ z : Rc, z = put u 11 (iv (u 10 0)) x := ⟨_, rfl⟩
  refine xast hx hb hK hP hD hS 1 rfl rfl (iv (u 10 0)) (ok.k) (hk) (by decide) (wCrew cI a u1) (by subst eu1; rfl) dX0_add_11 (fun H locs hP hD hS => ?_)
  refine lv_aload_n hx hb dX0_add_12 rfl (lv_at hl 1 rfl) ?_
  refine va_get (D := D) (ci := 0) (v := .ref (a 12)) (C := RX0) (T := TX0) (N := 8) hx hb hts inX0 hown hK hP 0 rfl rfl 2 (by decide) f19 (fun _ h9 => h9) rfl dX0_add_13 ?_
  refine lv_iload_n hx hb dX0_add_16 rfl (lv_at hl 0 rfl) ?_
  refine lv_iload_n hx hb dX0_add_17 rfl (lv_at hl 3 rfl) ?_
  obtain ⟨u2, eu2⟩ : ∃ z : Rc, z = put u1 12 (iv (u 10 0)) y := ⟨_, rfl⟩
  refine xast hx hb hK hP hD hS 2 rfl rfl (iv (u 10 0)) (ok.k) (hk) (by decide) (wCrew cI a u2) (by subst eu2; rfl) dX0_add_18 (fun H locs hP hD hS => ?_)
  refine lv_aload_n hx hb dX0_add_19 rfl (lv_at hl 1 rfl) ?_
  refine va_get (D := D) (ci := 0) (v := .ref (a 15)) (C := RX0) (T := TX0) (N := 8) hx hb hts inX0 hown hK hP 0 rfl rfl 5 (by decide) f28 (fun _ h9 => h9) rfl dX0_add_20 ?_
  refine lv_iload_n hx hb dX0_add_23 rfl (lv_at hl 0 rfl) ?_
  refine lv_iconst (v := (-1)) hx hb dX0_add_24 (by decide) ?_
  obtain ⟨u3, eu3⟩ : ∃ z : Rc, z = put u2 15 (iv (u 10 0)) (-1) := ⟨_, rfl⟩
  refine xast hx hb hK hP hD hS 5 rfl rfl (iv (u 10 0)) (ok.k) (hk) (by decide) (wCrew cI a u3) (by subst eu3; rfl) dX0_add_25 (fun H locs hP hD hS => ?_)
  refine lv_aload_n hx hb dX0_add_26 rfl (lv_at hl 1 rfl) ?_
  refine lv_dup hx hb dX0_add_27 rfl ?_
  refine va_get (D := D) (ci := 0) (v := .int (u3 10 0)) (C := RX0) (T := TX0) (N := 8) hx hb hts inX0 hown hK hP 0 rfl rfl 0 (by decide) f9 (fun _ h9 => h9) rfl dX0_add_28 ?_
  refine lv_iconst (v := 1) hx hb dX0_add_31 (by decide) ?_
  refine lv_iadd hx hb dX0_add_32 ?_
  obtain ⟨u4, eu4⟩ : ∃ z : Rc, z = put u3 10 0 ((u3 10 0) + 1) := ⟨_, rfl⟩
  refine va_put (D := D) (ci := 0) (v := .int ((u3 10 0) + 1)) (ty := .int) (C := RX0) (T := TX0) (N := 8) hx hb hts inX0 tyX0 tyX0_ok nmX0 hown hK hP hD hS 0 rfl rfl 0 (by decide) f9 (fun _ h9 => h9) rfl (by decide +kernel) rfl rfl (Nat.le_of_ble_eq_true rfl) dX0_add_33 (fun H locs hP hD hS => ?_)
  have hP : va_P D vwCl (wCrew cI a u4) H := by subst eu4; exact hP
  have hD : va_D A (wCrew cI a u4) := by subst eu4; exact hD
  refine lv_iload_n hx hb dX0_add_36 rfl (lv_at hl 0 rfl) ?_
  have h5 : u4 = crAddF u x y := (by (try subst eu4); (try subst eu3); (try subst eu2); (try subst eu1); simp only [crAddF, incS, ↓reduceIte, not_false_eq_true, not_true_eq_false, and_true, true_and, and_false, false_and, or_true, true_or, or_false, false_or, and_self, or_self])
  exact fin _ _ _ _ _ _ _ _ rfl (by rw [h5]) hP hD hS (Nat.le_of_ble_eq_true rfl) (Nat.le_of_ble_eq_true rfl) dX0_add_37
set_option maxHeartbeats 4000000 in
set_option maxRecDepth 100000 in
theorem c_X0_fact (l : Launch) (D : va_G) (cI : ClassId) (a : Nat → Nat) (u : Rc) (s9 : Nat) (hs : s9 < 4) (x : Int32) (ex : x = nI s9) (w : Nat) (hw : w < 7) (y : Int32) (ey : y = nI w) : CI l yX0_fact wsX0_fact ({ frames := 0, cells := 0, slots := 0, locals := 0 } : Room) D cI [.ref (a 10), .int x, .int y] (wCrew cI a u) (cfact u s9 w) (wCrew cI a u) := by
  refine CI.mk (cc := cX0_fact) (maxL := 3) (ret := (some .int)) rfl rfl (by decide) rfl (Nat.le_of_ble_eq_true rfl) ?_
  intro p e s m args below meth c A Q ls hx hb hts hown hml hK hN hA hP hD hS hl fin
  have hown : s.vm.findClass RX0 = some m.cls := hown
  subst ex
  subst ey
  have hl : lv_has ls 3 [(0, .ref (a 10)), (1, .int (nI s9)), (2, .int (nI w))] := hl
  have f15 := hts (.fieldLink RX0 15 "NightSorters$Crew" "pace" "[I") (by decide +kernel)
  have f19 := hts (.fieldLink RX0 19 "NightSorters$Crew" "towns" "[I") (by decide +kernel)
  have f22 := hts (.fieldLink RX0 22 "NightSorters$Crew" "tired" "[I") (by decide +kernel)
  have f25 := hts (.fieldLink RX0 25 "NightSorters$Crew" "withTea" "[I") (by decide +kernel)
  have f28 := hts (.fieldLink RX0 28 "NightSorters$Crew" "held" "[I") (by decide +kernel)
  have f31 := hts (.fieldLink RX0 31 "NightSorters$Crew" "minutesLeft" "[I") (by decide +kernel)
  have f34 := hts (.fieldLink RX0 34 "NightSorters$Crew" "sorted" "[I") (by decide +kernel)
  have inX0 : ∀ w ∈ wsX00, w ∈ wsX0_fact := by decide +kernel
  refine lv_iload_n hx hb dX0_fact_0 rfl (lv_at hl 2 rfl) ?_
  have ht1 : w = 0 ∨ w = 1 ∨ w = 2 ∨ w = 3 ∨ w = 4 ∨ w = 5 ∨ w = 6 := by omega
  rcases ht1 with rfl | rfl | rfl | rfl | rfl | rfl | rfl
  · skip
    refine lv_tableIn (off := 39) (tgt := 40) hx hb dX0_fact_1 (by decide) (by decide) (by decide) (by decide) ?_
    refine lv_aload_n hx hb dX0_fact_40 rfl (lv_at hl 0 rfl) ?_
    refine va_get (D := D) (ci := 0) (v := .ref (a 11)) (C := RX0) (T := TX0) (N := 8) hx hb hts inX0 hown hK hP 0 rfl rfl 1 (by decide) f15 (fun _ h9 => h9) rfl dX0_fact_41 ?_
    refine lv_iload_n hx hb dX0_fact_44 rfl (lv_at hl 1 rfl) ?_
    refine xald hx hb hK hP 1 rfl rfl (s9) (rfl) (by omega) (by decide) dX0_fact_45 ?_
    exact fin _ _ _ _ _ _ _ _ (by rfl) rfl hP hD hS (Nat.le_of_ble_eq_true rfl) (Nat.le_of_ble_eq_true rfl) dX0_fact_46
  · skip
    refine lv_tableIn (off := 46) (tgt := 47) hx hb dX0_fact_1 (by decide) (by decide) (by decide) (by decide) ?_
    refine lv_aload_n hx hb dX0_fact_47 rfl (lv_at hl 0 rfl) ?_
    refine va_get (D := D) (ci := 0) (v := .ref (a 12)) (C := RX0) (T := TX0) (N := 8) hx hb hts inX0 hown hK hP 0 rfl rfl 2 (by decide) f19 (fun _ h9 => h9) rfl dX0_fact_48 ?_
    refine lv_iload_n hx hb dX0_fact_51 rfl (lv_at hl 1 rfl) ?_
    refine xald hx hb hK hP 2 rfl rfl (s9) (rfl) (by omega) (by decide) dX0_fact_52 ?_
    exact fin _ _ _ _ _ _ _ _ (by rfl) rfl hP hD hS (Nat.le_of_ble_eq_true rfl) (Nat.le_of_ble_eq_true rfl) dX0_fact_53
  · skip
    refine lv_tableIn (off := 53) (tgt := 54) hx hb dX0_fact_1 (by decide) (by decide) (by decide) (by decide) ?_
    refine lv_aload_n hx hb dX0_fact_54 rfl (lv_at hl 0 rfl) ?_
    refine va_get (D := D) (ci := 0) (v := .ref (a 13)) (C := RX0) (T := TX0) (N := 8) hx hb hts inX0 hown hK hP 0 rfl rfl 3 (by decide) f22 (fun _ h9 => h9) rfl dX0_fact_55 ?_
    refine lv_iload_n hx hb dX0_fact_58 rfl (lv_at hl 1 rfl) ?_
    refine xald hx hb hK hP 3 rfl rfl (s9) (rfl) (by omega) (by decide) dX0_fact_59 ?_
    exact fin _ _ _ _ _ _ _ _ (by rfl) rfl hP hD hS (Nat.le_of_ble_eq_true rfl) (Nat.le_of_ble_eq_true rfl) dX0_fact_60
  · skip
    refine lv_tableIn (off := 60) (tgt := 61) hx hb dX0_fact_1 (by decide) (by decide) (by decide) (by decide) ?_
    refine lv_aload_n hx hb dX0_fact_61 rfl (lv_at hl 0 rfl) ?_
    refine va_get (D := D) (ci := 0) (v := .ref (a 14)) (C := RX0) (T := TX0) (N := 8) hx hb hts inX0 hown hK hP 0 rfl rfl 4 (by decide) f25 (fun _ h9 => h9) rfl dX0_fact_62 ?_
    refine lv_iload_n hx hb dX0_fact_65 rfl (lv_at hl 1 rfl) ?_
    refine xald hx hb hK hP 4 rfl rfl (s9) (rfl) (by omega) (by decide) dX0_fact_66 ?_
    exact fin _ _ _ _ _ _ _ _ (by rfl) rfl hP hD hS (Nat.le_of_ble_eq_true rfl) (Nat.le_of_ble_eq_true rfl) dX0_fact_67
  · skip
    refine lv_tableIn (off := 67) (tgt := 68) hx hb dX0_fact_1 (by decide) (by decide) (by decide) (by decide) ?_
    refine lv_aload_n hx hb dX0_fact_68 rfl (lv_at hl 0 rfl) ?_
    refine va_get (D := D) (ci := 0) (v := .ref (a 15)) (C := RX0) (T := TX0) (N := 8) hx hb hts inX0 hown hK hP 0 rfl rfl 5 (by decide) f28 (fun _ h9 => h9) rfl dX0_fact_69 ?_
    refine lv_iload_n hx hb dX0_fact_72 rfl (lv_at hl 1 rfl) ?_
    refine xald hx hb hK hP 5 rfl rfl (s9) (rfl) (by omega) (by decide) dX0_fact_73 ?_
    exact fin _ _ _ _ _ _ _ _ (by rfl) rfl hP hD hS (Nat.le_of_ble_eq_true rfl) (Nat.le_of_ble_eq_true rfl) dX0_fact_74
  · skip
    refine lv_tableIn (off := 74) (tgt := 75) hx hb dX0_fact_1 (by decide) (by decide) (by decide) (by decide) ?_
    refine lv_aload_n hx hb dX0_fact_75 rfl (lv_at hl 0 rfl) ?_
    refine va_get (D := D) (ci := 0) (v := .ref (a 16)) (C := RX0) (T := TX0) (N := 8) hx hb hts inX0 hown hK hP 0 rfl rfl 6 (by decide) f31 (fun _ h9 => h9) rfl dX0_fact_76 ?_
    refine lv_iload_n hx hb dX0_fact_79 rfl (lv_at hl 1 rfl) ?_
    refine xald hx hb hK hP 6 rfl rfl (s9) (rfl) (by omega) (by decide) dX0_fact_80 ?_
    exact fin _ _ _ _ _ _ _ _ (by rfl) rfl hP hD hS (Nat.le_of_ble_eq_true rfl) (Nat.le_of_ble_eq_true rfl) dX0_fact_81
  · skip
    refine lv_tableOut (tgt := 82) hx hb dX0_fact_1 (by decide) (by decide) ?_
    refine lv_aload_n hx hb dX0_fact_82 rfl (lv_at hl 0 rfl) ?_
    refine va_get (D := D) (ci := 0) (v := .ref (a 17)) (C := RX0) (T := TX0) (N := 8) hx hb hts inX0 hown hK hP 0 rfl rfl 7 (by decide) f34 (fun _ h9 => h9) rfl dX0_fact_83 ?_
    refine lv_iload_n hx hb dX0_fact_86 rfl (lv_at hl 1 rfl) ?_
    refine xald hx hb hK hP 7 rfl rfl (s9) (rfl) (by omega) (by decide) dX0_fact_87 ?_
    exact fin _ _ _ _ _ _ _ _ (by rfl) rfl hP hD hS (Nat.le_of_ble_eq_true rfl) (Nat.le_of_ble_eq_true rfl) dX0_fact_88
set_option maxHeartbeats 4000000 in
set_option maxRecDepth 100000 in
theorem c_X0_minutesNeeded (l : Launch) (D : va_G) (cI : ClassId) (a : Nat → Nat) (u : Rc) (s9 : Nat) (hs : s9 < 4) (x : Int32) (ex : x = nI s9) : CI l yX0_minutesNeeded wsX0_minutesNeeded ({ frames := 0, cells := 0, slots := 0, locals := 0 } : Room) D cI [.ref (a 10), .int x] (wCrew cI a u) (needF u s9) (wCrew cI a u) := by
  refine CI.mk (cc := cX0_minutesNeeded) (maxL := 3) (ret := (some .int)) rfl rfl (by decide) rfl (Nat.le_of_ble_eq_true rfl) ?_
  intro p e s m args below meth c A Q ls hx hb hts hown hml hK hN hA hP hD hS hl fin
  have hown : s.vm.findClass RX0 = some m.cls := hown
  subst ex
  have hl : lv_has ls 3 [(0, .ref (a 10)), (1, .int (nI s9))] := hl
  have f15 := hts (.fieldLink RX0 15 "NightSorters$Crew" "pace" "[I") (by decide +kernel)
  have f22 := hts (.fieldLink RX0 22 "NightSorters$Crew" "tired" "[I") (by decide +kernel)
  have f25 := hts (.fieldLink RX0 25 "NightSorters$Crew" "withTea" "[I") (by decide +kernel)
  have inX0 : ∀ w ∈ wsX00, w ∈ wsX0_minutesNeeded := by decide +kernel
  refine lv_aload_n hx hb dX0_minutesNeeded_0 rfl (lv_at hl 0 rfl) ?_
  refine va_get (D := D) (ci := 0) (v := .ref (a 11)) (C := RX0) (T := TX0) (N := 8) hx hb hts inX0 hown hK hP 0 rfl rfl 1 (by decide) f15 (fun _ h9 => h9) rfl dX0_minutesNeeded_1 ?_
  refine lv_iload_n hx hb dX0_minutesNeeded_4 rfl (lv_at hl 1 rfl) ?_
  refine xald hx hb hK hP 1 rfl rfl (s9) (rfl) (by omega) (by decide) dX0_minutesNeeded_5 ?_
  refine lv_aload_n hx hb dX0_minutesNeeded_6 rfl (lv_at hl 0 rfl) ?_
  refine va_get (D := D) (ci := 0) (v := .ref (a 13)) (C := RX0) (T := TX0) (N := 8) hx hb hts inX0 hown hK hP 0 rfl rfl 3 (by decide) f22 (fun _ h9 => h9) rfl dX0_minutesNeeded_7 ?_
  refine lv_iload_n hx hb dX0_minutesNeeded_10 rfl (lv_at hl 1 rfl) ?_
  refine xald hx hb hK hP 3 rfl rfl (s9) (rfl) (by omega) (by decide) dX0_minutesNeeded_11 ?_
  refine lv_iconst (v := 5) hx hb dX0_minutesNeeded_12 (by decide) ?_
  refine lv_idiv hx hb dX0_minutesNeeded_13 (by decide) ?_
  refine lv_iadd hx hb dX0_minutesNeeded_14 ?_
  refine lv_iconst (v := 2) hx hb dX0_minutesNeeded_15 (by decide) ?_
  refine lv_aload_n hx hb dX0_minutesNeeded_16 rfl (lv_at hl 0 rfl) ?_
  refine va_get (D := D) (ci := 0) (v := .ref (a 14)) (C := RX0) (T := TX0) (N := 8) hx hb hts inX0 hown hK hP 0 rfl rfl 4 (by decide) f25 (fun _ h9 => h9) rfl dX0_minutesNeeded_17 ?_
  refine lv_iload_n hx hb dX0_minutesNeeded_20 rfl (lv_at hl 1 rfl) ?_
  refine xald hx hb hK hP 4 rfl rfl (s9) (rfl) (by omega) (by decide) dX0_minutesNeeded_21 ?_
  refine lv_imul hx hb dX0_minutesNeeded_22 ?_
  refine lv_isub hx hb dX0_minutesNeeded_23 ?_
  obtain ⟨y1, ey1⟩ : ∃ z : Int32, z = ((u 11 s9) + ((u 13 s9) / 5)) - (2 * (u 14 s9)) := ⟨_, rfl⟩
  rw [← ey1]
  refine lv_istore_n (lv' := [(2, .int y1), (0, .ref (a 10)), (1, .int (nI s9))]) hx hb dX0_minutesNeeded_24 rfl hl (by decide) rfl (fun ls hl => ?_)
  refine lv_iload_n hx hb dX0_minutesNeeded_25 rfl (lv_at hl 0 rfl) ?_
  refine lv_iconst (v := 1) hx hb dX0_minutesNeeded_26 (by decide) ?_
  refine lv_icmp_ge (tgt := 34) hx hb dX0_minutesNeeded_27 (by decide) (fun c2 => ?_) (fun c2 => ?_)
  · skip
    refine lv_iload_n hx hb dX0_minutesNeeded_34 rfl (lv_at hl 0 rfl) ?_
    exact fin _ _ _ _ _ _ _ _ (by (try subst ey1); simp only [needF, c2, ↓reduceIte, not_false_eq_true, not_true_eq_false, and_true, true_and, and_false, false_and, or_true, true_or, or_false, false_or, and_self, or_self]) rfl hP hD hS (Nat.le_of_ble_eq_true rfl) (Nat.le_of_ble_eq_true rfl) dX0_minutesNeeded_35
  · skip
    refine lv_iconst (v := 1) hx hb dX0_minutesNeeded_30 (by decide) ?_
    refine lv_goto (tgt := 35) hx hb dX0_minutesNeeded_31 (by decide) ?_
    exact fin _ _ _ _ _ _ _ _ (by (try subst ey1); simp only [needF, c2, ↓reduceIte, not_false_eq_true, not_true_eq_false, and_true, true_and, and_false, false_and, or_true, true_or, or_false, false_or, and_self, or_self]) rfl hP hD hS (Nat.le_of_ble_eq_true rfl) (Nat.le_of_ble_eq_true rfl) dX0_minutesNeeded_35
set_option maxHeartbeats 4000000 in
set_option maxRecDepth 100000 in
theorem c_X0_takeUp (l : Launch) (D : va_G) (cI : ClassId) (a : Nat → Nat) (u : Rc) (s9 : Nat) (hs : s9 < 4) (x : Int32) (ex : x = nI s9) (y : Int32) : CV l yX0_takeUp wsX0_takeUp ({ frames := 1, cells := 0, slots := 0, locals := 22 } : Room) D cI [.ref (a 10), .int x, .int y] (wCrew cI a u) (wCrew cI a (takeF u s9 y)) := by
  refine CV.mk (cc := cX0_takeUp) (maxL := 3) (by decide) rfl (Nat.le_of_ble_eq_true rfl) ?_
  intro p e s m args below meth c A Q ls hx hb hts hown hml hK hN hA hP hD hS hl fin
  have hown : s.vm.findClass RX0 = some m.cls := hown
  subst ex
  have hl : lv_has ls 3 [(0, .ref (a 10)), (1, .int (nI s9)), (2, .int y)] := hl
  have f28 := hts (.fieldLink RX0 28 "NightSorters$Crew" "held" "[I") (by decide +kernel)
  have f31 := hts (.fieldLink RX0 31 "NightSorters$Crew" "minutesLeft" "[I") (by decide +kernel)
  have inX0 : ∀ w ∈ wsX00, w ∈ wsX0_takeUp := by decide +kernel
  refine lv_aload_n hx hb dX0_takeUp_0 rfl (lv_at hl 0 rfl) ?_
  refine va_get (D := D) (ci := 0) (v := .ref (a 15)) (C := RX0) (T := TX0) (N := 8) hx hb hts inX0 hown hK hP 0 rfl rfl 5 (by decide) f28 (fun _ h9 => h9) rfl dX0_takeUp_1 ?_
  refine lv_iload_n hx hb dX0_takeUp_4 rfl (lv_at hl 1 rfl) ?_
  refine lv_iload_n hx hb dX0_takeUp_5 rfl (lv_at hl 2 rfl) ?_
  obtain ⟨u1, eu1⟩ : ∃ z : Rc, z = put u 15 s9 y := ⟨_, rfl⟩
  refine xast hx hb hK hP hD hS 5 rfl rfl (s9) (rfl) (by omega) (by decide) (wCrew cI a u1) (by subst eu1; rfl) dX0_takeUp_6 (fun H locs hP hD hS => ?_)
  refine lv_aload_n hx hb dX0_takeUp_7 rfl (lv_at hl 0 rfl) ?_
  refine va_get (D := D) (ci := 0) (v := .ref (a 16)) (C := RX0) (T := TX0) (N := 8) hx hb hts inX0 hown hK hP 0 rfl rfl 6 (by decide) f31 (fun _ h9 => h9) rfl dX0_takeUp_8 ?_
  refine lv_iload_n hx hb dX0_takeUp_11 rfl (lv_at hl 1 rfl) ?_
  refine lv_aload_n hx hb dX0_takeUp_12 rfl (lv_at hl 0 rfl) ?_
  refine lv_iload_n hx hb dX0_takeUp_13 rfl (lv_at hl 1 rfl) ?_
  refine ycalli (invV (As := [.int (nI s9)]) (rest := [.int (nI s9), .ref (a 16)]) (rm := ({ frames := 0, cells := 0, slots := 0, locals := 0 } : Room)) ⟨hx, hb, hml, hown, hts⟩ (cwV 1 hts gX0_takeUp_X0_minutesNeeded rfl rfl rfl (by decide +kernel) ⟨Nat.le_of_ble_eq_true rfl, Nat.le_of_ble_eq_true rfl⟩) (va_recv hK hP (ci := 0) (q0 := 0) rfl rfl) rfl rfl hl.1 (Nat.le_of_ble_eq_true rfl) dX0_takeUp_14) (c_X0_minutesNeeded l D cI a u1 s9 hs (nI s9) rfl) hK hN hA hP hD hS (W2 := wCrew cI a u1) [0, 1, 2, 3, 4, 5, 6, 7] [] [0, 1, 2, 3, 4, 5, 6, 7] rfl rfl rfl (by decide) ⟨Nat.le_of_ble_eq_true rfl, Nat.le_of_ble_eq_true rfl⟩ (fun H locs hP hD hS => ?_)
  obtain ⟨u2, eu2⟩ : ∃ z : Rc, z = put u1 16 s9 (needF u1 s9) := ⟨_, rfl⟩
  refine xast hx hb hK hP hD hS 6 rfl rfl (s9) (rfl) (by omega) (by decide) (wCrew cI a u2) (by subst eu2; rfl) dX0_takeUp_17 (fun H locs hP hD hS => ?_)
  have h3 : u2 = takeF u s9 y := (by (try subst eu2); (try subst eu1); simp only [takeF, ↓reduceIte, not_false_eq_true, not_true_eq_false, and_true, true_and, and_false, false_and, or_true, true_or, or_false, false_or, and_self, or_self])
  exact fin _ _ _ _ _ _ _ (by rw [h3]) hP hD hS (Nat.le_of_ble_eq_true rfl) (Nat.le_of_ble_eq_true rfl) dX0_takeUp_18
set_option maxHeartbeats 4000000 in
set_option maxRecDepth 100000 in
theorem c_X0_freeHands (l : Launch) (D : va_G) (cI : ClassId) (a : Nat → Nat) (u : Rc) (s9 : Nat) (hs : s9 < 4) (x : Int32) (ex : x = nI s9) : CV l yX0_freeHands wsX0_freeHands ({ frames := 0, cells := 0, slots := 0, locals := 0 } : Room) D cI [.ref (a 10), .int x] (wCrew cI a u) (wCrew cI a (freeF u s9)) := by
  refine CV.mk (cc := cX0_freeHands) (maxL := 2) (by decide) rfl (Nat.le_of_ble_eq_true rfl) ?_
  intro p e s m args below meth c A Q ls hx hb hts hown hml hK hN hA hP hD hS hl fin
  have hown : s.vm.findClass RX0 = some m.cls := hown
  subst ex
  have hl : lv_has ls 2 [(0, .ref (a 10)), (1, .int (nI s9))] := hl
  have f28 := hts (.fieldLink RX0 28 "NightSorters$Crew" "held" "[I") (by decide +kernel)
  have f31 := hts (.fieldLink RX0 31 "NightSorters$Crew" "minutesLeft" "[I") (by decide +kernel)
  have inX0 : ∀ w ∈ wsX00, w ∈ wsX0_freeHands := by decide +kernel
  refine lv_aload_n hx hb dX0_freeHands_0 rfl (lv_at hl 0 rfl) ?_
  refine va_get (D := D) (ci := 0) (v := .ref (a 15)) (C := RX0) (T := TX0) (N := 8) hx hb hts inX0 hown hK hP 0 rfl rfl 5 (by decide) f28 (fun _ h9 => h9) rfl dX0_freeHands_1 ?_
  refine lv_iload_n hx hb dX0_freeHands_4 rfl (lv_at hl 1 rfl) ?_
  refine lv_iconst (v := (-1)) hx hb dX0_freeHands_5 (by decide) ?_
  obtain ⟨u1, eu1⟩ : ∃ z : Rc, z = put u 15 s9 (-1) := ⟨_, rfl⟩
  refine xast hx hb hK hP hD hS 5 rfl rfl (s9) (rfl) (by omega) (by decide) (wCrew cI a u1) (by subst eu1; rfl) dX0_freeHands_6 (fun H locs hP hD hS => ?_)
  refine lv_aload_n hx hb dX0_freeHands_7 rfl (lv_at hl 0 rfl) ?_
  refine va_get (D := D) (ci := 0) (v := .ref (a 16)) (C := RX0) (T := TX0) (N := 8) hx hb hts inX0 hown hK hP 0 rfl rfl 6 (by decide) f31 (fun _ h9 => h9) rfl dX0_freeHands_8 ?_
  refine lv_iload_n hx hb dX0_freeHands_11 rfl (lv_at hl 1 rfl) ?_
  refine lv_iconst (v := 0) hx hb dX0_freeHands_12 (by decide) ?_
  obtain ⟨u2, eu2⟩ : ∃ z : Rc, z = put u1 16 s9 0 := ⟨_, rfl⟩
  refine xast hx hb hK hP hD hS 6 rfl rfl (s9) (rfl) (by omega) (by decide) (wCrew cI a u2) (by subst eu2; rfl) dX0_freeHands_13 (fun H locs hP hD hS => ?_)
  have h3 : u2 = freeF u s9 := (by (try subst eu2); (try subst eu1); simp only [freeF, ↓reduceIte, not_false_eq_true, not_true_eq_false, and_true, true_and, and_false, false_and, or_true, true_or, or_false, false_or, and_self, or_self])
  exact fin _ _ _ _ _ _ _ (by rw [h3]) hP hD hS (Nat.le_of_ble_eq_true rfl) (Nat.le_of_ble_eq_true rfl) dX0_freeHands_14
set_option maxHeartbeats 4000000 in
set_option maxRecDepth 100000 in
theorem c_X0_spillTea (l : Launch) (D : va_G) (cI : ClassId) (a : Nat → Nat) (u : Rc) (ok : Ok u) : CV l yX0_spillTea wsX0_spillTea ({ frames := 0, cells := 0, slots := 0, locals := 0 } : Room) D cI [.ref (a 10)] (wCrew cI a u) (wCrew cI a (spTeaF u)) := by
  refine CV.mk (cc := cX0_spillTea) (maxL := 2) (by decide) rfl (Nat.le_of_ble_eq_true rfl) ?_
  intro p e s m args below meth c A Q ls hx hb hts hown hml hK hN hA hP hD hS hl fin
  have hown : s.vm.findClass RX0 = some m.cls := hown
  have hk4 := ok.k4
  have hl : lv_has ls 2 [(0, .ref (a 10))] := hl
  have f9 := hts (.fieldLink RX0 9 "NightSorters$Crew" "size" "I") (by decide +kernel)
  have f25 := hts (.fieldLink RX0 25 "NightSorters$Crew" "withTea" "[I") (by decide +kernel)
  have inX0 : ∀ w ∈ wsX00, w ∈ wsX0_spillTea := by decide +kernel
  refine lv_iconst (v := 0) hx hb dX0_spillTea_0 (by decide) ?_
  refine lv_istore_n (lv' := [(1, .int 0), (0, .ref (a 10))]) hx hb dX0_spillTea_1 rfl hl (by decide) rfl (fun ls hl => ?_)
  have K2 : ∀ (n2 i2 : Nat), 0 ≤ i2 → i2 ≤ iv (u 10 0) → iv (u 10 0) < i2 + n2 → ∀ (H : Heap) (locs : List Loc), va_P D vwCl (wCrew cI a (itN (fun s w => put w 14 s 0) i2 u)) H → va_D A (wCrew cI a (itN (fun s w => put w 14 s 0) i2 u)) → va_S A s.heap H locs → ∀ (ls : Array Slot), lv_has ls 2 [(1, .int (nI i2)), (0, .ref (a 10))] → W p l e ({ frames := 0, cells := 0, slots := 0, locals := 0 } : Room) s m args below meth c H locs (0) (0) Q (F0 m 2 ls []) := by
    intro n2
    induction n2 with
    | zero => intro i2 hlo2 hi2 hn2; exact absurd hn2 (by omega)
    | succ n2 ih2 =>
      intro i2 hlo2 hi2 hn2 H locs hP hD hS ls hl
      obtain ⟨u1, eu1⟩ : ∃ z : Rc, z = itN (fun s w => put w 14 s 0) i2 u := ⟨_, rfl⟩
      rw [← eu1] at hP hD
      have hp : Pr u u1 := by rw [eu1]; exact Pr.it (fun _ _ => Pr.pt 14 Pr.rf (by omega) (fun _ => trivial)) _
      have hb0 := hp.k ok
      refine lv_iload_n hx hb dX0_spillTea_2 rfl (lv_at hl 0 rfl) ?_
      refine lv_aload_n hx hb dX0_spillTea_3 rfl (lv_at hl 1 rfl) ?_
      refine va_get (D := D) (ci := 0) (v := .int (u1 10 0)) (C := RX0) (T := TX0) (N := 8) hx hb hts inX0 hown hK hP 0 rfl rfl 0 (by decide) f9 (fun _ h9 => h9) rfl dX0_spillTea_4 ?_
      refine lv_icmp_ge (tgt := 23) hx hb dX0_spillTea_7 (by decide) (fun c2 => ?_) (fun c2 => ?_)
      · skip
        have hie := lp_out hb0 (by omega) hi2 c2
        have h3 : u1 = spTeaF u := (by rw [eu1, hie]; rfl)
        exact fin _ _ _ _ _ _ _ (by rw [h3]) hP hD hS (Nat.le_of_ble_eq_true rfl) (Nat.le_of_ble_eq_true rfl) dX0_spillTea_23
      · skip
        have hlt := lp_in hb0 (by omega) hi2 c2
        refine lv_aload_n hx hb dX0_spillTea_10 rfl (lv_at hl 1 rfl) ?_
        refine va_get (D := D) (ci := 0) (v := .ref (a 14)) (C := RX0) (T := TX0) (N := 8) hx hb hts inX0 hown hK hP 0 rfl rfl 4 (by decide) f25 (fun _ h9 => h9) rfl dX0_spillTea_11 ?_
        refine lv_iload_n hx hb dX0_spillTea_14 rfl (lv_at hl 0 rfl) ?_
        refine lv_iconst (v := 0) hx hb dX0_spillTea_15 (by decide) ?_
        obtain ⟨u4, eu4⟩ : ∃ z : Rc, z = put u1 14 i2 0 := ⟨_, rfl⟩
        refine xast hx hb hK hP hD hS 4 rfl rfl (i2) (rfl) (by omega) (by decide) (wCrew cI a u4) (by subst eu4; rfl) dX0_spillTea_16 (fun H locs hP hD hS => ?_)
        refine lv_iinc (v := nI (i2 + 1)) (lv' := [(1, .int (nI (i2 + 1))), (0, .ref (a 10))]) hx hb dX0_spillTea_17 hl (k := 0) rfl (nI_inc _) (by decide) rfl (fun ls hl => ?_)
        refine lv_goto (tgt := 2) hx hb dX0_spillTea_20 (by decide) ?_
        have h5 : u4 = itN (fun s w => put w 14 s 0) (i2 + 1) u := by rw [itN_s, ← eu1]; (try subst eu4); simp only [c2, ↓reduceIte, not_false_eq_true, not_true_eq_false, and_true, true_and, and_false, false_and, or_true, true_or, or_false, false_or, and_self, or_self]
        rw [h5] at hP hD
        exact ih2 (i2 + 1) (by omega) (by omega) (by omega) H locs hP hD hS ls (lv_sub hl [0, 1] rfl)
  exact K2 (iv (u 10 0) + 1) 0 (Nat.le_refl _) (by omega) (by omega) _ _ hP hD hS ls (lv_sub hl [0, 1] rfl)
set_option maxHeartbeats 4000000 in
set_option maxRecDepth 100000 in
theorem c_X0_tireAll (l : Launch) (D : va_G) (cI : ClassId) (a : Nat → Nat) (u : Rc) (ok : Ok u) (x : Int32) : CV l yX0_tireAll wsX0_tireAll ({ frames := 0, cells := 0, slots := 0, locals := 0 } : Room) D cI [.ref (a 10), .int x] (wCrew cI a u) (wCrew cI a (tireF x u)) := by
  refine CV.mk (cc := cX0_tireAll) (maxL := 3) (by decide) rfl (Nat.le_of_ble_eq_true rfl) ?_
  intro p e s m args below meth c A Q ls hx hb hts hown hml hK hN hA hP hD hS hl fin
  have hown : s.vm.findClass RX0 = some m.cls := hown
  have hk4 := ok.k4
  have hl : lv_has ls 3 [(0, .ref (a 10)), (1, .int x)] := hl
  have f9 := hts (.fieldLink RX0 9 "NightSorters$Crew" "size" "I") (by decide +kernel)
  have f22 := hts (.fieldLink RX0 22 "NightSorters$Crew" "tired" "[I") (by decide +kernel)
  have inX0 : ∀ w ∈ wsX00, w ∈ wsX0_tireAll := by decide +kernel
  refine lv_iconst (v := 0) hx hb dX0_tireAll_0 (by decide) ?_
  refine lv_istore_n (lv' := [(2, .int 0), (0, .ref (a 10)), (1, .int x)]) hx hb dX0_tireAll_1 rfl hl (by decide) rfl (fun ls hl => ?_)
  have K2 : ∀ (n2 i2 : Nat), 0 ≤ i2 → i2 ≤ iv (u 10 0) → iv (u 10 0) < i2 + n2 → ∀ (H : Heap) (locs : List Loc), va_P D vwCl (wCrew cI a (itN (fun s w => put w 13 s (w 13 s + x)) i2 u)) H → va_D A (wCrew cI a (itN (fun s w => put w 13 s (w 13 s + x)) i2 u)) → va_S A s.heap H locs → ∀ (ls : Array Slot), lv_has ls 3 [(2, .int (nI i2)), (0, .ref (a 10)), (1, .int x)] → W p l e ({ frames := 0, cells := 0, slots := 0, locals := 0 } : Room) s m args below meth c H locs (0) (0) Q (F0 m 2 ls []) := by
    intro n2
    induction n2 with
    | zero => intro i2 hlo2 hi2 hn2; exact absurd hn2 (by omega)
    | succ n2 ih2 =>
      intro i2 hlo2 hi2 hn2 H locs hP hD hS ls hl
      obtain ⟨u1, eu1⟩ : ∃ z : Rc, z = itN (fun s w => put w 13 s (w 13 s + x)) i2 u := ⟨_, rfl⟩
      rw [← eu1] at hP hD
      have hp : Pr u u1 := by rw [eu1]; exact Pr.it (fun _ _ => Pr.pt 13 Pr.rf (by omega) (fun _ => trivial)) _
      have hb0 := hp.k ok
      refine lv_iload_n hx hb dX0_tireAll_2 rfl (lv_at hl 0 rfl) ?_
      refine lv_aload_n hx hb dX0_tireAll_3 rfl (lv_at hl 1 rfl) ?_
      refine va_get (D := D) (ci := 0) (v := .int (u1 10 0)) (C := RX0) (T := TX0) (N := 8) hx hb hts inX0 hown hK hP 0 rfl rfl 0 (by decide) f9 (fun _ h9 => h9) rfl dX0_tireAll_4 ?_
      refine lv_icmp_ge (tgt := 26) hx hb dX0_tireAll_7 (by decide) (fun c2 => ?_) (fun c2 => ?_)
      · skip
        have hie := lp_out hb0 (by omega) hi2 c2
        have h3 : u1 = tireF x u := (by rw [eu1, hie]; rfl)
        exact fin _ _ _ _ _ _ _ (by rw [h3]) hP hD hS (Nat.le_of_ble_eq_true rfl) (Nat.le_of_ble_eq_true rfl) dX0_tireAll_26
      · skip
        have hlt := lp_in hb0 (by omega) hi2 c2
        refine lv_aload_n hx hb dX0_tireAll_10 rfl (lv_at hl 1 rfl) ?_
        refine va_get (D := D) (ci := 0) (v := .ref (a 13)) (C := RX0) (T := TX0) (N := 8) hx hb hts inX0 hown hK hP 0 rfl rfl 3 (by decide) f22 (fun _ h9 => h9) rfl dX0_tireAll_11 ?_
        refine lv_iload_n hx hb dX0_tireAll_14 rfl (lv_at hl 0 rfl) ?_
        refine lv_dup2_11 hx hb dX0_tireAll_15 rfl rfl ?_
        refine xald hx hb hK hP 3 rfl rfl (i2) (rfl) (by omega) (by decide) dX0_tireAll_16 ?_
        refine lv_iload_n hx hb dX0_tireAll_17 rfl (lv_at hl 2 rfl) ?_
        refine lv_iadd hx hb dX0_tireAll_18 ?_
        obtain ⟨u4, eu4⟩ : ∃ z : Rc, z = put u1 13 i2 ((u1 13 i2) + x) := ⟨_, rfl⟩
        refine xast hx hb hK hP hD hS 3 rfl rfl (i2) (rfl) (by omega) (by decide) (wCrew cI a u4) (by subst eu4; rfl) dX0_tireAll_19 (fun H locs hP hD hS => ?_)
        refine lv_iinc (v := nI (i2 + 1)) (lv' := [(2, .int (nI (i2 + 1))), (0, .ref (a 10)), (1, .int x)]) hx hb dX0_tireAll_20 hl (k := 0) rfl (nI_inc _) (by decide) rfl (fun ls hl => ?_)
        refine lv_goto (tgt := 2) hx hb dX0_tireAll_23 (by decide) ?_
        have h5 : u4 = itN (fun s w => put w 13 s (w 13 s + x)) (i2 + 1) u := by rw [itN_s, ← eu1]; (try subst eu4); simp only [c2, ↓reduceIte, not_false_eq_true, not_true_eq_false, and_true, true_and, and_false, false_and, or_true, true_or, or_false, false_or, and_self, or_self]
        rw [h5] at hP hD
        exact ih2 (i2 + 1) (by omega) (by omega) (by omega) H locs hP hD hS ls (lv_sub hl [0, 1, 2] rfl)
  exact K2 (iv (u 10 0) + 1) 0 (Nat.le_refl _) (by omega) (by omega) _ _ hP hD hS ls (lv_sub hl [0, 1, 2] rfl)
set_option maxHeartbeats 4000000 in
set_option maxRecDepth 100000 in
theorem c_X0_copyFrom (l : Launch) (D : va_G) (cI : ClassId) (a b : Nat → Nat) (u v : Rc) : CV l yX0_copyFrom wsX0_copyFrom ({ frames := 1, cells := 0, slots := 0, locals := 60 } : Room) D cI [.ref (a 10), .ref (b 10)] (wCrew2 cI a b u v) (wCrew2 cI a b v v) := by
  refine CV.mk (cc := cX0_copyFrom) (maxL := 2) (by decide) rfl (Nat.le_of_ble_eq_true rfl) ?_
  intro p e s m args below meth c A Q ls hx hb hts hown hml hK hN hA hP hD hS hl fin
  have hown : s.vm.findClass RX0 = some m.cls := hown
  have hl : lv_has ls 2 [(0, .ref (a 10)), (1, .ref (b 10))] := hl
  have f9 := hts (.fieldLink RX0 9 "NightSorters$Crew" "size" "I") (by decide +kernel)
  have f15 := hts (.fieldLink RX0 15 "NightSorters$Crew" "pace" "[I") (by decide +kernel)
  have f19 := hts (.fieldLink RX0 19 "NightSorters$Crew" "towns" "[I") (by decide +kernel)
  have f22 := hts (.fieldLink RX0 22 "NightSorters$Crew" "tired" "[I") (by decide +kernel)
  have f25 := hts (.fieldLink RX0 25 "NightSorters$Crew" "withTea" "[I") (by decide +kernel)
  have f28 := hts (.fieldLink RX0 28 "NightSorters$Crew" "held" "[I") (by decide +kernel)
  have f31 := hts (.fieldLink RX0 31 "NightSorters$Crew" "minutesLeft" "[I") (by decide +kernel)
  have f34 := hts (.fieldLink RX0 34 "NightSorters$Crew" "sorted" "[I") (by decide +kernel)
  have inX0 : ∀ w ∈ wsX00, w ∈ wsX0_copyFrom := by decide +kernel
  refine lv_aload_n hx hb dX0_copyFrom_0 rfl (lv_at hl 0 rfl) ?_
  refine lv_aload_n hx hb dX0_copyFrom_1 rfl (lv_at hl 1 rfl) ?_
  refine va_get (D := D) (ci := 0) (v := .int (v 10 0)) (C := RX0) (T := TX0) (N := 8) hx hb hts inX0 hown hK hP 8 rfl rfl 0 (by decide) f9 (fun _ h9 => h9) rfl dX0_copyFrom_2 ?_
  obtain ⟨u1, eu1⟩ : ∃ z : Rc, z = put u 10 0 (v 10 0) := ⟨_, rfl⟩
  refine va_put (D := D) (ci := 0) (v := .int (v 10 0)) (ty := .int) (C := RX0) (T := TX0) (N := 8) hx hb hts inX0 tyX0 tyX0_ok nmX0 hown hK hP hD hS 0 rfl rfl 0 (by decide) f9 (fun _ h9 => h9) rfl (by decide +kernel) rfl rfl (Nat.le_of_ble_eq_true rfl) dX0_copyFrom_5 (fun H locs hP hD hS => ?_)
  have hP : va_P D vwCl (wCrew2 cI a b u1 v) H := by subst eu1; exact hP
  have hD : va_D A (wCrew2 cI a b u1 v) := by subst eu1; exact hD
  refine lv_aload_n hx hb dX0_copyFrom_8 rfl (lv_at hl 1 rfl) ?_
  refine va_get (D := D) (ci := 0) (v := .ref (b 11)) (C := RX0) (T := TX0) (N := 8) hx hb hts inX0 hown hK hP 8 rfl rfl 1 (by decide) f15 (fun _ h9 => h9) rfl dX0_copyFrom_9 ?_
  refine lv_iconst (v := 0) hx hb dX0_copyFrom_12 (by decide) ?_
  refine lv_aload_n hx hb dX0_copyFrom_13 rfl (lv_at hl 0 rfl) ?_
  refine va_get (D := D) (ci := 0) (v := .ref (a 11)) (C := RX0) (T := TX0) (N := 8) hx hb hts inX0 hown hK hP 0 rfl rfl 1 (by decide) f15 (fun _ h9 => h9) rfl dX0_copyFrom_14 ?_
  refine lv_iconst (v := 0) hx hb dX0_copyFrom_17 (by decide) ?_
  refine lv_iconst (v := 4) hx hb dX0_copyFrom_18 (by decide) ?_
  obtain ⟨u2, eu2⟩ : ∃ z : Rc, z = setR u1 11 (v 11) := ⟨_, rfl⟩
  refine xcopy hx hb (hml.trans hl.1.symm) hown (hts (.methodLink RX0 41 arraycopyName) (by decide +kernel)) (hts (.native arraycopyName) (by decide +kernel)) (hts (.static arraycopyName) (by decide +kernel)) (hts (.initialized "java/lang/System") (by decide +kernel)) hK hP hD hS 9 1 rfl rfl rfl (wCrew2 cI a b u2 v) (by subst eu2; rfl) (by decide) (by decide) (Nat.le_of_ble_eq_true rfl) (Nat.le_of_ble_eq_true rfl) dX0_copyFrom_19 (fun H locs hP hD hS => ?_)
  refine lv_aload_n hx hb dX0_copyFrom_22 rfl (lv_at hl 1 rfl) ?_
  refine va_get (D := D) (ci := 0) (v := .ref (b 12)) (C := RX0) (T := TX0) (N := 8) hx hb hts inX0 hown hK hP 8 rfl rfl 2 (by decide) f19 (fun _ h9 => h9) rfl dX0_copyFrom_23 ?_
  refine lv_iconst (v := 0) hx hb dX0_copyFrom_26 (by decide) ?_
  refine lv_aload_n hx hb dX0_copyFrom_27 rfl (lv_at hl 0 rfl) ?_
  refine va_get (D := D) (ci := 0) (v := .ref (a 12)) (C := RX0) (T := TX0) (N := 8) hx hb hts inX0 hown hK hP 0 rfl rfl 2 (by decide) f19 (fun _ h9 => h9) rfl dX0_copyFrom_28 ?_
  refine lv_iconst (v := 0) hx hb dX0_copyFrom_31 (by decide) ?_
  refine lv_iconst (v := 4) hx hb dX0_copyFrom_32 (by decide) ?_
  obtain ⟨u3, eu3⟩ : ∃ z : Rc, z = setR u2 12 (v 12) := ⟨_, rfl⟩
  refine xcopy hx hb (hml.trans hl.1.symm) hown (hts (.methodLink RX0 41 arraycopyName) (by decide +kernel)) (hts (.native arraycopyName) (by decide +kernel)) (hts (.static arraycopyName) (by decide +kernel)) (hts (.initialized "java/lang/System") (by decide +kernel)) hK hP hD hS 10 2 rfl rfl rfl (wCrew2 cI a b u3 v) (by subst eu3; rfl) (by decide) (by decide) (Nat.le_of_ble_eq_true rfl) (Nat.le_of_ble_eq_true rfl) dX0_copyFrom_33 (fun H locs hP hD hS => ?_)
  refine lv_aload_n hx hb dX0_copyFrom_36 rfl (lv_at hl 1 rfl) ?_
  refine va_get (D := D) (ci := 0) (v := .ref (b 13)) (C := RX0) (T := TX0) (N := 8) hx hb hts inX0 hown hK hP 8 rfl rfl 3 (by decide) f22 (fun _ h9 => h9) rfl dX0_copyFrom_37 ?_
  refine lv_iconst (v := 0) hx hb dX0_copyFrom_40 (by decide) ?_
  refine lv_aload_n hx hb dX0_copyFrom_41 rfl (lv_at hl 0 rfl) ?_
  refine va_get (D := D) (ci := 0) (v := .ref (a 13)) (C := RX0) (T := TX0) (N := 8) hx hb hts inX0 hown hK hP 0 rfl rfl 3 (by decide) f22 (fun _ h9 => h9) rfl dX0_copyFrom_42 ?_
  refine lv_iconst (v := 0) hx hb dX0_copyFrom_45 (by decide) ?_
  refine lv_iconst (v := 4) hx hb dX0_copyFrom_46 (by decide) ?_
  obtain ⟨u4, eu4⟩ : ∃ z : Rc, z = setR u3 13 (v 13) := ⟨_, rfl⟩
  refine xcopy hx hb (hml.trans hl.1.symm) hown (hts (.methodLink RX0 41 arraycopyName) (by decide +kernel)) (hts (.native arraycopyName) (by decide +kernel)) (hts (.static arraycopyName) (by decide +kernel)) (hts (.initialized "java/lang/System") (by decide +kernel)) hK hP hD hS 11 3 rfl rfl rfl (wCrew2 cI a b u4 v) (by subst eu4; rfl) (by decide) (by decide) (Nat.le_of_ble_eq_true rfl) (Nat.le_of_ble_eq_true rfl) dX0_copyFrom_47 (fun H locs hP hD hS => ?_)
  refine lv_aload_n hx hb dX0_copyFrom_50 rfl (lv_at hl 1 rfl) ?_
  refine va_get (D := D) (ci := 0) (v := .ref (b 14)) (C := RX0) (T := TX0) (N := 8) hx hb hts inX0 hown hK hP 8 rfl rfl 4 (by decide) f25 (fun _ h9 => h9) rfl dX0_copyFrom_51 ?_
  refine lv_iconst (v := 0) hx hb dX0_copyFrom_54 (by decide) ?_
  refine lv_aload_n hx hb dX0_copyFrom_55 rfl (lv_at hl 0 rfl) ?_
  refine va_get (D := D) (ci := 0) (v := .ref (a 14)) (C := RX0) (T := TX0) (N := 8) hx hb hts inX0 hown hK hP 0 rfl rfl 4 (by decide) f25 (fun _ h9 => h9) rfl dX0_copyFrom_56 ?_
  refine lv_iconst (v := 0) hx hb dX0_copyFrom_59 (by decide) ?_
  refine lv_iconst (v := 4) hx hb dX0_copyFrom_60 (by decide) ?_
  obtain ⟨u5, eu5⟩ : ∃ z : Rc, z = setR u4 14 (v 14) := ⟨_, rfl⟩
  refine xcopy hx hb (hml.trans hl.1.symm) hown (hts (.methodLink RX0 41 arraycopyName) (by decide +kernel)) (hts (.native arraycopyName) (by decide +kernel)) (hts (.static arraycopyName) (by decide +kernel)) (hts (.initialized "java/lang/System") (by decide +kernel)) hK hP hD hS 12 4 rfl rfl rfl (wCrew2 cI a b u5 v) (by subst eu5; rfl) (by decide) (by decide) (Nat.le_of_ble_eq_true rfl) (Nat.le_of_ble_eq_true rfl) dX0_copyFrom_61 (fun H locs hP hD hS => ?_)
  refine lv_aload_n hx hb dX0_copyFrom_64 rfl (lv_at hl 1 rfl) ?_
  refine va_get (D := D) (ci := 0) (v := .ref (b 15)) (C := RX0) (T := TX0) (N := 8) hx hb hts inX0 hown hK hP 8 rfl rfl 5 (by decide) f28 (fun _ h9 => h9) rfl dX0_copyFrom_65 ?_
  refine lv_iconst (v := 0) hx hb dX0_copyFrom_68 (by decide) ?_
  refine lv_aload_n hx hb dX0_copyFrom_69 rfl (lv_at hl 0 rfl) ?_
  refine va_get (D := D) (ci := 0) (v := .ref (a 15)) (C := RX0) (T := TX0) (N := 8) hx hb hts inX0 hown hK hP 0 rfl rfl 5 (by decide) f28 (fun _ h9 => h9) rfl dX0_copyFrom_70 ?_
  refine lv_iconst (v := 0) hx hb dX0_copyFrom_73 (by decide) ?_
  refine lv_iconst (v := 4) hx hb dX0_copyFrom_74 (by decide) ?_
  obtain ⟨u6, eu6⟩ : ∃ z : Rc, z = setR u5 15 (v 15) := ⟨_, rfl⟩
  refine xcopy hx hb (hml.trans hl.1.symm) hown (hts (.methodLink RX0 41 arraycopyName) (by decide +kernel)) (hts (.native arraycopyName) (by decide +kernel)) (hts (.static arraycopyName) (by decide +kernel)) (hts (.initialized "java/lang/System") (by decide +kernel)) hK hP hD hS 13 5 rfl rfl rfl (wCrew2 cI a b u6 v) (by subst eu6; rfl) (by decide) (by decide) (Nat.le_of_ble_eq_true rfl) (Nat.le_of_ble_eq_true rfl) dX0_copyFrom_75 (fun H locs hP hD hS => ?_)
  refine lv_aload_n hx hb dX0_copyFrom_78 rfl (lv_at hl 1 rfl) ?_
  refine va_get (D := D) (ci := 0) (v := .ref (b 16)) (C := RX0) (T := TX0) (N := 8) hx hb hts inX0 hown hK hP 8 rfl rfl 6 (by decide) f31 (fun _ h9 => h9) rfl dX0_copyFrom_79 ?_
  refine lv_iconst (v := 0) hx hb dX0_copyFrom_82 (by decide) ?_
  refine lv_aload_n hx hb dX0_copyFrom_83 rfl (lv_at hl 0 rfl) ?_
  refine va_get (D := D) (ci := 0) (v := .ref (a 16)) (C := RX0) (T := TX0) (N := 8) hx hb hts inX0 hown hK hP 0 rfl rfl 6 (by decide) f31 (fun _ h9 => h9) rfl dX0_copyFrom_84 ?_
  refine lv_iconst (v := 0) hx hb dX0_copyFrom_87 (by decide) ?_
  refine lv_iconst (v := 4) hx hb dX0_copyFrom_88 (by decide) ?_
  obtain ⟨u7, eu7⟩ : ∃ z : Rc, z = setR u6 16 (v 16) := ⟨_, rfl⟩
  refine xcopy hx hb (hml.trans hl.1.symm) hown (hts (.methodLink RX0 41 arraycopyName) (by decide +kernel)) (hts (.native arraycopyName) (by decide +kernel)) (hts (.static arraycopyName) (by decide +kernel)) (hts (.initialized "java/lang/System") (by decide +kernel)) hK hP hD hS 14 6 rfl rfl rfl (wCrew2 cI a b u7 v) (by subst eu7; rfl) (by decide) (by decide) (Nat.le_of_ble_eq_true rfl) (Nat.le_of_ble_eq_true rfl) dX0_copyFrom_89 (fun H locs hP hD hS => ?_)
  refine lv_aload_n hx hb dX0_copyFrom_92 rfl (lv_at hl 1 rfl) ?_
  refine va_get (D := D) (ci := 0) (v := .ref (b 17)) (C := RX0) (T := TX0) (N := 8) hx hb hts inX0 hown hK hP 8 rfl rfl 7 (by decide) f34 (fun _ h9 => h9) rfl dX0_copyFrom_93 ?_
  refine lv_iconst (v := 0) hx hb dX0_copyFrom_96 (by decide) ?_
  refine lv_aload_n hx hb dX0_copyFrom_97 rfl (lv_at hl 0 rfl) ?_
  refine va_get (D := D) (ci := 0) (v := .ref (a 17)) (C := RX0) (T := TX0) (N := 8) hx hb hts inX0 hown hK hP 0 rfl rfl 7 (by decide) f34 (fun _ h9 => h9) rfl dX0_copyFrom_98 ?_
  refine lv_iconst (v := 0) hx hb dX0_copyFrom_101 (by decide) ?_
  refine lv_iconst (v := 4) hx hb dX0_copyFrom_102 (by decide) ?_
  obtain ⟨u8, eu8⟩ : ∃ z : Rc, z = setR u7 17 (v 17) := ⟨_, rfl⟩
  refine xcopy hx hb (hml.trans hl.1.symm) hown (hts (.methodLink RX0 41 arraycopyName) (by decide +kernel)) (hts (.native arraycopyName) (by decide +kernel)) (hts (.static arraycopyName) (by decide +kernel)) (hts (.initialized "java/lang/System") (by decide +kernel)) hK hP hD hS 15 7 rfl rfl rfl (wCrew2 cI a b u8 v) (by subst eu8; rfl) (by decide) (by decide) (Nat.le_of_ble_eq_true rfl) (Nat.le_of_ble_eq_true rfl) dX0_copyFrom_103 (fun H locs hP hD hS => ?_)
  exact fin _ _ _ _ _ _ _ (by (try subst eu8); (try subst eu7); (try subst eu6); (try subst eu5); (try subst eu4); (try subst eu3); (try subst eu2); (try subst eu1); rfl) hP hD hS (Nat.le_of_ble_eq_true rfl) (Nat.le_of_ble_eq_true rfl) dX0_copyFrom_106
set_option maxHeartbeats 4000000 in
set_option maxRecDepth 100000 in
theorem c_X1_passedIn (l : Launch) (D : va_G) (cI : ClassId) (g : Nat → Nat) (r : Rc) (x : Int32) : CI l yX1_passedIn wsX1_passedIn ({ frames := 0, cells := 0, slots := 0, locals := 0 } : Room) D cI [.ref (g 0), .int x] (wLine cI g r) (psdF r x) (wLine cI g r) := by
  refine CI.mk (cc := cX1_passedIn) (maxL := 3) (ret := (some .int)) rfl rfl (by decide) rfl (Nat.le_of_ble_eq_true rfl) ?_
  intro p e s m args below meth c A Q ls hx hb hts hown hml hK hN hA hP hD hS hl fin
  have hown : s.vm.findClass RX1 = some m.cls := hown
  have hl : lv_has ls 3 [(0, .ref (g 0)), (1, .int x)] := hl
  have f9 := hts (.fieldLink RX1 9 "NightSorters$Line" "minutes" "[I") (by decide +kernel)
  have inX1 : ∀ w ∈ wsX10, w ∈ wsX1_passedIn := by decide +kernel
  refine lv_iconst (v := 0) hx hb dX1_passedIn_0 (by decide) ?_
  refine lv_istore_n (lv' := [(2, .int 0), (0, .ref (g 0)), (1, .int x)]) hx hb dX1_passedIn_1 rfl hl (by decide) rfl (fun ls hl => ?_)
  have K2 : ∀ (n2 i2 : Nat), 0 ≤ i2 → i2 ≤ 8 → 8 < i2 + n2 → (∀ k, k < i2 → decide (r 20 k = x) = false) → ∀ (H : Heap) (locs : List Loc), va_P D vwCl (wLine cI g r) H → va_D A (wLine cI g r) → va_S A s.heap H locs → ∀ (ls : Array Slot), lv_has ls 3 [(2, .int (nI i2)), (0, .ref (g 0)), (1, .int x)] → W p l e ({ frames := 0, cells := 0, slots := 0, locals := 0 } : Room) s m args below meth c H locs (0) (0) Q (F0 m 2 ls []) := by
    intro n2
    induction n2 with
    | zero => intro i2 hlo2 hi2 hn2; exact absurd hn2 (by omega)
    | succ n2 ih2 =>
      intro i2 hlo2 hi2 hn2 hno H locs hP hD hS ls hl
      refine lv_iload_n hx hb dX1_passedIn_2 rfl (lv_at hl 0 rfl) ?_
      refine lv_bipush (v := 8) hx hb dX1_passedIn_3 (by decide) ?_
      refine lv_icmp_ge (tgt := 26) hx hb dX1_passedIn_5 (by decide) (fun c1 => ?_) (fun c1 => ?_)
      · skip
        have hie := lp_out (show (8 : Int32) = nI 8 from rfl) (by decide) hi2 c1
        subst hie
        refine lv_iconst (v := (-1)) hx hb dX1_passedIn_26 (by decide) ?_
        exact fin _ _ _ _ _ _ _ _ (by exact (fnd_no hno).symm) rfl hP hD hS (Nat.le_of_ble_eq_true rfl) (Nat.le_of_ble_eq_true rfl) dX1_passedIn_27
      · skip
        have hlt := lp_in (show (8 : Int32) = nI 8 from rfl) (by decide) hi2 c1
        refine lv_aload_n hx hb dX1_passedIn_8 rfl (lv_at hl 1 rfl) ?_
        refine va_get (D := D) (ci := 1) (v := .ref (g 20)) (C := RX1) (T := TX1) (N := 2) hx hb hts inX1 hown hK hP 0 rfl rfl 0 (by decide) f9 (fun _ h9 => h9) rfl dX1_passedIn_9 ?_
        refine lv_iload_n hx hb dX1_passedIn_12 rfl (lv_at hl 0 rfl) ?_
        refine xald hx hb hK hP 1 rfl rfl (i2) (rfl) (by omega) (by decide) dX1_passedIn_13 ?_
        refine lv_iload_n hx hb dX1_passedIn_14 rfl (lv_at hl 2 rfl) ?_
        refine lv_icmp_ne (tgt := 20) hx hb dX1_passedIn_15 (by decide) (fun c2 => ?_) (fun c2 => ?_)
        · skip
          refine lv_iinc (v := nI (i2 + 1)) (lv' := [(2, .int (nI (i2 + 1))), (0, .ref (g 0)), (1, .int x)]) hx hb dX1_passedIn_20 hl (k := 0) rfl (nI_inc _) (by decide) rfl (fun ls hl => ?_)
          refine lv_goto (tgt := 2) hx hb dX1_passedIn_23 (by decide) ?_
          exact ih2 (i2 + 1) (by omega) (by omega) (by omega) (lt_s hno (decide_eq_false (by first | exact c2 | exact fun h => h c2))) H locs hP hD hS ls (lv_sub hl [0, 1, 2] rfl)
        · skip
          refine lv_iload_n hx hb dX1_passedIn_18 rfl (lv_at hl 0 rfl) ?_
          exact fin _ _ _ _ _ _ _ _ (by exact (fnd_at (decide_eq_true c2) hno (by omega) (by decide)).symm) rfl hP hD hS (Nat.le_of_ble_eq_true rfl) (Nat.le_of_ble_eq_true rfl) dX1_passedIn_19
  exact K2 (8 + 1) 0 (Nat.le_refl _) (by omega) (by omega) (fun k hk => absurd hk (by omega)) _ _ hP hD hS ls (lv_sub hl [0, 1, 2] rfl)
set_option maxHeartbeats 4000000 in
set_option maxRecDepth 100000 in
theorem c_X1_nextFrom (l : Launch) (D : va_G) (cI : ClassId) (g : Nat → Nat) (r : Rc) (x : Int32) : CI l yX1_nextFrom wsX1_nextFrom ({ frames := 0, cells := 0, slots := 0, locals := 0 } : Room) D cI [.ref (g 0), .int x] (wLine cI g r) (nxtF r x) (wLine cI g r) := by
  refine CI.mk (cc := cX1_nextFrom) (maxL := 3) (ret := (some .int)) rfl rfl (by decide) rfl (Nat.le_of_ble_eq_true rfl) ?_
  intro p e s m args below meth c A Q ls hx hb hts hown hml hK hN hA hP hD hS hl fin
  have hown : s.vm.findClass RX1 = some m.cls := hown
  have hl : lv_has ls 3 [(0, .ref (g 0)), (1, .int x)] := hl
  have f9 := hts (.fieldLink RX1 9 "NightSorters$Line" "minutes" "[I") (by decide +kernel)
  have inX1 : ∀ w ∈ wsX10, w ∈ wsX1_nextFrom := by decide +kernel
  refine lv_iconst (v := 0) hx hb dX1_nextFrom_0 (by decide) ?_
  refine lv_istore_n (lv' := [(2, .int 0), (0, .ref (g 0)), (1, .int x)]) hx hb dX1_nextFrom_1 rfl hl (by decide) rfl (fun ls hl => ?_)
  have K2 : ∀ (n2 i2 : Nat), 0 ≤ i2 → i2 ≤ 8 → 8 < i2 + n2 → (∀ k, k < i2 → decide (¬ r 20 k < x) = false) → ∀ (H : Heap) (locs : List Loc), va_P D vwCl (wLine cI g r) H → va_D A (wLine cI g r) → va_S A s.heap H locs → ∀ (ls : Array Slot), lv_has ls 3 [(2, .int (nI i2)), (0, .ref (g 0)), (1, .int x)] → W p l e ({ frames := 0, cells := 0, slots := 0, locals := 0 } : Room) s m args below meth c H locs (0) (0) Q (F0 m 2 ls []) := by
    intro n2
    induction n2 with
    | zero => intro i2 hlo2 hi2 hn2; exact absurd hn2 (by omega)
    | succ n2 ih2 =>
      intro i2 hlo2 hi2 hn2 hno H locs hP hD hS ls hl
      refine lv_iload_n hx hb dX1_nextFrom_2 rfl (lv_at hl 0 rfl) ?_
      refine lv_bipush (v := 8) hx hb dX1_nextFrom_3 (by decide) ?_
      refine lv_icmp_ge (tgt := 26) hx hb dX1_nextFrom_5 (by decide) (fun c1 => ?_) (fun c1 => ?_)
      · skip
        have hie := lp_out (show (8 : Int32) = nI 8 from rfl) (by decide) hi2 c1
        subst hie
        refine lv_bipush (v := 8) hx hb dX1_nextFrom_26 (by decide) ?_
        exact fin _ _ _ _ _ _ _ _ (by unfold nxtF; rw [fnd_no hno, if_pos rfl]) rfl hP hD hS (Nat.le_of_ble_eq_true rfl) (Nat.le_of_ble_eq_true rfl) dX1_nextFrom_28
      · skip
        have hlt := lp_in (show (8 : Int32) = nI 8 from rfl) (by decide) hi2 c1
        refine lv_aload_n hx hb dX1_nextFrom_8 rfl (lv_at hl 1 rfl) ?_
        refine va_get (D := D) (ci := 1) (v := .ref (g 20)) (C := RX1) (T := TX1) (N := 2) hx hb hts inX1 hown hK hP 0 rfl rfl 0 (by decide) f9 (fun _ h9 => h9) rfl dX1_nextFrom_9 ?_
        refine lv_iload_n hx hb dX1_nextFrom_12 rfl (lv_at hl 0 rfl) ?_
        refine xald hx hb hK hP 1 rfl rfl (i2) (rfl) (by omega) (by decide) dX1_nextFrom_13 ?_
        refine lv_iload_n hx hb dX1_nextFrom_14 rfl (lv_at hl 2 rfl) ?_
        refine lv_icmp_lt (tgt := 20) hx hb dX1_nextFrom_15 (by decide) (fun c2 => ?_) (fun c2 => ?_)
        · skip
          refine lv_iinc (v := nI (i2 + 1)) (lv' := [(2, .int (nI (i2 + 1))), (0, .ref (g 0)), (1, .int x)]) hx hb dX1_nextFrom_20 hl (k := 0) rfl (nI_inc _) (by decide) rfl (fun ls hl => ?_)
          refine lv_goto (tgt := 2) hx hb dX1_nextFrom_23 (by decide) ?_
          exact ih2 (i2 + 1) (by omega) (by omega) (by omega) (lt_s hno (decide_eq_false (by first | exact c2 | exact fun h => h c2))) H locs hP hD hS ls (lv_sub hl [0, 1, 2] rfl)
        · skip
          refine lv_iload_n hx hb dX1_nextFrom_18 rfl (lv_at hl 0 rfl) ?_
          exact fin _ _ _ _ _ _ _ _ (by unfold nxtF; rw [fnd_at (decide_eq_true c2) hno (by omega) (by decide), if_neg (nI_nm1 (by omega))]) rfl hP hD hS (Nat.le_of_ble_eq_true rfl) (Nat.le_of_ble_eq_true rfl) dX1_nextFrom_19
  exact K2 (8 + 1) 0 (Nat.le_refl _) (by omega) (by omega) (fun k hk => absurd hk (by omega)) _ _ hP hD hS ls (lv_sub hl [0, 1, 2] rfl)
set_option maxHeartbeats 4000000 in
set_option maxRecDepth 100000 in
theorem c_X1_wouldRise (l : Launch) (D : va_G) (cI : ClassId) (g : Nat → Nat) (r : Rc) (s9 : Nat) (hs : s9 < 8) (x : Int32) (ex : x = nI s9) (y : Int32) : CI l yX1_wouldRise wsX1_wouldRise ({ frames := 0, cells := 0, slots := 0, locals := 0 } : Room) D cI [.ref (g 0), .int x, .int y] (wLine cI g r) (if riseF r s9 y then 1 else 0) (wLine cI g r) := by
  refine CI.mk (cc := cX1_wouldRise) (maxL := 5) (ret := (some .boolean)) rfl (by split <;> rfl) (by decide) rfl (Nat.le_of_ble_eq_true rfl) ?_
  intro p e s m args below meth c A Q ls hx hb hts hown hml hK hN hA hP hD hS hl fin
  have hown : s.vm.findClass RX1 = some m.cls := hown
  subst ex
  have hl : lv_has ls 5 [(0, .ref (g 0)), (1, .int (nI s9)), (2, .int y)] := hl
  have f9 := hts (.fieldLink RX1 9 "NightSorters$Line" "minutes" "[I") (by decide +kernel)
  have inX1 : ∀ w ∈ wsX10, w ∈ wsX1_wouldRise := by decide +kernel
  refine lv_iload_n hx hb dX1_wouldRise_0 rfl (lv_at hl 1 rfl) ?_
  refine lv_if_eq (tgt := 16) hx hb dX1_wouldRise_1 (by decide) (fun c1 => ?_) (fun c1 => ?_)
  · skip
    have cs0 : s9 = 0 := (nI_eq (by omega) (by decide)).mp c1
    refine lv_iconst (v := 1) hx hb dX1_wouldRise_16 (by decide) ?_
    refine lv_goto (tgt := 21) hx hb dX1_wouldRise_17 (by decide) ?_
    refine lv_istore_n (lv' := [(3, .int 1), (0, .ref (g 0)), (1, .int (nI s9)), (2, .int y)]) hx hb dX1_wouldRise_21 rfl hl (by decide) rfl (fun ls hl => ?_)
    refine lv_iload_n hx hb dX1_wouldRise_22 rfl (lv_at hl 2 rfl) ?_
    refine lv_bipush (v := 7) hx hb dX1_wouldRise_23 (by decide) ?_
    refine lv_icmp_eq (tgt := 40) hx hb dX1_wouldRise_25 (by decide) (fun c2 => ?_) (fun c2 => ?_)
    · skip
      have cs7 : s9 = 7 := (nI_eq (by omega) (by decide)).mp c2
      refine lv_iconst (v := 1) hx hb dX1_wouldRise_40 (by decide) ?_
      refine lv_goto (tgt := 45) hx hb dX1_wouldRise_41 (by decide) ?_
      refine lv_istore (lv' := [(4, .int 1), (3, .int 1), (0, .ref (g 0)), (1, .int (nI s9)), (2, .int y)]) hx hb dX1_wouldRise_45 hl (by decide) rfl (fun ls hl => ?_)
      refine lv_iload_n hx hb dX1_wouldRise_47 rfl (lv_at hl 1 rfl) ?_
      refine lv_if_eq (tgt := 60) hx hb dX1_wouldRise_48 (by decide) (fun c3 => ?_) (fun c3 => ?_)
      · exact absurd c3 (by decide)
      · skip
        refine lv_iload hx hb dX1_wouldRise_51 (lv_at hl 0 rfl) ?_
        refine lv_if_eq (tgt := 60) hx hb dX1_wouldRise_53 (by decide) (fun c4 => ?_) (fun c4 => ?_)
        · exact absurd c4 (by decide)
        · skip
          refine lv_iconst (v := 1) hx hb dX1_wouldRise_56 (by decide) ?_
          refine lv_goto (tgt := 61) hx hb dX1_wouldRise_57 (by decide) ?_
          exact fin _ _ _ _ _ _ _ _ (by first | exact (if_pos (show riseF r s9 y from ⟨Or.inl cs0, Or.inl cs7⟩)).symm | exact (if_pos (show riseF r s9 y from ⟨Or.inl cs0, Or.inr cB⟩)).symm | exact (if_pos (show riseF r s9 y from ⟨Or.inr cA, Or.inl cs7⟩)).symm | exact (if_pos (show riseF r s9 y from ⟨Or.inr cA, Or.inr cB⟩)).symm | exact (if_neg (show ¬ riseF r s9 y from fun h => h.1.elim cs0 (fun z => z cA))).symm | exact (if_neg (show ¬ riseF r s9 y from fun h => h.2.elim cs7 (fun z => z cB))).symm) rfl hP hD hS (Nat.le_of_ble_eq_true rfl) (Nat.le_of_ble_eq_true rfl) dX1_wouldRise_61
    · skip
      have cs7 : ¬ s9 = 7 := fun h => c2 (by rw [h]; rfl)
      refine lv_iload_n hx hb dX1_wouldRise_28 rfl (lv_at hl 3 rfl) ?_
      refine lv_aload_n hx hb dX1_wouldRise_29 rfl (lv_at hl 1 rfl) ?_
      refine va_get (D := D) (ci := 1) (v := .ref (g 20)) (C := RX1) (T := TX1) (N := 2) hx hb hts inX1 hown hK hP 0 rfl rfl 0 (by decide) f9 (fun _ h9 => h9) rfl dX1_wouldRise_30 ?_
      refine lv_iload_n hx hb dX1_wouldRise_33 rfl (lv_at hl 2 rfl) ?_
      refine lv_iconst (v := 1) hx hb dX1_wouldRise_34 (by decide) ?_
      refine lv_iadd hx hb dX1_wouldRise_35 ?_
      refine xald hx hb hK hP 1 rfl rfl (s9 + 1) (nI_1 s9) (by omega) (by decide) dX1_wouldRise_36 ?_
      refine lv_icmp_ge (tgt := 44) hx hb dX1_wouldRise_37 (by decide) (fun c5 => ?_) (fun c5 => ?_)
      · skip
        have cB : r 20 (s9 + 1) ≤ y := c5
        refine lv_iconst (v := 0) hx hb dX1_wouldRise_44 (by decide) ?_
        refine lv_istore (lv' := [(4, .int 0), (3, .int 1), (0, .ref (g 0)), (1, .int (nI s9)), (2, .int y)]) hx hb dX1_wouldRise_45 hl (by decide) rfl (fun ls hl => ?_)
        refine lv_iload_n hx hb dX1_wouldRise_47 rfl (lv_at hl 1 rfl) ?_
        refine lv_if_eq (tgt := 60) hx hb dX1_wouldRise_48 (by decide) (fun c6 => ?_) (fun c6 => ?_)
        · exact absurd c6 (by decide)
        · skip
          refine lv_iload hx hb dX1_wouldRise_51 (lv_at hl 0 rfl) ?_
          refine lv_if_eq (tgt := 60) hx hb dX1_wouldRise_53 (by decide) (fun c7 => ?_) (fun c7 => ?_)
          · skip
            refine lv_iconst (v := 0) hx hb dX1_wouldRise_60 (by decide) ?_
            exact fin _ _ _ _ _ _ _ _ (by first | exact (if_pos (show riseF r s9 y from ⟨Or.inl cs0, Or.inl cs7⟩)).symm | exact (if_pos (show riseF r s9 y from ⟨Or.inl cs0, Or.inr cB⟩)).symm | exact (if_pos (show riseF r s9 y from ⟨Or.inr cA, Or.inl cs7⟩)).symm | exact (if_pos (show riseF r s9 y from ⟨Or.inr cA, Or.inr cB⟩)).symm | exact (if_neg (show ¬ riseF r s9 y from fun h => h.1.elim cs0 (fun z => z cA))).symm | exact (if_neg (show ¬ riseF r s9 y from fun h => h.2.elim cs7 (fun z => z cB))).symm) rfl hP hD hS (Nat.le_of_ble_eq_true rfl) (Nat.le_of_ble_eq_true rfl) dX1_wouldRise_61
          · exact absurd (by decide) c7
      · skip
        have cB : ¬ r 20 (s9 + 1) ≤ y := c5
        refine lv_iconst (v := 1) hx hb dX1_wouldRise_40 (by decide) ?_
        refine lv_goto (tgt := 45) hx hb dX1_wouldRise_41 (by decide) ?_
        refine lv_istore (lv' := [(4, .int 1), (3, .int 1), (0, .ref (g 0)), (1, .int (nI s9)), (2, .int y)]) hx hb dX1_wouldRise_45 hl (by decide) rfl (fun ls hl => ?_)
        refine lv_iload_n hx hb dX1_wouldRise_47 rfl (lv_at hl 1 rfl) ?_
        refine lv_if_eq (tgt := 60) hx hb dX1_wouldRise_48 (by decide) (fun c8 => ?_) (fun c8 => ?_)
        · exact absurd c8 (by decide)
        · skip
          refine lv_iload hx hb dX1_wouldRise_51 (lv_at hl 0 rfl) ?_
          refine lv_if_eq (tgt := 60) hx hb dX1_wouldRise_53 (by decide) (fun c9 => ?_) (fun c9 => ?_)
          · exact absurd c9 (by decide)
          · skip
            refine lv_iconst (v := 1) hx hb dX1_wouldRise_56 (by decide) ?_
            refine lv_goto (tgt := 61) hx hb dX1_wouldRise_57 (by decide) ?_
            exact fin _ _ _ _ _ _ _ _ (by first | exact (if_pos (show riseF r s9 y from ⟨Or.inl cs0, Or.inl cs7⟩)).symm | exact (if_pos (show riseF r s9 y from ⟨Or.inl cs0, Or.inr cB⟩)).symm | exact (if_pos (show riseF r s9 y from ⟨Or.inr cA, Or.inl cs7⟩)).symm | exact (if_pos (show riseF r s9 y from ⟨Or.inr cA, Or.inr cB⟩)).symm | exact (if_neg (show ¬ riseF r s9 y from fun h => h.1.elim cs0 (fun z => z cA))).symm | exact (if_neg (show ¬ riseF r s9 y from fun h => h.2.elim cs7 (fun z => z cB))).symm) rfl hP hD hS (Nat.le_of_ble_eq_true rfl) (Nat.le_of_ble_eq_true rfl) dX1_wouldRise_61
  · skip
    have cs0 : ¬ s9 = 0 := fun h => c1 (by rw [h]; rfl)
    refine lv_iload_n hx hb dX1_wouldRise_4 rfl (lv_at hl 2 rfl) ?_
    refine lv_aload_n hx hb dX1_wouldRise_5 rfl (lv_at hl 0 rfl) ?_
    refine va_get (D := D) (ci := 1) (v := .ref (g 20)) (C := RX1) (T := TX1) (N := 2) hx hb hts inX1 hown hK hP 0 rfl rfl 0 (by decide) f9 (fun _ h9 => h9) rfl dX1_wouldRise_6 ?_
    refine lv_iload_n hx hb dX1_wouldRise_9 rfl (lv_at hl 1 rfl) ?_
    refine lv_iconst (v := 1) hx hb dX1_wouldRise_10 (by decide) ?_
    refine lv_isub hx hb dX1_wouldRise_11 ?_
    refine xald hx hb hK hP 1 rfl rfl (s9 - 1) (pk_sub (a := s9) (b := 1) (by omega)) (by omega) (by decide) dX1_wouldRise_12 ?_
    refine lv_icmp_le (tgt := 20) hx hb dX1_wouldRise_13 (by decide) (fun c10 => ?_) (fun c10 => ?_)
    · skip
      have cA : y ≤ r 20 (s9 - 1) := c10
      refine lv_iconst (v := 0) hx hb dX1_wouldRise_20 (by decide) ?_
      refine lv_istore_n (lv' := [(3, .int 0), (0, .ref (g 0)), (1, .int (nI s9)), (2, .int y)]) hx hb dX1_wouldRise_21 rfl hl (by decide) rfl (fun ls hl => ?_)
      refine lv_iload_n hx hb dX1_wouldRise_22 rfl (lv_at hl 2 rfl) ?_
      refine lv_bipush (v := 7) hx hb dX1_wouldRise_23 (by decide) ?_
      refine lv_icmp_eq (tgt := 40) hx hb dX1_wouldRise_25 (by decide) (fun c11 => ?_) (fun c11 => ?_)
      · skip
        have cs7 : s9 = 7 := (nI_eq (by omega) (by decide)).mp c11
        refine lv_iconst (v := 1) hx hb dX1_wouldRise_40 (by decide) ?_
        refine lv_goto (tgt := 45) hx hb dX1_wouldRise_41 (by decide) ?_
        refine lv_istore (lv' := [(4, .int 1), (3, .int 0), (0, .ref (g 0)), (1, .int (nI s9)), (2, .int y)]) hx hb dX1_wouldRise_45 hl (by decide) rfl (fun ls hl => ?_)
        refine lv_iload_n hx hb dX1_wouldRise_47 rfl (lv_at hl 1 rfl) ?_
        refine lv_if_eq (tgt := 60) hx hb dX1_wouldRise_48 (by decide) (fun c12 => ?_) (fun c12 => ?_)
        · skip
          refine lv_iconst (v := 0) hx hb dX1_wouldRise_60 (by decide) ?_
          exact fin _ _ _ _ _ _ _ _ (by first | exact (if_pos (show riseF r s9 y from ⟨Or.inl cs0, Or.inl cs7⟩)).symm | exact (if_pos (show riseF r s9 y from ⟨Or.inl cs0, Or.inr cB⟩)).symm | exact (if_pos (show riseF r s9 y from ⟨Or.inr cA, Or.inl cs7⟩)).symm | exact (if_pos (show riseF r s9 y from ⟨Or.inr cA, Or.inr cB⟩)).symm | exact (if_neg (show ¬ riseF r s9 y from fun h => h.1.elim cs0 (fun z => z cA))).symm | exact (if_neg (show ¬ riseF r s9 y from fun h => h.2.elim cs7 (fun z => z cB))).symm) rfl hP hD hS (Nat.le_of_ble_eq_true rfl) (Nat.le_of_ble_eq_true rfl) dX1_wouldRise_61
        · exact absurd (by decide) c12
      · skip
        have cs7 : ¬ s9 = 7 := fun h => c11 (by rw [h]; rfl)
        refine lv_iload_n hx hb dX1_wouldRise_28 rfl (lv_at hl 3 rfl) ?_
        refine lv_aload_n hx hb dX1_wouldRise_29 rfl (lv_at hl 1 rfl) ?_
        refine va_get (D := D) (ci := 1) (v := .ref (g 20)) (C := RX1) (T := TX1) (N := 2) hx hb hts inX1 hown hK hP 0 rfl rfl 0 (by decide) f9 (fun _ h9 => h9) rfl dX1_wouldRise_30 ?_
        refine lv_iload_n hx hb dX1_wouldRise_33 rfl (lv_at hl 2 rfl) ?_
        refine lv_iconst (v := 1) hx hb dX1_wouldRise_34 (by decide) ?_
        refine lv_iadd hx hb dX1_wouldRise_35 ?_
        refine xald hx hb hK hP 1 rfl rfl (s9 + 1) (nI_1 s9) (by omega) (by decide) dX1_wouldRise_36 ?_
        refine lv_icmp_ge (tgt := 44) hx hb dX1_wouldRise_37 (by decide) (fun c13 => ?_) (fun c13 => ?_)
        · skip
          have cB : r 20 (s9 + 1) ≤ y := c13
          refine lv_iconst (v := 0) hx hb dX1_wouldRise_44 (by decide) ?_
          refine lv_istore (lv' := [(4, .int 0), (3, .int 0), (0, .ref (g 0)), (1, .int (nI s9)), (2, .int y)]) hx hb dX1_wouldRise_45 hl (by decide) rfl (fun ls hl => ?_)
          refine lv_iload_n hx hb dX1_wouldRise_47 rfl (lv_at hl 1 rfl) ?_
          refine lv_if_eq (tgt := 60) hx hb dX1_wouldRise_48 (by decide) (fun c14 => ?_) (fun c14 => ?_)
          · skip
            refine lv_iconst (v := 0) hx hb dX1_wouldRise_60 (by decide) ?_
            exact fin _ _ _ _ _ _ _ _ (by first | exact (if_pos (show riseF r s9 y from ⟨Or.inl cs0, Or.inl cs7⟩)).symm | exact (if_pos (show riseF r s9 y from ⟨Or.inl cs0, Or.inr cB⟩)).symm | exact (if_pos (show riseF r s9 y from ⟨Or.inr cA, Or.inl cs7⟩)).symm | exact (if_pos (show riseF r s9 y from ⟨Or.inr cA, Or.inr cB⟩)).symm | exact (if_neg (show ¬ riseF r s9 y from fun h => h.1.elim cs0 (fun z => z cA))).symm | exact (if_neg (show ¬ riseF r s9 y from fun h => h.2.elim cs7 (fun z => z cB))).symm) rfl hP hD hS (Nat.le_of_ble_eq_true rfl) (Nat.le_of_ble_eq_true rfl) dX1_wouldRise_61
          · exact absurd (by decide) c14
        · skip
          have cB : ¬ r 20 (s9 + 1) ≤ y := c13
          refine lv_iconst (v := 1) hx hb dX1_wouldRise_40 (by decide) ?_
          refine lv_goto (tgt := 45) hx hb dX1_wouldRise_41 (by decide) ?_
          refine lv_istore (lv' := [(4, .int 1), (3, .int 0), (0, .ref (g 0)), (1, .int (nI s9)), (2, .int y)]) hx hb dX1_wouldRise_45 hl (by decide) rfl (fun ls hl => ?_)
          refine lv_iload_n hx hb dX1_wouldRise_47 rfl (lv_at hl 1 rfl) ?_
          refine lv_if_eq (tgt := 60) hx hb dX1_wouldRise_48 (by decide) (fun c15 => ?_) (fun c15 => ?_)
          · skip
            refine lv_iconst (v := 0) hx hb dX1_wouldRise_60 (by decide) ?_
            exact fin _ _ _ _ _ _ _ _ (by first | exact (if_pos (show riseF r s9 y from ⟨Or.inl cs0, Or.inl cs7⟩)).symm | exact (if_pos (show riseF r s9 y from ⟨Or.inl cs0, Or.inr cB⟩)).symm | exact (if_pos (show riseF r s9 y from ⟨Or.inr cA, Or.inl cs7⟩)).symm | exact (if_pos (show riseF r s9 y from ⟨Or.inr cA, Or.inr cB⟩)).symm | exact (if_neg (show ¬ riseF r s9 y from fun h => h.1.elim cs0 (fun z => z cA))).symm | exact (if_neg (show ¬ riseF r s9 y from fun h => h.2.elim cs7 (fun z => z cB))).symm) rfl hP hD hS (Nat.le_of_ble_eq_true rfl) (Nat.le_of_ble_eq_true rfl) dX1_wouldRise_61
          · exact absurd (by decide) c15
    · skip
      have cA : ¬ y ≤ r 20 (s9 - 1) := c10
      refine lv_iconst (v := 1) hx hb dX1_wouldRise_16 (by decide) ?_
      refine lv_goto (tgt := 21) hx hb dX1_wouldRise_17 (by decide) ?_
      refine lv_istore_n (lv' := [(3, .int 1), (0, .ref (g 0)), (1, .int (nI s9)), (2, .int y)]) hx hb dX1_wouldRise_21 rfl hl (by decide) rfl (fun ls hl => ?_)
      refine lv_iload_n hx hb dX1_wouldRise_22 rfl (lv_at hl 2 rfl) ?_
      refine lv_bipush (v := 7) hx hb dX1_wouldRise_23 (by decide) ?_
      refine lv_icmp_eq (tgt := 40) hx hb dX1_wouldRise_25 (by decide) (fun c16 => ?_) (fun c16 => ?_)
      · skip
        have cs7 : s9 = 7 := (nI_eq (by omega) (by decide)).mp c16
        refine lv_iconst (v := 1) hx hb dX1_wouldRise_40 (by decide) ?_
        refine lv_goto (tgt := 45) hx hb dX1_wouldRise_41 (by decide) ?_
        refine lv_istore (lv' := [(4, .int 1), (3, .int 1), (0, .ref (g 0)), (1, .int (nI s9)), (2, .int y)]) hx hb dX1_wouldRise_45 hl (by decide) rfl (fun ls hl => ?_)
        refine lv_iload_n hx hb dX1_wouldRise_47 rfl (lv_at hl 1 rfl) ?_
        refine lv_if_eq (tgt := 60) hx hb dX1_wouldRise_48 (by decide) (fun c17 => ?_) (fun c17 => ?_)
        · exact absurd c17 (by decide)
        · skip
          refine lv_iload hx hb dX1_wouldRise_51 (lv_at hl 0 rfl) ?_
          refine lv_if_eq (tgt := 60) hx hb dX1_wouldRise_53 (by decide) (fun c18 => ?_) (fun c18 => ?_)
          · exact absurd c18 (by decide)
          · skip
            refine lv_iconst (v := 1) hx hb dX1_wouldRise_56 (by decide) ?_
            refine lv_goto (tgt := 61) hx hb dX1_wouldRise_57 (by decide) ?_
            exact fin _ _ _ _ _ _ _ _ (by first | exact (if_pos (show riseF r s9 y from ⟨Or.inl cs0, Or.inl cs7⟩)).symm | exact (if_pos (show riseF r s9 y from ⟨Or.inl cs0, Or.inr cB⟩)).symm | exact (if_pos (show riseF r s9 y from ⟨Or.inr cA, Or.inl cs7⟩)).symm | exact (if_pos (show riseF r s9 y from ⟨Or.inr cA, Or.inr cB⟩)).symm | exact (if_neg (show ¬ riseF r s9 y from fun h => h.1.elim cs0 (fun z => z cA))).symm | exact (if_neg (show ¬ riseF r s9 y from fun h => h.2.elim cs7 (fun z => z cB))).symm) rfl hP hD hS (Nat.le_of_ble_eq_true rfl) (Nat.le_of_ble_eq_true rfl) dX1_wouldRise_61
      · skip
        have cs7 : ¬ s9 = 7 := fun h => c16 (by rw [h]; rfl)
        refine lv_iload_n hx hb dX1_wouldRise_28 rfl (lv_at hl 3 rfl) ?_
        refine lv_aload_n hx hb dX1_wouldRise_29 rfl (lv_at hl 1 rfl) ?_
        refine va_get (D := D) (ci := 1) (v := .ref (g 20)) (C := RX1) (T := TX1) (N := 2) hx hb hts inX1 hown hK hP 0 rfl rfl 0 (by decide) f9 (fun _ h9 => h9) rfl dX1_wouldRise_30 ?_
        refine lv_iload_n hx hb dX1_wouldRise_33 rfl (lv_at hl 2 rfl) ?_
        refine lv_iconst (v := 1) hx hb dX1_wouldRise_34 (by decide) ?_
        refine lv_iadd hx hb dX1_wouldRise_35 ?_
        refine xald hx hb hK hP 1 rfl rfl (s9 + 1) (nI_1 s9) (by omega) (by decide) dX1_wouldRise_36 ?_
        refine lv_icmp_ge (tgt := 44) hx hb dX1_wouldRise_37 (by decide) (fun c19 => ?_) (fun c19 => ?_)
        · skip
          have cB : r 20 (s9 + 1) ≤ y := c19
          refine lv_iconst (v := 0) hx hb dX1_wouldRise_44 (by decide) ?_
          refine lv_istore (lv' := [(4, .int 0), (3, .int 1), (0, .ref (g 0)), (1, .int (nI s9)), (2, .int y)]) hx hb dX1_wouldRise_45 hl (by decide) rfl (fun ls hl => ?_)
          refine lv_iload_n hx hb dX1_wouldRise_47 rfl (lv_at hl 1 rfl) ?_
          refine lv_if_eq (tgt := 60) hx hb dX1_wouldRise_48 (by decide) (fun c20 => ?_) (fun c20 => ?_)
          · exact absurd c20 (by decide)
          · skip
            refine lv_iload hx hb dX1_wouldRise_51 (lv_at hl 0 rfl) ?_
            refine lv_if_eq (tgt := 60) hx hb dX1_wouldRise_53 (by decide) (fun c21 => ?_) (fun c21 => ?_)
            · skip
              refine lv_iconst (v := 0) hx hb dX1_wouldRise_60 (by decide) ?_
              exact fin _ _ _ _ _ _ _ _ (by first | exact (if_pos (show riseF r s9 y from ⟨Or.inl cs0, Or.inl cs7⟩)).symm | exact (if_pos (show riseF r s9 y from ⟨Or.inl cs0, Or.inr cB⟩)).symm | exact (if_pos (show riseF r s9 y from ⟨Or.inr cA, Or.inl cs7⟩)).symm | exact (if_pos (show riseF r s9 y from ⟨Or.inr cA, Or.inr cB⟩)).symm | exact (if_neg (show ¬ riseF r s9 y from fun h => h.1.elim cs0 (fun z => z cA))).symm | exact (if_neg (show ¬ riseF r s9 y from fun h => h.2.elim cs7 (fun z => z cB))).symm) rfl hP hD hS (Nat.le_of_ble_eq_true rfl) (Nat.le_of_ble_eq_true rfl) dX1_wouldRise_61
            · exact absurd (by decide) c21
        · skip
          have cB : ¬ r 20 (s9 + 1) ≤ y := c19
          refine lv_iconst (v := 1) hx hb dX1_wouldRise_40 (by decide) ?_
          refine lv_goto (tgt := 45) hx hb dX1_wouldRise_41 (by decide) ?_
          refine lv_istore (lv' := [(4, .int 1), (3, .int 1), (0, .ref (g 0)), (1, .int (nI s9)), (2, .int y)]) hx hb dX1_wouldRise_45 hl (by decide) rfl (fun ls hl => ?_)
          refine lv_iload_n hx hb dX1_wouldRise_47 rfl (lv_at hl 1 rfl) ?_
          refine lv_if_eq (tgt := 60) hx hb dX1_wouldRise_48 (by decide) (fun c22 => ?_) (fun c22 => ?_)
          · exact absurd c22 (by decide)
          · skip
            refine lv_iload hx hb dX1_wouldRise_51 (lv_at hl 0 rfl) ?_
            refine lv_if_eq (tgt := 60) hx hb dX1_wouldRise_53 (by decide) (fun c23 => ?_) (fun c23 => ?_)
            · exact absurd c23 (by decide)
            · skip
              refine lv_iconst (v := 1) hx hb dX1_wouldRise_56 (by decide) ?_
              refine lv_goto (tgt := 61) hx hb dX1_wouldRise_57 (by decide) ?_
              exact fin _ _ _ _ _ _ _ _ (by first | exact (if_pos (show riseF r s9 y from ⟨Or.inl cs0, Or.inl cs7⟩)).symm | exact (if_pos (show riseF r s9 y from ⟨Or.inl cs0, Or.inr cB⟩)).symm | exact (if_pos (show riseF r s9 y from ⟨Or.inr cA, Or.inl cs7⟩)).symm | exact (if_pos (show riseF r s9 y from ⟨Or.inr cA, Or.inr cB⟩)).symm | exact (if_neg (show ¬ riseF r s9 y from fun h => h.1.elim cs0 (fun z => z cA))).symm | exact (if_neg (show ¬ riseF r s9 y from fun h => h.2.elim cs7 (fun z => z cB))).symm) rfl hP hD hS (Nat.le_of_ble_eq_true rfl) (Nat.le_of_ble_eq_true rfl) dX1_wouldRise_61
set_option maxHeartbeats 4000000 in
set_option maxRecDepth 100000 in
theorem c_X2_addToBag (l : Launch) (D : va_G) (cI : ClassId) (a : Nat → Nat) (u : Rc) (ok : Ok u) (hk : iv (u 0 0) < 60) (x y : Int32) : CI l yX2_addToBag wsX2_addToBag ({ frames := 0, cells := 0, slots := 0, locals := 0 } : Room) D cI [.ref (a 0), .int x, .int y] (wMail cI a u) (u 0 0) (wMail cI a (addF u x y)) := by
  refine CI.mk (cc := cX2_addToBag) (maxL := 4) (ret := (some .int)) rfl rfl (by decide) rfl (Nat.le_of_ble_eq_true rfl) ?_
  intro p e s m args below meth c A Q ls hx hb hts hown hml hK hN hA hP hD hS hl fin
  have hown : s.vm.findClass RX2 = some m.cls := hown
  have hl : lv_has ls 4 [(0, .ref (a 0)), (1, .int x), (2, .int y)] := hl
  have f9 := hts (.fieldLink RX2 9 "NightSorters$Mail" "size" "I") (by decide +kernel)
  have f15 := hts (.fieldLink RX2 15 "NightSorters$Mail" "town" "[I") (by decide +kernel)
  have f19 := hts (.fieldLink RX2 19 "NightSorters$Mail" "postedAt" "[I") (by decide +kernel)
  have f22 := hts (.fieldLink RX2 22 "NightSorters$Mail" "place" "[I") (by decide +kernel)
  have f25 := hts (.fieldLink RX2 25 "NightSorters$Mail" "holder" "[I") (by decide +kernel)
  have f28 := hts (.fieldLink RX2 28 "NightSorters$Mail" "endMinute" "[I") (by decide +kernel)
  have f31 := hts (.fieldLink RX2 31 "NightSorters$Mail" "inPlace" "[I") (by decide +kernel)
  have inX2 : ∀ w ∈ wsX20, w ∈ wsX2_addToBag := by decide +kernel
  refine lv_aload_n hx hb dX2_addToBag_0 rfl (lv_at hl 0 rfl) ?_
  refine va_get (D := D) (ci := 2) (v := .int (u 0 0)) (C := RX2) (T := TX2) (N := 8) hx hb hts inX2 hown hK hP 0 rfl rfl 0 (by decide) f9 (fun _ h9 => h9) rfl dX2_addToBag_1 ?_
  refine lv_istore_n (lv' := [(3, .int (u 0 0)), (0, .ref (a 0)), (1, .int x), (2, .int y)]) hx hb dX2_addToBag_4 rfl hl (by decide) rfl (fun ls hl => ?_)
  refine lv_aload_n hx hb dX2_addToBag_5 rfl (lv_at hl 1 rfl) ?_
  refine va_get (D := D) (ci := 2) (v := .ref (a 1)) (C := RX2) (T := TX2) (N := 8) hx hb hts inX2 hown hK hP 0 rfl rfl 1 (by decide) f15 (fun _ h9 => h9) rfl dX2_addToBag_6 ?_
  refine lv_iload_n hx hb dX2_addToBag_9 rfl (lv_at hl 0 rfl) ?_
  refine lv_iload_n hx hb dX2_addToBag_10 rfl (lv_at hl 3 rfl) ?_
  obtain ⟨u1, eu1⟩ : ∃ z : Rc, z = put u 1 (iv (u 0 0)) y := ⟨_, rfl⟩
  refine xast hx hb hK hP hD hS 1 rfl rfl (iv (u 0 0)) (ok.n) (hk) (by decide) (wMail cI a u1) (by subst eu1; rfl) dX2_addToBag_11 (fun H locs hP hD hS => ?_)
  refine lv_aload_n hx hb dX2_addToBag_12 rfl (lv_at hl 1 rfl) ?_
  refine va_get (D := D) (ci := 2) (v := .ref (a 2)) (C := RX2) (T := TX2) (N := 8) hx hb hts inX2 hown hK hP 0 rfl rfl 2 (by decide) f19 (fun _ h9 => h9) rfl dX2_addToBag_13 ?_
  refine lv_iload_n hx hb dX2_addToBag_16 rfl (lv_at hl 0 rfl) ?_
  refine lv_iload_n hx hb dX2_addToBag_17 rfl (lv_at hl 2 rfl) ?_
  obtain ⟨u2, eu2⟩ : ∃ z : Rc, z = put u1 2 (iv (u 0 0)) x := ⟨_, rfl⟩
  refine xast hx hb hK hP hD hS 2 rfl rfl (iv (u 0 0)) (ok.n) (hk) (by decide) (wMail cI a u2) (by subst eu2; rfl) dX2_addToBag_18 (fun H locs hP hD hS => ?_)
  refine lv_aload_n hx hb dX2_addToBag_19 rfl (lv_at hl 1 rfl) ?_
  refine va_get (D := D) (ci := 2) (v := .ref (a 3)) (C := RX2) (T := TX2) (N := 8) hx hb hts inX2 hown hK hP 0 rfl rfl 3 (by decide) f22 (fun _ h9 => h9) rfl dX2_addToBag_20 ?_
  refine lv_iload_n hx hb dX2_addToBag_23 rfl (lv_at hl 0 rfl) ?_
  refine lv_iconst (v := 0) hx hb dX2_addToBag_24 (by decide) ?_
  obtain ⟨u3, eu3⟩ : ∃ z : Rc, z = put u2 3 (iv (u 0 0)) 0 := ⟨_, rfl⟩
  refine xast hx hb hK hP hD hS 3 rfl rfl (iv (u 0 0)) (ok.n) (hk) (by decide) (wMail cI a u3) (by subst eu3; rfl) dX2_addToBag_25 (fun H locs hP hD hS => ?_)
  refine lv_aload_n hx hb dX2_addToBag_26 rfl (lv_at hl 1 rfl) ?_
  refine va_get (D := D) (ci := 2) (v := .ref (a 4)) (C := RX2) (T := TX2) (N := 8) hx hb hts inX2 hown hK hP 0 rfl rfl 4 (by decide) f25 (fun _ h9 => h9) rfl dX2_addToBag_27 ?_
  refine lv_iload_n hx hb dX2_addToBag_30 rfl (lv_at hl 0 rfl) ?_
  refine lv_iconst (v := (-1)) hx hb dX2_addToBag_31 (by decide) ?_
  obtain ⟨u4, eu4⟩ : ∃ z : Rc, z = put u3 4 (iv (u 0 0)) (-1) := ⟨_, rfl⟩
  refine xast hx hb hK hP hD hS 4 rfl rfl (iv (u 0 0)) (ok.n) (hk) (by decide) (wMail cI a u4) (by subst eu4; rfl) dX2_addToBag_32 (fun H locs hP hD hS => ?_)
  refine lv_aload_n hx hb dX2_addToBag_33 rfl (lv_at hl 1 rfl) ?_
  refine va_get (D := D) (ci := 2) (v := .ref (a 5)) (C := RX2) (T := TX2) (N := 8) hx hb hts inX2 hown hK hP 0 rfl rfl 5 (by decide) f28 (fun _ h9 => h9) rfl dX2_addToBag_34 ?_
  refine lv_iload_n hx hb dX2_addToBag_37 rfl (lv_at hl 0 rfl) ?_
  refine lv_iconst (v := (-1)) hx hb dX2_addToBag_38 (by decide) ?_
  obtain ⟨u5, eu5⟩ : ∃ z : Rc, z = put u4 5 (iv (u 0 0)) (-1) := ⟨_, rfl⟩
  refine xast hx hb hK hP hD hS 5 rfl rfl (iv (u 0 0)) (ok.n) (hk) (by decide) (wMail cI a u5) (by subst eu5; rfl) dX2_addToBag_39 (fun H locs hP hD hS => ?_)
  refine lv_aload_n hx hb dX2_addToBag_40 rfl (lv_at hl 1 rfl) ?_
  refine va_get (D := D) (ci := 2) (v := .ref (a 6)) (C := RX2) (T := TX2) (N := 8) hx hb hts inX2 hown hK hP 0 rfl rfl 6 (by decide) f31 (fun _ h9 => h9) rfl dX2_addToBag_41 ?_
  refine lv_iconst (v := 0) hx hb dX2_addToBag_44 (by decide) ?_
  refine lv_dup2_11 hx hb dX2_addToBag_45 rfl rfl ?_
  refine xald hx hb hK hP 6 rfl rfl (0) (by decide) (by decide) (by decide) dX2_addToBag_46 ?_
  refine lv_iconst (v := 1) hx hb dX2_addToBag_47 (by decide) ?_
  refine lv_iadd hx hb dX2_addToBag_48 ?_
  obtain ⟨u6, eu6⟩ : ∃ z : Rc, z = put u5 6 0 ((u5 6 0) + 1) := ⟨_, rfl⟩
  refine xast hx hb hK hP hD hS 6 rfl rfl (0) (by decide) (by decide) (by decide) (wMail cI a u6) (by subst eu6; rfl) dX2_addToBag_49 (fun H locs hP hD hS => ?_)
  refine lv_aload_n hx hb dX2_addToBag_50 rfl (lv_at hl 1 rfl) ?_
  refine lv_dup hx hb dX2_addToBag_51 rfl ?_
  refine va_get (D := D) (ci := 2) (v := .int (u6 0 0)) (C := RX2) (T := TX2) (N := 8) hx hb hts inX2 hown hK hP 0 rfl rfl 0 (by decide) f9 (fun _ h9 => h9) rfl dX2_addToBag_52 ?_
  refine lv_iconst (v := 1) hx hb dX2_addToBag_55 (by decide) ?_
  refine lv_iadd hx hb dX2_addToBag_56 ?_
  obtain ⟨u7, eu7⟩ : ∃ z : Rc, z = put u6 0 0 ((u6 0 0) + 1) := ⟨_, rfl⟩
  refine va_put (D := D) (ci := 2) (v := .int ((u6 0 0) + 1)) (ty := .int) (C := RX2) (T := TX2) (N := 8) hx hb hts inX2 tyX2 tyX2_ok nmX2 hown hK hP hD hS 0 rfl rfl 0 (by decide) f9 (fun _ h9 => h9) rfl (by decide +kernel) rfl rfl (Nat.le_of_ble_eq_true rfl) dX2_addToBag_57 (fun H locs hP hD hS => ?_)
  have hP : va_P D vwCl (wMail cI a u7) H := by subst eu7; exact hP
  have hD : va_D A (wMail cI a u7) := by subst eu7; exact hD
  refine lv_iload_n hx hb dX2_addToBag_60 rfl (lv_at hl 0 rfl) ?_
  have h8 : u7 = addF u x y := (by (try subst eu7); (try subst eu6); (try subst eu5); (try subst eu4); (try subst eu3); (try subst eu2); (try subst eu1); simp only [addF, incS, ↓reduceIte, not_false_eq_true, not_true_eq_false, and_true, true_and, and_false, false_and, or_true, true_or, or_false, false_or, and_self, or_self])
  exact fin _ _ _ _ _ _ _ _ rfl (by rw [h8]) hP hD hS (Nat.le_of_ble_eq_true rfl) (Nat.le_of_ble_eq_true rfl) dX2_addToBag_61
set_option maxHeartbeats 4000000 in
set_option maxRecDepth 100000 in
theorem c_X2_fact (l : Launch) (D : va_G) (cI : ClassId) (a : Nat → Nat) (u : Rc) (j : Nat) (hj : j < 60) (x : Int32) (ex : x = nI j) (w : Nat) (hw : w < 5) (y : Int32) (ey : y = nI w) : CI l yX2_fact wsX2_fact ({ frames := 0, cells := 0, slots := 0, locals := 0 } : Room) D cI [.ref (a 0), .int x, .int y] (wMail cI a u) (mfact u j w) (wMail cI a u) := by
  refine CI.mk (cc := cX2_fact) (maxL := 3) (ret := (some .int)) rfl rfl (by decide) rfl (Nat.le_of_ble_eq_true rfl) ?_
  intro p e s m args below meth c A Q ls hx hb hts hown hml hK hN hA hP hD hS hl fin
  have hown : s.vm.findClass RX2 = some m.cls := hown
  subst ex
  subst ey
  have hl : lv_has ls 3 [(0, .ref (a 0)), (1, .int (nI j)), (2, .int (nI w))] := hl
  have f15 := hts (.fieldLink RX2 15 "NightSorters$Mail" "town" "[I") (by decide +kernel)
  have f19 := hts (.fieldLink RX2 19 "NightSorters$Mail" "postedAt" "[I") (by decide +kernel)
  have f22 := hts (.fieldLink RX2 22 "NightSorters$Mail" "place" "[I") (by decide +kernel)
  have f25 := hts (.fieldLink RX2 25 "NightSorters$Mail" "holder" "[I") (by decide +kernel)
  have f28 := hts (.fieldLink RX2 28 "NightSorters$Mail" "endMinute" "[I") (by decide +kernel)
  have inX2 : ∀ w ∈ wsX20, w ∈ wsX2_fact := by decide +kernel
  refine lv_iload_n hx hb dX2_fact_0 rfl (lv_at hl 2 rfl) ?_
  have ht1 : w = 0 ∨ w = 1 ∨ w = 2 ∨ w = 3 ∨ w = 4 := by omega
  rcases ht1 with rfl | rfl | rfl | rfl | rfl
  · skip
    refine lv_tableIn (off := 31) (tgt := 32) hx hb dX2_fact_1 (by decide) (by decide) (by decide) (by decide) ?_
    refine lv_aload_n hx hb dX2_fact_32 rfl (lv_at hl 0 rfl) ?_
    refine va_get (D := D) (ci := 2) (v := .ref (a 3)) (C := RX2) (T := TX2) (N := 8) hx hb hts inX2 hown hK hP 0 rfl rfl 3 (by decide) f22 (fun _ h9 => h9) rfl dX2_fact_33 ?_
    refine lv_iload_n hx hb dX2_fact_36 rfl (lv_at hl 1 rfl) ?_
    refine xald hx hb hK hP 3 rfl rfl (j) (rfl) (by omega) (by decide) dX2_fact_37 ?_
    exact fin _ _ _ _ _ _ _ _ (by rfl) rfl hP hD hS (Nat.le_of_ble_eq_true rfl) (Nat.le_of_ble_eq_true rfl) dX2_fact_38
  · skip
    refine lv_tableIn (off := 38) (tgt := 39) hx hb dX2_fact_1 (by decide) (by decide) (by decide) (by decide) ?_
    refine lv_aload_n hx hb dX2_fact_39 rfl (lv_at hl 0 rfl) ?_
    refine va_get (D := D) (ci := 2) (v := .ref (a 1)) (C := RX2) (T := TX2) (N := 8) hx hb hts inX2 hown hK hP 0 rfl rfl 1 (by decide) f15 (fun _ h9 => h9) rfl dX2_fact_40 ?_
    refine lv_iload_n hx hb dX2_fact_43 rfl (lv_at hl 1 rfl) ?_
    refine xald hx hb hK hP 1 rfl rfl (j) (rfl) (by omega) (by decide) dX2_fact_44 ?_
    exact fin _ _ _ _ _ _ _ _ (by rfl) rfl hP hD hS (Nat.le_of_ble_eq_true rfl) (Nat.le_of_ble_eq_true rfl) dX2_fact_45
  · skip
    refine lv_tableIn (off := 45) (tgt := 46) hx hb dX2_fact_1 (by decide) (by decide) (by decide) (by decide) ?_
    refine lv_aload_n hx hb dX2_fact_46 rfl (lv_at hl 0 rfl) ?_
    refine va_get (D := D) (ci := 2) (v := .ref (a 2)) (C := RX2) (T := TX2) (N := 8) hx hb hts inX2 hown hK hP 0 rfl rfl 2 (by decide) f19 (fun _ h9 => h9) rfl dX2_fact_47 ?_
    refine lv_iload_n hx hb dX2_fact_50 rfl (lv_at hl 1 rfl) ?_
    refine xald hx hb hK hP 2 rfl rfl (j) (rfl) (by omega) (by decide) dX2_fact_51 ?_
    exact fin _ _ _ _ _ _ _ _ (by rfl) rfl hP hD hS (Nat.le_of_ble_eq_true rfl) (Nat.le_of_ble_eq_true rfl) dX2_fact_52
  · skip
    refine lv_tableIn (off := 52) (tgt := 53) hx hb dX2_fact_1 (by decide) (by decide) (by decide) (by decide) ?_
    refine lv_aload_n hx hb dX2_fact_53 rfl (lv_at hl 0 rfl) ?_
    refine va_get (D := D) (ci := 2) (v := .ref (a 4)) (C := RX2) (T := TX2) (N := 8) hx hb hts inX2 hown hK hP 0 rfl rfl 4 (by decide) f25 (fun _ h9 => h9) rfl dX2_fact_54 ?_
    refine lv_iload_n hx hb dX2_fact_57 rfl (lv_at hl 1 rfl) ?_
    refine xald hx hb hK hP 4 rfl rfl (j) (rfl) (by omega) (by decide) dX2_fact_58 ?_
    exact fin _ _ _ _ _ _ _ _ (by rfl) rfl hP hD hS (Nat.le_of_ble_eq_true rfl) (Nat.le_of_ble_eq_true rfl) dX2_fact_59
  · skip
    refine lv_tableOut (tgt := 60) hx hb dX2_fact_1 (by decide) (by decide) ?_
    refine lv_aload_n hx hb dX2_fact_60 rfl (lv_at hl 0 rfl) ?_
    refine va_get (D := D) (ci := 2) (v := .ref (a 5)) (C := RX2) (T := TX2) (N := 8) hx hb hts inX2 hown hK hP 0 rfl rfl 5 (by decide) f28 (fun _ h9 => h9) rfl dX2_fact_61 ?_
    refine lv_iload_n hx hb dX2_fact_64 rfl (lv_at hl 1 rfl) ?_
    refine xald hx hb hK hP 5 rfl rfl (j) (rfl) (by omega) (by decide) dX2_fact_65 ?_
    exact fin _ _ _ _ _ _ _ _ (by rfl) rfl hP hD hS (Nat.le_of_ble_eq_true rfl) (Nat.le_of_ble_eq_true rfl) dX2_fact_66
set_option maxHeartbeats 4000000 in
set_option maxRecDepth 100000 in
theorem c_X2_move (l : Launch) (D : va_G) (cI : ClassId) (a : Nat → Nat) (u : Rc) (ok : Ok u) (j : Nat) (hj : j < 60) (x : Int32) (ex : x = nI j) (t : Int32) (ht : vp_in t 6) : CV l yX2_move wsX2_move ({ frames := 0, cells := 0, slots := 0, locals := 0 } : Room) D cI [.ref (a 0), .int x, .int t] (wMail cI a u) (wMail cI a (mvF u j t)) := by
  refine CV.mk (cc := cX2_move) (maxL := 4) (by decide) rfl (Nat.le_of_ble_eq_true rfl) ?_
  intro p e s m args below meth c A Q ls hx hb hts hown hml hK hN hA hP hD hS hl fin
  have hown : s.vm.findClass RX2 = some m.cls := hown
  subst ex
  have hl : lv_has ls 4 [(0, .ref (a 0)), (1, .int (nI j)), (2, .int t)] := hl
  have f15 := hts (.fieldLink RX2 15 "NightSorters$Mail" "town" "[I") (by decide +kernel)
  have f22 := hts (.fieldLink RX2 22 "NightSorters$Mail" "place" "[I") (by decide +kernel)
  have f25 := hts (.fieldLink RX2 25 "NightSorters$Mail" "holder" "[I") (by decide +kernel)
  have f31 := hts (.fieldLink RX2 31 "NightSorters$Mail" "inPlace" "[I") (by decide +kernel)
  have f34 := hts (.fieldLink RX2 34 "NightSorters$Mail" "inHole" "[I") (by decide +kernel)
  have inX2 : ∀ w ∈ wsX20, w ∈ wsX2_move := by decide +kernel
  refine lv_aload_n hx hb dX2_move_0 rfl (lv_at hl 0 rfl) ?_
  refine va_get (D := D) (ci := 2) (v := .ref (a 3)) (C := RX2) (T := TX2) (N := 8) hx hb hts inX2 hown hK hP 0 rfl rfl 3 (by decide) f22 (fun _ h9 => h9) rfl dX2_move_1 ?_
  refine lv_iload_n hx hb dX2_move_4 rfl (lv_at hl 1 rfl) ?_
  refine xald hx hb hK hP 3 rfl rfl (j) (rfl) (by omega) (by decide) dX2_move_5 ?_
  refine lv_istore_n (lv' := [(3, .int (u 3 j)), (0, .ref (a 0)), (1, .int (nI j)), (2, .int t)]) hx hb dX2_move_6 rfl hl (by decide) rfl (fun ls hl => ?_)
  refine lv_aload_n hx hb dX2_move_7 rfl (lv_at hl 1 rfl) ?_
  refine va_get (D := D) (ci := 2) (v := .ref (a 6)) (C := RX2) (T := TX2) (N := 8) hx hb hts inX2 hown hK hP 0 rfl rfl 6 (by decide) f31 (fun _ h9 => h9) rfl dX2_move_8 ?_
  refine lv_iload_n hx hb dX2_move_11 rfl (lv_at hl 0 rfl) ?_
  refine lv_dup2_11 hx hb dX2_move_12 rfl rfl ?_
  refine xald hx hb hK hP 6 rfl rfl (iv (u 3 j)) (vi_eq (n := 6) ((by  exact ok 3 j)) (by decide)) (vi_lt ((by  exact ok 3 j))) (by decide) dX2_move_13 ?_
  refine lv_iconst (v := 1) hx hb dX2_move_14 (by decide) ?_
  refine lv_isub hx hb dX2_move_15 ?_
  obtain ⟨u1, eu1⟩ : ∃ z : Rc, z = put u 6 (iv (u 3 j)) ((u 6 (iv (u 3 j))) - 1) := ⟨_, rfl⟩
  refine xast hx hb hK hP hD hS 6 rfl rfl (iv (u 3 j)) (vi_eq (n := 6) ((by  exact ok 3 j)) (by decide)) (vi_lt ((by  exact ok 3 j))) (by decide) (wMail cI a u1) (by subst eu1; rfl) dX2_move_16 (fun H locs hP hD hS => ?_)
  refine lv_aload_n hx hb dX2_move_17 rfl (lv_at hl 1 rfl) ?_
  refine va_get (D := D) (ci := 2) (v := .ref (a 6)) (C := RX2) (T := TX2) (N := 8) hx hb hts inX2 hown hK hP 0 rfl rfl 6 (by decide) f31 (fun _ h9 => h9) rfl dX2_move_18 ?_
  refine lv_iload_n hx hb dX2_move_21 rfl (lv_at hl 3 rfl) ?_
  refine lv_dup2_11 hx hb dX2_move_22 rfl rfl ?_
  refine xald hx hb hK hP 6 rfl rfl (iv t) (vi_eq (ht) (by decide)) (vi_lt (ht)) (by decide) dX2_move_23 ?_
  refine lv_iconst (v := 1) hx hb dX2_move_24 (by decide) ?_
  refine lv_iadd hx hb dX2_move_25 ?_
  obtain ⟨u2, eu2⟩ : ∃ z : Rc, z = put u1 6 (iv t) ((u1 6 (iv t)) + 1) := ⟨_, rfl⟩
  refine xast hx hb hK hP hD hS 6 rfl rfl (iv t) (vi_eq (ht) (by decide)) (vi_lt (ht)) (by decide) (wMail cI a u2) (by subst eu2; rfl) dX2_move_26 (fun H locs hP hD hS => ?_)
  refine lv_iload_n hx hb dX2_move_27 rfl (lv_at hl 0 rfl) ?_
  refine lv_iconst (v := 3) hx hb dX2_move_28 (by decide) ?_
  refine lv_icmp_ne (tgt := 47) hx hb dX2_move_29 (by decide) (fun c3 => ?_) (fun c3 => ?_)
  · skip
    refine lv_iload_n hx hb dX2_move_47 rfl (lv_at hl 3 rfl) ?_
    refine lv_iconst (v := 3) hx hb dX2_move_48 (by decide) ?_
    refine lv_icmp_ne (tgt := 67) hx hb dX2_move_49 (by decide) (fun c4 => ?_) (fun c4 => ?_)
    · skip
      refine lv_aload_n hx hb dX2_move_67 rfl (lv_at hl 1 rfl) ?_
      refine va_get (D := D) (ci := 2) (v := .ref (a 4)) (C := RX2) (T := TX2) (N := 8) hx hb hts inX2 hown hK hP 0 rfl rfl 4 (by decide) f25 (fun _ h9 => h9) rfl dX2_move_68 ?_
      refine lv_iload_n hx hb dX2_move_71 rfl (lv_at hl 2 rfl) ?_
      refine lv_iconst (v := (-1)) hx hb dX2_move_72 (by decide) ?_
      obtain ⟨u5, eu5⟩ : ∃ z : Rc, z = put u2 4 j (-1) := ⟨_, rfl⟩
      refine xast hx hb hK hP hD hS 4 rfl rfl (j) (rfl) (by omega) (by decide) (wMail cI a u5) (by subst eu5; rfl) dX2_move_73 (fun H locs hP hD hS => ?_)
      refine lv_aload_n hx hb dX2_move_74 rfl (lv_at hl 1 rfl) ?_
      refine va_get (D := D) (ci := 2) (v := .ref (a 3)) (C := RX2) (T := TX2) (N := 8) hx hb hts inX2 hown hK hP 0 rfl rfl 3 (by decide) f22 (fun _ h9 => h9) rfl dX2_move_75 ?_
      refine lv_iload_n hx hb dX2_move_78 rfl (lv_at hl 2 rfl) ?_
      refine lv_iload_n hx hb dX2_move_79 rfl (lv_at hl 3 rfl) ?_
      obtain ⟨u6, eu6⟩ : ∃ z : Rc, z = put u5 3 j t := ⟨_, rfl⟩
      refine xast hx hb hK hP hD hS 3 rfl rfl (j) (rfl) (by omega) (by decide) (wMail cI a u6) (by subst eu6; rfl) dX2_move_80 (fun H locs hP hD hS => ?_)
      have h7 : u6 = mvF u j t := (by (try subst eu6); (try subst eu5); (try subst eu2); (try subst eu1); simp only [mvF, mvA, mvB, mvC, mvD, opt, c3, c4, ↓reduceIte, not_false_eq_true, not_true_eq_false, and_true, true_and, and_false, false_and, or_true, true_or, or_false, false_or, and_self, or_self])
      exact fin _ _ _ _ _ _ _ (by rw [h7]) hP hD hS (Nat.le_of_ble_eq_true rfl) (Nat.le_of_ble_eq_true rfl) dX2_move_81
    · skip
      refine lv_aload_n hx hb dX2_move_52 rfl (lv_at hl 1 rfl) ?_
      refine va_get (D := D) (ci := 2) (v := .ref (a 7)) (C := RX2) (T := TX2) (N := 8) hx hb hts inX2 hown hK hP 0 rfl rfl 7 (by decide) f34 (fun _ h9 => h9) rfl dX2_move_53 ?_
      refine lv_aload_n hx hb dX2_move_56 rfl (lv_at hl 1 rfl) ?_
      refine va_get (D := D) (ci := 2) (v := .ref (a 1)) (C := RX2) (T := TX2) (N := 8) hx hb hts inX2 hown hK hP 0 rfl rfl 1 (by decide) f15 (fun _ h9 => h9) rfl dX2_move_57 ?_
      refine lv_iload_n hx hb dX2_move_60 rfl (lv_at hl 2 rfl) ?_
      refine xald hx hb hK hP 1 rfl rfl (j) (rfl) (by omega) (by decide) dX2_move_61 ?_
      refine lv_dup2_11 hx hb dX2_move_62 rfl rfl ?_
      refine xald hx hb hK hP 7 rfl rfl (iv (u2 1 j)) (vi_eq (n := 16) ((by (try subst eu2); (try subst eu1); exact ok 1 j)) (by decide)) (vi_lt ((by (try subst eu2); (try subst eu1); exact ok 1 j))) (by decide) dX2_move_63 ?_
      refine lv_iconst (v := 1) hx hb dX2_move_64 (by decide) ?_
      refine lv_iadd hx hb dX2_move_65 ?_
      obtain ⟨u8, eu8⟩ : ∃ z : Rc, z = put u2 7 (iv (u2 1 j)) ((u2 7 (iv (u2 1 j))) + 1) := ⟨_, rfl⟩
      refine xast hx hb hK hP hD hS 7 rfl rfl (iv (u2 1 j)) (vi_eq (n := 16) ((by (try subst eu2); (try subst eu1); exact ok 1 j)) (by decide)) (vi_lt ((by (try subst eu2); (try subst eu1); exact ok 1 j))) (by decide) (wMail cI a u8) (by subst eu8; rfl) dX2_move_66 (fun H locs hP hD hS => ?_)
      refine lv_aload_n hx hb dX2_move_67 rfl (lv_at hl 1 rfl) ?_
      refine va_get (D := D) (ci := 2) (v := .ref (a 4)) (C := RX2) (T := TX2) (N := 8) hx hb hts inX2 hown hK hP 0 rfl rfl 4 (by decide) f25 (fun _ h9 => h9) rfl dX2_move_68 ?_
      refine lv_iload_n hx hb dX2_move_71 rfl (lv_at hl 2 rfl) ?_
      refine lv_iconst (v := (-1)) hx hb dX2_move_72 (by decide) ?_
      obtain ⟨u9, eu9⟩ : ∃ z : Rc, z = put u8 4 j (-1) := ⟨_, rfl⟩
      refine xast hx hb hK hP hD hS 4 rfl rfl (j) (rfl) (by omega) (by decide) (wMail cI a u9) (by subst eu9; rfl) dX2_move_73 (fun H locs hP hD hS => ?_)
      refine lv_aload_n hx hb dX2_move_74 rfl (lv_at hl 1 rfl) ?_
      refine va_get (D := D) (ci := 2) (v := .ref (a 3)) (C := RX2) (T := TX2) (N := 8) hx hb hts inX2 hown hK hP 0 rfl rfl 3 (by decide) f22 (fun _ h9 => h9) rfl dX2_move_75 ?_
      refine lv_iload_n hx hb dX2_move_78 rfl (lv_at hl 2 rfl) ?_
      refine lv_iload_n hx hb dX2_move_79 rfl (lv_at hl 3 rfl) ?_
      obtain ⟨u10, eu10⟩ : ∃ z : Rc, z = put u9 3 j t := ⟨_, rfl⟩
      refine xast hx hb hK hP hD hS 3 rfl rfl (j) (rfl) (by omega) (by decide) (wMail cI a u10) (by subst eu10; rfl) dX2_move_80 (fun H locs hP hD hS => ?_)
      have h11 : u10 = mvF u j t := (by (try subst eu10); (try subst eu9); (try subst eu8); (try subst eu2); (try subst eu1); simp only [mvF, mvA, mvB, mvC, mvD, opt, c3, c4, ↓reduceIte, not_false_eq_true, not_true_eq_false, and_true, true_and, and_false, false_and, or_true, true_or, or_false, false_or, and_self, or_self])
      exact fin _ _ _ _ _ _ _ (by rw [h11]) hP hD hS (Nat.le_of_ble_eq_true rfl) (Nat.le_of_ble_eq_true rfl) dX2_move_81
  · skip
    refine lv_aload_n hx hb dX2_move_32 rfl (lv_at hl 1 rfl) ?_
    refine va_get (D := D) (ci := 2) (v := .ref (a 7)) (C := RX2) (T := TX2) (N := 8) hx hb hts inX2 hown hK hP 0 rfl rfl 7 (by decide) f34 (fun _ h9 => h9) rfl dX2_move_33 ?_
    refine lv_aload_n hx hb dX2_move_36 rfl (lv_at hl 1 rfl) ?_
    refine va_get (D := D) (ci := 2) (v := .ref (a 1)) (C := RX2) (T := TX2) (N := 8) hx hb hts inX2 hown hK hP 0 rfl rfl 1 (by decide) f15 (fun _ h9 => h9) rfl dX2_move_37 ?_
    refine lv_iload_n hx hb dX2_move_40 rfl (lv_at hl 2 rfl) ?_
    refine xald hx hb hK hP 1 rfl rfl (j) (rfl) (by omega) (by decide) dX2_move_41 ?_
    refine lv_dup2_11 hx hb dX2_move_42 rfl rfl ?_
    refine xald hx hb hK hP 7 rfl rfl (iv (u2 1 j)) (vi_eq (n := 16) ((by (try subst eu2); (try subst eu1); exact ok 1 j)) (by decide)) (vi_lt ((by (try subst eu2); (try subst eu1); exact ok 1 j))) (by decide) dX2_move_43 ?_
    refine lv_iconst (v := 1) hx hb dX2_move_44 (by decide) ?_
    refine lv_isub hx hb dX2_move_45 ?_
    obtain ⟨u12, eu12⟩ : ∃ z : Rc, z = put u2 7 (iv (u2 1 j)) ((u2 7 (iv (u2 1 j))) - 1) := ⟨_, rfl⟩
    refine xast hx hb hK hP hD hS 7 rfl rfl (iv (u2 1 j)) (vi_eq (n := 16) ((by (try subst eu2); (try subst eu1); exact ok 1 j)) (by decide)) (vi_lt ((by (try subst eu2); (try subst eu1); exact ok 1 j))) (by decide) (wMail cI a u12) (by subst eu12; rfl) dX2_move_46 (fun H locs hP hD hS => ?_)
    refine lv_iload_n hx hb dX2_move_47 rfl (lv_at hl 3 rfl) ?_
    refine lv_iconst (v := 3) hx hb dX2_move_48 (by decide) ?_
    refine lv_icmp_ne (tgt := 67) hx hb dX2_move_49 (by decide) (fun c13 => ?_) (fun c13 => ?_)
    · skip
      refine lv_aload_n hx hb dX2_move_67 rfl (lv_at hl 1 rfl) ?_
      refine va_get (D := D) (ci := 2) (v := .ref (a 4)) (C := RX2) (T := TX2) (N := 8) hx hb hts inX2 hown hK hP 0 rfl rfl 4 (by decide) f25 (fun _ h9 => h9) rfl dX2_move_68 ?_
      refine lv_iload_n hx hb dX2_move_71 rfl (lv_at hl 2 rfl) ?_
      refine lv_iconst (v := (-1)) hx hb dX2_move_72 (by decide) ?_
      obtain ⟨u14, eu14⟩ : ∃ z : Rc, z = put u12 4 j (-1) := ⟨_, rfl⟩
      refine xast hx hb hK hP hD hS 4 rfl rfl (j) (rfl) (by omega) (by decide) (wMail cI a u14) (by subst eu14; rfl) dX2_move_73 (fun H locs hP hD hS => ?_)
      refine lv_aload_n hx hb dX2_move_74 rfl (lv_at hl 1 rfl) ?_
      refine va_get (D := D) (ci := 2) (v := .ref (a 3)) (C := RX2) (T := TX2) (N := 8) hx hb hts inX2 hown hK hP 0 rfl rfl 3 (by decide) f22 (fun _ h9 => h9) rfl dX2_move_75 ?_
      refine lv_iload_n hx hb dX2_move_78 rfl (lv_at hl 2 rfl) ?_
      refine lv_iload_n hx hb dX2_move_79 rfl (lv_at hl 3 rfl) ?_
      obtain ⟨u15, eu15⟩ : ∃ z : Rc, z = put u14 3 j t := ⟨_, rfl⟩
      refine xast hx hb hK hP hD hS 3 rfl rfl (j) (rfl) (by omega) (by decide) (wMail cI a u15) (by subst eu15; rfl) dX2_move_80 (fun H locs hP hD hS => ?_)
      have h16 : u15 = mvF u j t := (by (try subst eu15); (try subst eu14); (try subst eu12); (try subst eu2); (try subst eu1); simp only [mvF, mvA, mvB, mvC, mvD, opt, c3, c13, ↓reduceIte, not_false_eq_true, not_true_eq_false, and_true, true_and, and_false, false_and, or_true, true_or, or_false, false_or, and_self, or_self])
      exact fin _ _ _ _ _ _ _ (by rw [h16]) hP hD hS (Nat.le_of_ble_eq_true rfl) (Nat.le_of_ble_eq_true rfl) dX2_move_81
    · skip
      refine lv_aload_n hx hb dX2_move_52 rfl (lv_at hl 1 rfl) ?_
      refine va_get (D := D) (ci := 2) (v := .ref (a 7)) (C := RX2) (T := TX2) (N := 8) hx hb hts inX2 hown hK hP 0 rfl rfl 7 (by decide) f34 (fun _ h9 => h9) rfl dX2_move_53 ?_
      refine lv_aload_n hx hb dX2_move_56 rfl (lv_at hl 1 rfl) ?_
      refine va_get (D := D) (ci := 2) (v := .ref (a 1)) (C := RX2) (T := TX2) (N := 8) hx hb hts inX2 hown hK hP 0 rfl rfl 1 (by decide) f15 (fun _ h9 => h9) rfl dX2_move_57 ?_
      refine lv_iload_n hx hb dX2_move_60 rfl (lv_at hl 2 rfl) ?_
      refine xald hx hb hK hP 1 rfl rfl (j) (rfl) (by omega) (by decide) dX2_move_61 ?_
      refine lv_dup2_11 hx hb dX2_move_62 rfl rfl ?_
      refine xald hx hb hK hP 7 rfl rfl (iv (u12 1 j)) (vi_eq (n := 16) ((by (try subst eu12); (try subst eu2); (try subst eu1); exact ok 1 j)) (by decide)) (vi_lt ((by (try subst eu12); (try subst eu2); (try subst eu1); exact ok 1 j))) (by decide) dX2_move_63 ?_
      refine lv_iconst (v := 1) hx hb dX2_move_64 (by decide) ?_
      refine lv_iadd hx hb dX2_move_65 ?_
      obtain ⟨u17, eu17⟩ : ∃ z : Rc, z = put u12 7 (iv (u12 1 j)) ((u12 7 (iv (u12 1 j))) + 1) := ⟨_, rfl⟩
      refine xast hx hb hK hP hD hS 7 rfl rfl (iv (u12 1 j)) (vi_eq (n := 16) ((by (try subst eu12); (try subst eu2); (try subst eu1); exact ok 1 j)) (by decide)) (vi_lt ((by (try subst eu12); (try subst eu2); (try subst eu1); exact ok 1 j))) (by decide) (wMail cI a u17) (by subst eu17; rfl) dX2_move_66 (fun H locs hP hD hS => ?_)
      refine lv_aload_n hx hb dX2_move_67 rfl (lv_at hl 1 rfl) ?_
      refine va_get (D := D) (ci := 2) (v := .ref (a 4)) (C := RX2) (T := TX2) (N := 8) hx hb hts inX2 hown hK hP 0 rfl rfl 4 (by decide) f25 (fun _ h9 => h9) rfl dX2_move_68 ?_
      refine lv_iload_n hx hb dX2_move_71 rfl (lv_at hl 2 rfl) ?_
      refine lv_iconst (v := (-1)) hx hb dX2_move_72 (by decide) ?_
      obtain ⟨u18, eu18⟩ : ∃ z : Rc, z = put u17 4 j (-1) := ⟨_, rfl⟩
      refine xast hx hb hK hP hD hS 4 rfl rfl (j) (rfl) (by omega) (by decide) (wMail cI a u18) (by subst eu18; rfl) dX2_move_73 (fun H locs hP hD hS => ?_)
      refine lv_aload_n hx hb dX2_move_74 rfl (lv_at hl 1 rfl) ?_
      refine va_get (D := D) (ci := 2) (v := .ref (a 3)) (C := RX2) (T := TX2) (N := 8) hx hb hts inX2 hown hK hP 0 rfl rfl 3 (by decide) f22 (fun _ h9 => h9) rfl dX2_move_75 ?_
      refine lv_iload_n hx hb dX2_move_78 rfl (lv_at hl 2 rfl) ?_
      refine lv_iload_n hx hb dX2_move_79 rfl (lv_at hl 3 rfl) ?_
      obtain ⟨u19, eu19⟩ : ∃ z : Rc, z = put u18 3 j t := ⟨_, rfl⟩
      refine xast hx hb hK hP hD hS 3 rfl rfl (j) (rfl) (by omega) (by decide) (wMail cI a u19) (by subst eu19; rfl) dX2_move_80 (fun H locs hP hD hS => ?_)
      have h20 : u19 = mvF u j t := (by (try subst eu19); (try subst eu18); (try subst eu17); (try subst eu12); (try subst eu2); (try subst eu1); simp only [mvF, mvA, mvB, mvC, mvD, opt, c3, c13, ↓reduceIte, not_false_eq_true, not_true_eq_false, and_true, true_and, and_false, false_and, or_true, true_or, or_false, false_or, and_self, or_self])
      exact fin _ _ _ _ _ _ _ (by rw [h20]) hP hD hS (Nat.le_of_ble_eq_true rfl) (Nat.le_of_ble_eq_true rfl) dX2_move_81
set_option maxHeartbeats 4000000 in
set_option maxRecDepth 100000 in
theorem c_X2_moveToHands (l : Launch) (D : va_G) (cI : ClassId) (a : Nat → Nat) (u : Rc) (ok : Ok u) (j : Nat) (hj : j < 60) (x : Int32) (ex : x = nI j) (y : Int32) : CV l yX2_moveToHands wsX2_moveToHands ({ frames := 1, cells := 0, slots := 0, locals := 23 } : Room) D cI [.ref (a 0), .int x, .int y] (wMail cI a u) (wMail cI a (mvH u j y)) := by
  refine CV.mk (cc := cX2_moveToHands) (maxL := 3) (by decide) rfl (Nat.le_of_ble_eq_true rfl) ?_
  intro p e s m args below meth c A Q ls hx hb hts hown hml hK hN hA hP hD hS hl fin
  have hown : s.vm.findClass RX2 = some m.cls := hown
  subst ex
  have hl : lv_has ls 3 [(0, .ref (a 0)), (1, .int (nI j)), (2, .int y)] := hl
  have f25 := hts (.fieldLink RX2 25 "NightSorters$Mail" "holder" "[I") (by decide +kernel)
  have inX2 : ∀ w ∈ wsX20, w ∈ wsX2_moveToHands := by decide +kernel
  refine lv_aload_n hx hb dX2_moveToHands_0 rfl (lv_at hl 0 rfl) ?_
  refine lv_iload_n hx hb dX2_moveToHands_1 rfl (lv_at hl 1 rfl) ?_
  refine lv_iconst (v := 2) hx hb dX2_moveToHands_2 (by decide) ?_
  obtain ⟨u1, eu1⟩ : ∃ z : Rc, z = mvF u j 2 := ⟨_, rfl⟩
  refine ycallv (invV (As := [.int (nI j), .int 2]) (rest := []) (rm := ({ frames := 0, cells := 0, slots := 0, locals := 0 } : Room)) ⟨hx, hb, hml, hown, hts⟩ (cwV 2 hts gX2_moveToHands_X2_move rfl rfl rfl (by decide +kernel) ⟨Nat.le_of_ble_eq_true rfl, Nat.le_of_ble_eq_true rfl⟩) (va_recv hK hP (ci := 2) (q0 := 0) rfl rfl) rfl rfl hl.1 (Nat.le_of_ble_eq_true rfl) dX2_moveToHands_3) (c_X2_move l D cI a u ok j hj (nI j) rfl 2 (vp_lit (by decide))) hK hN hA hP hD hS (W2 := wMail cI a u1) [0, 1, 2, 3, 4, 5, 6, 7] [] [0, 1, 2, 3, 4, 5, 6, 7] rfl rfl (by subst eu1; rfl) (by decide) ⟨Nat.le_of_ble_eq_true rfl, Nat.le_of_ble_eq_true rfl⟩ (fun H locs hP hD hS => ?_)
  refine lv_aload_n hx hb dX2_moveToHands_6 rfl (lv_at hl 0 rfl) ?_
  refine va_get (D := D) (ci := 2) (v := .ref (a 4)) (C := RX2) (T := TX2) (N := 8) hx hb hts inX2 hown hK hP 0 rfl rfl 4 (by decide) f25 (fun _ h9 => h9) rfl dX2_moveToHands_7 ?_
  refine lv_iload_n hx hb dX2_moveToHands_10 rfl (lv_at hl 1 rfl) ?_
  refine lv_iload_n hx hb dX2_moveToHands_11 rfl (lv_at hl 2 rfl) ?_
  obtain ⟨u2, eu2⟩ : ∃ z : Rc, z = put u1 4 j y := ⟨_, rfl⟩
  refine xast hx hb hK hP hD hS 4 rfl rfl (j) (rfl) (by omega) (by decide) (wMail cI a u2) (by subst eu2; rfl) dX2_moveToHands_12 (fun H locs hP hD hS => ?_)
  have h3 : u2 = mvH u j y := (by (try subst eu2); (try subst eu1); simp only [mvH, ↓reduceIte, not_false_eq_true, not_true_eq_false, and_true, true_and, and_false, false_and, or_true, true_or, or_false, false_or, and_self, or_self])
  exact fin _ _ _ _ _ _ _ (by rw [h3]) hP hD hS (Nat.le_of_ble_eq_true rfl) (Nat.le_of_ble_eq_true rfl) dX2_moveToHands_13
set_option maxHeartbeats 4000000 in
set_option maxRecDepth 100000 in
theorem c_X2_end (l : Launch) (D : va_G) (cI : ClassId) (a : Nat → Nat) (u : Rc) (ok : Ok u) (j : Nat) (hj : j < 60) (x : Int32) (ex : x = nI j) (t : Int32) (ht : vp_in t 6) (y : Int32) : CV l yX2_end wsX2_end ({ frames := 1, cells := 0, slots := 0, locals := 23 } : Room) D cI [.ref (a 0), .int x, .int t, .int y] (wMail cI a u) (wMail cI a (endF u j t y)) := by
  refine CV.mk (cc := cX2_end) (maxL := 4) (by decide) rfl (Nat.le_of_ble_eq_true rfl) ?_
  intro p e s m args below meth c A Q ls hx hb hts hown hml hK hN hA hP hD hS hl fin
  have hown : s.vm.findClass RX2 = some m.cls := hown
  subst ex
  have hl : lv_has ls 4 [(0, .ref (a 0)), (1, .int (nI j)), (2, .int t), (3, .int y)] := hl
  have f28 := hts (.fieldLink RX2 28 "NightSorters$Mail" "endMinute" "[I") (by decide +kernel)
  have inX2 : ∀ w ∈ wsX20, w ∈ wsX2_end := by decide +kernel
  refine lv_aload_n hx hb dX2_end_0 rfl (lv_at hl 0 rfl) ?_
  refine lv_iload_n hx hb dX2_end_1 rfl (lv_at hl 1 rfl) ?_
  refine lv_iload_n hx hb dX2_end_2 rfl (lv_at hl 2 rfl) ?_
  obtain ⟨u1, eu1⟩ : ∃ z : Rc, z = mvF u j t := ⟨_, rfl⟩
  refine ycallv (invV (As := [.int (nI j), .int t]) (rest := []) (rm := ({ frames := 0, cells := 0, slots := 0, locals := 0 } : Room)) ⟨hx, hb, hml, hown, hts⟩ (cwV 2 hts gX2_end_X2_move rfl rfl rfl (by decide +kernel) ⟨Nat.le_of_ble_eq_true rfl, Nat.le_of_ble_eq_true rfl⟩) (va_recv hK hP (ci := 2) (q0 := 0) rfl rfl) rfl rfl hl.1 (Nat.le_of_ble_eq_true rfl) dX2_end_3) (c_X2_move l D cI a u ok j hj (nI j) rfl t ht) hK hN hA hP hD hS (W2 := wMail cI a u1) [0, 1, 2, 3, 4, 5, 6, 7] [] [0, 1, 2, 3, 4, 5, 6, 7] rfl rfl (by subst eu1; rfl) (by decide) ⟨Nat.le_of_ble_eq_true rfl, Nat.le_of_ble_eq_true rfl⟩ (fun H locs hP hD hS => ?_)
  refine lv_aload_n hx hb dX2_end_6 rfl (lv_at hl 0 rfl) ?_
  refine va_get (D := D) (ci := 2) (v := .ref (a 5)) (C := RX2) (T := TX2) (N := 8) hx hb hts inX2 hown hK hP 0 rfl rfl 5 (by decide) f28 (fun _ h9 => h9) rfl dX2_end_7 ?_
  refine lv_iload_n hx hb dX2_end_10 rfl (lv_at hl 1 rfl) ?_
  refine lv_iload_n hx hb dX2_end_11 rfl (lv_at hl 3 rfl) ?_
  obtain ⟨u2, eu2⟩ : ∃ z : Rc, z = put u1 5 j y := ⟨_, rfl⟩
  refine xast hx hb hK hP hD hS 5 rfl rfl (j) (rfl) (by omega) (by decide) (wMail cI a u2) (by subst eu2; rfl) dX2_end_12 (fun H locs hP hD hS => ?_)
  have h3 : u2 = endF u j t y := (by (try subst eu2); (try subst eu1); simp only [endF, ↓reduceIte, not_false_eq_true, not_true_eq_false, and_true, true_and, and_false, false_and, or_true, true_or, or_false, false_or, and_self, or_self])
  exact fin _ _ _ _ _ _ _ (by rw [h3]) hP hD hS (Nat.le_of_ble_eq_true rfl) (Nat.le_of_ble_eq_true rfl) dX2_end_13
set_option maxHeartbeats 4000000 in
set_option maxRecDepth 100000 in
theorem c_X2_firstOnTable (l : Launch) (D : va_G) (cI : ClassId) (a : Nat → Nat) (u : Rc) (ok : Ok u) (x : Int32) : CI l yX2_firstOnTable wsX2_firstOnTable ({ frames := 1, cells := 0, slots := 0, locals := 21 } : Room) D cI [.ref (a 0), .int x] (wMail cI a u) (firstF u x) (wMail cI a u) := by
  refine CI.mk (cc := cX2_firstOnTable) (maxL := 3) (ret := (some .int)) rfl rfl (by decide) rfl (Nat.le_of_ble_eq_true rfl) ?_
  intro p e s m args below meth c A Q ls hx hb hts hown hml hK hN hA hP hD hS hl fin
  have hown : s.vm.findClass RX2 = some m.cls := hown
  have hn60 := ok.n60
  have hl : lv_has ls 3 [(0, .ref (a 0)), (1, .int x)] := hl
  have f9 := hts (.fieldLink RX2 9 "NightSorters$Mail" "size" "I") (by decide +kernel)
  have f15 := hts (.fieldLink RX2 15 "NightSorters$Mail" "town" "[I") (by decide +kernel)
  have f22 := hts (.fieldLink RX2 22 "NightSorters$Mail" "place" "[I") (by decide +kernel)
  have f31 := hts (.fieldLink RX2 31 "NightSorters$Mail" "inPlace" "[I") (by decide +kernel)
  have inX2 : ∀ w ∈ wsX20, w ∈ wsX2_firstOnTable := by decide +kernel
  refine lv_aload_n hx hb dX2_firstOnTable_0 rfl (lv_at hl 0 rfl) ?_
  refine va_get (D := D) (ci := 2) (v := .ref (a 6)) (C := RX2) (T := TX2) (N := 8) hx hb hts inX2 hown hK hP 0 rfl rfl 6 (by decide) f31 (fun _ h9 => h9) rfl dX2_firstOnTable_1 ?_
  refine lv_iconst (v := 1) hx hb dX2_firstOnTable_4 (by decide) ?_
  refine xald hx hb hK hP 6 rfl rfl (1) (by decide) (by decide) (by decide) dX2_firstOnTable_5 ?_
  refine lv_if_ne (tgt := 11) hx hb dX2_firstOnTable_6 (by decide) (fun c1 => ?_) (fun c1 => ?_)
  · skip
    refine lv_iconst (v := 0) hx hb dX2_firstOnTable_11 (by decide) ?_
    refine lv_istore_n (lv' := [(2, .int 0), (0, .ref (a 0)), (1, .int x)]) hx hb dX2_firstOnTable_12 rfl hl (by decide) rfl (fun ls hl => ?_)
    have K13 : ∀ (n13 i13 : Nat), 0 ≤ i13 → i13 ≤ iv (u 0 0) → iv (u 0 0) < i13 + n13 → (∀ k, k < i13 → decide (u 3 k = 1 ∧ hasT x (u 1 k)) = false) → ∀ (H : Heap) (locs : List Loc), va_P D vwCl (wMail cI a u) H → va_D A (wMail cI a u) → va_S A s.heap H locs → ∀ (ls : Array Slot), lv_has ls 3 [(2, .int (nI i13)), (0, .ref (a 0)), (1, .int x)] → W p l e ({ frames := 1, cells := 0, slots := 0, locals := 21 } : Room) s m args below meth c H locs (0) (0) Q (F0 m 13 ls []) := by
      intro n13
      induction n13 with
      | zero => intro i13 hlo13 hi13 hn13; exact absurd hn13 (by omega)
      | succ n13 ih13 =>
        intro i13 hlo13 hi13 hn13 hno H locs hP hD hS ls hl
        refine lv_iload_n hx hb dX2_firstOnTable_13 rfl (lv_at hl 0 rfl) ?_
        refine lv_aload_n hx hb dX2_firstOnTable_14 rfl (lv_at hl 1 rfl) ?_
        refine va_get (D := D) (ci := 2) (v := .int (u 0 0)) (C := RX2) (T := TX2) (N := 8) hx hb hts inX2 hown hK hP 0 rfl rfl 0 (by decide) f9 (fun _ h9 => h9) rfl dX2_firstOnTable_15 ?_
        refine lv_icmp_ge (tgt := 52) hx hb dX2_firstOnTable_18 (by decide) (fun c2 => ?_) (fun c2 => ?_)
        · skip
          have hie := lp_out ok.n (by omega) hi13 c2
          refine lv_iconst (v := (-1)) hx hb dX2_firstOnTable_52 (by decide) ?_
          exact fin _ _ _ _ _ _ _ _ (by unfold firstF; rw [if_neg c1]; exact (fnd_no (by rw [← hie]; exact hno)).symm) rfl hP hD hS (Nat.le_of_ble_eq_true rfl) (Nat.le_of_ble_eq_true rfl) dX2_firstOnTable_53
        · skip
          have hlt := lp_in ok.n (by omega) hi13 c2
          refine lv_aload_n hx hb dX2_firstOnTable_21 rfl (lv_at hl 1 rfl) ?_
          refine va_get (D := D) (ci := 2) (v := .ref (a 3)) (C := RX2) (T := TX2) (N := 8) hx hb hts inX2 hown hK hP 0 rfl rfl 3 (by decide) f22 (fun _ h9 => h9) rfl dX2_firstOnTable_22 ?_
          refine lv_iload_n hx hb dX2_firstOnTable_25 rfl (lv_at hl 0 rfl) ?_
          refine xald hx hb hK hP 3 rfl rfl (i13) (rfl) (by omega) (by decide) dX2_firstOnTable_26 ?_
          refine lv_iconst (v := 1) hx hb dX2_firstOnTable_27 (by decide) ?_
          refine lv_icmp_ne (tgt := 46) hx hb dX2_firstOnTable_28 (by decide) (fun c3 => ?_) (fun c3 => ?_)
          · skip
            refine lv_iinc (v := nI (i13 + 1)) (lv' := [(2, .int (nI (i13 + 1))), (0, .ref (a 0)), (1, .int x)]) hx hb dX2_firstOnTable_46 hl (k := 0) rfl (nI_inc _) (by decide) rfl (fun ls hl => ?_)
            refine lv_goto (tgt := 13) hx hb dX2_firstOnTable_49 (by decide) ?_
            exact ih13 (i13 + 1) (by omega) (by omega) (by omega) (lt_s hno (decide_eq_false (fun h => by first | exact c3 h.1 | exact c3 h.2))) H locs hP hD hS ls (lv_sub hl [0, 1, 2] rfl)
          · skip
            refine lv_iload_n hx hb dX2_firstOnTable_31 rfl (lv_at hl 2 rfl) ?_
            refine lv_aload_n hx hb dX2_firstOnTable_32 rfl (lv_at hl 1 rfl) ?_
            refine va_get (D := D) (ci := 2) (v := .ref (a 1)) (C := RX2) (T := TX2) (N := 8) hx hb hts inX2 hown hK hP 0 rfl rfl 1 (by decide) f15 (fun _ h9 => h9) rfl dX2_firstOnTable_33 ?_
            refine lv_iload_n hx hb dX2_firstOnTable_36 rfl (lv_at hl 0 rfl) ?_
            refine xald hx hb hK hP 1 rfl rfl (i13) (rfl) (by omega) (by decide) dX2_firstOnTable_37 ?_
            refine ycalli (invSN (As := [.int x, .int (u 1 i13)]) (rest := []) (rm := ({ frames := 0, cells := 0, slots := 0, locals := 0 } : Room)) ⟨hx, hb, hml, hown, hts⟩ ⟨va_cnB 2 hts gX2_firstOnTable_X4_hasTown_n41 rfl rfl rfl (NW.M hN (a := RX2) (i := 41) (x := yX4_hasTown) (h9 := "NightSorters") (by decide +kernel)) (hts (.initialized RX4) (by decide +kernel)) (by decide +kernel) ⟨Nat.le_of_ble_eq_true rfl, Nat.le_of_ble_eq_true rfl⟩, (hts (.static yX4_hasTown) (by decide +kernel)), trivial⟩ rfl rfl hl.1 (Nat.le_of_ble_eq_true rfl) dX2_firstOnTable_38) (c_X4_hasTown l D cI x (u 1 i13)) hK hN hA hP hD hS (W2 := wMail cI a u) [] [0, 1, 2, 3, 4, 5, 6, 7] [0, 1, 2, 3, 4, 5, 6, 7] rfl rfl rfl (by decide) ⟨Nat.le_of_ble_eq_true rfl, Nat.le_of_ble_eq_true rfl⟩ (fun H locs hP hD hS => ?_)
            refine lv_if_eq (tgt := 46) hx hb dX2_firstOnTable_41 (by decide) (fun c4 => ?_) (fun c4 => ?_)
            · skip
              have c4 := b01t c4
              refine lv_iinc (v := nI (i13 + 1)) (lv' := [(2, .int (nI (i13 + 1))), (0, .ref (a 0)), (1, .int x)]) hx hb dX2_firstOnTable_46 hl (k := 0) rfl (nI_inc _) (by decide) rfl (fun ls hl => ?_)
              refine lv_goto (tgt := 13) hx hb dX2_firstOnTable_49 (by decide) ?_
              exact ih13 (i13 + 1) (by omega) (by omega) (by omega) (lt_s hno (decide_eq_false (fun h => by first | exact c4 h.1 | exact c4 h.2))) H locs hP hD hS ls (lv_sub hl [0, 1, 2] rfl)
            · skip
              have c4 := b01f c4
              refine lv_iload_n hx hb dX2_firstOnTable_44 rfl (lv_at hl 0 rfl) ?_
              exact fin _ _ _ _ _ _ _ _ (by unfold firstF; rw [if_neg c1]; exact (fnd_at (decide_eq_true ⟨c3, c4⟩) hno (by omega) (by omega)).symm) rfl hP hD hS (Nat.le_of_ble_eq_true rfl) (Nat.le_of_ble_eq_true rfl) dX2_firstOnTable_45
    exact K13 (iv (u 0 0) + 1) 0 (Nat.le_refl _) (by omega) (by omega) (fun k hk => absurd hk (by omega)) _ _ hP hD hS ls (lv_sub hl [0, 1, 2] rfl)
  · skip
    refine lv_iconst (v := (-1)) hx hb dX2_firstOnTable_9 (by decide) ?_
    exact fin _ _ _ _ _ _ _ _ (by unfold firstF; rw [if_pos c1]) rfl hP hD hS (Nat.le_of_ble_eq_true rfl) (Nat.le_of_ble_eq_true rfl) dX2_firstOnTable_10
set_option maxHeartbeats 4000000 in
set_option maxRecDepth 100000 in
theorem c_X2_isInBag (l : Launch) (D : va_G) (cI : ClassId) (a : Nat → Nat) (u : Rc) (j : Nat) (hj : j < 60) (x : Int32) (ex : x = nI j) (y : Int32) : CI l yX2_isInBag wsX2_isInBag ({ frames := 0, cells := 0, slots := 0, locals := 0 } : Room) D cI [.ref (a 0), .int x, .int y] (wMail cI a u) (if inBag u j y then 1 else 0) (wMail cI a u) := by
  refine CI.mk (cc := cX2_isInBag) (maxL := 3) (ret := (some .boolean)) rfl (by split <;> rfl) (by decide) rfl (Nat.le_of_ble_eq_true rfl) ?_
  intro p e s m args below meth c A Q ls hx hb hts hown hml hK hN hA hP hD hS hl fin
  have hown : s.vm.findClass RX2 = some m.cls := hown
  subst ex
  have hl : lv_has ls 3 [(0, .ref (a 0)), (1, .int (nI j)), (2, .int y)] := hl
  have f19 := hts (.fieldLink RX2 19 "NightSorters$Mail" "postedAt" "[I") (by decide +kernel)
  have f22 := hts (.fieldLink RX2 22 "NightSorters$Mail" "place" "[I") (by decide +kernel)
  have inX2 : ∀ w ∈ wsX20, w ∈ wsX2_isInBag := by decide +kernel
  refine lv_aload_n hx hb dX2_isInBag_0 rfl (lv_at hl 0 rfl) ?_
  refine va_get (D := D) (ci := 2) (v := .ref (a 3)) (C := RX2) (T := TX2) (N := 8) hx hb hts inX2 hown hK hP 0 rfl rfl 3 (by decide) f22 (fun _ h9 => h9) rfl dX2_isInBag_1 ?_
  refine lv_iload_n hx hb dX2_isInBag_4 rfl (lv_at hl 1 rfl) ?_
  refine xald hx hb hK hP 3 rfl rfl (j) (rfl) (by omega) (by decide) dX2_isInBag_5 ?_
  refine lv_if_ne (tgt := 23) hx hb dX2_isInBag_6 (by decide) (fun c1 => ?_) (fun c1 => ?_)
  · skip
    refine lv_iconst (v := 0) hx hb dX2_isInBag_23 (by decide) ?_
    exact fin _ _ _ _ _ _ _ _ (by  simp only [inBag, c1, ↓reduceIte, not_false_eq_true, not_true_eq_false, and_true, true_and, and_false, false_and, or_true, true_or, or_false, false_or, and_self, or_self]) rfl hP hD hS (Nat.le_of_ble_eq_true rfl) (Nat.le_of_ble_eq_true rfl) dX2_isInBag_24
  · skip
    refine lv_aload_n hx hb dX2_isInBag_9 rfl (lv_at hl 0 rfl) ?_
    refine va_get (D := D) (ci := 2) (v := .ref (a 2)) (C := RX2) (T := TX2) (N := 8) hx hb hts inX2 hown hK hP 0 rfl rfl 2 (by decide) f19 (fun _ h9 => h9) rfl dX2_isInBag_10 ?_
    refine lv_iload_n hx hb dX2_isInBag_13 rfl (lv_at hl 1 rfl) ?_
    refine xald hx hb hK hP 2 rfl rfl (j) (rfl) (by omega) (by decide) dX2_isInBag_14 ?_
    refine lv_iload_n hx hb dX2_isInBag_15 rfl (lv_at hl 2 rfl) ?_
    refine lv_icmp_ne (tgt := 23) hx hb dX2_isInBag_16 (by decide) (fun c2 => ?_) (fun c2 => ?_)
    · skip
      refine lv_iconst (v := 0) hx hb dX2_isInBag_23 (by decide) ?_
      exact fin _ _ _ _ _ _ _ _ (by  simp only [inBag, c1, c2, ↓reduceIte, not_false_eq_true, not_true_eq_false, and_true, true_and, and_false, false_and, or_true, true_or, or_false, false_or, and_self, or_self]) rfl hP hD hS (Nat.le_of_ble_eq_true rfl) (Nat.le_of_ble_eq_true rfl) dX2_isInBag_24
    · skip
      refine lv_iconst (v := 1) hx hb dX2_isInBag_19 (by decide) ?_
      refine lv_goto (tgt := 24) hx hb dX2_isInBag_20 (by decide) ?_
      exact fin _ _ _ _ _ _ _ _ (by  simp only [inBag, c1, c2, ↓reduceIte, not_false_eq_true, not_true_eq_false, and_true, true_and, and_false, false_and, or_true, true_or, or_false, false_or, and_self, or_self]) rfl hP hD hS (Nat.le_of_ble_eq_true rfl) (Nat.le_of_ble_eq_true rfl) dX2_isInBag_24
set_option maxHeartbeats 4000000 in
set_option maxRecDepth 100000 in
theorem c_X2_lettersInBag (l : Launch) (D : va_G) (cI : ClassId) (a : Nat → Nat) (u : Rc) (ok : Ok u) (x : Int32) : CI l yX2_lettersInBag wsX2_lettersInBag ({ frames := 1, cells := 0, slots := 0, locals := 22 } : Room) D cI [.ref (a 0), .int x] (wMail cI a u) (lbagF u x) (wMail cI a u) := by
  refine CI.mk (cc := cX2_lettersInBag) (maxL := 4) (ret := (some .int)) rfl rfl (by decide) rfl (Nat.le_of_ble_eq_true rfl) ?_
  intro p e s m args below meth c A Q ls hx hb hts hown hml hK hN hA hP hD hS hl fin
  have hown : s.vm.findClass RX2 = some m.cls := hown
  have hn60 := ok.n60
  have hl : lv_has ls 4 [(0, .ref (a 0)), (1, .int x)] := hl
  have f9 := hts (.fieldLink RX2 9 "NightSorters$Mail" "size" "I") (by decide +kernel)
  have inX2 : ∀ w ∈ wsX20, w ∈ wsX2_lettersInBag := by decide +kernel
  refine lv_iconst (v := 0) hx hb dX2_lettersInBag_0 (by decide) ?_
  refine lv_istore_n (lv' := [(2, .int 0), (0, .ref (a 0)), (1, .int x)]) hx hb dX2_lettersInBag_1 rfl hl (by decide) rfl (fun ls hl => ?_)
  refine lv_iconst (v := 0) hx hb dX2_lettersInBag_2 (by decide) ?_
  refine lv_istore_n (lv' := [(3, .int 0), (2, .int 0), (0, .ref (a 0)), (1, .int x)]) hx hb dX2_lettersInBag_3 rfl hl (by decide) rfl (fun ls hl => ?_)
  have K4 : ∀ (n4 i4 : Nat), 0 ≤ i4 → i4 ≤ iv (u 0 0) → iv (u 0 0) < i4 + n4 → ∀ (H : Heap) (locs : List Loc), va_P D vwCl (wMail cI a u) H → va_D A (wMail cI a u) → va_S A s.heap H locs → ∀ (ls : Array Slot), lv_has ls 4 [(3, .int (nI i4)), (2, .int (cntN (fun k => decide (inBag u k x)) i4)), (0, .ref (a 0)), (1, .int x)] → W p l e ({ frames := 1, cells := 0, slots := 0, locals := 22 } : Room) s m args below meth c H locs (0) (0) Q (F0 m 4 ls []) := by
    intro n4
    induction n4 with
    | zero => intro i4 hlo4 hi4 hn4; exact absurd hn4 (by omega)
    | succ n4 ih4 =>
      intro i4 hlo4 hi4 hn4 H locs hP hD hS ls hl
      refine lv_iload_n hx hb dX2_lettersInBag_4 rfl (lv_at hl 0 rfl) ?_
      refine lv_aload_n hx hb dX2_lettersInBag_5 rfl (lv_at hl 2 rfl) ?_
      refine va_get (D := D) (ci := 2) (v := .int (u 0 0)) (C := RX2) (T := TX2) (N := 8) hx hb hts inX2 hown hK hP 0 rfl rfl 0 (by decide) f9 (fun _ h9 => h9) rfl dX2_lettersInBag_6 ?_
      refine lv_icmp_ge (tgt := 30) hx hb dX2_lettersInBag_9 (by decide) (fun c1 => ?_) (fun c1 => ?_)
      · skip
        have hie := lp_out ok.n (by omega) hi4 c1
        refine lv_iload_n hx hb dX2_lettersInBag_30 rfl (lv_at hl 1 rfl) ?_
        exact fin _ _ _ _ _ _ _ _ (by rw [hie]; rfl) rfl hP hD hS (Nat.le_of_ble_eq_true rfl) (Nat.le_of_ble_eq_true rfl) dX2_lettersInBag_31
      · skip
        have hlt := lp_in ok.n (by omega) hi4 c1
        refine lv_aload_n hx hb dX2_lettersInBag_12 rfl (lv_at hl 2 rfl) ?_
        refine lv_iload_n hx hb dX2_lettersInBag_13 rfl (lv_at hl 0 rfl) ?_
        refine lv_iload_n hx hb dX2_lettersInBag_14 rfl (lv_at hl 3 rfl) ?_
        refine ycalli (invV (As := [.int (nI i4), .int x]) (rest := []) (rm := ({ frames := 0, cells := 0, slots := 0, locals := 0 } : Room)) ⟨hx, hb, hml, hown, hts⟩ (cwV 2 hts gX2_lettersInBag_X2_isInBag rfl rfl rfl (by decide +kernel) ⟨Nat.le_of_ble_eq_true rfl, Nat.le_of_ble_eq_true rfl⟩) (va_recv hK hP (ci := 2) (q0 := 0) rfl rfl) rfl rfl hl.1 (Nat.le_of_ble_eq_true rfl) dX2_lettersInBag_15) (c_X2_isInBag l D cI a u i4 (by omega) (nI i4) rfl x) hK hN hA hP hD hS (W2 := wMail cI a u) [0, 1, 2, 3, 4, 5, 6, 7] [] [0, 1, 2, 3, 4, 5, 6, 7] rfl rfl rfl (by decide) ⟨Nat.le_of_ble_eq_true rfl, Nat.le_of_ble_eq_true rfl⟩ (fun H locs hP hD hS => ?_)
        refine lv_if_eq (tgt := 24) hx hb dX2_lettersInBag_18 (by decide) (fun c2 => ?_) (fun c2 => ?_)
        · skip
          have c2 := b01t c2
          refine lv_iinc (v := nI (i4 + 1)) (lv' := [(3, .int (nI (i4 + 1))), (2, .int (cntN (fun k => decide (inBag u k x)) i4)), (0, .ref (a 0)), (1, .int x)]) hx hb dX2_lettersInBag_24 hl (k := 0) rfl (nI_inc _) (by decide) rfl (fun ls hl => ?_)
          refine lv_goto (tgt := 4) hx hb dX2_lettersInBag_27 (by decide) ?_
          exact ih4 (i4 + 1) (by omega) (by omega) (by omega) H locs hP hD hS ls (lv_sub hl [0, 1, 2, 3] (by first | (rw [cnt_t (decide_eq_true c2)]; rfl) | (rw [cnt_f (decide_eq_false c2)]; rfl)))
        · skip
          have c2 := b01f c2
          refine lv_iinc (v := (cntN (fun k => decide (inBag u k x)) i4) + 1) (lv' := [(2, .int ((cntN (fun k => decide (inBag u k x)) i4) + 1)), (3, .int (nI i4)), (0, .ref (a 0)), (1, .int x)]) hx hb dX2_lettersInBag_21 hl (k := 1) rfl rfl (by decide) rfl (fun ls hl => ?_)
          refine lv_iinc (v := nI (i4 + 1)) (lv' := [(3, .int (nI (i4 + 1))), (2, .int ((cntN (fun k => decide (inBag u k x)) i4) + 1)), (0, .ref (a 0)), (1, .int x)]) hx hb dX2_lettersInBag_24 hl (k := 1) rfl (nI_inc _) (by decide) rfl (fun ls hl => ?_)
          refine lv_goto (tgt := 4) hx hb dX2_lettersInBag_27 (by decide) ?_
          exact ih4 (i4 + 1) (by omega) (by omega) (by omega) H locs hP hD hS ls (lv_sub hl [0, 1, 2, 3] (by first | (rw [cnt_t (decide_eq_true c2)]; rfl) | (rw [cnt_f (decide_eq_false c2)]; rfl)))
  exact K4 (iv (u 0 0) + 1) 0 (Nat.le_refl _) (by omega) (by omega) _ _ hP hD hS ls (lv_sub hl [0, 1, 2, 3] rfl)
set_option maxHeartbeats 4000000 in
set_option maxRecDepth 100000 in
theorem c_X2_fullestHole (l : Launch) (D : va_G) (cI : ClassId) (a : Nat → Nat) (u : Rc) : CI l yX2_fullestHole wsX2_fullestHole ({ frames := 0, cells := 0, slots := 0, locals := 0 } : Room) D cI [.ref (a 0)] (wMail cI a u) (nI (fullN (u 7) 15)) (wMail cI a u) := by
  refine CI.mk (cc := cX2_fullestHole) (maxL := 3) (ret := (some .int)) rfl rfl (by decide) rfl (Nat.le_of_ble_eq_true rfl) ?_
  intro p e s m args below meth c A Q ls hx hb hts hown hml hK hN hA hP hD hS hl fin
  have hown : s.vm.findClass RX2 = some m.cls := hown
  have hl : lv_has ls 3 [(0, .ref (a 0))] := hl
  have f34 := hts (.fieldLink RX2 34 "NightSorters$Mail" "inHole" "[I") (by decide +kernel)
  have inX2 : ∀ w ∈ wsX20, w ∈ wsX2_fullestHole := by decide +kernel
  refine lv_iconst (v := 0) hx hb dX2_fullestHole_0 (by decide) ?_
  refine lv_istore_n (lv' := [(1, .int 0), (0, .ref (a 0))]) hx hb dX2_fullestHole_1 rfl hl (by decide) rfl (fun ls hl => ?_)
  refine lv_iconst (v := nI (0 + 1)) hx hb dX2_fullestHole_2 (by decide) ?_
  refine lv_istore_n (lv' := [(2, .int (nI (0 + 1))), (1, .int 0), (0, .ref (a 0))]) hx hb dX2_fullestHole_3 rfl hl (by decide) rfl (fun ls hl => ?_)
  have K4 : ∀ (n4 i4 : Nat), 0 ≤ i4 → i4 ≤ 15 → 15 < i4 + n4 → ∀ (H : Heap) (locs : List Loc), va_P D vwCl (wMail cI a u) H → va_D A (wMail cI a u) → va_S A s.heap H locs → ∀ (ls : Array Slot), lv_has ls 3 [(2, .int (nI (i4 + 1))), (1, .int (nI (fullN (u 7) i4))), (0, .ref (a 0))] → W p l e ({ frames := 0, cells := 0, slots := 0, locals := 0 } : Room) s m args below meth c H locs (0) (0) Q (F0 m 4 ls []) := by
    intro n4
    induction n4 with
    | zero => intro i4 hlo4 hi4 hn4; exact absurd hn4 (by omega)
    | succ n4 ih4 =>
      intro i4 hlo4 hi4 hn4 H locs hP hD hS ls hl
      refine lv_iload_n hx hb dX2_fullestHole_4 rfl (lv_at hl 0 rfl) ?_
      refine lv_bipush (v := 16) hx hb dX2_fullestHole_5 (by decide) ?_
      refine lv_icmp_ge (tgt := 33) hx hb dX2_fullestHole_7 (by decide) (fun c1 => ?_) (fun c1 => ?_)
      · skip
        have hie := lp_out (show (16 : Int32) = nI 16 from rfl) (by decide) (by omega) c1
        refine lv_iload_n hx hb dX2_fullestHole_33 rfl (lv_at hl 1 rfl) ?_
        exact fin _ _ _ _ _ _ _ _ (by rw [show i4 = 15 by omega]) rfl hP hD hS (Nat.le_of_ble_eq_true rfl) (Nat.le_of_ble_eq_true rfl) dX2_fullestHole_34
      · skip
        have hlt := lp_in (show (16 : Int32) = nI 16 from rfl) (by decide) (by omega) c1
        have hfl := fullN_le (u 7) i4
        refine lv_aload_n hx hb dX2_fullestHole_10 rfl (lv_at hl 2 rfl) ?_
        refine va_get (D := D) (ci := 2) (v := .ref (a 7)) (C := RX2) (T := TX2) (N := 8) hx hb hts inX2 hown hK hP 0 rfl rfl 7 (by decide) f34 (fun _ h9 => h9) rfl dX2_fullestHole_11 ?_
        refine lv_iload_n hx hb dX2_fullestHole_14 rfl (lv_at hl 0 rfl) ?_
        refine xald hx hb hK hP 7 rfl rfl ((i4 + 1)) (rfl) (by omega) (by decide) dX2_fullestHole_15 ?_
        refine lv_aload_n hx hb dX2_fullestHole_16 rfl (lv_at hl 2 rfl) ?_
        refine va_get (D := D) (ci := 2) (v := .ref (a 7)) (C := RX2) (T := TX2) (N := 8) hx hb hts inX2 hown hK hP 0 rfl rfl 7 (by decide) f34 (fun _ h9 => h9) rfl dX2_fullestHole_17 ?_
        refine lv_iload_n hx hb dX2_fullestHole_20 rfl (lv_at hl 1 rfl) ?_
        refine xald hx hb hK hP 7 rfl rfl ((fullN (u 7) i4)) (rfl) (by omega) (by decide) dX2_fullestHole_21 ?_
        refine lv_icmp_le (tgt := 27) hx hb dX2_fullestHole_22 (by decide) (fun c2 => ?_) (fun c2 => ?_)
        · skip
          refine lv_iinc (v := nI ((i4 + 1) + 1)) (lv' := [(2, .int (nI ((i4 + 1) + 1))), (1, .int (nI (fullN (u 7) i4))), (0, .ref (a 0))]) hx hb dX2_fullestHole_27 hl (k := 0) rfl (nI_inc _) (by decide) rfl (fun ls hl => ?_)
          refine lv_goto (tgt := 4) hx hb dX2_fullestHole_30 (by decide) ?_
          exact ih4 (i4 + 1) (by omega) (by omega) (by omega) H locs hP hD hS ls (lv_sub hl [0, 1, 2] (by first | (rw [fullN, if_pos c2]; rfl) | (rw [fullN, if_neg c2]; rfl)))
        · skip
          refine lv_iload_n hx hb dX2_fullestHole_25 rfl (lv_at hl 0 rfl) ?_
          refine lv_istore_n (lv' := [(1, .int (nI (i4 + 1))), (2, .int (nI (i4 + 1))), (0, .ref (a 0))]) hx hb dX2_fullestHole_26 rfl hl (by decide) rfl (fun ls hl => ?_)
          refine lv_iinc (v := nI ((i4 + 1) + 1)) (lv' := [(2, .int (nI ((i4 + 1) + 1))), (1, .int (nI (i4 + 1))), (0, .ref (a 0))]) hx hb dX2_fullestHole_27 hl (k := 1) rfl (nI_inc _) (by decide) rfl (fun ls hl => ?_)
          refine lv_goto (tgt := 4) hx hb dX2_fullestHole_30 (by decide) ?_
          exact ih4 (i4 + 1) (by omega) (by omega) (by omega) H locs hP hD hS ls (lv_sub hl [0, 1, 2] (by first | (rw [fullN, if_pos c2]; rfl) | (rw [fullN, if_neg c2]; rfl)))
  exact K4 (15 + 1) 0 (Nat.le_refl _) (by omega) (by omega) _ _ hP hD hS ls (lv_sub hl [0, 1, 2] rfl)
set_option maxHeartbeats 4000000 in
set_option maxRecDepth 100000 in
theorem c_X2_spillHole (l : Launch) (D : va_G) (cI : ClassId) (a : Nat → Nat) (u : Rc) (ok : Ok u) (x : Int32) : CV l yX2_spillHole wsX2_spillHole ({ frames := 1, cells := 0, slots := 0, locals := 23 } : Room) D cI [.ref (a 0), .int x] (wMail cI a u) (wMail cI a (spillF x u)) := by
  refine CV.mk (cc := cX2_spillHole) (maxL := 3) (by decide) rfl (Nat.le_of_ble_eq_true rfl) ?_
  intro p e s m args below meth c A Q ls hx hb hts hown hml hK hN hA hP hD hS hl fin
  have hown : s.vm.findClass RX2 = some m.cls := hown
  have hn60 := ok.n60
  have hl : lv_has ls 3 [(0, .ref (a 0)), (1, .int x)] := hl
  have f9 := hts (.fieldLink RX2 9 "NightSorters$Mail" "size" "I") (by decide +kernel)
  have f15 := hts (.fieldLink RX2 15 "NightSorters$Mail" "town" "[I") (by decide +kernel)
  have f22 := hts (.fieldLink RX2 22 "NightSorters$Mail" "place" "[I") (by decide +kernel)
  have inX2 : ∀ w ∈ wsX20, w ∈ wsX2_spillHole := by decide +kernel
  refine lv_iconst (v := 0) hx hb dX2_spillHole_0 (by decide) ?_
  refine lv_istore_n (lv' := [(2, .int 0), (0, .ref (a 0)), (1, .int x)]) hx hb dX2_spillHole_1 rfl hl (by decide) rfl (fun ls hl => ?_)
  have K2 : ∀ (n2 i2 : Nat), 0 ≤ i2 → i2 ≤ iv (u 0 0) → iv (u 0 0) < i2 + n2 → ∀ (H : Heap) (locs : List Loc), va_P D vwCl (wMail cI a (itN (spillB x) i2 u)) H → va_D A (wMail cI a (itN (spillB x) i2 u)) → va_S A s.heap H locs → ∀ (ls : Array Slot), lv_has ls 3 [(2, .int (nI i2)), (0, .ref (a 0)), (1, .int x)] → W p l e ({ frames := 1, cells := 0, slots := 0, locals := 23 } : Room) s m args below meth c H locs (0) (0) Q (F0 m 2 ls []) := by
    intro n2
    induction n2 with
    | zero => intro i2 hlo2 hi2 hn2; exact absurd hn2 (by omega)
    | succ n2 ih2 =>
      intro i2 hlo2 hi2 hn2 H locs hP hD hS ls hl
      obtain ⟨u1, eu1⟩ : ∃ z : Rc, z = itN (spillB x) i2 u := ⟨_, rfl⟩
      rw [← eu1] at hP hD
      have hp : Pr u u1 := by rw [eu1]; exact Pr.it (fun _ _ => spillB_pr) _
      have hb0 := hp.n ok
      have ok2 := hp.ok ok
      refine lv_iload_n hx hb dX2_spillHole_2 rfl (lv_at hl 0 rfl) ?_
      refine lv_aload_n hx hb dX2_spillHole_3 rfl (lv_at hl 1 rfl) ?_
      refine va_get (D := D) (ci := 2) (v := .int (u1 0 0)) (C := RX2) (T := TX2) (N := 8) hx hb hts inX2 hown hK hP 0 rfl rfl 0 (by decide) f9 (fun _ h9 => h9) rfl dX2_spillHole_4 ?_
      refine lv_icmp_ge (tgt := 42) hx hb dX2_spillHole_7 (by decide) (fun c2 => ?_) (fun c2 => ?_)
      · skip
        have hie := lp_out hb0 (by omega) hi2 c2
        have h3 : u1 = spillF x u := (by rw [eu1, hie]; rfl)
        exact fin _ _ _ _ _ _ _ (by rw [h3]) hP hD hS (Nat.le_of_ble_eq_true rfl) (Nat.le_of_ble_eq_true rfl) dX2_spillHole_42
      · skip
        have hlt := lp_in hb0 (by omega) hi2 c2
        refine lv_aload_n hx hb dX2_spillHole_10 rfl (lv_at hl 1 rfl) ?_
        refine va_get (D := D) (ci := 2) (v := .ref (a 3)) (C := RX2) (T := TX2) (N := 8) hx hb hts inX2 hown hK hP 0 rfl rfl 3 (by decide) f22 (fun _ h9 => h9) rfl dX2_spillHole_11 ?_
        refine lv_iload_n hx hb dX2_spillHole_14 rfl (lv_at hl 0 rfl) ?_
        refine xald hx hb hK hP 3 rfl rfl (i2) (rfl) (by omega) (by decide) dX2_spillHole_15 ?_
        refine lv_iconst (v := 3) hx hb dX2_spillHole_16 (by decide) ?_
        refine lv_icmp_ne (tgt := 36) hx hb dX2_spillHole_17 (by decide) (fun c4 => ?_) (fun c4 => ?_)
        · skip
          refine lv_iinc (v := nI (i2 + 1)) (lv' := [(2, .int (nI (i2 + 1))), (0, .ref (a 0)), (1, .int x)]) hx hb dX2_spillHole_36 hl (k := 0) rfl (nI_inc _) (by decide) rfl (fun ls hl => ?_)
          refine lv_goto (tgt := 2) hx hb dX2_spillHole_39 (by decide) ?_
          have h5 : u1 = itN (spillB x) (i2 + 1) u := by rw [itN_s, ← eu1]; simp only [spillB, opt, c2, c4, ↓reduceIte, not_false_eq_true, not_true_eq_false, and_true, true_and, and_false, false_and, or_true, true_or, or_false, false_or, and_self, or_self]
          rw [h5] at hP hD
          exact ih2 (i2 + 1) (by omega) (by omega) (by omega) H locs hP hD hS ls (lv_sub hl [0, 1, 2] rfl)
        · skip
          refine lv_aload_n hx hb dX2_spillHole_20 rfl (lv_at hl 1 rfl) ?_
          refine va_get (D := D) (ci := 2) (v := .ref (a 1)) (C := RX2) (T := TX2) (N := 8) hx hb hts inX2 hown hK hP 0 rfl rfl 1 (by decide) f15 (fun _ h9 => h9) rfl dX2_spillHole_21 ?_
          refine lv_iload_n hx hb dX2_spillHole_24 rfl (lv_at hl 0 rfl) ?_
          refine xald hx hb hK hP 1 rfl rfl (i2) (rfl) (by omega) (by decide) dX2_spillHole_25 ?_
          refine lv_iload_n hx hb dX2_spillHole_26 rfl (lv_at hl 2 rfl) ?_
          refine lv_icmp_ne (tgt := 36) hx hb dX2_spillHole_27 (by decide) (fun c6 => ?_) (fun c6 => ?_)
          · skip
            refine lv_iinc (v := nI (i2 + 1)) (lv' := [(2, .int (nI (i2 + 1))), (0, .ref (a 0)), (1, .int x)]) hx hb dX2_spillHole_36 hl (k := 0) rfl (nI_inc _) (by decide) rfl (fun ls hl => ?_)
            refine lv_goto (tgt := 2) hx hb dX2_spillHole_39 (by decide) ?_
            have h7 : u1 = itN (spillB x) (i2 + 1) u := by rw [itN_s, ← eu1]; simp only [spillB, opt, c2, c4, c6, ↓reduceIte, not_false_eq_true, not_true_eq_false, and_true, true_and, and_false, false_and, or_true, true_or, or_false, false_or, and_self, or_self]
            rw [h7] at hP hD
            exact ih2 (i2 + 1) (by omega) (by omega) (by omega) H locs hP hD hS ls (lv_sub hl [0, 1, 2] rfl)
          · skip
            refine lv_aload_n hx hb dX2_spillHole_30 rfl (lv_at hl 1 rfl) ?_
            refine lv_iload_n hx hb dX2_spillHole_31 rfl (lv_at hl 0 rfl) ?_
            refine lv_iconst (v := 1) hx hb dX2_spillHole_32 (by decide) ?_
            obtain ⟨u8, eu8⟩ : ∃ z : Rc, z = mvF u1 i2 1 := ⟨_, rfl⟩
            refine ycallv (invV (As := [.int (nI i2), .int 1]) (rest := []) (rm := ({ frames := 0, cells := 0, slots := 0, locals := 0 } : Room)) ⟨hx, hb, hml, hown, hts⟩ (cwV 2 hts gX2_spillHole_X2_move rfl rfl rfl (by decide +kernel) ⟨Nat.le_of_ble_eq_true rfl, Nat.le_of_ble_eq_true rfl⟩) (va_recv hK hP (ci := 2) (q0 := 0) rfl rfl) rfl rfl hl.1 (Nat.le_of_ble_eq_true rfl) dX2_spillHole_33) (c_X2_move l D cI a u1 ok2 i2 (by omega) (nI i2) rfl 1 (vp_lit (by decide))) hK hN hA hP hD hS (W2 := wMail cI a u8) [0, 1, 2, 3, 4, 5, 6, 7] [] [0, 1, 2, 3, 4, 5, 6, 7] rfl rfl (by subst eu8; rfl) (by decide) ⟨Nat.le_of_ble_eq_true rfl, Nat.le_of_ble_eq_true rfl⟩ (fun H locs hP hD hS => ?_)
            refine lv_iinc (v := nI (i2 + 1)) (lv' := [(2, .int (nI (i2 + 1))), (0, .ref (a 0)), (1, .int x)]) hx hb dX2_spillHole_36 hl (k := 0) rfl (nI_inc _) (by decide) rfl (fun ls hl => ?_)
            refine lv_goto (tgt := 2) hx hb dX2_spillHole_39 (by decide) ?_
            have h9 : u8 = itN (spillB x) (i2 + 1) u := by rw [itN_s, ← eu1]; (try subst eu8); simp only [spillB, opt, c2, c4, c6, ↓reduceIte, not_false_eq_true, not_true_eq_false, and_true, true_and, and_false, false_and, or_true, true_or, or_false, false_or, and_self, or_self]
            rw [h9] at hP hD
            exact ih2 (i2 + 1) (by omega) (by omega) (by omega) H locs hP hD hS ls (lv_sub hl [0, 1, 2] rfl)
  exact K2 (iv (u 0 0) + 1) 0 (Nat.le_refl _) (by omega) (by omega) _ _ hP hD hS ls (lv_sub hl [0, 1, 2] rfl)
set_option maxHeartbeats 4000000 in
set_option maxRecDepth 100000 in
theorem c_X2_copyFrom (l : Launch) (D : va_G) (cI : ClassId) (a b : Nat → Nat) (u v : Rc) : CV l yX2_copyFrom wsX2_copyFrom ({ frames := 1, cells := 0, slots := 0, locals := 60 } : Room) D cI [.ref (a 0), .ref (b 0)] (wMail2 cI a b u v) (wMail2 cI a b v v) := by
  refine CV.mk (cc := cX2_copyFrom) (maxL := 2) (by decide) rfl (Nat.le_of_ble_eq_true rfl) ?_
  intro p e s m args below meth c A Q ls hx hb hts hown hml hK hN hA hP hD hS hl fin
  have hown : s.vm.findClass RX2 = some m.cls := hown
  have hl : lv_has ls 2 [(0, .ref (a 0)), (1, .ref (b 0))] := hl
  have f9 := hts (.fieldLink RX2 9 "NightSorters$Mail" "size" "I") (by decide +kernel)
  have f15 := hts (.fieldLink RX2 15 "NightSorters$Mail" "town" "[I") (by decide +kernel)
  have f19 := hts (.fieldLink RX2 19 "NightSorters$Mail" "postedAt" "[I") (by decide +kernel)
  have f22 := hts (.fieldLink RX2 22 "NightSorters$Mail" "place" "[I") (by decide +kernel)
  have f25 := hts (.fieldLink RX2 25 "NightSorters$Mail" "holder" "[I") (by decide +kernel)
  have f28 := hts (.fieldLink RX2 28 "NightSorters$Mail" "endMinute" "[I") (by decide +kernel)
  have f31 := hts (.fieldLink RX2 31 "NightSorters$Mail" "inPlace" "[I") (by decide +kernel)
  have f34 := hts (.fieldLink RX2 34 "NightSorters$Mail" "inHole" "[I") (by decide +kernel)
  have inX2 : ∀ w ∈ wsX20, w ∈ wsX2_copyFrom := by decide +kernel
  refine lv_aload_n hx hb dX2_copyFrom_0 rfl (lv_at hl 0 rfl) ?_
  refine lv_aload_n hx hb dX2_copyFrom_1 rfl (lv_at hl 1 rfl) ?_
  refine va_get (D := D) (ci := 2) (v := .int (v 0 0)) (C := RX2) (T := TX2) (N := 8) hx hb hts inX2 hown hK hP 8 rfl rfl 0 (by decide) f9 (fun _ h9 => h9) rfl dX2_copyFrom_2 ?_
  obtain ⟨u1, eu1⟩ : ∃ z : Rc, z = put u 0 0 (v 0 0) := ⟨_, rfl⟩
  refine va_put (D := D) (ci := 2) (v := .int (v 0 0)) (ty := .int) (C := RX2) (T := TX2) (N := 8) hx hb hts inX2 tyX2 tyX2_ok nmX2 hown hK hP hD hS 0 rfl rfl 0 (by decide) f9 (fun _ h9 => h9) rfl (by decide +kernel) rfl rfl (Nat.le_of_ble_eq_true rfl) dX2_copyFrom_5 (fun H locs hP hD hS => ?_)
  have hP : va_P D vwCl (wMail2 cI a b u1 v) H := by subst eu1; exact hP
  have hD : va_D A (wMail2 cI a b u1 v) := by subst eu1; exact hD
  refine lv_aload_n hx hb dX2_copyFrom_8 rfl (lv_at hl 1 rfl) ?_
  refine va_get (D := D) (ci := 2) (v := .ref (b 1)) (C := RX2) (T := TX2) (N := 8) hx hb hts inX2 hown hK hP 8 rfl rfl 1 (by decide) f15 (fun _ h9 => h9) rfl dX2_copyFrom_9 ?_
  refine lv_iconst (v := 0) hx hb dX2_copyFrom_12 (by decide) ?_
  refine lv_aload_n hx hb dX2_copyFrom_13 rfl (lv_at hl 0 rfl) ?_
  refine va_get (D := D) (ci := 2) (v := .ref (a 1)) (C := RX2) (T := TX2) (N := 8) hx hb hts inX2 hown hK hP 0 rfl rfl 1 (by decide) f15 (fun _ h9 => h9) rfl dX2_copyFrom_14 ?_
  refine lv_iconst (v := 0) hx hb dX2_copyFrom_17 (by decide) ?_
  refine lv_bipush (v := 60) hx hb dX2_copyFrom_18 (by decide) ?_
  obtain ⟨u2, eu2⟩ : ∃ z : Rc, z = setR u1 1 (v 1) := ⟨_, rfl⟩
  refine xcopy hx hb (hml.trans hl.1.symm) hown (hts (.methodLink RX2 48 arraycopyName) (by decide +kernel)) (hts (.native arraycopyName) (by decide +kernel)) (hts (.static arraycopyName) (by decide +kernel)) (hts (.initialized "java/lang/System") (by decide +kernel)) hK hP hD hS 9 1 rfl rfl rfl (wMail2 cI a b u2 v) (by subst eu2; rfl) (by decide) (by decide) (Nat.le_of_ble_eq_true rfl) (Nat.le_of_ble_eq_true rfl) dX2_copyFrom_20 (fun H locs hP hD hS => ?_)
  refine lv_aload_n hx hb dX2_copyFrom_23 rfl (lv_at hl 1 rfl) ?_
  refine va_get (D := D) (ci := 2) (v := .ref (b 2)) (C := RX2) (T := TX2) (N := 8) hx hb hts inX2 hown hK hP 8 rfl rfl 2 (by decide) f19 (fun _ h9 => h9) rfl dX2_copyFrom_24 ?_
  refine lv_iconst (v := 0) hx hb dX2_copyFrom_27 (by decide) ?_
  refine lv_aload_n hx hb dX2_copyFrom_28 rfl (lv_at hl 0 rfl) ?_
  refine va_get (D := D) (ci := 2) (v := .ref (a 2)) (C := RX2) (T := TX2) (N := 8) hx hb hts inX2 hown hK hP 0 rfl rfl 2 (by decide) f19 (fun _ h9 => h9) rfl dX2_copyFrom_29 ?_
  refine lv_iconst (v := 0) hx hb dX2_copyFrom_32 (by decide) ?_
  refine lv_bipush (v := 60) hx hb dX2_copyFrom_33 (by decide) ?_
  obtain ⟨u3, eu3⟩ : ∃ z : Rc, z = setR u2 2 (v 2) := ⟨_, rfl⟩
  refine xcopy hx hb (hml.trans hl.1.symm) hown (hts (.methodLink RX2 48 arraycopyName) (by decide +kernel)) (hts (.native arraycopyName) (by decide +kernel)) (hts (.static arraycopyName) (by decide +kernel)) (hts (.initialized "java/lang/System") (by decide +kernel)) hK hP hD hS 10 2 rfl rfl rfl (wMail2 cI a b u3 v) (by subst eu3; rfl) (by decide) (by decide) (Nat.le_of_ble_eq_true rfl) (Nat.le_of_ble_eq_true rfl) dX2_copyFrom_35 (fun H locs hP hD hS => ?_)
  refine lv_aload_n hx hb dX2_copyFrom_38 rfl (lv_at hl 1 rfl) ?_
  refine va_get (D := D) (ci := 2) (v := .ref (b 3)) (C := RX2) (T := TX2) (N := 8) hx hb hts inX2 hown hK hP 8 rfl rfl 3 (by decide) f22 (fun _ h9 => h9) rfl dX2_copyFrom_39 ?_
  refine lv_iconst (v := 0) hx hb dX2_copyFrom_42 (by decide) ?_
  refine lv_aload_n hx hb dX2_copyFrom_43 rfl (lv_at hl 0 rfl) ?_
  refine va_get (D := D) (ci := 2) (v := .ref (a 3)) (C := RX2) (T := TX2) (N := 8) hx hb hts inX2 hown hK hP 0 rfl rfl 3 (by decide) f22 (fun _ h9 => h9) rfl dX2_copyFrom_44 ?_
  refine lv_iconst (v := 0) hx hb dX2_copyFrom_47 (by decide) ?_
  refine lv_bipush (v := 60) hx hb dX2_copyFrom_48 (by decide) ?_
  obtain ⟨u4, eu4⟩ : ∃ z : Rc, z = setR u3 3 (v 3) := ⟨_, rfl⟩
  refine xcopy hx hb (hml.trans hl.1.symm) hown (hts (.methodLink RX2 48 arraycopyName) (by decide +kernel)) (hts (.native arraycopyName) (by decide +kernel)) (hts (.static arraycopyName) (by decide +kernel)) (hts (.initialized "java/lang/System") (by decide +kernel)) hK hP hD hS 11 3 rfl rfl rfl (wMail2 cI a b u4 v) (by subst eu4; rfl) (by decide) (by decide) (Nat.le_of_ble_eq_true rfl) (Nat.le_of_ble_eq_true rfl) dX2_copyFrom_50 (fun H locs hP hD hS => ?_)
  refine lv_aload_n hx hb dX2_copyFrom_53 rfl (lv_at hl 1 rfl) ?_
  refine va_get (D := D) (ci := 2) (v := .ref (b 4)) (C := RX2) (T := TX2) (N := 8) hx hb hts inX2 hown hK hP 8 rfl rfl 4 (by decide) f25 (fun _ h9 => h9) rfl dX2_copyFrom_54 ?_
  refine lv_iconst (v := 0) hx hb dX2_copyFrom_57 (by decide) ?_
  refine lv_aload_n hx hb dX2_copyFrom_58 rfl (lv_at hl 0 rfl) ?_
  refine va_get (D := D) (ci := 2) (v := .ref (a 4)) (C := RX2) (T := TX2) (N := 8) hx hb hts inX2 hown hK hP 0 rfl rfl 4 (by decide) f25 (fun _ h9 => h9) rfl dX2_copyFrom_59 ?_
  refine lv_iconst (v := 0) hx hb dX2_copyFrom_62 (by decide) ?_
  refine lv_bipush (v := 60) hx hb dX2_copyFrom_63 (by decide) ?_
  obtain ⟨u5, eu5⟩ : ∃ z : Rc, z = setR u4 4 (v 4) := ⟨_, rfl⟩
  refine xcopy hx hb (hml.trans hl.1.symm) hown (hts (.methodLink RX2 48 arraycopyName) (by decide +kernel)) (hts (.native arraycopyName) (by decide +kernel)) (hts (.static arraycopyName) (by decide +kernel)) (hts (.initialized "java/lang/System") (by decide +kernel)) hK hP hD hS 12 4 rfl rfl rfl (wMail2 cI a b u5 v) (by subst eu5; rfl) (by decide) (by decide) (Nat.le_of_ble_eq_true rfl) (Nat.le_of_ble_eq_true rfl) dX2_copyFrom_65 (fun H locs hP hD hS => ?_)
  refine lv_aload_n hx hb dX2_copyFrom_68 rfl (lv_at hl 1 rfl) ?_
  refine va_get (D := D) (ci := 2) (v := .ref (b 5)) (C := RX2) (T := TX2) (N := 8) hx hb hts inX2 hown hK hP 8 rfl rfl 5 (by decide) f28 (fun _ h9 => h9) rfl dX2_copyFrom_69 ?_
  refine lv_iconst (v := 0) hx hb dX2_copyFrom_72 (by decide) ?_
  refine lv_aload_n hx hb dX2_copyFrom_73 rfl (lv_at hl 0 rfl) ?_
  refine va_get (D := D) (ci := 2) (v := .ref (a 5)) (C := RX2) (T := TX2) (N := 8) hx hb hts inX2 hown hK hP 0 rfl rfl 5 (by decide) f28 (fun _ h9 => h9) rfl dX2_copyFrom_74 ?_
  refine lv_iconst (v := 0) hx hb dX2_copyFrom_77 (by decide) ?_
  refine lv_bipush (v := 60) hx hb dX2_copyFrom_78 (by decide) ?_
  obtain ⟨u6, eu6⟩ : ∃ z : Rc, z = setR u5 5 (v 5) := ⟨_, rfl⟩
  refine xcopy hx hb (hml.trans hl.1.symm) hown (hts (.methodLink RX2 48 arraycopyName) (by decide +kernel)) (hts (.native arraycopyName) (by decide +kernel)) (hts (.static arraycopyName) (by decide +kernel)) (hts (.initialized "java/lang/System") (by decide +kernel)) hK hP hD hS 13 5 rfl rfl rfl (wMail2 cI a b u6 v) (by subst eu6; rfl) (by decide) (by decide) (Nat.le_of_ble_eq_true rfl) (Nat.le_of_ble_eq_true rfl) dX2_copyFrom_80 (fun H locs hP hD hS => ?_)
  refine lv_aload_n hx hb dX2_copyFrom_83 rfl (lv_at hl 1 rfl) ?_
  refine va_get (D := D) (ci := 2) (v := .ref (b 6)) (C := RX2) (T := TX2) (N := 8) hx hb hts inX2 hown hK hP 8 rfl rfl 6 (by decide) f31 (fun _ h9 => h9) rfl dX2_copyFrom_84 ?_
  refine lv_iconst (v := 0) hx hb dX2_copyFrom_87 (by decide) ?_
  refine lv_aload_n hx hb dX2_copyFrom_88 rfl (lv_at hl 0 rfl) ?_
  refine va_get (D := D) (ci := 2) (v := .ref (a 6)) (C := RX2) (T := TX2) (N := 8) hx hb hts inX2 hown hK hP 0 rfl rfl 6 (by decide) f31 (fun _ h9 => h9) rfl dX2_copyFrom_89 ?_
  refine lv_iconst (v := 0) hx hb dX2_copyFrom_92 (by decide) ?_
  refine lv_bipush (v := 6) hx hb dX2_copyFrom_93 (by decide) ?_
  obtain ⟨u7, eu7⟩ : ∃ z : Rc, z = setR u6 6 (v 6) := ⟨_, rfl⟩
  refine xcopy hx hb (hml.trans hl.1.symm) hown (hts (.methodLink RX2 48 arraycopyName) (by decide +kernel)) (hts (.native arraycopyName) (by decide +kernel)) (hts (.static arraycopyName) (by decide +kernel)) (hts (.initialized "java/lang/System") (by decide +kernel)) hK hP hD hS 14 6 rfl rfl rfl (wMail2 cI a b u7 v) (by subst eu7; rfl) (by decide) (by decide) (Nat.le_of_ble_eq_true rfl) (Nat.le_of_ble_eq_true rfl) dX2_copyFrom_95 (fun H locs hP hD hS => ?_)
  refine lv_aload_n hx hb dX2_copyFrom_98 rfl (lv_at hl 1 rfl) ?_
  refine va_get (D := D) (ci := 2) (v := .ref (b 7)) (C := RX2) (T := TX2) (N := 8) hx hb hts inX2 hown hK hP 8 rfl rfl 7 (by decide) f34 (fun _ h9 => h9) rfl dX2_copyFrom_99 ?_
  refine lv_iconst (v := 0) hx hb dX2_copyFrom_102 (by decide) ?_
  refine lv_aload_n hx hb dX2_copyFrom_103 rfl (lv_at hl 0 rfl) ?_
  refine va_get (D := D) (ci := 2) (v := .ref (a 7)) (C := RX2) (T := TX2) (N := 8) hx hb hts inX2 hown hK hP 0 rfl rfl 7 (by decide) f34 (fun _ h9 => h9) rfl dX2_copyFrom_104 ?_
  refine lv_iconst (v := 0) hx hb dX2_copyFrom_107 (by decide) ?_
  refine lv_bipush (v := 16) hx hb dX2_copyFrom_108 (by decide) ?_
  obtain ⟨u8, eu8⟩ : ∃ z : Rc, z = setR u7 7 (v 7) := ⟨_, rfl⟩
  refine xcopy hx hb (hml.trans hl.1.symm) hown (hts (.methodLink RX2 48 arraycopyName) (by decide +kernel)) (hts (.native arraycopyName) (by decide +kernel)) (hts (.static arraycopyName) (by decide +kernel)) (hts (.initialized "java/lang/System") (by decide +kernel)) hK hP hD hS 15 7 rfl rfl rfl (wMail2 cI a b u8 v) (by subst eu8; rfl) (by decide) (by decide) (Nat.le_of_ble_eq_true rfl) (Nat.le_of_ble_eq_true rfl) dX2_copyFrom_110 (fun H locs hP hD hS => ?_)
  exact fin _ _ _ _ _ _ _ (by (try subst eu8); (try subst eu7); (try subst eu6); (try subst eu5); (try subst eu4); (try subst eu3); (try subst eu2); (try subst eu1); rfl) hP hD hS (Nat.le_of_ble_eq_true rfl) (Nat.le_of_ble_eq_true rfl) dX2_copyFrom_113
end
