section
-- ===== PART A: goes FIRST, ahead of the names: the tables' words, and 'selects' of the private methods out of them =====
/-- a private method of a class that the tables say can be made, by its rows of tables_1 -/
def lw_okq (q : MethodName × Nat) : Prop := (q.1.cls ≠ "java/lang/invoke/MethodHandle" ∧ q.1.cls ≠ "java/lang/invoke/VarHandle") ∧ Cond.instantiable q.1.cls q.2 ∈ tables_1 ∧ Cond.privateMethod q.1 ∈ tables_1 ∧ Cond.instanceMethod q.1 ∈ tables_1
theorem lw_p0 : lw_okq (⟨"java/lang/Throwable", "fillInStackTrace", "(I)Ljava/lang/Throwable;"⟩, 6) := ⟨⟨by decide +kernel, by decide +kernel⟩, List.mem_of_getElem? (i := 208) (by decide +kernel), List.mem_of_getElem? (i := 206) (by decide +kernel), List.mem_of_getElem? (i := 207) (by decide +kernel)⟩
theorem lw_p1 : lw_okq (⟨"NightSorters", "deliveredIfAssigned", "(III)I"⟩, 2) := ⟨⟨by decide +kernel, by decide +kernel⟩, List.mem_of_getElem? (i := 17) (by decide +kernel), List.mem_of_getElem? (i := 520) (by decide +kernel), List.mem_of_getElem? (i := 521) (by decide +kernel)⟩
theorem lw_p2 : lw_okq (⟨"NightSortersModel", "no", "(I)I"⟩, 10) := ⟨⟨by decide +kernel, by decide +kernel⟩, List.mem_of_getElem? (i := 525) (by decide +kernel), List.mem_of_getElem? (i := 633) (by decide +kernel), List.mem_of_getElem? (i := 634) (by decide +kernel)⟩
theorem lw_p3 : lw_okq (⟨"NightSortersModel", "wouldRise", "(II)Z"⟩, 10) := ⟨⟨by decide +kernel, by decide +kernel⟩, List.mem_of_getElem? (i := 525) (by decide +kernel), List.mem_of_getElem? (i := 637) (by decide +kernel), List.mem_of_getElem? (i := 638) (by decide +kernel)⟩
theorem lw_p4 : lw_okq (⟨"NightSortersModel", "isSorter", "(I)Z"⟩, 10) := ⟨⟨by decide +kernel, by decide +kernel⟩, List.mem_of_getElem? (i := 525) (by decide +kernel), List.mem_of_getElem? (i := 660) (by decide +kernel), List.mem_of_getElem? (i := 661) (by decide +kernel)⟩
theorem lw_p5 : lw_okq (⟨"NightSortersModel", "isLetter", "(I)Z"⟩, 10) := ⟨⟨by decide +kernel, by decide +kernel⟩, List.mem_of_getElem? (i := 525) (by decide +kernel), List.mem_of_getElem? (i := 672) (by decide +kernel), List.mem_of_getElem? (i := 673) (by decide +kernel)⟩
theorem lw_p6 : lw_okq (⟨"NightSortersModel", "letterTold", "(II)I"⟩, 10) := ⟨⟨by decide +kernel, by decide +kernel⟩, List.mem_of_getElem? (i := 525) (by decide +kernel), List.mem_of_getElem? (i := 676) (by decide +kernel), List.mem_of_getElem? (i := 677) (by decide +kernel)⟩
theorem lw_p7 : lw_okq (⟨"NightSortersModel", "sorterTold", "(II)I"⟩, 10) := ⟨⟨by decide +kernel, by decide +kernel⟩, List.mem_of_getElem? (i := 525) (by decide +kernel), List.mem_of_getElem? (i := 684) (by decide +kernel), List.mem_of_getElem? (i := 685) (by decide +kernel)⟩
theorem lw_p8 : lw_okq (⟨"NightSortersModel", "stationTold", "(II)I"⟩, 10) := ⟨⟨by decide +kernel, by decide +kernel⟩, List.mem_of_getElem? (i := 525) (by decide +kernel), List.mem_of_getElem? (i := 700) (by decide +kernel), List.mem_of_getElem? (i := 701) (by decide +kernel)⟩
theorem lw_p9 : lw_okq (⟨"NightSortersModel", "counted", "(I)I"⟩, 10) := ⟨⟨by decide +kernel, by decide +kernel⟩, List.mem_of_getElem? (i := 525) (by decide +kernel), List.mem_of_getElem? (i := 708) (by decide +kernel), List.mem_of_getElem? (i := 709) (by decide +kernel)⟩
theorem lw_p10 : lw_okq (⟨"NightSortersModel$State", "work", "(I)V"⟩, 11) := ⟨⟨by decide +kernel, by decide +kernel⟩, List.mem_of_getElem? (i := 531) (by decide +kernel), List.mem_of_getElem? (i := 728) (by decide +kernel), List.mem_of_getElem? (i := 729) (by decide +kernel)⟩
theorem lw_p11 : lw_okq (⟨"NightSortersModel$State", "take", "(I)V"⟩, 11) := ⟨⟨by decide +kernel, by decide +kernel⟩, List.mem_of_getElem? (i := 531) (by decide +kernel), List.mem_of_getElem? (i := 732) (by decide +kernel), List.mem_of_getElem? (i := 733) (by decide +kernel)⟩
theorem lw_p12 : lw_okq (⟨"NightSortersModel$State", "firstFor", "(I)I"⟩, 11) := ⟨⟨by decide +kernel, by decide +kernel⟩, List.mem_of_getElem? (i := 531) (by decide +kernel), List.mem_of_getElem? (i := 736) (by decide +kernel), List.mem_of_getElem? (i := 737) (by decide +kernel)⟩
theorem lw_p13 : lw_okq (⟨"NightSortersModel$State", "let", "(II)V"⟩, 11) := ⟨⟨by decide +kernel, by decide +kernel⟩, List.mem_of_getElem? (i := 531) (by decide +kernel), List.mem_of_getElem? (i := 744) (by decide +kernel), List.mem_of_getElem? (i := 745) (by decide +kernel)⟩
theorem lw_p14 : lw_okq (⟨"NightSortersModel$State", "passStation", "(I)V"⟩, 11) := ⟨⟨by decide +kernel, by decide +kernel⟩, List.mem_of_getElem? (i := 531) (by decide +kernel), List.mem_of_getElem? (i := 749) (by decide +kernel), List.mem_of_getElem? (i := 750) (by decide +kernel)⟩
theorem lw_p15 : lw_okq (⟨"NightSortersModel$State", "end", "(II)V"⟩, 11) := ⟨⟨by decide +kernel, by decide +kernel⟩, List.mem_of_getElem? (i := 531) (by decide +kernel), List.mem_of_getElem? (i := 753) (by decide +kernel), List.mem_of_getElem? (i := 754) (by decide +kernel)⟩
def lw_privs_1 : List (MethodName × Nat) := [(⟨"java/lang/Throwable", "fillInStackTrace", "(I)Ljava/lang/Throwable;"⟩, 6), (⟨"NightSorters", "deliveredIfAssigned", "(III)I"⟩, 2), (⟨"NightSortersModel", "no", "(I)I"⟩, 10), (⟨"NightSortersModel", "wouldRise", "(II)Z"⟩, 10), (⟨"NightSortersModel", "isSorter", "(I)Z"⟩, 10), (⟨"NightSortersModel", "isLetter", "(I)Z"⟩, 10), (⟨"NightSortersModel", "letterTold", "(II)I"⟩, 10), (⟨"NightSortersModel", "sorterTold", "(II)I"⟩, 10), (⟨"NightSortersModel", "stationTold", "(II)I"⟩, 10), (⟨"NightSortersModel", "counted", "(I)I"⟩, 10), (⟨"NightSortersModel$State", "work", "(I)V"⟩, 11), (⟨"NightSortersModel$State", "take", "(I)V"⟩, 11), (⟨"NightSortersModel$State", "firstFor", "(I)I"⟩, 11), (⟨"NightSortersModel$State", "let", "(II)V"⟩, 11), (⟨"NightSortersModel$State", "passStation", "(I)V"⟩, 11), (⟨"NightSortersModel$State", "end", "(II)V"⟩, 11)]
theorem lw_r1 : ∀ q ∈ lw_privs_1, lw_okq q := List.forall_mem_cons.mpr ⟨lw_p0, List.forall_mem_cons.mpr ⟨lw_p1, List.forall_mem_cons.mpr ⟨lw_p2, List.forall_mem_cons.mpr ⟨lw_p3, List.forall_mem_cons.mpr ⟨lw_p4, List.forall_mem_cons.mpr ⟨lw_p5, List.forall_mem_cons.mpr ⟨lw_p6, List.forall_mem_cons.mpr ⟨lw_p7, List.forall_mem_cons.mpr ⟨lw_p8, List.forall_mem_cons.mpr ⟨lw_p9, List.forall_mem_cons.mpr ⟨lw_p10, List.forall_mem_cons.mpr ⟨lw_p11, List.forall_mem_cons.mpr ⟨lw_p12, List.forall_mem_cons.mpr ⟨lw_p13, List.forall_mem_cons.mpr ⟨lw_p14, List.forall_mem_cons.mpr ⟨lw_p15, fun _ h => absurd h List.not_mem_nil⟩⟩⟩⟩⟩⟩⟩⟩⟩⟩⟩⟩⟩⟩⟩⟩
theorem lw_p16 : lw_okq (⟨"NightSortersModel$State", "shake", "(I)V"⟩, 11) := ⟨⟨by decide +kernel, by decide +kernel⟩, List.mem_of_getElem? (i := 531) (by decide +kernel), List.mem_of_getElem? (i := 757) (by decide +kernel), List.mem_of_getElem? (i := 758) (by decide +kernel)⟩
theorem lw_p17 : lw_okq (⟨"NightSortersModel$State", "copy", "([I[I)V"⟩, 11) := ⟨⟨by decide +kernel, by decide +kernel⟩, List.mem_of_getElem? (i := 531) (by decide +kernel), List.mem_of_getElem? (i := 769) (by decide +kernel), List.mem_of_getElem? (i := 770) (by decide +kernel)⟩
def lw_privs_2 : List (MethodName × Nat) := [(⟨"NightSortersModel$State", "shake", "(I)V"⟩, 11), (⟨"NightSortersModel$State", "copy", "([I[I)V"⟩, 11)]
theorem lw_r2 : ∀ q ∈ lw_privs_2, lw_okq q := List.forall_mem_cons.mpr ⟨lw_p16, List.forall_mem_cons.mpr ⟨lw_p17, fun _ h => absurd h List.not_mem_nil⟩⟩
def lw_privs : List (MethodName × Nat) := lw_privs_1 ++ (lw_privs_2)
def lw_tbl : List Cond := k2_sels lw_privs ++ tables_1
theorem lw_privs_ok : ∀ q ∈ lw_privs, lw_okq q := by
  show ∀ q ∈ lw_privs_1 ++ (lw_privs_2), lw_okq q
  exact List.forall_mem_append.mpr ⟨lw_r1, lw_r2⟩
/-- the streams that the claim lets the run draw from -/
abbrev lw_cs : List Choice := [Jvm.Choice.named "NaN.bits"]
theorem lw_bits : nanBits ∈ lw_cs := by first | decide | exact List.mem_cons_self | simp [lw_cs, nanBits]
-- ===== end of PART A; then your names; then what follows =====
end
section
/-! ===== BEGIN words of one list among another's, by their places ===== -/
theorem goodIn_r {big : List Cond} (ws : List Cond) (ps : List Nat) (hp : ws = ps.filterMap (fun i => big[i]?)) (h : ws.all goodWord = true) : GoodIn big ws := by
  intro w hw
  have h1 := List.all_eq_true.mp h w hw
  rw [hp] at hw
  obtain ⟨i, -, hi⟩ := List.mem_filterMap.mp hw
  have hm : w ∈ big := by first | exact List.mem_of_getElem? hi | exact List.getElem?_mem hi
  exact ⟨hm, good_of_word h1⟩
theorem goodIn_app {big a b : List Cond} (ha : GoodIn big a) (hb : GoodIn big b) : GoodIn big (a ++ b) := fun w h => (List.mem_append.mp h).elim (ha w) (hb w)
theorem goodIn_ca {big a b : List Cond} {c : Cond} (ha : GoodIn big (c :: a)) (hb : GoodIn big b) : GoodIn big (c :: (a ++ b)) := fun w h => (List.mem_cons.mp h).elim (fun e => ha w (List.mem_cons.mpr (Or.inl e))) (fun h => (List.mem_append.mp h).elim (fun h => ha w (List.mem_cons.mpr (Or.inr h))) (hb w))
theorem goodIn_sub {big ws : List Cond} (hm : ∀ w ∈ ws, w ∈ big) (h : ws.all goodWord = true) : GoodIn big ws := fun w hw => ⟨hm w hw, good_of_word (List.all_eq_true.mp h w hw)⟩
/-! ===== END ===== -/

/-! ===== BEGIN exceptions that leave a method, and their catching by the caller (launches without stack traces) ===== -/
section VXA
/-! The laws vx_back, vx_callV, vx_callS, vx_callSW, vx_throw0, vx_throwS follow proofs of the library, with one case more: JvmDerived/Free/Laws.lean (Back.of_free), Shelf42/LK1.lean (callV, callS), Shelf/KitTraced.lean (throwNew0V, throwNewS). -/
/-- where a method has thrown q: the class by its name, the cell, what was written, the world -/
def vx_T (XC : String → State → State → Prop) (st : State) (q : Addr) (t : State) (mc ms : Nat) (free : Addr → Prop) : Prop :=
  ∃ (E : String) (ce : Cell) (L : List Loc), XC E st t ∧ t.heap[q]? = some ce ∧ ce.vm = .none ∧ st.vm.findClass E = some ce.cls ∧ st.WarmedH t.vm ∧ st.sameButNew ({ t with vm := st.vm } : State) L mc ms ∧ ∀ z ∈ L, free z.base
def vx_Q (Qc : Array Value → State → Outcome → State → Prop) (XC : String → State → State → Prop) (mc ms : Nat) (free : Addr → Prop) : Array Value → State → Outcome → State → Prop := fun a st o t =>
  (Qc a st o t ∧ ∃ L, FrameEnd st o t L mc ms ∧ ∀ q ∈ L, free q.base) ∨ ∃ q, o = .threw q ∧ vx_T XC st q t mc ms free
/-- a callee that returns or throws -/
def vx_Met (l : Launch) (y : MethodName) (ws : List Cond) (rm : Room) (Pc : Array Value → State → Prop) (Qc : Array Value → State → Outcome → State → Prop) (XC : String → State → State → Prop) (mc ms : Nat) (free : Addr → Prop) : Prop :=
  MetFree l y (headSpec ws rm) Pc (fun _ _ _ _ _ => True) (vx_Q Qc XC mc ms free)
def vx_Post (XC : String → State → State → Prop) (mc ms : Nat) (free : Addr → Prop) : Pt → Array Value → Addr → Pt → Prop := fun A a q B =>
  ∃ (g : JFrame) (mk : MethodId) (t : State) (L : List Loc) (E : String) (ce : Cell), B.U.heap = t.heap ∧ B.U.vm = t.vm ∧ XC E (A.U.calling g mk a) t ∧ t.heap[q]? = some ce ∧ ce.vm = .none ∧ A.U.vm.findClass E = some ce.cls ∧ B.locs = A.locs ++ L ∧ (∀ z ∈ L, free z.base) ∧ B.cells = A.cells + mc ∧ B.slots = A.slots + ms
def vx_Back (l : Launch) (R : Room) (p : Program) (e : Env) (below : List Frame) (s : State) (sargs : Array Value) (y : MethodName) (len W9 : Nat)
    (Pre : Pt → Array Value → Prop) (Post : Pt → Array Value → Option Value → Pt → Prop) (PostX : Pt → Array Value → Addr → Pt → Prop) : Prop :=
  ∀ (m : MethodId) (meth : Method) (c : Code) (A : Pt) (g : JFrame) (ig : Instr) (mk : MethodId) (a : Array Value),
    Stand p l e R s m sargs below meth c A.U A.locs A.cells A.slots → g.method = m → g.locals.size = c.maxLocals → decode c.code g.pc = .ok (ig, len) →
    2 * g.monitorRoom + (g.stack.map fun v => v.category).sum ≤ W9 → A.U.methodNamed? y = some mk → Pre A a →
    (∃ (v : Option Value) (B : Pt), Stand p l e R s m sargs below meth c B.U B.locs B.cells B.slots ∧ Post A a v B ∧
      Steps p.tables e below (doInvoke e (A.U.setTop g) [] mk a).1 (B.U.setTop { g with pc := g.pc + len, stack := v.toList ++ g.stack })) ∨
    (∃ (q : Addr) (B : Pt), Stand p l e R s m sargs below meth c B.U B.locs B.cells B.slots ∧ PostX A a q B ∧
      Steps p.tables e below (doInvoke e (A.U.setTop g) [] mk a).1 ((B.U.setTop g).pushFrame (.throwing q)))
section Payer
variable {l : Launch} {R : Room} {p : Program} {e : Env} {below : List Frame} {s : State} {sargs : Array Value} {y : MethodName} {len W9 : Nat}
theorem vx_back {ws : List Cond} {rm : Room} {Pc : Array Value → State → Prop} {Qc : Array Value → State → Outcome → State → Prop} {XC : String → State → State → Prop} {mc ms : Nat} {free : Addr → Prop} {bytes : ByteArray} {maxL : Nat} {ret : Option FieldType}
    (hM : vx_Met l y ws rm Pc Qc XC mc ms free) (hblind : FrameBlind Pc) (hrc : rm.cells = mc) (hrs : rm.slots = ms)
    (hframes : rm.frames + 1 ≤ R.frames) (hlocals : W9 + (maxL + 11) + rm.locals ≤ R.locals)
    (hws : ∀ w ∈ ws, ∀ a' U, s.WarmedH U.vm → w.before a' U = true) (hcode : Cond.code y bytes maxL ret ∈ ws) (hinit : ∀ a' U, s.WarmedH U.vm → (Cond.initialized y.cls).before a' U = true) :
    vx_Back l R p e below s sargs y len W9 (PreOf R mc ms Pc) (PostOf Qc mc ms free) (vx_Post XC mc ms free) := by
  intro m meth c A g ig mk a X hg hsize hdg hW hn hp
  have h1 : (headSpec ws rm).pre.before a A.U = true := atoms_intro fun w hw => hws w hw _ _ X.warmed
  have h2 : (Cond.code y bytes maxL ret).before a A.U = true := hws _ hcode _ _ X.warmed
  have h3 : (Cond.initialized y.cls).before a A.U = true := hinit _ _ X.warmed
  have h4 : A.cells + (headSpec ws rm).room.cells ≤ R.cells := by rw [show (headSpec ws rm).room.cells = mc from hrc]; exact hp.1
  have h5 : A.slots + (headSpec ws rm).room.slots ≤ R.slots := by rw [show (headSpec ws rm).room.slots = ms from hrs]; exact hp.2.1
  have hPc : Pc a (A.U.calling g mk a) := hblind _ _ _ _ hp.2.2
  obtain ⟨U, Ls, c0, s0⟩ := A
  dsimp only [Pt.U, Pt.locs, Pt.cells, Pt.slots] at h1 h2 h3 h4 h5 X hn hPc ⊢
  obtain ⟨methY, cY, hmY, hcY, -, hlY, -, -, -, -⟩ := Cond.code_spec hn h2
  obtain ⟨kY, hkY, -⟩ := className_of_methodNamed hn
  have hinitY : kY.init = .initialized := Cond.initialized_spec (findClass_of_methodNamed hn) hkY h3
  have h : At U g.method c below := by rw [hg]; exact X.here
  have hlocals9 : W9 + (maxL + 11) + (headSpec ws rm).room.locals ≤ R.locals := hlocals
  have happ : (headSpec ws rm).appliesLoose y e.platform (U.calling g mk a) = true :=
    Spec.appliesLoose_calling (g := g) h hdg hn hkY hinitY
      (X.room_calling (g := g) (R' := (headSpec ws rm).room) hsize hmY hcY hframes (by rw [hlY]; omega) h4 h5) h1
  obtain ⟨mid, hmid⟩ := h.above
  have hfr : (U.setTop g).frames = (.java g :: mid) ++ below := by rw [State.frames_setTop' g h.top, hmid]; rfl
  obtain ⟨o, s₂, hsteps, -, hend, hq⟩ := Steps.callFree hM p X.admits X.cas X.clock (acts := []) hfr happ hPc trivial
  have hq' : vx_Q Qc XC mc ms free a (U.calling g mk a) o s₂ := hq
  rw [State.frames_setTop' g h.top] at hend
  obtain ⟨g₀, hg0⟩ := Option.isSome_iff_exists.mp h.top
  obtain ⟨r, hr⟩ := State.topJava?_eq_some.mp hg0
  have hr' : (({ U with heap := s₂.heap, slotsUsed := s₂.slotsUsed } : State).setVm s₂.vm).frames = .java g₀ :: r := hr
  rcases hq' with ⟨hqc, L, hfe, hL⟩ | ⟨q, rfl, E, ce, L, hx, hce, hcv, hcl, hW₂, hsm, hL⟩
  · obtain ⟨⟨v, rfl⟩, hW₂, e2, q2, q3, q4, q5, q6⟩ := id hfe
    have e3 : s₂ = ({ (U.calling g mk a).setFrames s₂.frames with heap := s₂.heap, slotsUsed := s₂.slotsUsed } : State).setVm s₂.vm := by
      have : s₂ = ({ s₂ with vm := (U.calling g mk a).vm } : State).setVm s₂.vm := rfl
      rw [e2] at this
      exact this
    obtain ⟨c₂, i₂, len₂, hc₂, hd₂, hf₂⟩ := hend
    have hW' : U.WarmedH s₂.vm := hW₂
    have hcc : c₂ = c := by
      have h1 : s₂.code? g.method = U.code? g.method := by
        rw [State.code?_eq, State.code?_eq, hW'.alike.method?]
      exact Option.some.inj (hc₂.symm.trans (h1.trans h.code))
    subst hcc
    have hlen : len₂ = len := by rw [hdg] at hd₂; cases hd₂; rfl
    subst hlen
    have hs₂ : s₂ = (({ U with heap := s₂.heap, slotsUsed := s₂.slotsUsed } : State).setVm s₂.vm).setTop { g with pc := g.pc + len₂, stack := v.toList ++ g.stack } := by
      refine e3.trans ?_
      rw [hf₂, State.calling_eq h.top, State.setFrames_setFrames, State.setTop_of_frames _ hr', hr]
      rfl
    have hsame : U.sameButNew ({ U with heap := s₂.heap, slotsUsed := s₂.slotsUsed } : State) L mc ms := by
      refine ⟨?_, q2, q3, q4, q5, q6⟩
      obtain ⟨t, ht, -⟩ := State.frames_cons hr
      show ({ U with heap := s₂.heap, slotsUsed := s₂.slotsUsed } : State) = { U.setFrames U.frames with heap := s₂.heap, slotsUsed := s₂.slotsUsed }
      rw [State.setFrames_self ht]
    subst hg
    refine Or.inl ⟨v, ⟨(({ U with heap := s₂.heap, slotsUsed := s₂.slotsUsed } : State).setVm s₂.vm), Ls ++ L, c0 + mc, s0 + ms⟩,
      ⟨X.admits, X.cas, X.clock, X.frames, X.room, X.hears, X.method, X.code, (X.here.setHeapUsed s₂.heap s₂.slotsUsed).setVm hW'.alike, X.tail, State.WarmedH.trans X.warmed hW', X.limits, X.bytes, X.same.trans (hsame.setVm s.vm)⟩,
      ⟨g, mk, s₂, L, rfl, rfl, hqc, rfl, hL, rfl, rfl⟩, ?_⟩
    show Steps p.tables e below _ ((({ U with heap := s₂.heap, slotsUsed := s₂.slotsUsed } : State).setVm s₂.vm).setTop { g with pc := g.pc + len₂, stack := v.toList ++ g.stack })
    rw [← hs₂]
    exact hsteps
  · obtain ⟨e2, q2, q3, q4, q5, q6⟩ := id hsm
    have e3 : s₂ = ({ (U.calling g mk a).setFrames s₂.frames with heap := s₂.heap, slotsUsed := s₂.slotsUsed } : State).setVm s₂.vm := by
      have : s₂ = ({ s₂ with vm := (U.calling g mk a).vm } : State).setVm s₂.vm := rfl
      rw [e2] at this
      exact this
    have hf₂ : s₂.frames = .throwing q :: .java g :: U.frames.tail := hend
    have hW' : U.WarmedH s₂.vm := hW₂
    have hs₂ : s₂ = ((({ U with heap := s₂.heap, slotsUsed := s₂.slotsUsed } : State).setVm s₂.vm).setTop g).pushFrame (.throwing q) := by
      refine e3.trans ?_
      rw [hf₂, State.calling_eq h.top, State.setFrames_setFrames, State.pushFrame, State.frames_setTop _ hr', State.setTop_of_frames _ hr', State.setFrames_setFrames, hr]
      rfl
    have hsame : U.sameButNew ({ U with heap := s₂.heap, slotsUsed := s₂.slotsUsed } : State) L mc ms := by
      refine ⟨?_, q2, q3, q4, q5, q6⟩
      obtain ⟨t, ht, -⟩ := State.frames_cons hr
      show ({ U with heap := s₂.heap, slotsUsed := s₂.slotsUsed } : State) = { U.setFrames U.frames with heap := s₂.heap, slotsUsed := s₂.slotsUsed }
      rw [State.setFrames_self ht]
    subst hg
    refine Or.inr ⟨q, ⟨(({ U with heap := s₂.heap, slotsUsed := s₂.slotsUsed } : State).setVm s₂.vm), Ls ++ L, c0 + mc, s0 + ms⟩,
      ⟨X.admits, X.cas, X.clock, X.frames, X.room, X.hears, X.method, X.code, (X.here.setHeapUsed s₂.heap s₂.slotsUsed).setVm hW'.alike, X.tail, State.WarmedH.trans X.warmed hW', X.limits, X.bytes, X.same.trans (hsame.setVm s.vm)⟩,
      ⟨g, mk, s₂, L, E, ce, rfl, rfl, hx, hce, hcv, hcl, rfl, hL, rfl, rfl⟩, ?_⟩
    show Steps p.tables e below _ (((({ U with heap := s₂.heap, slotsUsed := s₂.slotsUsed } : State).setVm s₂.vm).setTop g).pushFrame (.throwing q))
    rw [← hs₂]
    exact hsteps
end Payer
section Calls
variable {p : Program} {l : Launch} {e : Env} {R : Room} {s : State} {m : MethodId} {args : Array Value} {below : List Frame} {meth : Method} {c : Code} {T : State} {locs : List Loc} {cells slots : Nat}
theorem vx_callV (X : Stand p l e R s m args below meth c T locs cells slots) (hexec : p.tables.exec = Jvm.exec) {own C : String} {index : Nat} {y : MethodName} {bytes : ByteArray} {maxL : Nat} {ret : Option FieldType}
    (hown : s.vm.findClass own = some m.cls) (hlink : (Cond.methodLink own index y).before args s = true) (hinst : (Cond.instanceMethod y).before args s = true) (hsel : (Cond.selects C y y).before args s = true)
    (hcode : (Cond.code y bytes maxL ret).before args s = true) (hy : y.cls ≠ "java/lang/invoke/MethodHandle" ∧ y.cls ≠ "java/lang/invoke/VarHandle")
    {W9 : Nat} {Pre : Pt → Array Value → Prop} {Post : Pt → Array Value → Option Value → Pt → Prop} {PostX : Pt → Array Value → Addr → Pt → Prop} (hK : vx_Back l R p e below s args y 3 W9 Pre Post PostX)
    {b : Addr} {cellB : Cell} (hcell : T.heap[b]? = some cellB) (hobj : cellB.vm.isStatics = false) (hcls : s.vm.findClass C = some cellB.cls)
    {g : JFrame} (hg : g.method = m) (hsize : g.locals.size = c.maxLocals) {argsL rest : List Value} (hlen : ∀ sig, parseMethodDescriptor y.desc = some sig → argsL.length = sig.parameters.length)
    (hstack : g.stack = argsL.reverse ++ .ref b :: rest) (hW : 2 * g.monitorRoom + (rest.map fun v => v.category).sum ≤ W9) (hdg : decode c.code g.pc = .ok (.invokevirtual index, 3))
    (hpre : ∀ vm₁, s.WarmedH vm₁ → Pre ⟨T.setVm vm₁, locs, cells, slots⟩ (Value.ref b :: argsL).toArray) :
    (∃ (v : Option Value) (vm₁ : Vm) (B : Pt), s.WarmedH vm₁ ∧ Stand p l e R s m args below meth c B.U B.locs B.cells B.slots ∧ Post ⟨T.setVm vm₁, locs, cells, slots⟩ (Value.ref b :: argsL).toArray v B ∧
      ∀ target, Steps p.tables e below (B.U.setTop { g with pc := g.pc + 3, stack := v.toList ++ rest }) target → Steps p.tables e below (T.setTop g) target) ∨
    (∃ (q : Addr) (vm₁ : Vm) (B : Pt), s.WarmedH vm₁ ∧ Stand p l e R s m args below meth c B.U B.locs B.cells B.slots ∧ PostX ⟨T.setVm vm₁, locs, cells, slots⟩ (Value.ref b :: argsL).toArray q B ∧
      Steps p.tables e below (T.setTop g) ((B.U.setTop { g with stack := rest }).pushFrame (.throwing q))) := by
  obtain ⟨mk, methM, hnamed, hmethM, hstM, habM⟩ := Cond.instanceMethod_spec hinst
  obtain ⟨methM', cM, hmethM', -, -, -, -, -, -, hsigM⟩ := Cond.code_spec hnamed hcode
  cases hmethM.symm.trans hmethM'
  obtain ⟨c2, r2, m2, q1, q2, q3, q4, kP, hkP, hkPi⟩ := Cond.selects_spec hsel
  cases hcls.symm.trans q1
  cases (State.methodFound?_of_named hnamed hy).symm.trans q2
  cases hnamed.symm.trans q3
  have hselP : selectMethod e.platform s.vm cellB.cls mk = .method mk := by rw [Launch.admits_selectMethod X.admits]; exact q4
  obtain ⟨vm₁, X₁, hstep₁⟩ := X.invokevirtual hexec hown hlink hnamed hmethM hstM hkP hkPi hy (a := b) (cell := cellB) hcell
    (fun z h => by rw [h] at hobj; cases hobj) hselP hmethM habM hkP hkPi (g := g) hg (argsL := argsL) (rest := rest) (hlen _ hsigM) hstack hdg
  rcases hK m meth c ⟨T.setVm vm₁, locs, cells, slots⟩ { g with stack := rest } (.invokevirtual index) mk (Value.ref b :: argsL).toArray X₁ hg hsize hdg hW (X₁.named hnamed) (hpre vm₁ X₁.warmed) with ⟨v, B, X', hpost, hsteps⟩ | ⟨q, B, X', hpost, hsteps⟩
  · exact Or.inl ⟨v, vm₁, B, X₁.warmed, X', hpost, fun target h => hstep₁ _ fun acts => by rw [doInvoke_state]; exact hsteps.trans h⟩
  · exact Or.inr ⟨q, vm₁, B, X₁.warmed, X', hpost, hstep₁ _ fun acts => by rw [doInvoke_state]; exact hsteps⟩
theorem vx_callS (X : Stand p l e R s m args below meth c T locs cells slots) (hexec : p.tables.exec = Jvm.exec) {own : String} {index : Nat} {y : MethodName} {bytes : ByteArray} {maxL : Nat} {ret : Option FieldType}
    (hown : s.vm.findClass own = some m.cls) (hlink : (Cond.methodLink own index y).before args s = true) (hstat : (Cond.static y).before args s = true) (hinit : (Cond.initialized y.cls).before args s = true)
    (hcode : (Cond.code y bytes maxL ret).before args s = true) (hy : y.cls ≠ "java/lang/invoke/MethodHandle" ∧ y.cls ≠ "java/lang/invoke/VarHandle")
    {W9 : Nat} {Pre : Pt → Array Value → Prop} {Post : Pt → Array Value → Option Value → Pt → Prop} {PostX : Pt → Array Value → Addr → Pt → Prop} (hK : vx_Back l R p e below s args y 3 W9 Pre Post PostX)
    {g : JFrame} (hg : g.method = m) (hsize : g.locals.size = c.maxLocals) {argsL rest : List Value} (hlen : ∀ sig, parseMethodDescriptor y.desc = some sig → argsL.length = sig.parameters.length)
    (hstack : g.stack = argsL.reverse ++ rest) (hW : 2 * g.monitorRoom + (rest.map fun v => v.category).sum ≤ W9) (hdg : decode c.code g.pc = .ok (.invokestatic index, 3))
    (hpre : ∀ vm₁, s.WarmedH vm₁ → Pre ⟨T.setVm vm₁, locs, cells, slots⟩ argsL.toArray) :
    (∃ (v : Option Value) (vm₁ : Vm) (B : Pt), s.WarmedH vm₁ ∧ Stand p l e R s m args below meth c B.U B.locs B.cells B.slots ∧ Post ⟨T.setVm vm₁, locs, cells, slots⟩ argsL.toArray v B ∧
      ∀ target, Steps p.tables e below (B.U.setTop { g with pc := g.pc + 3, stack := v.toList ++ rest }) target → Steps p.tables e below (T.setTop g) target) ∨
    (∃ (q : Addr) (vm₁ : Vm) (B : Pt), s.WarmedH vm₁ ∧ Stand p l e R s m args below meth c B.U B.locs B.cells B.slots ∧ PostX ⟨T.setVm vm₁, locs, cells, slots⟩ argsL.toArray q B ∧
      Steps p.tables e below (T.setTop g) ((B.U.setTop { g with stack := rest }).pushFrame (.throwing q))) := by
  obtain ⟨mk, hnamed⟩ := Cond.code_named hcode
  obtain ⟨methM, cM, hmethM, -, -, -, -, -, -, hsigM⟩ := Cond.code_spec hnamed hcode
  have hstatic : methM.isStatic = true := Cond.static_spec hnamed hmethM hstat
  obtain ⟨kP, hkP, -⟩ := className_of_methodNamed hnamed
  have hinitP : kP.init = .initialized := Cond.initialized_spec (findClass_of_methodNamed hnamed) hkP hinit
  obtain ⟨vm₁, X₁, hstep₁⟩ := X.invokestatic hexec hown hlink hnamed hmethM hstatic hkP hinitP hy (g := g) hg (argsL := argsL) (rest := rest) (hlen _ hsigM) hstack hdg
  rcases hK m meth c ⟨T.setVm vm₁, locs, cells, slots⟩ { g with stack := rest } (.invokestatic index) mk argsL.toArray X₁ hg hsize hdg hW (X₁.named hnamed) (hpre vm₁ X₁.warmed) with ⟨v, B, X', hpost, hsteps⟩ | ⟨q, B, X', hpost, hsteps⟩
  · exact Or.inl ⟨v, vm₁, B, X₁.warmed, X', hpost, fun target h => hstep₁ _ fun acts => by rw [doInvoke_state]; exact hsteps.trans h⟩
  · exact Or.inr ⟨q, vm₁, B, X₁.warmed, X', hpost, hstep₁ _ fun acts => by rw [doInvoke_state]; exact hsteps⟩
end Calls
theorem vx_cls {s : State} {T : State} {vm₁ : Vm} {E : String} {k : ClassId} (hW : s.WarmedH vm₁) (h : (T.setVm vm₁).vm.findClass E = some k) : s.vm.findClass E = some k := by
  have h1 : vm₁.findClass E = some k := h
  rw [hW.alike.findClass] at h1
  exact h1
/-- the method's frame g, with q thrown over it -/
def vx_W (p : Program) (l : Launch) (e : Env) (R : Room) (s : State) (m : MethodId) (args : Array Value) (below : List Frame) (meth : Method) (c : Code) (H : Heap) (locs : List Loc) (cells slots : Nat) (Q : State → Prop) (g : JFrame) (q : Addr) : Prop :=
  ∀ T : State, T.heap = H → Stand p l e R s m args below meth c T locs cells slots → ∃ t, Steps p.tables e below ((T.setTop g).pushFrame (.throwing q)) t ∧ Q t
def vx_Run (p : Program) (l : Launch) (e : Env) (R : Room) (s : State) (m : MethodId) (args : Array Value) (below : List Frame) (meth : Method) (c : Code) (H : Heap) (locs : List Loc) (cells slots mc ms : Nat) (g : JFrame) (rest : List Value) (Qa : State → Outcome → State → Prop) (XC : String → State → State → Prop) (free : Addr → Prop) : Prop :=
  ∀ T : State, T.heap = H → Stand p l e R s m args below meth c T locs cells slots →
    (∃ (v : Option Value) (st₀ t T' : State) (L : List Loc), st₀.heap = H ∧ Stand p l e R s m args below meth c T' (locs ++ L) (cells + mc) (slots + ms) ∧ (∀ q ∈ L, free q.base) ∧ T'.heap = t.heap ∧ T'.vm = t.vm ∧ Qa st₀ (.returned v) t ∧
      Goes p e below T g T' { g with pc := g.pc + 3, stack := v.toList ++ rest }) ∨
    (∃ (q : Addr) (st₀ t T' : State) (L : List Loc) (E : String) (ce : Cell), st₀.heap = H ∧ Stand p l e R s m args below meth c T' (locs ++ L) (cells + mc) (slots + ms) ∧ (∀ z ∈ L, free z.base) ∧ T'.heap = t.heap ∧ T'.vm = t.vm ∧ XC E st₀ t ∧ t.heap[q]? = some ce ∧ ce.vm = .none ∧ s.vm.findClass E = some ce.cls ∧
      Steps p.tables e below (T.setTop g) ((T'.setTop { g with stack := rest }).pushFrame (.throwing q)))
def vx_X {S : Type} (px : S → Prop) (B : String → S → State → Prop) (A : Nat → Prop) : String → State → State → Prop := fun E st t => ∃ u : S, px u ∧ B E u t ∧ va_F A st t
section Runs
variable {p : Program} {l : Launch} {e : Env} {R : Room} {s : State} {m : MethodId} {args : Array Value} {below : List Frame} {meth : Method} {c : Code} {H : Heap} {locs : List Loc} {cells slots : Nat}
variable {y : MethodName} {bytes cc : ByteArray} {maxL nL mc ms n index : Nat} {ret : Option FieldType} {ws : List Cond} {rm : Room} {Pc : Array Value → State → Prop} {Qc : Array Value → State → Outcome → State → Prop} {XC : String → State → State → Prop} {free : Addr → Prop} {Ts : List Cond} {own C : String} {b : Addr} {As rest : List Value} {g : JFrame}
theorem vx_callBack (cb : CallB R s args own index y bytes maxL ret ws rm mc ms n) (hM : vx_Met l y ws rm Pc Qc XC mc ms free) (hbl : FrameBlind Pc) : vx_Back l R p e below s args y 3 8 (PreOf R mc ms Pc) (PostOf Qc mc ms free) (vx_Post XC mc ms free) := by
  obtain ⟨hrc, hrs, hfr, hlo, hws, hcw, -, hini, -⟩ := cb
  exact vx_back (bytes := bytes) (maxL := maxL) (ret := ret) hM hbl hrc hrs hfr hlo hws hcw (fun a' U hW => word_at hW (Or.inl (by first | rfl | simp [Cond.onTables, Cond.keeps, Cond.steady])) hini)
theorem vx_runV (S : CallFix p m c cc nL s args Ts own) (hM : vx_Met l y ws rm Pc Qc XC mc ms free) (cw : CallW R s args own C index y bytes maxL ret ws rm mc ms n) (hp : PreV s H C b Pc As)
    (hg : g.method = m) (hn : As.length = n) (hsize : g.locals.size = nL) (hstack : g.stack = As.reverse ++ .ref b :: rest) (hW : 2 * g.monitorRoom + (rest.map fun v => v.category).sum ≤ 8) (hdg : decode cc g.pc = .ok (.invokevirtual index, 3)) (hf : cells + mc ≤ R.cells ∧ slots + ms ≤ R.slots) :
    vx_Run p l e R s m args below meth c H locs cells slots mc ms g rest (Qc (Value.ref b :: As).toArray) XC free := by
  have hK : vx_Back l R p e below s args y 3 8 (PreOf R mc ms Pc) (PostOf Qc mc ms free) (vx_Post XC mc ms free) := vx_callBack cw.1 hM hp.1
  obtain ⟨⟨-, -, -, -, -, -, hcode, -, hy, hlen, hl⟩, hin, hse⟩ := cw
  obtain ⟨hx, hb, hml, ho, -⟩ := S
  obtain ⟨-, ⟨cellB, hcB, hoB, hclB⟩, hPc⟩ := hp
  intro T hT X
  rcases vx_callV X hx (C := C) (bytes := bytes) (maxL := maxL) (ret := ret) ho hl hin hse hcode hy hK (by rw [hT]; exact hcB) hoB hclB hg (hsize.trans hml.symm) (argsL := As) (rest := rest) (fun sig h => hn.trans (hlen sig h)) hstack hW (by rw [hb]; exact hdg)
    (fun vm₁ hW₁ => ⟨hf.1, hf.2, hPc (T.setVm vm₁) hT hW₁⟩) with ⟨v, vm₁, ⟨U', l2, c2, s2⟩, hW₁, X', ⟨g', mk, t, L, e1, e2, hq, h1, hL, h2, h3⟩, st⟩ | ⟨q, vm₁, ⟨U', l2, c2, s2⟩, hW₁, X', ⟨g', mk, t, L, E, ce, e1, e2, hq, hce, hcv, hcl, h1, hL, h2, h3⟩, st⟩
  · dsimp only [Pt.U, Pt.locs, Pt.cells, Pt.slots] at X' e1 e2 h1 h2 h3 st
    subst h1; subst h2; subst h3
    exact Or.inl ⟨v, (T.setVm vm₁).calling g' mk (Value.ref b :: As).toArray, t, U', L, hT, X', hL, e1, e2, hq, st⟩
  · dsimp only [Pt.U, Pt.locs, Pt.cells, Pt.slots] at X' e1 e2 h1 h2 h3 st hcl
    subst h1; subst h2; subst h3
    exact Or.inr ⟨q, (T.setVm vm₁).calling g' mk (Value.ref b :: As).toArray, t, U', L, E, ce, hT, X', hL, e1, e2, hq, hce, hcv, vx_cls hW₁ hcl, st⟩
theorem vx_runS (S : CallFix p m c cc nL s args Ts own) (hM : vx_Met l y ws rm Pc Qc XC mc ms free) (cw : CallB R s args own index y bytes maxL ret ws rm mc ms n ∧ (Cond.static y).before args s = true) (hp : PreS s H Pc As)
    (hg : g.method = m) (hn : As.length = n) (hsize : g.locals.size = nL) (hstack : g.stack = As.reverse ++ rest) (hW : 2 * g.monitorRoom + (rest.map fun v => v.category).sum ≤ 8) (hdg : decode cc g.pc = .ok (.invokestatic index, 3)) (hf : cells + mc ≤ R.cells ∧ slots + ms ≤ R.slots) :
    vx_Run p l e R s m args below meth c H locs cells slots mc ms g rest (Qc As.toArray) XC free := by
  have hK : vx_Back l R p e below s args y 3 8 (PreOf R mc ms Pc) (PostOf Qc mc ms free) (vx_Post XC mc ms free) := vx_callBack cw.1 hM hp.1
  obtain ⟨⟨-, -, -, -, -, -, hcode, hini, hy, hlen, hl⟩, hstt⟩ := cw
  obtain ⟨hx, hb, hml, ho, -⟩ := S
  intro T hT X
  rcases vx_callS X hx (bytes := bytes) (maxL := maxL) (ret := ret) ho hl hstt hini hcode hy hK hg (hsize.trans hml.symm) (argsL := As) (rest := rest) (fun sig h => hn.trans (hlen sig h)) hstack hW (by rw [hb]; exact hdg)
    (fun vm₁ hW₁ => ⟨hf.1, hf.2, hp.2 (T.setVm vm₁) hT hW₁⟩) with ⟨v, vm₁, ⟨U', l2, c2, s2⟩, hW₁, X', ⟨g', mk, t, L, e1, e2, hq, h1, hL, h2, h3⟩, st⟩ | ⟨q, vm₁, ⟨U', l2, c2, s2⟩, hW₁, X', ⟨g', mk, t, L, E, ce, e1, e2, hq, hce, hcv, hcl, h1, hL, h2, h3⟩, st⟩
  · dsimp only [Pt.U, Pt.locs, Pt.cells, Pt.slots] at X' e1 e2 h1 h2 h3 st
    subst h1; subst h2; subst h3
    exact Or.inl ⟨v, (T.setVm vm₁).calling g' mk As.toArray, t, U', L, hT, X', hL, e1, e2, hq, st⟩
  · dsimp only [Pt.U, Pt.locs, Pt.cells, Pt.slots] at X' e1 e2 h1 h2 h3 st hcl
    subst h1; subst h2; subst h3
    exact Or.inr ⟨q, (T.setVm vm₁).calling g' mk As.toArray, t, U', L, E, ce, hT, X', hL, e1, e2, hq, hce, hcv, vx_cls hW₁ hcl, st⟩
end Runs
section Rows
variable {p : Program} {l : Launch} {e : Env} {R : Room} {s : State} {m : MethodId} {args : Array Value} {below : List Frame} {meth : Method} {c : Code} {H : Heap} {locs : List Loc} {cells slots : Nat} {Q : State → Prop}
variable {mc ms : Nat} {free : Addr → Prop} {A0 A1 : Nat → Prop} {H0 : Heap} {a : Array Value} {pc : Nat} {ls : Array Slot} {st0 rest : List Value}
theorem vx_keep {st₀ t T' : State} {L : List Loc} (h0 : st₀.heap = H) (e1 : T'.heap = t.heap) (hS : va_S A0 H0 H locs) (hA : ∀ q, q < H.size → A1 q → A0 q) (hf : ∀ q, free q → A0 q) (hL : ∀ q ∈ L, free q.base) (hF : va_F A1 st₀ t) :
    H.size ≤ T'.heap.size ∧ (∀ q : Nat, q < H.size → ¬ A1 q → T'.heap[q]? = H[q]?) ∧ va_S A0 H0 T'.heap (locs ++ L) := by
  obtain ⟨hz, hk⟩ := hF
  rw [h0] at hz hk
  exact ⟨by rw [e1]; exact hz, fun q h1 h2 => by rw [e1]; exact hk q h1 h2,
    ⟨Nat.le_trans hS.1 (by rw [e1]; exact hz), fun q h1 h2 => by rw [e1, hk q (Nat.lt_of_lt_of_le h1 hS.1) (fun z => h2 (hA q (Nat.lt_of_lt_of_le h1 hS.1) z))]; exact hS.2.1 q h1 h2, fun q hq => by
      rcases List.mem_append.mp hq with h | h
      · exact hS.2.2 q h
      · exact hf _ (hL q h)⟩⟩
theorem vx_calli {S SX : Type} {post : Int32 → S → Prop} {px : SX → Prop} {B : S → State → Prop} {BX : String → SX → State → Prop} {AX : Nat → Prop} (hr : vx_Run p l e R s m args below meth c H locs cells slots mc ms (F0 m pc ls st0) rest (va_Qi post B A1 a) (vx_X px BX AX) free) (hS : va_S A0 H0 H locs) (hA : ∀ q, q < H.size → A1 q → A0 q) (hf : ∀ q, free q → A0 q) (hAX : ∀ q, q < H.size → AX q → A0 q)
    (kx : ∀ (E : String) (ce : Cell) (q9 : Addr) (u : SX) (t : State) (H1 : Heap) (locs1 : List Loc), t.heap = H1 → s.vm.Alike t.vm → px u → BX E u t → H.size ≤ H1.size → (∀ q : Nat, q < H.size → ¬ AX q → H1[q]? = H[q]?) → va_S A0 H0 H1 locs1 → H1[q9]? = some ce → ce.vm = .none → s.vm.findClass E = some ce.cls → vx_W p l e R s m args below meth c H1 locs1 (cells + mc) (slots + ms) Q (F0 m pc ls rest) q9)
    (kk : ∀ (r : Int32) (u : S) (t : State) (H1 : Heap) (locs1 : List Loc), t.heap = H1 → s.vm.Alike t.vm → post r u → B u t → H.size ≤ H1.size → (∀ q : Nat, q < H.size → ¬ A1 q → H1[q]? = H[q]?) → va_S A0 H0 H1 locs1 → W p l e R s m args below meth c H1 locs1 (cells + mc) (slots + ms) Q (F0 m (pc + 3) ls (.int r :: rest))) : W p l e R s m args below meth c H locs cells slots Q (F0 m pc ls st0) := by
  intro T hT X
  rcases hr T hT X with ⟨v, st₀, t, T', L, h0, X', hL, e1, e2, ⟨⟨r, u, hv, hp, hb⟩, hF⟩, st⟩ | ⟨q, st₀, t, T', L, E, ce, h0, X', hL, e1, e2, ⟨u, hp, hb, hF⟩, hce, hcv, hcl, st⟩
  · cases hv
    obtain ⟨k1, k2, k3⟩ := vx_keep h0 e1 hS hA hf hL hF
    obtain ⟨t2, a1, b1⟩ := kk r u t T'.heap (locs ++ L) e1.symm (by rw [← e2]; exact X'.warmed.alike) hp hb k1 k2 k3 T' rfl X'
    exact ⟨t2, st t2 a1, b1⟩
  · obtain ⟨k1, k2, k3⟩ := vx_keep h0 e1 hS hAX hf hL hF
    obtain ⟨t2, a1, b1⟩ := kx E ce q u t T'.heap (locs ++ L) e1.symm (by rw [← e2]; exact X'.warmed.alike) hp hb k1 k2 k3 (by rw [e1]; exact hce) hcv hcl T' rfl X'
    exact ⟨t2, st.trans a1, b1⟩
theorem vx_calll {S SX : Type} {post : Int64 → S → Prop} {px : SX → Prop} {B : S → State → Prop} {BX : String → SX → State → Prop} {AX : Nat → Prop} (hr : vx_Run p l e R s m args below meth c H locs cells slots mc ms (F0 m pc ls st0) rest (va_Ql post B A1 a) (vx_X px BX AX) free) (hS : va_S A0 H0 H locs) (hA : ∀ q, q < H.size → A1 q → A0 q) (hf : ∀ q, free q → A0 q) (hAX : ∀ q, q < H.size → AX q → A0 q)
    (kx : ∀ (E : String) (ce : Cell) (q9 : Addr) (u : SX) (t : State) (H1 : Heap) (locs1 : List Loc), t.heap = H1 → s.vm.Alike t.vm → px u → BX E u t → H.size ≤ H1.size → (∀ q : Nat, q < H.size → ¬ AX q → H1[q]? = H[q]?) → va_S A0 H0 H1 locs1 → H1[q9]? = some ce → ce.vm = .none → s.vm.findClass E = some ce.cls → vx_W p l e R s m args below meth c H1 locs1 (cells + mc) (slots + ms) Q (F0 m pc ls rest) q9)
    (kk : ∀ (r : Int64) (u : S) (t : State) (H1 : Heap) (locs1 : List Loc), t.heap = H1 → s.vm.Alike t.vm → post r u → B u t → H.size ≤ H1.size → (∀ q : Nat, q < H.size → ¬ A1 q → H1[q]? = H[q]?) → va_S A0 H0 H1 locs1 → W p l e R s m args below meth c H1 locs1 (cells + mc) (slots + ms) Q (F0 m (pc + 3) ls (.long r :: rest))) : W p l e R s m args below meth c H locs cells slots Q (F0 m pc ls st0) := by
  intro T hT X
  rcases hr T hT X with ⟨v, st₀, t, T', L, h0, X', hL, e1, e2, ⟨⟨r, u, hv, hp, hb⟩, hF⟩, st⟩ | ⟨q, st₀, t, T', L, E, ce, h0, X', hL, e1, e2, ⟨u, hp, hb, hF⟩, hce, hcv, hcl, st⟩
  · cases hv
    obtain ⟨k1, k2, k3⟩ := vx_keep h0 e1 hS hA hf hL hF
    obtain ⟨t2, a1, b1⟩ := kk r u t T'.heap (locs ++ L) e1.symm (by rw [← e2]; exact X'.warmed.alike) hp hb k1 k2 k3 T' rfl X'
    exact ⟨t2, st t2 a1, b1⟩
  · obtain ⟨k1, k2, k3⟩ := vx_keep h0 e1 hS hAX hf hL hF
    obtain ⟨t2, a1, b1⟩ := kx E ce q u t T'.heap (locs ++ L) e1.symm (by rw [← e2]; exact X'.warmed.alike) hp hb k1 k2 k3 (by rw [e1]; exact hce) hcv hcl T' rfl X'
    exact ⟨t2, st.trans a1, b1⟩
theorem vx_callf {S SX : Type} {post : UInt32 → S → Prop} {px : SX → Prop} {B : S → State → Prop} {BX : String → SX → State → Prop} {AX : Nat → Prop} (hr : vx_Run p l e R s m args below meth c H locs cells slots mc ms (F0 m pc ls st0) rest (va_Qf post B A1 a) (vx_X px BX AX) free) (hS : va_S A0 H0 H locs) (hA : ∀ q, q < H.size → A1 q → A0 q) (hf : ∀ q, free q → A0 q) (hAX : ∀ q, q < H.size → AX q → A0 q)
    (kx : ∀ (E : String) (ce : Cell) (q9 : Addr) (u : SX) (t : State) (H1 : Heap) (locs1 : List Loc), t.heap = H1 → s.vm.Alike t.vm → px u → BX E u t → H.size ≤ H1.size → (∀ q : Nat, q < H.size → ¬ AX q → H1[q]? = H[q]?) → va_S A0 H0 H1 locs1 → H1[q9]? = some ce → ce.vm = .none → s.vm.findClass E = some ce.cls → vx_W p l e R s m args below meth c H1 locs1 (cells + mc) (slots + ms) Q (F0 m pc ls rest) q9)
    (kk : ∀ (r : UInt32) (u : S) (t : State) (H1 : Heap) (locs1 : List Loc), t.heap = H1 → s.vm.Alike t.vm → post r u → B u t → H.size ≤ H1.size → (∀ q : Nat, q < H.size → ¬ A1 q → H1[q]? = H[q]?) → va_S A0 H0 H1 locs1 → W p l e R s m args below meth c H1 locs1 (cells + mc) (slots + ms) Q (F0 m (pc + 3) ls (.float r :: rest))) : W p l e R s m args below meth c H locs cells slots Q (F0 m pc ls st0) := by
  intro T hT X
  rcases hr T hT X with ⟨v, st₀, t, T', L, h0, X', hL, e1, e2, ⟨⟨r, u, hv, hp, hb⟩, hF⟩, st⟩ | ⟨q, st₀, t, T', L, E, ce, h0, X', hL, e1, e2, ⟨u, hp, hb, hF⟩, hce, hcv, hcl, st⟩
  · cases hv
    obtain ⟨k1, k2, k3⟩ := vx_keep h0 e1 hS hA hf hL hF
    obtain ⟨t2, a1, b1⟩ := kk r u t T'.heap (locs ++ L) e1.symm (by rw [← e2]; exact X'.warmed.alike) hp hb k1 k2 k3 T' rfl X'
    exact ⟨t2, st t2 a1, b1⟩
  · obtain ⟨k1, k2, k3⟩ := vx_keep h0 e1 hS hAX hf hL hF
    obtain ⟨t2, a1, b1⟩ := kx E ce q u t T'.heap (locs ++ L) e1.symm (by rw [← e2]; exact X'.warmed.alike) hp hb k1 k2 k3 (by rw [e1]; exact hce) hcv hcl T' rfl X'
    exact ⟨t2, st.trans a1, b1⟩
theorem vx_calld {S SX : Type} {post : UInt64 → S → Prop} {px : SX → Prop} {B : S → State → Prop} {BX : String → SX → State → Prop} {AX : Nat → Prop} (hr : vx_Run p l e R s m args below meth c H locs cells slots mc ms (F0 m pc ls st0) rest (va_Qd post B A1 a) (vx_X px BX AX) free) (hS : va_S A0 H0 H locs) (hA : ∀ q, q < H.size → A1 q → A0 q) (hf : ∀ q, free q → A0 q) (hAX : ∀ q, q < H.size → AX q → A0 q)
    (kx : ∀ (E : String) (ce : Cell) (q9 : Addr) (u : SX) (t : State) (H1 : Heap) (locs1 : List Loc), t.heap = H1 → s.vm.Alike t.vm → px u → BX E u t → H.size ≤ H1.size → (∀ q : Nat, q < H.size → ¬ AX q → H1[q]? = H[q]?) → va_S A0 H0 H1 locs1 → H1[q9]? = some ce → ce.vm = .none → s.vm.findClass E = some ce.cls → vx_W p l e R s m args below meth c H1 locs1 (cells + mc) (slots + ms) Q (F0 m pc ls rest) q9)
    (kk : ∀ (r : UInt64) (u : S) (t : State) (H1 : Heap) (locs1 : List Loc), t.heap = H1 → s.vm.Alike t.vm → post r u → B u t → H.size ≤ H1.size → (∀ q : Nat, q < H.size → ¬ A1 q → H1[q]? = H[q]?) → va_S A0 H0 H1 locs1 → W p l e R s m args below meth c H1 locs1 (cells + mc) (slots + ms) Q (F0 m (pc + 3) ls (.double r :: rest))) : W p l e R s m args below meth c H locs cells slots Q (F0 m pc ls st0) := by
  intro T hT X
  rcases hr T hT X with ⟨v, st₀, t, T', L, h0, X', hL, e1, e2, ⟨⟨r, u, hv, hp, hb⟩, hF⟩, st⟩ | ⟨q, st₀, t, T', L, E, ce, h0, X', hL, e1, e2, ⟨u, hp, hb, hF⟩, hce, hcv, hcl, st⟩
  · cases hv
    obtain ⟨k1, k2, k3⟩ := vx_keep h0 e1 hS hA hf hL hF
    obtain ⟨t2, a1, b1⟩ := kk r u t T'.heap (locs ++ L) e1.symm (by rw [← e2]; exact X'.warmed.alike) hp hb k1 k2 k3 T' rfl X'
    exact ⟨t2, st t2 a1, b1⟩
  · obtain ⟨k1, k2, k3⟩ := vx_keep h0 e1 hS hAX hf hL hF
    obtain ⟨t2, a1, b1⟩ := kx E ce q u t T'.heap (locs ++ L) e1.symm (by rw [← e2]; exact X'.warmed.alike) hp hb k1 k2 k3 (by rw [e1]; exact hce) hcv hcl T' rfl X'
    exact ⟨t2, st.trans a1, b1⟩
theorem vx_callv {S SX : Type} {post : S → Prop} {px : SX → Prop} {B : S → State → Prop} {BX : String → SX → State → Prop} {AX : Nat → Prop} (hr : vx_Run p l e R s m args below meth c H locs cells slots mc ms (F0 m pc ls st0) rest (va_Qv post B A1 a) (vx_X px BX AX) free) (hS : va_S A0 H0 H locs) (hA : ∀ q, q < H.size → A1 q → A0 q) (hf : ∀ q, free q → A0 q) (hAX : ∀ q, q < H.size → AX q → A0 q)
    (kx : ∀ (E : String) (ce : Cell) (q9 : Addr) (u : SX) (t : State) (H1 : Heap) (locs1 : List Loc), t.heap = H1 → s.vm.Alike t.vm → px u → BX E u t → H.size ≤ H1.size → (∀ q : Nat, q < H.size → ¬ AX q → H1[q]? = H[q]?) → va_S A0 H0 H1 locs1 → H1[q9]? = some ce → ce.vm = .none → s.vm.findClass E = some ce.cls → vx_W p l e R s m args below meth c H1 locs1 (cells + mc) (slots + ms) Q (F0 m pc ls rest) q9)
    (kk : ∀ (u : S) (t : State) (H1 : Heap) (locs1 : List Loc), t.heap = H1 → s.vm.Alike t.vm → post u → B u t → H.size ≤ H1.size → (∀ q : Nat, q < H.size → ¬ A1 q → H1[q]? = H[q]?) → va_S A0 H0 H1 locs1 → W p l e R s m args below meth c H1 locs1 (cells + mc) (slots + ms) Q (F0 m (pc + 3) ls (rest))) : W p l e R s m args below meth c H locs cells slots Q (F0 m pc ls st0) := by
  intro T hT X
  rcases hr T hT X with ⟨v, st₀, t, T', L, h0, X', hL, e1, e2, ⟨⟨u, hv, hp, hb⟩, hF⟩, st⟩ | ⟨q, st₀, t, T', L, E, ce, h0, X', hL, e1, e2, ⟨u, hp, hb, hF⟩, hce, hcv, hcl, st⟩
  · cases hv
    obtain ⟨k1, k2, k3⟩ := vx_keep h0 e1 hS hA hf hL hF
    obtain ⟨t2, a1, b1⟩ := kk u t T'.heap (locs ++ L) e1.symm (by rw [← e2]; exact X'.warmed.alike) hp hb k1 k2 k3 T' rfl X'
    exact ⟨t2, st t2 a1, b1⟩
  · obtain ⟨k1, k2, k3⟩ := vx_keep h0 e1 hS hAX hf hL hF
    obtain ⟨t2, a1, b1⟩ := kx E ce q u t T'.heap (locs ++ L) e1.symm (by rw [← e2]; exact X'.warmed.alike) hp hb k1 k2 k3 (by rw [e1]; exact hce) hcv hcl T' rfl X'
    exact ⟨t2, st.trans a1, b1⟩
/-- caught by the row x of this method's table; the rows ahead don't take it -/
theorem vx_catch {own name : String} {E : String} {ce : Cell} {q : Addr} (hown : s.vm.findClass own = some m.cls) (pre : List ExceptionTableEntry) (x : ExceptionTableEntry) (suf : List ExceptionTableEntry) (hsplit : c.exceptionTable.toList = pre ++ x :: suf)
    (hpass : ∀ z ∈ pre, covers z pc = false ∨ (z.catchType ≠ 0 ∧ ∃ nm : String, (Cond.classLink own z.catchType nm).before args s = true ∧ va_Nc E nm s)) (hx : covers x pc = true) (h0 : x.catchType ≠ 0)
    (hlink : (Cond.classLink own x.catchType name).before args s = true) (hcast : (Cond.castable E name).before args s = true) (hcell : H[q]? = some ce) (hv : ce.vm = .none) (hcl : s.vm.findClass E = some ce.cls)
    (kk : W p l e R s m args below meth c H locs cells slots Q (F0 m x.handlerPc ls [.ref q])) : vx_W p l e R s m args below meth c H locs cells slots Q (F0 m pc ls rest) q := by
  intro T hT X
  have hpl : e.platform.magicAccessors = ({} : Platform).magicAccessors := by rw [X.admits.platform]
  obtain ⟨c3, c4, hc3, hc4, hasg⟩ := Cond.castable_spec hcast
  cases Option.some.inj (hc3.symm.trans hcl)
  obtain ⟨c5, hc5, hcl5⟩ := Cond.classLink_spec hown hlink e.platform hpl
  cases Option.some.inj (hc4.symm.trans hc5)
  obtain ⟨vm', X', st⟩ := X.thenCaughtThrough q (g := F0 m pc ls rest) rfl (Steps.refl _) (by rw [hT]; exact hcell) (by rw [hv]; rfl) (by obtain ⟨k9, h9, -⟩ := Vm.findClass_spec hcl; exact ⟨k9, h9⟩) pre x suf hsplit
    (fun z hz => by
      rcases hpass z hz with h | ⟨hz0, nm, hl1, hn1⟩
      · exact Or.inl h
      · obtain ⟨c6, hc6, hcl6⟩ := Cond.classLink_spec hown hl1 e.platform hpl
        obtain ⟨a8, b8, h1, h2, h3⟩ := hn1
        cases Option.some.inj (h1.symm.trans hcl)
        cases Option.some.inj (h2.symm.trans hc6)
        exact Or.inr ⟨hz0, _, hcl6, h3⟩) hx (Or.inr ⟨h0, c4, hcl5, hasg⟩)
  obtain ⟨t, a1, b1⟩ := kk (T.setVm vm') hT X'
  exact ⟨t, st.trans a1, b1⟩
end Rows
section Ends
variable {p : Program} {l : Launch} {e : Env} {R : Room} {s : State} {m : MethodId} {args : Array Value} {below : List Frame} {meth : Method} {c : Code} {H : Heap} {locs : List Loc} {cells slots : Nat} {Q : State → Prop}
variable {mc ms : Nat} {free : Addr → Prop} {A0 A1 : Nat → Prop} {H0 : Heap} {a : Array Value} {ls : Array Slot} {st0 rest : List Value}
variable {Qc : Array Value → State → Outcome → State → Prop} {XC : String → State → State → Prop}
/-- what a body that may throw owes at its end -/
def vx_MQ (below : List Frame) (Qc : Array Value → State → Outcome → State → Prop) (XC : String → State → State → Prop) (a : Array Value) (s : State) (mc ms : Nat) (free : Addr → Prop) : State → Prop := fun t =>
  ∃ o, t.status = .running ∧ Ended t below o ∧ vx_Q Qc XC mc ms free a s o t
theorem vx_ret {g : JFrame} {mc ms : Nat} (k : W p l e R s m args below meth c H locs cells slots (MQ below Qc args s mc ms free) g) : W p l e R s m args below meth c H locs cells slots (vx_MQ below Qc XC args s mc ms free) g := by
  intro T hT X
  obtain ⟨t, a1, o, b1, b2, b3, b4⟩ := k T hT X
  exact ⟨t, a1, o, b1, b2, Or.inl ⟨b3, b4⟩⟩
/-- not caught here: it goes on to the caller -/
theorem vx_widen {g : JFrame} {q : Addr} {k n : Nat} (h1 : cells ≤ k) (h2 : slots ≤ n) (kk : vx_W p l e R s m args below meth c H locs k n Q g q) : vx_W p l e R s m args below meth c H locs cells slots Q g q := fun T hT X => kk T hT (stand_widen X h1 h2)
theorem vx_out {pc : Nat} {E : String} {ce : Cell} {q : Addr} {mc ms : Nat} (hout : ∀ x ∈ c.exceptionTable.toList, covers x pc = false) (hlocks : meth.locks = false) (hcell : H[q]? = some ce) (hv : ce.vm = .none) (hcl : s.vm.findClass E = some ce.cls)
    (hx : ∀ t : State, t.heap = H → s.vm.Alike t.vm → XC E s t) (hf : ∀ z ∈ locs, free z.base) (hc : cells ≤ mc) (hs : slots ≤ ms) :
    vx_W p l e R s m args below meth c H locs cells slots (vx_MQ below Qc XC args s mc ms free) (F0 m pc ls rest) q := by
  intro T hT X
  obtain ⟨st1, hrun, hend, hW, hsm⟩ := X.leaveThrown q (g := F0 m pc ls rest) rfl rfl rfl hout hlocks
  have hcell9 : (T.setFrames (.throwing q :: below)).heap[q]? = some ce := by
    show T.heap[q]? = some ce
    rw [hT]; exact hcell
  exact ⟨_, st1, .threw q, hrun, hend, Or.inr ⟨q, rfl, E, ce, locs, hx _ hT hW.alike, hcell9, hv, hcl, hW, hsm.mono hc hs, hf⟩⟩
theorem vx_frame {U : State} {k n : Nat} (h : s.sameButNew ({ U with vm := s.vm } : State) locs k n) : s.heap.size ≤ U.heap.size ∧ ∀ q : Nat, q < s.heap.size → (∀ z ∈ locs, z.base ≠ q) → U.heap[q]? = s.heap[q]? := by
  obtain ⟨-, h2, -, -, -, h6⟩ := h
  refine ⟨h2, fun q hq hz => ?_⟩
  obtain ⟨c9, e1, e2, e3, e4⟩ := h6 q _ (Array.getElem?_eq_getElem hq)
  have hs : c9.slots = (s.heap[q]).slots := Array.ext_getElem? fun i => e4 i fun hm => hz _ hm rfl
  have h9 : c9 = s.heap[q] := by
    rw [hs] at e2
    exact e2
  have e5 : U.heap[q]? = some c9 := e1
  rw [e5, h9, Array.getElem?_eq_getElem hq]
/-- the words of a throw but the four that speak of the heap -/
def vx_no (w : Cond) : Bool := decide (w ≠ .isRef (.static Bundle.tN "UNASSIGNED_STACK" Bundle.steD)) && decide (w ≠ .isRef (.static Bundle.tN "SUPPRESSED_SENTINEL" Bundle.listD)) && decide (w ≠ .laysStatic Bundle.tN "UNASSIGNED_STACK" Bundle.steD) && decide (w ≠ .laysStatic Bundle.tN "SUPPRESSED_SENTINEL" Bundle.listD)
def vx_at0 (own : String) (ic : Nat) (X : String) (names : List String) : List Cond := (Bundle.ownAtoms0 own ic X names).filter vx_no
def vx_atS (own : String) (ic : Nat) (X : String) (names : List String) : List Cond := (Bundle.ownAtoms own ic X names).filter vx_no
/-- a word that the tables alone decide, or a good one -/
def vx_ot (w : Cond) : Bool := w.onTables || goodWord w
theorem vx_ot_at {args a' : Array Value} {s U : State} {w : Cond} (hW : s.WarmedH U.vm) (hvm : s.vm = U.vm) (hg : vx_ot w = true) (h : w.before args s = true) : w.before a' U = true := by
  simp only [vx_ot, Bool.or_eq_true] at hg
  rcases hg with hg | hg
  · exact va_tabs hg hvm h
  · exact word_at hW (good_of_word hg) h
/-- a list's words: the good ones out of the method's own list, the others by premises of their own -/
theorem vx_hat {args : Array Value} {s : State} {L B : List Cond} (h1 : ∀ w ∈ L.filter goodWord, w.before args s = true) (h2 : ∀ w ∈ L.filter (fun w => !goodWord w), w ∈ B) (h3 : ∀ w ∈ B, w.before args s = true) : ∀ w ∈ L, w.before args s = true := by
  intro w hw
  by_cases g : goodWord w = true
  · exact h1 w (List.mem_filter.mpr ⟨hw, g⟩)
  · refine h3 w (h2 w (List.mem_filter.mpr ⟨hw, ?_⟩))
    show (!goodWord w) = true
    cases hgw : goodWord w
    · rfl
    · exact absurd hgw g
theorem vx_c {args : Array Value} {s : State} {w : Cond} {B : List Cond} (h : w.before args s = true) (t : ∀ w ∈ B, w.before args s = true) : ∀ w' ∈ w :: B, w'.before args s = true := fun w' h' => (List.mem_cons.mp h').elim (fun e => by rw [e]; exact h) (t w')
theorem vx_n {args : Array Value} {s : State} : ∀ w ∈ ([] : List Cond), w.before args s = true := fun _ h => nomatch h
theorem vx_own {args : Array Value} {s : State} {L : List Cond} (h1 : ∀ w ∈ L.filter vx_no, w.before args s = true)
    (hU : (Cond.isRef (.static Bundle.tN "UNASSIGNED_STACK" Bundle.steD)).before args s = true) (hN : (Cond.isRef (.static Bundle.tN "SUPPRESSED_SENTINEL" Bundle.listD)).before args s = true)
    (lU : (Cond.laysStatic Bundle.tN "UNASSIGNED_STACK" Bundle.steD).before args s = true) (lN : (Cond.laysStatic Bundle.tN "SUPPRESSED_SENTINEL" Bundle.listD).before args s = true) : ∀ w ∈ L, w.before args s = true := by
  intro w hw
  by_cases e1 : w = .isRef (.static Bundle.tN "UNASSIGNED_STACK" Bundle.steD)
  · rw [e1]; exact hU
  · by_cases e2 : w = .isRef (.static Bundle.tN "SUPPRESSED_SENTINEL" Bundle.listD)
    · rw [e2]; exact hN
    · by_cases e3 : w = .laysStatic Bundle.tN "UNASSIGNED_STACK" Bundle.steD
      · rw [e3]; exact lU
      · by_cases e4 : w = .laysStatic Bundle.tN "SUPPRESSED_SENTINEL" Bundle.listD
        · rw [e4]; exact lN
        · exact h1 w (List.mem_filter.mpr ⟨hw, by unfold vx_no; rw [decide_eq_true e1, decide_eq_true e2, decide_eq_true e3, decide_eq_true e4]; rfl⟩)
/-- where a static field lies, its class's statics cell in H -/
def vx_L (C n d : String) (A : Nat → Prop) (U : State) (H : Heap) : Prop := ∃ (c : ClassId) (k : Class) (i : Nat) (f : Field) (a : Nat) (cell : Cell), U.vm.findClass C = some c ∧ U.fieldFound? C n d = some (c, k, i, f) ∧ f.isStatic = true ∧ k.statics = some a ∧ H[a]? = some cell ∧ cell.vm.isStatics = true ∧ cell.cls = c ∧ f.slot < cell.slots.size ∧ k.staticTypes[f.slot]? = some f.type ∧ ¬ A a
theorem vx_L.moved {C n d : String} {A : Nat → Prop} {u U : State} {H : Heap} (hvm : u.vm.Alike U.vm) (h : vx_L C n d A u H) : vx_L C n d A U H := by
  obtain ⟨c, k, i, f, a, cell, h1, h2, h3, h4, h5, h6, h7, h8, h9, h10⟩ := h
  obtain ⟨k', hi', he⟩ := State.fieldFound?_setVm hvm h2
  exact ⟨c, k', i, f, a, cell, by rw [hvm.findClass]; exact h1, hi', h3, by rw [he]; exact h4, h5, h6, h7, h8, by rw [he]; exact h9, h10⟩
theorem vx_L.kept {C n d : String} {A : Nat → Prop} {U : State} {H H1 : Heap} (h : vx_L C n d A U H) (hq : ∀ a : Nat, a < H.size → ¬ A a → H1[a]? = H[a]?) : vx_L C n d A U H1 := by
  obtain ⟨c, k, i, f, a, cell, h1, h2, h3, h4, h5, h6, h7, h8, h9, h10⟩ := h
  exact ⟨c, k, i, f, a, cell, h1, h2, h3, h4, by rw [hq a (Array.getElem?_eq_some_iff.mp h5).1 h10]; exact h5, h6, h7, h8, h9, h10⟩
theorem vx_L.narrow {C n d : String} {A B : Nat → Prop} {U : State} {H : Heap} (h : vx_L C n d A U H) (hAB : ∀ q, B q → A q) : vx_L C n d B U H := by
  obtain ⟨c, k, i, f, a, cell, h1, h2, h3, h4, h5, h6, h7, h8, h9, h10⟩ := h
  exact ⟨c, k, i, f, a, cell, h1, h2, h3, h4, h5, h6, h7, h8, h9, fun z => h10 (hAB _ z)⟩
theorem vx_L.word {C n d : String} {A : Nat → Prop} {s : State} {args : Array Value} (h : vx_L C n d A s s.heap) : (Cond.laysStatic C n d).before args s = true := by
  obtain ⟨c, k, i, f, a, cell, h1, h2, h3, h4, h5, h6, h7, h8, h9, -⟩ := h
  show (Cond.laysStatic C n d).holds args s none s [] = true
  exact Cond.laysStatic_of h1 h2 h3 h4 h5 h6 h7 h8 h9
/-- .. and what it holds: null or some reference -/
def vx_Zq (C n d : String) (A : Nat → Prop) (U : State) (H : Heap) : Prop := va_Zq C n d A U H ∧ vx_L C n d A U H
theorem vx_Zq.moved {C n d : String} {A : Nat → Prop} {u U : State} {H : Heap} (hvm : u.vm.Alike U.vm) (h : vx_Zq C n d A u H) : vx_Zq C n d A U H := ⟨va_Zq.moved hvm h.1, vx_L.moved hvm h.2⟩
theorem vx_Zq.kept {C n d : String} {A : Nat → Prop} {U : State} {H H1 : Heap} (h : vx_Zq C n d A U H) (hq : ∀ a : Nat, a < H.size → ¬ A a → H1[a]? = H[a]?) : vx_Zq C n d A U H1 := ⟨va_Zq.kept h.1 hq, vx_L.kept h.2 hq⟩
theorem vx_Zq.narrow {C n d : String} {A B : Nat → Prop} {U : State} {H : Heap} (h : vx_Zq C n d A U H) (hAB : ∀ q, B q → A q) : vx_Zq C n d B U H := ⟨va_Zq.narrow h.1 hAB, vx_L.narrow h.2 hAB⟩
theorem vx_Zqof {args : Array Value} {s : State} {C n d : String} {A : Nat → Prop} (hl : (Cond.laysStatic C n d).before args s = true) (hini : (Cond.initialized C).before args s = true) (h : (Cond.isRef (.static C n d)).before args s = true) (hA : ∀ a : Nat, a < s.heap.size → ¬ A a) : vx_Zq C n d A s s.heap := by
  refine ⟨va_Zqof hl hini h hA, ?_⟩
  obtain ⟨c, k, i, f, a, cell, h1, h2, h3, h4, h5, h6, h7, h8, h9⟩ := Cond.laysStatic_spec hl
  exact ⟨c, k, i, f, a, cell, h1, h2, h3, h4, h5, h6, h7, h8, h9, hA a (Array.getElem?_eq_some_iff.mp h5).1⟩
theorem vx_isRef {C n d : String} {v : Value} {A : Nat → Prop} {s : State} {args : Array Value} (h : va_Z C n d v A s s.heap) (hv : v.isRef = true) : (Cond.isRef (.static C n d)).before args s = true := by
  obtain ⟨cf, kf, fi, f, a, cell, h1, h2, h3, h4, h5, h6, h7, -⟩ := h
  have he : (Term.static C n d).eval args s none [] s = some v := by
    simp [Term.eval, State.fieldNamed?, h1, h2, h4, h5, h6, h7]
  simp only [Cond.before, Cond.holds, Cond.value, he]
  cases v <;> simp_all [Value.isRef]
theorem vx_isRefq {C n d : String} {A : Nat → Prop} {s : State} {args : Array Value} (h : va_Zq C n d A s s.heap) : (Cond.isRef (.static C n d)).before args s = true := by
  rcases h with h | ⟨t, h⟩
  · exact vx_isRef h rfl
  · exact vx_isRef h rfl
/-- the same frame, seen from here: as if the method were called anew in this heap -/
theorem vx_rebase {T : State} (X : Stand p l e R s m args below meth c T locs cells slots) {R' : Room} (hf : R'.frames ≤ R.frames) (hl : R'.locals ≤ R.locals) (hc : cells + R'.cells ≤ R.cells) (hs : slots + R'.slots ≤ R.slots) :
    Stand p l e R' ((T.setVm s.vm).setFrames (.invoking m args :: below)) m args below meth c T [] 0 0 := by
  have htop : (T.setVm s.vm).topJava?.isSome := X.here.top
  have hF : ((T.setVm s.vm).setFrames (.invoking m args :: below)).frames = .invoking m args :: below := State.frames_setFrames _ (State.cur_lt_of_top htop)
  obtain ⟨g₀, hg0⟩ := Option.isSome_iff_exists.mp htop
  obtain ⟨r, hr⟩ := State.topJava?_eq_some.mp hg0
  have hl9 : e.platform.stackLimits (T.setVm s.vm).me = e.platform.stackLimits s.me := X.limits
  have hb9 : (T.setVm s.vm).me.stackBytes = s.me.stackBytes := X.bytes
  refine ⟨X.admits, X.cas, X.clock, hF, ?_, X.hears, X.method, X.code, X.here, X.tail, X.warmed, ?_, ?_, ?_⟩
  · have h := X.room
    have hU : ((T.setVm s.vm).setFrames (.invoking m args :: below)).localsInUse = s.localsInUse := by
      rw [State.localsInUse_invoking hF (meth := meth) (c := c) X.method X.code, State.localsInUse_invoking X.frames X.method X.code]
    simp only [State.hasRoom, Bool.and_eq_true, decide_eq_true_eq] at h ⊢
    obtain ⟨⟨⟨⟨h1, h2, h3, h4, h5, h6⟩, h7⟩, h8⟩, h9⟩ := h
    rw [X.frames, List.length_cons] at h2 h3
    have q1 := X.heapSize
    have q2 := X.used
    simp only [hF, hU, List.length_cons, State.stackLimits_setFrames, State.stackBytes_setFrames, hl9, hb9]
    refine ⟨⟨⟨⟨by omega, by omega, by omega, by omega, by omega, h6⟩, ?_⟩, ?_⟩, X.book⟩
    · show T.heap.size + R'.cells ≤ e.platform.maxCells
      omega
    · show T.slotsUsed + R'.slots ≤ e.platform.maxSlots
      omega
  · rw [State.stackLimits_setFrames]; rfl
  · rw [State.stackBytes_setFrames]; rfl
  · refine ⟨?_, Nat.le_refl _, Nat.le_refl _, ?_, ?_, fun a c9 h9 => ⟨c9, h9, rfl, rfl, fun _ _ => rfl⟩⟩
    · obtain ⟨t, ht, -⟩ := State.frames_cons hr
      show T.setVm s.vm = { ((T.setVm s.vm).setFrames (.invoking m args :: below)).setFrames (T.setVm s.vm).frames with heap := T.heap, slotsUsed := T.slotsUsed }
      rw [State.setFrames_setFrames, State.setFrames_self ht]
      rfl
    · show T.slotsUsed = T.slotsUsed + ((T.heap.toList.drop T.heap.size).map (·.slots.size)).sum
      rw [List.drop_eq_nil_of_le (Nat.le_of_eq Array.length_toList)]
      rfl
    · show ((T.heap.toList.drop T.heap.size).map (·.slots.size)).sum ≤ 0
      rw [List.drop_eq_nil_of_le (Nat.le_of_eq Array.length_toList)]
      exact Nat.le_refl _
/-- 'throw new E()': new; dup; invokespecial; athrow -/
theorem vx_throw0 {cc : ByteArray} {pc : Nat} (hexec : p.tables.exec = Jvm.exec) (hb : c.code = cc) (hl : l.stackTraces = false) {own cls : String} {names : List String} {ik ic mc ms : Nat} {A : Nat → Prop}
    (hown : s.vm.findClass own = some m.cls) (hcls : Bundle.fit cls = true) (hnames : ∀ n ∈ names, Bundle.fit n = true)
    (hk : (Cond.classLink own ik cls).before args s = true) (hini : (Cond.initialized cls).before args s = true) (hat : ∀ w ∈ vx_at0 own ic cls names, w.before args s = true)
    (hgood : ∀ w ∈ Cond.classLink own ik cls :: Cond.initialized cls :: vx_at0 own ic cls names, vx_ot w = true)
    (hU : vx_Zq Bundle.tN "UNASSIGNED_STACK" Bundle.steD A s s.heap) (hN : vx_Zq Bundle.tN "SUPPRESSED_SENTINEL" Bundle.listD A s s.heap) (hS : va_S A s.heap H locs) (hsize : ls.size = c.maxLocals)
    (d0 : decode cc pc = .ok (.new ik, 3)) (d3 : decode cc (pc + 3) = .ok (.dup, 1)) (d4 : decode cc (pc + 4) = .ok (.invokespecial ic, 3)) (d7 : decode cc (pc + 7) = .ok (.athrow, 1))
    (hout : ∀ x ∈ c.exceptionTable.toList, covers x (pc + 7) = false)
    (hRframes : names.length + 3 < R.frames) (hRlocals : (rest.map fun v => v.category).sum + (13 * (names.length + 1) + 42) ≤ R.locals) (hRcells : cells + 1 ≤ R.cells) (hRslots : slots + 6 ≤ R.slots) (hlocks : meth.locks = false)
    (hx : ∀ t : State, s.vm.Alike t.vm → H.size ≤ t.heap.size → (∀ q : Nat, q < H.size → t.heap[q]? = H[q]?) → XC cls s t)
    (hf : ∀ z ∈ locs, free z.base) (hc : cells + 1 ≤ mc) (hs : slots + 6 ≤ ms) :
    W p l e R s m args below meth c H locs cells slots (vx_MQ below Qc XC args s mc ms free) (F0 m pc ls rest) := by
  intro T hT X
  have htr : e.platform.stackTraces = false := (show e.platform.stackTraces = l.stackTraces by rw [X.admits.platform]).trans hl
  have Y := vx_rebase X (R' := { frames := R.frames, locals := R.locals, cells := 1, slots := 6 }) (Nat.le_refl _) (Nat.le_refl _) hRcells hRslots
  obtain ⟨s', hA⟩ : ∃ z, z = (T.setVm s.vm).setFrames (.invoking m args :: below) := ⟨_, rfl⟩
  rw [← hA] at Y
  have hvm : s'.vm = s.vm := by rw [hA]; rfl
  have hhp : s'.heap = H := by rw [hA]; exact hT
  have hW0 : s.WarmedH s'.vm := by rw [hvm]; exact State.WarmedH.refl s
  have hat' : ∀ w ∈ vx_at0 own ic cls names, w.before args s' = true := fun w hw => vx_ot_at hW0 hvm.symm (hgood w (List.mem_cons_of_mem _ (List.mem_cons_of_mem _ hw))) (hat w hw)
  have hk' : (Cond.classLink own ik cls).before args s' = true := vx_ot_at hW0 hvm.symm (hgood _ List.mem_cons_self) hk
  have hini' : (Cond.initialized cls).before args s' = true := vx_ot_at hW0 hvm.symm (hgood _ (List.mem_cons_of_mem _ List.mem_cons_self)) hini
  have hU' : vx_Zq Bundle.tN "UNASSIGNED_STACK" Bundle.steD A s' s'.heap := by rw [hhp]; exact vx_Zq.moved hW0.alike (hU.kept hS.2.1)
  have hN' : vx_Zq Bundle.tN "SUPPRESSED_SENTINEL" Bundle.listD A s' s'.heap := by rw [hhp]; exact vx_Zq.moved hW0.alike (hN.kept hS.2.1)
  have h : ∀ w ∈ Bundle.ownAtoms0 own ic cls names, w.before args s' = true := vx_own hat' (vx_isRefq hU'.1) (vx_isRefq hN'.1) hU'.2.word hN'.2.word
  have hown' : s'.vm.findClass own = some m.cls := by rw [hvm]; exact hown
  have hins : (Cond.instantiable cls 6).before args s' = true := h _ (by simp [Bundle.ownAtoms0])
  obtain ⟨vm₁, cX, kX, hfX, hkX, -, -, X₁, st1⟩ := Y.newCold hexec (own := own) (C := cls) (index := ik) (n := 6) hown' hk' hins hini'
    (g := F0 m pc ls rest) rfl (by rw [hb]; exact d0) (Nat.le_refl _) (Nat.le_refl _)
  generalize hT1 : (T.setVm vm₁).pushCell { cls := cX, slots := kX.instanceTypes.map defaultValue, vm := .none } = T1 at X₁ st1
  have hcat : (Value.ref T.heap.size).category = 1 := rfl
  have hcellA : T1.heap[T.heap.size]? = some (freshCell cX kX) := by rw [← hT1]; exact State.heap_pushCell_size _ _
  have d3' : decode c.code (pc + 3) = .ok (.dup, 1) := by rw [hb]; exact d3
  obtain ⟨U, hsteps, hrun, hend, hW, hsame, ce, hce, hO⟩ := X₁.ctorThrow0 hexec htr (own := own) (cls := cls) (names := names) (ic := ic) hown' hcls hnames h (fun x hx => nomatch hx) hfX hkX hcellA (by rw [hhp, hT]; exact Nat.le_refl _)
    (g := { method := m, pc := pc + 4, locals := ls, stack := .ref T.heap.size :: .ref T.heap.size :: rest, locked := none }) rfl hsize rfl rfl (rest := rest) rfl
    (by rw [hb]; exact d4) (by rw [hb]; exact d7) hout hRframes (by simp only [List.map_cons, List.sum_cons, hcat]; omega) hlocks
  obtain ⟨f1, f2⟩ := vx_frame hsame
  rw [hhp] at f1 f2
  have hWs : s.WarmedH U.vm := State.WarmedH.trans hW0 hW
  have hcl : s.vm.findClass cls = some ce.cls := by
    have h9 := hO.cls
    rw [hvm] at h9
    exact h9
  have hall : s.sameButNew ({ U with vm := s.vm } : State) locs mc ms := by
    subst hA
    obtain ⟨e1, e2⟩ := hsame
    rw [State.setFrames_setFrames] at e1
    have h2 : (T.setVm s.vm).sameButNew ({ U with vm := s.vm } : State) [] (0 + 1) (0 + 6) := ⟨e1, e2⟩
    have h3 := X.same.trans h2
    rw [List.append_nil] at h3
    exact h3.mono hc hs
  refine ⟨U, ?_, .threw T.heap.size, hrun, hend, Or.inr ⟨T.heap.size, rfl, cls, ce, locs, hx U hWs.alike f1 (fun q hq => f2 q hq (fun z hz => nomatch hz)), hce, hO.vm, hcl, hWs, hall, hf⟩⟩
  refine st1 _ ?_
  show Steps p.tables e below (T1.setTop { method := m, pc := pc + 3, locals := ls, stack := .ref T.heap.size :: rest, locked := none }) _
  jvm_step X₁.here [X₁.here.top, hexec, d3', Value.category]
  exact hsteps
/-- 'throw new E("text")': new; dup; ldc; invokespecial; athrow -/
theorem vx_throwS {cc : ByteArray} {pc : Nat} (hexec : p.tables.exec = Jvm.exec) (hb : c.code = cc) (hl : l.stackTraces = false) {own cls text : String} {names : List String} {ik is ic mc ms sa : Nat} {A : Nat → Prop}
    (hown : s.vm.findClass own = some m.cls) (hcls : Bundle.fit cls = true) (hnames : ∀ n ∈ names, Bundle.fit n = true)
    (hk : (Cond.classLink own ik cls).before args s = true) (hini : (Cond.initialized cls).before args s = true) (hstr : vk_R own is text sa s) (hat : ∀ w ∈ vx_atS own ic cls names, w.before args s = true)
    (hgood : ∀ w ∈ Cond.classLink own ik cls :: Cond.initialized cls :: vx_atS own ic cls names, vx_ot w = true)
    (hU : vx_Zq Bundle.tN "UNASSIGNED_STACK" Bundle.steD A s s.heap) (hN : vx_Zq Bundle.tN "SUPPRESSED_SENTINEL" Bundle.listD A s s.heap) (hS : va_S A s.heap H locs) (hsize : ls.size = c.maxLocals)
    (d0 : decode cc pc = .ok (.new ik, 3)) (d3 : decode cc (pc + 3) = .ok (.dup, 1)) (d4 : decode cc (pc + 4) = .ok (.ldc is, 2)) (d6 : decode cc (pc + 6) = .ok (.invokespecial ic, 3)) (d9 : decode cc (pc + 9) = .ok (.athrow, 1))
    (hout : ∀ x ∈ c.exceptionTable.toList, covers x (pc + 9) = false)
    (hRframes : names.length + 3 < R.frames) (hRlocals : (rest.map fun v => v.category).sum + (13 * (names.length + 1) + 43) ≤ R.locals) (hRcells : cells + 1 ≤ R.cells) (hRslots : slots + 6 ≤ R.slots) (hlocks : meth.locks = false)
    (hx : ∀ t : State, s.vm.Alike t.vm → H.size ≤ t.heap.size → (∀ q : Nat, q < H.size → t.heap[q]? = H[q]?) → XC cls s t)
    (hf : ∀ z ∈ locs, free z.base) (hc : cells + 1 ≤ mc) (hs : slots + 6 ≤ ms) :
    W p l e R s m args below meth c H locs cells slots (vx_MQ below Qc XC args s mc ms free) (F0 m pc ls rest) := by
  intro T hT X
  have htr : e.platform.stackTraces = false := (show e.platform.stackTraces = l.stackTraces by rw [X.admits.platform]).trans hl
  have Y := vx_rebase X (R' := { frames := R.frames, locals := R.locals, cells := 1, slots := 6 }) (Nat.le_refl _) (Nat.le_refl _) hRcells hRslots
  obtain ⟨s', hA⟩ : ∃ z, z = (T.setVm s.vm).setFrames (.invoking m args :: below) := ⟨_, rfl⟩
  rw [← hA] at Y
  have hvm : s'.vm = s.vm := by rw [hA]; rfl
  have hhp : s'.heap = H := by rw [hA]; exact hT
  have hW0 : s.WarmedH s'.vm := by rw [hvm]; exact State.WarmedH.refl s
  have hat' : ∀ w ∈ vx_atS own ic cls names, w.before args s' = true := fun w hw => vx_ot_at hW0 hvm.symm (hgood w (List.mem_cons_of_mem _ (List.mem_cons_of_mem _ hw))) (hat w hw)
  have hk' : (Cond.classLink own ik cls).before args s' = true := vx_ot_at hW0 hvm.symm (hgood _ List.mem_cons_self) hk
  have hini' : (Cond.initialized cls).before args s' = true := vx_ot_at hW0 hvm.symm (hgood _ (List.mem_cons_of_mem _ List.mem_cons_self)) hini
  have hU' : vx_Zq Bundle.tN "UNASSIGNED_STACK" Bundle.steD A s' s'.heap := by rw [hhp]; exact vx_Zq.moved hW0.alike (hU.kept hS.2.1)
  have hN' : vx_Zq Bundle.tN "SUPPRESSED_SENTINEL" Bundle.listD A s' s'.heap := by rw [hhp]; exact vx_Zq.moved hW0.alike (hN.kept hS.2.1)
  have h : ∀ w ∈ Bundle.ownAtoms own ic cls names, w.before args s' = true := vx_own hat' (vx_isRefq hU'.1) (vx_isRefq hN'.1) hU'.2.word hN'.2.word
  have hown' : s'.vm.findClass own = some m.cls := by rw [hvm]; exact hown
  have hins : (Cond.instantiable cls 6).before args s' = true := h _ (by simp [Bundle.ownAtoms])
  obtain ⟨vm₁, cX, kX, hfX, hkX, -, -, X₁, st1⟩ := Y.newCold hexec (own := own) (C := cls) (index := ik) (n := 6) hown' hk' hins hini'
    (g := F0 m pc ls rest) rfl (by rw [hb]; exact d0) (Nat.le_refl _) (Nat.le_refl _)
  generalize hT1 : (T.setVm vm₁).pushCell { cls := cX, slots := kX.instanceTypes.map defaultValue, vm := .none } = T1 at X₁ st1
  have hcat : (Value.ref T.heap.size).category = 1 := rfl
  have hcellA : T1.heap[T.heap.size]? = some (freshCell cX kX) := by rw [← hT1]; exact State.heap_pushCell_size _ _
  have d3' : decode c.code (pc + 3) = .ok (.dup, 1) := by rw [hb]; exact d3
  have d4' : decode c.code (pc + 4) = .ok (.ldc is, 2) := by rw [hb]; exact d4
  have hstr' : vk_R own is text sa s' := vk_R.warm hW0 hstr
  obtain ⟨U, hsteps, hrun, hend, hW, hsame, ce, hce, hO⟩ := X₁.ctorThrowS hexec htr (own := own) (cls := cls) (names := names) (ic := ic) hown' hcls hnames h (fun x hx => nomatch hx) hfX hkX hcellA (by rw [hhp, hT]; exact Nat.le_refl _) (msg := .ref sa) rfl
    (g := { method := m, pc := pc + 6, locals := ls, stack := .ref sa :: .ref T.heap.size :: .ref T.heap.size :: rest, locked := none }) rfl hsize rfl rfl (rest := rest) rfl
    (by rw [hb]; exact d6) (by rw [hb]; exact d9) hout hRframes (by simp only [List.map_cons, List.sum_cons, hcat]; omega) hlocks
  obtain ⟨f1, f2⟩ := vx_frame hsame
  rw [hhp] at f1 f2
  have hWs : s.WarmedH U.vm := State.WarmedH.trans hW0 hW
  have hcl : s.vm.findClass cls = some ce.cls := by
    have h9 := hO.cls
    rw [hvm] at h9
    exact h9
  have hall : s.sameButNew ({ U with vm := s.vm } : State) locs mc ms := by
    subst hA
    obtain ⟨e1, e2⟩ := hsame
    rw [State.setFrames_setFrames] at e1
    have h2 : (T.setVm s.vm).sameButNew ({ U with vm := s.vm } : State) [] (0 + 1) (0 + 6) := ⟨e1, e2⟩
    have h3 := X.same.trans h2
    rw [List.append_nil] at h3
    exact h3.mono hc hs
  refine ⟨U, ?_, .threw T.heap.size, hrun, hend, Or.inr ⟨T.heap.size, rfl, cls, ce, locs, hx U hWs.alike f1 (fun q hq => f2 q hq (fun z hz => nomatch hz)), hce, hO.vm, hcl, hWs, hall, hf⟩⟩
  refine st1 _ ?_
  show Steps p.tables e below (T1.setTop { method := m, pc := pc + 3, locals := ls, stack := .ref T.heap.size :: rest, locked := none }) _
  jvm_step X₁.here [X₁.here.top, hexec, d3', Value.category]
  exact X₁.ldcString hexec (own := own) (text := text) (index := is) (a := sa) hown' hstr'.1 hstr'.2
    (g := { method := m, pc := pc + 4, locals := ls, stack := .ref T.heap.size :: .ref T.heap.size :: rest, locked := none }) rfl d4' _ hsteps
/-- 'throw new E("text")', the text by a wide index -/
theorem vx_throwSW {cc : ByteArray} {pc : Nat} (hexec : p.tables.exec = Jvm.exec) (hb : c.code = cc) (hl : l.stackTraces = false) {own cls text : String} {names : List String} {ik is ic mc ms sa : Nat} {A : Nat → Prop}
    (hown : s.vm.findClass own = some m.cls) (hcls : Bundle.fit cls = true) (hnames : ∀ n ∈ names, Bundle.fit n = true)
    (hk : (Cond.classLink own ik cls).before args s = true) (hini : (Cond.initialized cls).before args s = true) (hstr : vk_R own is text sa s) (hat : ∀ w ∈ vx_atS own ic cls names, w.before args s = true)
    (hgood : ∀ w ∈ Cond.classLink own ik cls :: Cond.initialized cls :: vx_atS own ic cls names, vx_ot w = true)
    (hU : vx_Zq Bundle.tN "UNASSIGNED_STACK" Bundle.steD A s s.heap) (hN : vx_Zq Bundle.tN "SUPPRESSED_SENTINEL" Bundle.listD A s s.heap) (hS : va_S A s.heap H locs) (hsize : ls.size = c.maxLocals)
    (d0 : decode cc pc = .ok (.new ik, 3)) (d3 : decode cc (pc + 3) = .ok (.dup, 1)) (d4 : decode cc (pc + 4) = .ok (.ldc_w is, 3)) (d7 : decode cc (pc + 7) = .ok (.invokespecial ic, 3)) (d10 : decode cc (pc + 10) = .ok (.athrow, 1))
    (hout : ∀ x ∈ c.exceptionTable.toList, covers x (pc + 10) = false)
    (hRframes : names.length + 3 < R.frames) (hRlocals : (rest.map fun v => v.category).sum + (13 * (names.length + 1) + 43) ≤ R.locals) (hRcells : cells + 1 ≤ R.cells) (hRslots : slots + 6 ≤ R.slots) (hlocks : meth.locks = false)
    (hx : ∀ t : State, s.vm.Alike t.vm → H.size ≤ t.heap.size → (∀ q : Nat, q < H.size → t.heap[q]? = H[q]?) → XC cls s t)
    (hf : ∀ z ∈ locs, free z.base) (hc : cells + 1 ≤ mc) (hs : slots + 6 ≤ ms) :
    W p l e R s m args below meth c H locs cells slots (vx_MQ below Qc XC args s mc ms free) (F0 m pc ls rest) := by
  intro T hT X
  have htr : e.platform.stackTraces = false := (show e.platform.stackTraces = l.stackTraces by rw [X.admits.platform]).trans hl
  have Y := vx_rebase X (R' := { frames := R.frames, locals := R.locals, cells := 1, slots := 6 }) (Nat.le_refl _) (Nat.le_refl _) hRcells hRslots
  obtain ⟨s', hA⟩ : ∃ z, z = (T.setVm s.vm).setFrames (.invoking m args :: below) := ⟨_, rfl⟩
  rw [← hA] at Y
  have hvm : s'.vm = s.vm := by rw [hA]; rfl
  have hhp : s'.heap = H := by rw [hA]; exact hT
  have hW0 : s.WarmedH s'.vm := by rw [hvm]; exact State.WarmedH.refl s
  have hat' : ∀ w ∈ vx_atS own ic cls names, w.before args s' = true := fun w hw => vx_ot_at hW0 hvm.symm (hgood w (List.mem_cons_of_mem _ (List.mem_cons_of_mem _ hw))) (hat w hw)
  have hk' : (Cond.classLink own ik cls).before args s' = true := vx_ot_at hW0 hvm.symm (hgood _ List.mem_cons_self) hk
  have hini' : (Cond.initialized cls).before args s' = true := vx_ot_at hW0 hvm.symm (hgood _ (List.mem_cons_of_mem _ List.mem_cons_self)) hini
  have hU' : vx_Zq Bundle.tN "UNASSIGNED_STACK" Bundle.steD A s' s'.heap := by rw [hhp]; exact vx_Zq.moved hW0.alike (hU.kept hS.2.1)
  have hN' : vx_Zq Bundle.tN "SUPPRESSED_SENTINEL" Bundle.listD A s' s'.heap := by rw [hhp]; exact vx_Zq.moved hW0.alike (hN.kept hS.2.1)
  have h : ∀ w ∈ Bundle.ownAtoms own ic cls names, w.before args s' = true := vx_own hat' (vx_isRefq hU'.1) (vx_isRefq hN'.1) hU'.2.word hN'.2.word
  have hown' : s'.vm.findClass own = some m.cls := by rw [hvm]; exact hown
  have hins : (Cond.instantiable cls 6).before args s' = true := h _ (by simp [Bundle.ownAtoms])
  obtain ⟨vm₁, cX, kX, hfX, hkX, -, -, X₁, st1⟩ := Y.newCold hexec (own := own) (C := cls) (index := ik) (n := 6) hown' hk' hins hini'
    (g := F0 m pc ls rest) rfl (by rw [hb]; exact d0) (Nat.le_refl _) (Nat.le_refl _)
  generalize hT1 : (T.setVm vm₁).pushCell { cls := cX, slots := kX.instanceTypes.map defaultValue, vm := .none } = T1 at X₁ st1
  have hcat : (Value.ref T.heap.size).category = 1 := rfl
  have hcellA : T1.heap[T.heap.size]? = some (freshCell cX kX) := by rw [← hT1]; exact State.heap_pushCell_size _ _
  have d3' : decode c.code (pc + 3) = .ok (.dup, 1) := by rw [hb]; exact d3
  have d4' : decode c.code (pc + 4) = .ok (.ldc_w is, 3) := by rw [hb]; exact d4
  have hstr' : vk_R own is text sa s' := vk_R.warm hW0 hstr
  obtain ⟨U, hsteps, hrun, hend, hW, hsame, ce, hce, hO⟩ := X₁.ctorThrowS hexec htr (own := own) (cls := cls) (names := names) (ic := ic) hown' hcls hnames h (fun x hx => nomatch hx) hfX hkX hcellA (by rw [hhp, hT]; exact Nat.le_refl _) (msg := .ref sa) rfl
    (g := { method := m, pc := pc + 7, locals := ls, stack := .ref sa :: .ref T.heap.size :: .ref T.heap.size :: rest, locked := none }) rfl hsize rfl rfl (rest := rest) rfl
    (by rw [hb]; exact d7) (by rw [hb]; exact d10) hout hRframes (by simp only [List.map_cons, List.sum_cons, hcat]; omega) hlocks
  obtain ⟨f1, f2⟩ := vx_frame hsame
  rw [hhp] at f1 f2
  have hWs : s.WarmedH U.vm := State.WarmedH.trans hW0 hW
  have hcl : s.vm.findClass cls = some ce.cls := by
    have h9 := hO.cls
    rw [hvm] at h9
    exact h9
  have hall : s.sameButNew ({ U with vm := s.vm } : State) locs mc ms := by
    subst hA
    obtain ⟨e1, e2⟩ := hsame
    rw [State.setFrames_setFrames] at e1
    have h2 : (T.setVm s.vm).sameButNew ({ U with vm := s.vm } : State) [] (0 + 1) (0 + 6) := ⟨e1, e2⟩
    have h3 := X.same.trans h2
    rw [List.append_nil] at h3
    exact h3.mono hc hs
  refine ⟨U, ?_, .threw T.heap.size, hrun, hend, Or.inr ⟨T.heap.size, rfl, cls, ce, locs, hx U hWs.alike f1 (fun q hq => f2 q hq (fun z hz => nomatch hz)), hce, hO.vm, hcl, hWs, hall, hf⟩⟩
  refine st1 _ ?_
  show Steps p.tables e below (T1.setTop { method := m, pc := pc + 3, locals := ls, stack := .ref T.heap.size :: rest, locked := none }) _
  jvm_step X₁.here [X₁.here.top, hexec, d3', Value.category]
  exact X₁.ldcStringW hexec (own := own) (text := text) (index := is) (a := sa) hown' hstr'.1 hstr'.2
    (g := { method := m, pc := pc + 4, locals := ls, stack := .ref T.heap.size :: .ref T.heap.size :: rest, locked := none }) rfl d4' _ hsteps
end Ends
section Bodies
variable {l : Launch}
theorem vx_ofW {y : MethodName} {ws ws' : List Cond} {rm : Room} {Pc : Array Value → State → Prop} {Qc : Array Value → State → Outcome → State → Prop} {XC : String → State → State → Prop} {mc ms : Nat} {free : Addr → Prop} {cc : ByteArray} {maxL : Nat} {ret : Option FieldType}
    (hy : plainName y.cls = true) (hw : ws = Cond.code y cc maxL ret :: ws')
    (body : ∀ p e s m args below meth c s₁, BodyLoose p l y (headSpec ws rm) cc maxL ret e s m args below meth c s₁ → c.maxLocals = maxL → (∀ x ∈ c.exceptionTable.toList, False) → Pc args s →
      W p l e (headSpec ws rm).room s m args below meth c s.heap [] 0 0 (vx_MQ below Qc XC args s mc ms free) (entryFrame m args maxL)) : vx_Met l y ws rm Pc Qc XC mc ms free := by
  refine MetFree.of_bodyS (code := cc) (maxLocals := maxL) (ret := ret) hy ?_ ?_
  · intro args s m h hn
    obtain ⟨meth, c, h1, h2, h3, h4, h5, h6, -, -⟩ := Cond.code_spec hn (atoms_spec (ws := ws) h _ (by rw [hw]; exact List.mem_cons_self))
    exact ⟨meth, c, h1, h2, h3, h4, h5, h6⟩
  · intro p e s m args below meth c s₁ B hml hP _
    have hh0 : s₁.heap = s.heap := by rw [B.state]; rfl
    have ht : ∀ x ∈ c.exceptionTable.toList, False := by
      obtain ⟨meth9, c9, h1, h2, -, -, -, -, h7, -⟩ := Cond.code_spec B.named (atoms_spec (ws := ws) B.pre _ (by rw [hw]; exact List.mem_cons_self))
      cases Option.some.inj (h1.symm.trans B.method)
      cases Option.some.inj (h2.symm.trans (Stand.of_body B).code)
      intro x hx
      rw [Array.isEmpty_iff.mp h7] at hx
      cases hx
    obtain ⟨t, a1, o, b1, b2, b3⟩ := body p e s m args below meth c s₁ B hml ht hP s₁ hh0 (Stand.of_body B)
    exact ⟨t, o, a1, b1, b2, b3⟩
/-- the table of a body with handlers -/
theorem vx_table {p : Program} {x y : MethodName} {S : Spec} {cc bytes : ByteArray} {maxL maxL' : Nat} {ret ret' : Option FieldType} {e : Env} {s s₁ : State} {m : MethodId} {args : Array Value} {below : List Frame} {meth : Method} {c : Code} {hh : List (Nat × Nat × Nat × Nat)}
    (B : BodyLoose p l y S cc maxL ret e s m args below meth c s₁) (h : (Cond.codeWith y bytes maxL' ret' hh).before args s = true) : c.exceptionTable.toList = tableOf hh := by
  obtain ⟨m9, meth9, c9, hn9, h1, h2, -, -, h6, -⟩ := Cond.codeWith_spec h
  cases Option.some.inj (hn9.symm.trans B.named)
  cases Option.some.inj (h1.symm.trans B.method)
  cases Option.some.inj (h2.symm.trans (Stand.of_body B).code)
  rw [← h6, table_eq]
end Bodies
end VXA
/-! ===== END ===== -/
/-! ===== BEGIN a static call of a method with an exception table ===== -/
section VXS
variable {p : Program} {l : Launch} {e : Env} {R : Room} {s : State} {m : MethodId} {args : Array Value} {below : List Frame} {meth : Method} {c : Code} {T : State} {H : Heap} {locs : List Loc} {cells slots : Nat}
abbrev vx_CSW (R : Room) (s : State) (args : Array Value) (own : String) (index : Nat) (y : MethodName) (bytes : ByteArray) (maxL : Nat) (ret : Option FieldType) (hh : List (Nat × Nat × Nat × Nat)) (ws : List Cond) (rm : Room) (mc ms n : Nat) : Prop :=
  (rm.cells = mc ∧ rm.slots = ms ∧ rm.frames + 1 ≤ R.frames ∧ 8 + (maxL + 11) + rm.locals ≤ R.locals ∧ (∀ w ∈ ws, ∀ (a' : Array Value) (U : State), s.WarmedH U.vm → w.before a' U = true) ∧ Cond.codeWith y bytes maxL ret hh ∈ ws) ∧
  (Cond.codeWith y bytes maxL ret hh).before args s = true ∧ (Cond.initialized y.cls).before args s = true ∧ (y.cls ≠ "java/lang/invoke/MethodHandle" ∧ y.cls ≠ "java/lang/invoke/VarHandle") ∧
  (∀ sig, parseMethodDescriptor y.desc = some sig → n = sig.parameters.length) ∧ (Cond.methodLink own index y).before args s = true ∧ (Cond.static y).before args s = true
theorem vx_cwSW {own : String} {index maxL mc ms : Nat} {y : MethodName} {bytes : ByteArray} {ret : Option FieldType} {hh : List (Nat × Nat × Nat × Nat)} {Ts ws ws' : List Cond} {rm : Room} (n : Nat) (ht : ∀ w ∈ Ts, w.before args s = true) (hT : GoodIn Ts (va_wsS own index y ws)) (hw : ws = Cond.codeWith y bytes maxL ret hh :: ws') (hrc : rm.cells = mc) (hrs : rm.slots = ms)
    (hd : y.cls ≠ "java/lang/invoke/MethodHandle" ∧ y.cls ≠ "java/lang/invoke/VarHandle" ∧ (parseMethodDescriptor y.desc).map (fun d => d.parameters.length) = some n) (hR : rm.frames + 1 ≤ R.frames ∧ 8 + (maxL + 11) + rm.locals ≤ R.locals) :
    vx_CSW R s args own index y bytes maxL ret hh ws rm mc ms n := by
  have ok : ∀ w ∈ va_wsS own index y ws, w.before args s = true := fun w h => ht w (hT w h).1
  have hG : GoodIn Ts ws := fun w h => hT w (by unfold va_wsS; exact List.mem_append_right _ h)
  have hc : Cond.codeWith y bytes maxL ret hh ∈ ws := by rw [hw]; exact List.mem_cons_self
  refine ⟨⟨hrc, hrs, hR.1, hR.2, pay_in ht hG, hc⟩, ht _ (hG _ hc).1, ok _ (by simp [va_wsS]), ⟨hd.1, hd.2.1⟩, fun sig h => ?_, ok _ (by simp [va_wsS]), ok _ (by simp [va_wsS])⟩
  have h2 := hd.2.2
  rw [h] at h2
  exact (Option.some.inj h2).symm
theorem vx_callSW (X : Stand p l e R s m args below meth c T locs cells slots) (hexec : p.tables.exec = Jvm.exec) {own : String} {index : Nat} {y : MethodName} {bytes : ByteArray} {maxL : Nat} {ret : Option FieldType} {hh : List (Nat × Nat × Nat × Nat)}
    (hown : s.vm.findClass own = some m.cls) (hlink : (Cond.methodLink own index y).before args s = true) (hstat : (Cond.static y).before args s = true) (hinit : (Cond.initialized y.cls).before args s = true)
    (hcode : (Cond.codeWith y bytes maxL ret hh).before args s = true) (hy : y.cls ≠ "java/lang/invoke/MethodHandle" ∧ y.cls ≠ "java/lang/invoke/VarHandle")
    {W9 : Nat} {Pre : Pt → Array Value → Prop} {Post : Pt → Array Value → Option Value → Pt → Prop} (hK : Back l R p e below s args y 3 W9 Pre Post)
    {g : JFrame} (hg : g.method = m) (hsize : g.locals.size = c.maxLocals) {argsL rest : List Value} (hlen : ∀ sig, parseMethodDescriptor y.desc = some sig → argsL.length = sig.parameters.length)
    (hstack : g.stack = argsL.reverse ++ rest) (hW : 2 * g.monitorRoom + (rest.map fun v => v.category).sum ≤ W9) (hdg : decode c.code g.pc = .ok (.invokestatic index, 3))
    (hpre : ∀ vm₁, s.WarmedH vm₁ → Pre ⟨T.setVm vm₁, locs, cells, slots⟩ argsL.toArray) :
    ∃ (v : Option Value) (vm₁ : Vm) (B : Pt), s.WarmedH vm₁ ∧ Stand p l e R s m args below meth c B.U B.locs B.cells B.slots ∧ Post ⟨T.setVm vm₁, locs, cells, slots⟩ argsL.toArray v B ∧
      ∀ target, Steps p.tables e below (B.U.setTop { g with pc := g.pc + 3, stack := v.toList ++ rest }) target → Steps p.tables e below (T.setTop g) target := by
  obtain ⟨mk, methM, cM, hnamed, hmethM, -, -, -, -, -, -, hsigM⟩ := Cond.codeWith_spec hcode
  have hstatic : methM.isStatic = true := Cond.static_spec hnamed hmethM hstat
  obtain ⟨kP, hkP, -⟩ := className_of_methodNamed hnamed
  have hinitP : kP.init = .initialized := Cond.initialized_spec (findClass_of_methodNamed hnamed) hkP hinit
  obtain ⟨vm₁, X₁, hstep₁⟩ := X.invokestatic hexec hown hlink hnamed hmethM hstatic hkP hinitP hy (g := g) hg (argsL := argsL) (rest := rest) (hlen _ hsigM) hstack hdg
  obtain ⟨v, B, X', hpost, hsteps⟩ := hK m meth c ⟨T.setVm vm₁, locs, cells, slots⟩ { g with stack := rest } (.invokestatic index) mk argsL.toArray X₁ hg hsize hdg hW (X₁.named hnamed) (hpre vm₁ X₁.warmed)
  exact ⟨v, vm₁, B, X₁.warmed, X', hpost, fun target h => hstep₁ _ fun acts => by rw [doInvoke_state]; exact hsteps.trans h⟩
theorem vx_runSW {y : MethodName} {bytes cc : ByteArray} {maxL nL mc ms n index : Nat} {ret : Option FieldType} {hh : List (Nat × Nat × Nat × Nat)} {ws : List Cond} {rm : Room} {Pc : Array Value → State → Prop} {Qc : Array Value → State → Outcome → State → Prop} {free : Addr → Prop} {Ts : List Cond} {own : String} {As rest : List Value} {g : JFrame}
    (S : CallFix p m c cc nL s args Ts own) (hM : Met l y ws rm Pc Qc mc ms free) (cw : vx_CSW R s args own index y bytes maxL ret hh ws rm mc ms n) (hp : PreS s H Pc As)
    (hg : g.method = m) (hn : As.length = n) (hsize : g.locals.size = nL) (hstack : g.stack = As.reverse ++ rest) (hW : 2 * g.monitorRoom + (rest.map fun v => v.category).sum ≤ 8) (hdg : decode cc g.pc = .ok (.invokestatic index, 3)) (hf : cells + mc ≤ R.cells ∧ slots + ms ≤ R.slots) :
    va_Run p l e R s m args below meth c H locs cells slots mc ms g rest (Qc As.toArray) (free) := by
  obtain ⟨⟨hrc, hrs, hfr, hlo, hws, hcw⟩, hcode, hini, hy, hlen, hl, hstt⟩ := cw
  have hK : Back l R p e below s args y 3 8 (PreOf R mc ms Pc) (PostOf Qc mc ms free) := va_backW (hh := hh) (bytes := bytes) (maxL := maxL) (ret := ret) hM hp.1 hrc hrs hfr hlo hws hcw (fun a' U hW => word_at hW (Or.inl (by first | rfl | simp [Cond.onTables, Cond.keeps, Cond.steady])) hini)
  obtain ⟨hx, hb, hml, ho, -⟩ := S
  intro T hT X
  obtain ⟨v, vm₁, ⟨U', l2, c2, s2⟩, hW₁, X', ⟨g', mk, t, L, e1, e2, hq, h1, hL, h2, h3⟩, st⟩ := vx_callSW X hx (hh := hh) (bytes := bytes) (maxL := maxL) (ret := ret) ho hl hstt hini hcode hy hK hg (hsize.trans hml.symm) (argsL := As) (rest := rest) (fun sig h => hn.trans (hlen sig h)) hstack hW (by rw [hb]; exact hdg)
    (fun vm₁ hW₁ => ⟨hf.1, hf.2, hp.2 (T.setVm vm₁) hT hW₁⟩)
  dsimp only [Pt.U, Pt.locs, Pt.cells, Pt.slots] at X' e1 e2 h1 h2 h3 st
  subst h1; subst h2; subst h3
  exact ⟨v, (T.setVm vm₁).calling g' mk As.toArray, t, U', L, hT, X', hL, e1, e2, hq, st⟩
/-- not caught here, past rows that name other classes: it goes on to the caller -/
theorem vx_outP {p : Program} {l : Launch} {e : Env} {R : Room} {s : State} {m : MethodId} {args : Array Value} {below : List Frame} {meth : Method} {c : Code} {H : Heap} {locs : List Loc} {cells slots : Nat} {free : Addr → Prop} {ls : Array Slot} {rest : List Value} {Qc : Array Value → State → Outcome → State → Prop} {XC : String → State → State → Prop}
    {pc : Nat} {own E : String} {ce : Cell} {q : Addr} {mc ms : Nat} (hown : s.vm.findClass own = some m.cls) (hlocks : meth.locks = false)
    (hpass : ∀ z ∈ c.exceptionTable.toList, covers z pc = false ∨ (z.catchType ≠ 0 ∧ ∃ nm : String, (Cond.classLink own z.catchType nm).before args s = true ∧ va_Nc E nm s)) (hcell : H[q]? = some ce) (hv : ce.vm = .none) (hcl : s.vm.findClass E = some ce.cls)
    (hx : ∀ t : State, t.heap = H → s.vm.Alike t.vm → XC E s t) (hf : ∀ z ∈ locs, free z.base) (hc : cells ≤ mc) (hs : slots ≤ ms) :
    vx_W p l e R s m args below meth c H locs cells slots (vx_MQ below Qc XC args s mc ms free) (F0 m pc ls rest) q := by
  intro T hT X
  have hpl : e.platform.magicAccessors = ({} : Platform).magicAccessors := by rw [X.admits.platform]
  obtain ⟨vm', hW', X', st⟩ := X.outThrough hlocks q (g := F0 m pc ls rest) rfl rfl rfl (cell := ce) (by rw [hT]; exact hcell) (by rw [hv]; rfl)
    (by obtain ⟨k9, h9, -⟩ := Vm.findClass_spec hcl; exact ⟨k9, h9⟩) (fun z hz => by
      rcases hpass z hz with h | ⟨hz0, nm, hl1, hn1⟩
      · exact Or.inl h
      · obtain ⟨c6, hc6, hcl6⟩ := Cond.classLink_spec hown hl1 e.platform hpl
        obtain ⟨a8, b8, h1, h2, h3⟩ := hn1
        cases Option.some.inj (h1.symm.trans hcl)
        cases Option.some.inj (h2.symm.trans hc6)
        exact Or.inr ⟨hz0, _, hcl6, h3⟩)
  obtain ⟨g₀, hfr⟩ := X'.frames_eq
  have hcell9 : ((T.setVm vm').setFrames (.throwing q :: below)).heap[q]? = some ce := by
    show T.heap[q]? = some ce
    rw [hT]; exact hcell
  have hend : Ended ((T.setVm vm').setFrames (.throwing q :: below)) below (.threw q) := State.frames_setFrames _ (State.cur_lt_of_frames hfr)
  refine ⟨(T.setVm vm').setFrames (.throwing q :: below), ?_, .threw q, X'.here.running, hend, Or.inr ⟨q, rfl, E, ce, locs, hx _ hT (X'.ends _).1.alike, hcell9, hv, hcl, (X'.ends _).1, (X'.ends _).2.mono hc hs, hf⟩⟩
  rw [X.pushThrowing_eq]
  exact st
/-- a thing of a world lies in the heap -/
theorem vx_lt {D : va_G} {cl : List vw_C} {ws : va_W} {H1 : Heap} (h : va_P D cl ws H1) {k : Nat} {q : Nat × va_E} (hk : ws[k]? = some q) : q.1 < H1.size := (h k q hk).lt
end VXS
/-! ===== END ===== -/
/-! ===== BEGIN methods with a table of their own: called by a name, returning or throwing ===== -/
section VXH
/-! vx_backW, vx_callVX, vx_callSX, vx_callVW, vx_runVW, vx_runVX, vx_runSX, vx_ofWH follow the same proofs as their sisters above (Free/Laws.lean, Shelf42/LK1.lean); vx_outP calls Shelf42/NT130.lean (outThrough). -/
section
variable {l : Launch} {R : Room} {p : Program} {e : Env} {below : List Frame} {s : State} {sargs : Array Value} {y : MethodName} {len W9 : Nat}
theorem vx_backW {ws : List Cond} {rm : Room} {Pc : Array Value → State → Prop} {Qc : Array Value → State → Outcome → State → Prop} {XC : String → State → State → Prop} {mc ms : Nat} {free : Addr → Prop} {bytes : ByteArray} {maxL : Nat} {ret : Option FieldType} {hh : List (Nat × Nat × Nat × Nat)}
    (hM : vx_Met l y ws rm Pc Qc XC mc ms free) (hblind : FrameBlind Pc) (hrc : rm.cells = mc) (hrs : rm.slots = ms)
    (hframes : rm.frames + 1 ≤ R.frames) (hlocals : W9 + (maxL + 11) + rm.locals ≤ R.locals)
    (hws : ∀ w ∈ ws, ∀ a' U, s.WarmedH U.vm → w.before a' U = true) (hcode : Cond.codeWith y bytes maxL ret hh ∈ ws) (hinit : ∀ a' U, s.WarmedH U.vm → (Cond.initialized y.cls).before a' U = true) :
    vx_Back l R p e below s sargs y len W9 (PreOf R mc ms Pc) (PostOf Qc mc ms free) (vx_Post XC mc ms free) := by
  intro m meth c A g ig mk a X hg hsize hdg hW hn hp
  have h1 : (headSpec ws rm).pre.before a A.U = true := atoms_intro fun w hw => hws w hw _ _ X.warmed
  have h2 : (Cond.codeWith y bytes maxL ret hh).before a A.U = true := hws _ hcode _ _ X.warmed
  have h3 : (Cond.initialized y.cls).before a A.U = true := hinit _ _ X.warmed
  have h4 : A.cells + (headSpec ws rm).room.cells ≤ R.cells := by rw [show (headSpec ws rm).room.cells = mc from hrc]; exact hp.1
  have h5 : A.slots + (headSpec ws rm).room.slots ≤ R.slots := by rw [show (headSpec ws rm).room.slots = ms from hrs]; exact hp.2.1
  have hPc : Pc a (A.U.calling g mk a) := hblind _ _ _ _ hp.2.2
  obtain ⟨U, Ls, c0, s0⟩ := A
  dsimp only [Pt.U, Pt.locs, Pt.cells, Pt.slots] at h1 h2 h3 h4 h5 X hn hPc ⊢
  obtain ⟨m9, methY, cY, hn9, hmY, hcY, -, hlY, -⟩ := Cond.codeWith_spec h2
  cases Option.some.inj (hn9.symm.trans hn)
  obtain ⟨kY, hkY, -⟩ := className_of_methodNamed hn
  have hinitY : kY.init = .initialized := Cond.initialized_spec (findClass_of_methodNamed hn) hkY h3
  have h : At U g.method c below := by rw [hg]; exact X.here
  have hlocals9 : W9 + (maxL + 11) + (headSpec ws rm).room.locals ≤ R.locals := hlocals
  have happ : (headSpec ws rm).appliesLoose y e.platform (U.calling g mk a) = true :=
    Spec.appliesLoose_calling (g := g) h hdg hn hkY hinitY
      (X.room_calling (g := g) (R' := (headSpec ws rm).room) hsize hmY hcY hframes (by rw [hlY]; omega) h4 h5) h1
  obtain ⟨mid, hmid⟩ := h.above
  have hfr : (U.setTop g).frames = (.java g :: mid) ++ below := by rw [State.frames_setTop' g h.top, hmid]; rfl
  obtain ⟨o, s₂, hsteps, -, hend, hq⟩ := Steps.callFree hM p X.admits X.cas X.clock (acts := []) hfr happ hPc trivial
  have hq' : vx_Q Qc XC mc ms free a (U.calling g mk a) o s₂ := hq
  rw [State.frames_setTop' g h.top] at hend
  obtain ⟨g₀, hg0⟩ := Option.isSome_iff_exists.mp h.top
  obtain ⟨r, hr⟩ := State.topJava?_eq_some.mp hg0
  have hr' : (({ U with heap := s₂.heap, slotsUsed := s₂.slotsUsed } : State).setVm s₂.vm).frames = .java g₀ :: r := hr
  rcases hq' with ⟨hqc, L, hfe, hL⟩ | ⟨q, rfl, E, ce, L, hx, hce, hcv, hcl, hW₂, hsm, hL⟩
  · obtain ⟨⟨v, rfl⟩, hW₂, e2, q2, q3, q4, q5, q6⟩ := id hfe
    have e3 : s₂ = ({ (U.calling g mk a).setFrames s₂.frames with heap := s₂.heap, slotsUsed := s₂.slotsUsed } : State).setVm s₂.vm := by
      have : s₂ = ({ s₂ with vm := (U.calling g mk a).vm } : State).setVm s₂.vm := rfl
      rw [e2] at this
      exact this
    obtain ⟨c₂, i₂, len₂, hc₂, hd₂, hf₂⟩ := hend
    have hW' : U.WarmedH s₂.vm := hW₂
    have hcc : c₂ = c := by
      have h1 : s₂.code? g.method = U.code? g.method := by
        rw [State.code?_eq, State.code?_eq, hW'.alike.method?]
      exact Option.some.inj (hc₂.symm.trans (h1.trans h.code))
    subst hcc
    have hlen : len₂ = len := by rw [hdg] at hd₂; cases hd₂; rfl
    subst hlen
    have hs₂ : s₂ = (({ U with heap := s₂.heap, slotsUsed := s₂.slotsUsed } : State).setVm s₂.vm).setTop { g with pc := g.pc + len₂, stack := v.toList ++ g.stack } := by
      refine e3.trans ?_
      rw [hf₂, State.calling_eq h.top, State.setFrames_setFrames, State.setTop_of_frames _ hr', hr]
      rfl
    have hsame : U.sameButNew ({ U with heap := s₂.heap, slotsUsed := s₂.slotsUsed } : State) L mc ms := by
      refine ⟨?_, q2, q3, q4, q5, q6⟩
      obtain ⟨t, ht, -⟩ := State.frames_cons hr
      show ({ U with heap := s₂.heap, slotsUsed := s₂.slotsUsed } : State) = { U.setFrames U.frames with heap := s₂.heap, slotsUsed := s₂.slotsUsed }
      rw [State.setFrames_self ht]
    subst hg
    refine Or.inl ⟨v, ⟨(({ U with heap := s₂.heap, slotsUsed := s₂.slotsUsed } : State).setVm s₂.vm), Ls ++ L, c0 + mc, s0 + ms⟩,
      ⟨X.admits, X.cas, X.clock, X.frames, X.room, X.hears, X.method, X.code, (X.here.setHeapUsed s₂.heap s₂.slotsUsed).setVm hW'.alike, X.tail, State.WarmedH.trans X.warmed hW', X.limits, X.bytes, X.same.trans (hsame.setVm s.vm)⟩,
      ⟨g, mk, s₂, L, rfl, rfl, hqc, rfl, hL, rfl, rfl⟩, ?_⟩
    show Steps p.tables e below _ ((({ U with heap := s₂.heap, slotsUsed := s₂.slotsUsed } : State).setVm s₂.vm).setTop { g with pc := g.pc + len₂, stack := v.toList ++ g.stack })
    rw [← hs₂]
    exact hsteps
  · obtain ⟨e2, q2, q3, q4, q5, q6⟩ := id hsm
    have e3 : s₂ = ({ (U.calling g mk a).setFrames s₂.frames with heap := s₂.heap, slotsUsed := s₂.slotsUsed } : State).setVm s₂.vm := by
      have : s₂ = ({ s₂ with vm := (U.calling g mk a).vm } : State).setVm s₂.vm := rfl
      rw [e2] at this
      exact this
    have hf₂ : s₂.frames = .throwing q :: .java g :: U.frames.tail := hend
    have hW' : U.WarmedH s₂.vm := hW₂
    have hs₂ : s₂ = ((({ U with heap := s₂.heap, slotsUsed := s₂.slotsUsed } : State).setVm s₂.vm).setTop g).pushFrame (.throwing q) := by
      refine e3.trans ?_
      rw [hf₂, State.calling_eq h.top, State.setFrames_setFrames, State.pushFrame, State.frames_setTop _ hr', State.setTop_of_frames _ hr', State.setFrames_setFrames, hr]
      rfl
    have hsame : U.sameButNew ({ U with heap := s₂.heap, slotsUsed := s₂.slotsUsed } : State) L mc ms := by
      refine ⟨?_, q2, q3, q4, q5, q6⟩
      obtain ⟨t, ht, -⟩ := State.frames_cons hr
      show ({ U with heap := s₂.heap, slotsUsed := s₂.slotsUsed } : State) = { U.setFrames U.frames with heap := s₂.heap, slotsUsed := s₂.slotsUsed }
      rw [State.setFrames_self ht]
    subst hg
    refine Or.inr ⟨q, ⟨(({ U with heap := s₂.heap, slotsUsed := s₂.slotsUsed } : State).setVm s₂.vm), Ls ++ L, c0 + mc, s0 + ms⟩,
      ⟨X.admits, X.cas, X.clock, X.frames, X.room, X.hears, X.method, X.code, (X.here.setHeapUsed s₂.heap s₂.slotsUsed).setVm hW'.alike, X.tail, State.WarmedH.trans X.warmed hW', X.limits, X.bytes, X.same.trans (hsame.setVm s.vm)⟩,
      ⟨g, mk, s₂, L, E, ce, rfl, rfl, hx, hce, hcv, hcl, rfl, hL, rfl, rfl⟩, ?_⟩
    show Steps p.tables e below _ (((({ U with heap := s₂.heap, slotsUsed := s₂.slotsUsed } : State).setVm s₂.vm).setTop g).pushFrame (.throwing q))
    rw [← hs₂]
    exact hsteps
end
variable {p : Program} {l : Launch} {e : Env} {R : Room} {s : State} {m : MethodId} {args : Array Value} {below : List Frame} {meth : Method} {c : Code} {T : State} {H : Heap} {locs : List Loc} {cells slots : Nat}
theorem vx_callVX (X : Stand p l e R s m args below meth c T locs cells slots) (hexec : p.tables.exec = Jvm.exec) {own C : String} {index : Nat} {y : MethodName} {bytes : ByteArray} {maxL : Nat} {ret : Option FieldType} {hh : List (Nat × Nat × Nat × Nat)}
    (hown : s.vm.findClass own = some m.cls) (hlink : (Cond.methodLink own index y).before args s = true) (hinst : (Cond.instanceMethod y).before args s = true) (hsel : (Cond.selects C y y).before args s = true)
    (hcode : (Cond.codeWith y bytes maxL ret hh).before args s = true) (hy : y.cls ≠ "java/lang/invoke/MethodHandle" ∧ y.cls ≠ "java/lang/invoke/VarHandle")
    {W9 : Nat} {Pre : Pt → Array Value → Prop} {Post : Pt → Array Value → Option Value → Pt → Prop} {PostX : Pt → Array Value → Addr → Pt → Prop} (hK : vx_Back l R p e below s args y 3 W9 Pre Post PostX)
    {b : Addr} {cellB : Cell} (hcell : T.heap[b]? = some cellB) (hobj : cellB.vm.isStatics = false) (hcls : s.vm.findClass C = some cellB.cls)
    {g : JFrame} (hg : g.method = m) (hsize : g.locals.size = c.maxLocals) {argsL rest : List Value} (hlen : ∀ sig, parseMethodDescriptor y.desc = some sig → argsL.length = sig.parameters.length)
    (hstack : g.stack = argsL.reverse ++ .ref b :: rest) (hW : 2 * g.monitorRoom + (rest.map fun v => v.category).sum ≤ W9) (hdg : decode c.code g.pc = .ok (.invokevirtual index, 3))
    (hpre : ∀ vm₁, s.WarmedH vm₁ → Pre ⟨T.setVm vm₁, locs, cells, slots⟩ (Value.ref b :: argsL).toArray) :
    (∃ (v : Option Value) (vm₁ : Vm) (B : Pt), s.WarmedH vm₁ ∧ Stand p l e R s m args below meth c B.U B.locs B.cells B.slots ∧ Post ⟨T.setVm vm₁, locs, cells, slots⟩ (Value.ref b :: argsL).toArray v B ∧
      ∀ target, Steps p.tables e below (B.U.setTop { g with pc := g.pc + 3, stack := v.toList ++ rest }) target → Steps p.tables e below (T.setTop g) target) ∨
    (∃ (q : Addr) (vm₁ : Vm) (B : Pt), s.WarmedH vm₁ ∧ Stand p l e R s m args below meth c B.U B.locs B.cells B.slots ∧ PostX ⟨T.setVm vm₁, locs, cells, slots⟩ (Value.ref b :: argsL).toArray q B ∧
      Steps p.tables e below (T.setTop g) ((B.U.setTop { g with stack := rest }).pushFrame (.throwing q))) := by
  obtain ⟨mk, methM, hnamed, hmethM, hstM, habM⟩ := Cond.instanceMethod_spec hinst
  obtain ⟨m8, methM', cM, hn8, hmethM', -, -, -, -, -, -, hsigM⟩ := Cond.codeWith_spec hcode
  cases Option.some.inj (hn8.symm.trans hnamed)
  cases hmethM.symm.trans hmethM'
  obtain ⟨c2, r2, m2, q1, q2, q3, q4, kP, hkP, hkPi⟩ := Cond.selects_spec hsel
  cases hcls.symm.trans q1
  cases (State.methodFound?_of_named hnamed hy).symm.trans q2
  cases hnamed.symm.trans q3
  have hselP : selectMethod e.platform s.vm cellB.cls mk = .method mk := by rw [Launch.admits_selectMethod X.admits]; exact q4
  obtain ⟨vm₁, X₁, hstep₁⟩ := X.invokevirtual hexec hown hlink hnamed hmethM hstM hkP hkPi hy (a := b) (cell := cellB) hcell
    (fun z h => by rw [h] at hobj; cases hobj) hselP hmethM habM hkP hkPi (g := g) hg (argsL := argsL) (rest := rest) (hlen _ hsigM) hstack hdg
  rcases hK m meth c ⟨T.setVm vm₁, locs, cells, slots⟩ { g with stack := rest } (.invokevirtual index) mk (Value.ref b :: argsL).toArray X₁ hg hsize hdg hW (X₁.named hnamed) (hpre vm₁ X₁.warmed) with ⟨v, B, X', hpost, hsteps⟩ | ⟨q, B, X', hpost, hsteps⟩
  · exact Or.inl ⟨v, vm₁, B, X₁.warmed, X', hpost, fun target h => hstep₁ _ fun acts => by rw [doInvoke_state]; exact hsteps.trans h⟩
  · exact Or.inr ⟨q, vm₁, B, X₁.warmed, X', hpost, hstep₁ _ fun acts => by rw [doInvoke_state]; exact hsteps⟩
theorem vx_callSX (X : Stand p l e R s m args below meth c T locs cells slots) (hexec : p.tables.exec = Jvm.exec) {own : String} {index : Nat} {y : MethodName} {bytes : ByteArray} {maxL : Nat} {ret : Option FieldType} {hh : List (Nat × Nat × Nat × Nat)}
    (hown : s.vm.findClass own = some m.cls) (hlink : (Cond.methodLink own index y).before args s = true) (hstat : (Cond.static y).before args s = true) (hinit : (Cond.initialized y.cls).before args s = true)
    (hcode : (Cond.codeWith y bytes maxL ret hh).before args s = true) (hy : y.cls ≠ "java/lang/invoke/MethodHandle" ∧ y.cls ≠ "java/lang/invoke/VarHandle")
    {W9 : Nat} {Pre : Pt → Array Value → Prop} {Post : Pt → Array Value → Option Value → Pt → Prop} {PostX : Pt → Array Value → Addr → Pt → Prop} (hK : vx_Back l R p e below s args y 3 W9 Pre Post PostX)
    {g : JFrame} (hg : g.method = m) (hsize : g.locals.size = c.maxLocals) {argsL rest : List Value} (hlen : ∀ sig, parseMethodDescriptor y.desc = some sig → argsL.length = sig.parameters.length)
    (hstack : g.stack = argsL.reverse ++ rest) (hW : 2 * g.monitorRoom + (rest.map fun v => v.category).sum ≤ W9) (hdg : decode c.code g.pc = .ok (.invokestatic index, 3))
    (hpre : ∀ vm₁, s.WarmedH vm₁ → Pre ⟨T.setVm vm₁, locs, cells, slots⟩ argsL.toArray) :
    (∃ (v : Option Value) (vm₁ : Vm) (B : Pt), s.WarmedH vm₁ ∧ Stand p l e R s m args below meth c B.U B.locs B.cells B.slots ∧ Post ⟨T.setVm vm₁, locs, cells, slots⟩ argsL.toArray v B ∧
      ∀ target, Steps p.tables e below (B.U.setTop { g with pc := g.pc + 3, stack := v.toList ++ rest }) target → Steps p.tables e below (T.setTop g) target) ∨
    (∃ (q : Addr) (vm₁ : Vm) (B : Pt), s.WarmedH vm₁ ∧ Stand p l e R s m args below meth c B.U B.locs B.cells B.slots ∧ PostX ⟨T.setVm vm₁, locs, cells, slots⟩ argsL.toArray q B ∧
      Steps p.tables e below (T.setTop g) ((B.U.setTop { g with stack := rest }).pushFrame (.throwing q))) := by
  obtain ⟨mk, methM, cM, hnamed, hmethM, -, -, -, -, -, -, hsigM⟩ := Cond.codeWith_spec hcode
  have hstatic : methM.isStatic = true := Cond.static_spec hnamed hmethM hstat
  obtain ⟨kP, hkP, -⟩ := className_of_methodNamed hnamed
  have hinitP : kP.init = .initialized := Cond.initialized_spec (findClass_of_methodNamed hnamed) hkP hinit
  obtain ⟨vm₁, X₁, hstep₁⟩ := X.invokestatic hexec hown hlink hnamed hmethM hstatic hkP hinitP hy (g := g) hg (argsL := argsL) (rest := rest) (hlen _ hsigM) hstack hdg
  rcases hK m meth c ⟨T.setVm vm₁, locs, cells, slots⟩ { g with stack := rest } (.invokestatic index) mk argsL.toArray X₁ hg hsize hdg hW (X₁.named hnamed) (hpre vm₁ X₁.warmed) with ⟨v, B, X', hpost, hsteps⟩ | ⟨q, B, X', hpost, hsteps⟩
  · exact Or.inl ⟨v, vm₁, B, X₁.warmed, X', hpost, fun target h => hstep₁ _ fun acts => by rw [doInvoke_state]; exact hsteps.trans h⟩
  · exact Or.inr ⟨q, vm₁, B, X₁.warmed, X', hpost, hstep₁ _ fun acts => by rw [doInvoke_state]; exact hsteps⟩
theorem vx_callVW (X : Stand p l e R s m args below meth c T locs cells slots) (hexec : p.tables.exec = Jvm.exec) {own C : String} {index : Nat} {y : MethodName} {bytes : ByteArray} {maxL : Nat} {ret : Option FieldType} {hh : List (Nat × Nat × Nat × Nat)}
    (hown : s.vm.findClass own = some m.cls) (hlink : (Cond.methodLink own index y).before args s = true) (hinst : (Cond.instanceMethod y).before args s = true) (hsel : (Cond.selects C y y).before args s = true)
    (hcode : (Cond.codeWith y bytes maxL ret hh).before args s = true) (hy : y.cls ≠ "java/lang/invoke/MethodHandle" ∧ y.cls ≠ "java/lang/invoke/VarHandle")
    {W9 : Nat} {Pre : Pt → Array Value → Prop} {Post : Pt → Array Value → Option Value → Pt → Prop} (hK : Back l R p e below s args y 3 W9 Pre Post)
    {b : Addr} {cellB : Cell} (hcell : T.heap[b]? = some cellB) (hobj : cellB.vm.isStatics = false) (hcls : s.vm.findClass C = some cellB.cls)
    {g : JFrame} (hg : g.method = m) (hsize : g.locals.size = c.maxLocals) {argsL rest : List Value} (hlen : ∀ sig, parseMethodDescriptor y.desc = some sig → argsL.length = sig.parameters.length)
    (hstack : g.stack = argsL.reverse ++ .ref b :: rest) (hW : 2 * g.monitorRoom + (rest.map fun v => v.category).sum ≤ W9) (hdg : decode c.code g.pc = .ok (.invokevirtual index, 3))
    (hpre : ∀ vm₁, s.WarmedH vm₁ → Pre ⟨T.setVm vm₁, locs, cells, slots⟩ (Value.ref b :: argsL).toArray) :
    ∃ (v : Option Value) (vm₁ : Vm) (B : Pt), s.WarmedH vm₁ ∧ Stand p l e R s m args below meth c B.U B.locs B.cells B.slots ∧ Post ⟨T.setVm vm₁, locs, cells, slots⟩ (Value.ref b :: argsL).toArray v B ∧
      ∀ target, Steps p.tables e below (B.U.setTop { g with pc := g.pc + 3, stack := v.toList ++ rest }) target → Steps p.tables e below (T.setTop g) target := by
  obtain ⟨mk, methM, hnamed, hmethM, hstM, habM⟩ := Cond.instanceMethod_spec hinst
  obtain ⟨m8, methM', cM, hn8, hmethM', -, -, -, -, -, -, hsigM⟩ := Cond.codeWith_spec hcode
  cases Option.some.inj (hn8.symm.trans hnamed)
  cases hmethM.symm.trans hmethM'
  obtain ⟨c2, r2, m2, q1, q2, q3, q4, kP, hkP, hkPi⟩ := Cond.selects_spec hsel
  cases hcls.symm.trans q1
  cases (State.methodFound?_of_named hnamed hy).symm.trans q2
  cases hnamed.symm.trans q3
  have hselP : selectMethod e.platform s.vm cellB.cls mk = .method mk := by rw [Launch.admits_selectMethod X.admits]; exact q4
  obtain ⟨vm₁, X₁, hstep₁⟩ := X.invokevirtual hexec hown hlink hnamed hmethM hstM hkP hkPi hy (a := b) (cell := cellB) hcell
    (fun z h => by rw [h] at hobj; cases hobj) hselP hmethM habM hkP hkPi (g := g) hg (argsL := argsL) (rest := rest) (hlen _ hsigM) hstack hdg
  obtain ⟨v, B, X', hpost, hsteps⟩ := hK m meth c ⟨T.setVm vm₁, locs, cells, slots⟩ { g with stack := rest } (.invokevirtual index) mk (Value.ref b :: argsL).toArray X₁ hg hsize hdg hW (X₁.named hnamed) (hpre vm₁ X₁.warmed)
  exact ⟨v, vm₁, B, X₁.warmed, X', hpost, fun target h => hstep₁ _ fun acts => by rw [doInvoke_state]; exact hsteps.trans h⟩
abbrev vx_CVW (R : Room) (s : State) (args : Array Value) (own C : String) (index : Nat) (y : MethodName) (bytes : ByteArray) (maxL : Nat) (ret : Option FieldType) (hh : List (Nat × Nat × Nat × Nat)) (ws : List Cond) (rm : Room) (mc ms n : Nat) : Prop :=
  (rm.cells = mc ∧ rm.slots = ms ∧ rm.frames + 1 ≤ R.frames ∧ 8 + (maxL + 11) + rm.locals ≤ R.locals ∧ (∀ w ∈ ws, ∀ (a' : Array Value) (U : State), s.WarmedH U.vm → w.before a' U = true) ∧ Cond.codeWith y bytes maxL ret hh ∈ ws) ∧
  (Cond.codeWith y bytes maxL ret hh).before args s = true ∧ (Cond.initialized y.cls).before args s = true ∧ (y.cls ≠ "java/lang/invoke/MethodHandle" ∧ y.cls ≠ "java/lang/invoke/VarHandle") ∧
  (∀ sig, parseMethodDescriptor y.desc = some sig → n = sig.parameters.length) ∧ (Cond.methodLink own index y).before args s = true ∧ (Cond.instanceMethod y).before args s = true ∧ (Cond.selects C y y).before args s = true
theorem vx_cwVW {own C : String} {index maxL mc ms : Nat} {y : MethodName} {bytes : ByteArray} {ret : Option FieldType} {hh : List (Nat × Nat × Nat × Nat)} {Ts ws ws' : List Cond} {rm : Room} (n : Nat) (ht : ∀ w ∈ Ts, w.before args s = true) (hT : GoodIn Ts (wsV own index C y ws)) (hw : ws = Cond.codeWith y bytes maxL ret hh :: ws') (hrc : rm.cells = mc) (hrs : rm.slots = ms)
    (hd : y.cls = C ∧ y.cls ≠ "java/lang/invoke/MethodHandle" ∧ y.cls ≠ "java/lang/invoke/VarHandle" ∧ (parseMethodDescriptor y.desc).map (fun d => d.parameters.length) = some n) (hR : rm.frames + 1 ≤ R.frames ∧ 8 + (maxL + 11) + rm.locals ≤ R.locals) :
    vx_CVW R s args own C index y bytes maxL ret hh ws rm mc ms n := by
  obtain ⟨hC, hd⟩ := hd
  subst hC
  have ok : ∀ w ∈ wsV own index y.cls y ws, w.before args s = true := fun w h => ht w (hT w h).1
  have hG : GoodIn Ts ws := fun w h => hT w (by unfold wsV; exact List.mem_append_right _ h)
  have hc : Cond.codeWith y bytes maxL ret hh ∈ ws := by rw [hw]; exact List.mem_cons_self
  refine ⟨⟨hrc, hrs, hR.1, hR.2, pay_in ht hG, hc⟩, ht _ (hG _ hc).1, ok _ (by simp [wsV]), ⟨hd.1, hd.2.1⟩, fun sig h => ?_, ok _ (by simp [wsV]), ok _ (by simp [wsV]), ok _ (by simp [wsV])⟩
  have h2 := hd.2.2
  rw [h] at h2
  exact (Option.some.inj h2).symm
theorem vx_runVW {y : MethodName} {bytes cc : ByteArray} {maxL nL mc ms n index : Nat} {ret : Option FieldType} {hh : List (Nat × Nat × Nat × Nat)} {ws : List Cond} {rm : Room} {Pc : Array Value → State → Prop} {Qc : Array Value → State → Outcome → State → Prop} {free : Addr → Prop} {Ts : List Cond} {own C : String} {b : Addr} {As rest : List Value} {g : JFrame}
    (S : CallFix p m c cc nL s args Ts own) (hM : Met l y ws rm Pc Qc mc ms free) (cw : vx_CVW R s args own C index y bytes maxL ret hh ws rm mc ms n) (hp : PreV s H C b Pc As)
    (hg : g.method = m) (hn : As.length = n) (hsize : g.locals.size = nL) (hstack : g.stack = As.reverse ++ .ref b :: rest) (hW : 2 * g.monitorRoom + (rest.map fun v => v.category).sum ≤ 8) (hdg : decode cc g.pc = .ok (.invokevirtual index, 3)) (hf : cells + mc ≤ R.cells ∧ slots + ms ≤ R.slots) :
    va_Run p l e R s m args below meth c H locs cells slots mc ms g rest (Qc (Value.ref b :: As).toArray) free := by
  obtain ⟨⟨hrc, hrs, hfr, hlo, hws, hcw⟩, hcode, hini, hy, hlen, hl, hin, hse⟩ := cw
  have hK : Back l R p e below s args y 3 8 (PreOf R mc ms Pc) (PostOf Qc mc ms free) := va_backW (hh := hh) (bytes := bytes) (maxL := maxL) (ret := ret) hM hp.1 hrc hrs hfr hlo hws hcw (fun a' U hW => word_at hW (Or.inl (by first | rfl | simp [Cond.onTables, Cond.keeps, Cond.steady])) hini)
  obtain ⟨hx, hb, hml, ho, -⟩ := S
  obtain ⟨-, ⟨cellB, hcB, hoB, hclB⟩, hPc⟩ := hp
  intro T hT X
  obtain ⟨v, vm₁, ⟨U', l2, c2, s2⟩, hW₁, X', ⟨g', mk, t, L, e1, e2, hq, h1, hL, h2, h3⟩, st⟩ := vx_callVW X hx (C := C) (hh := hh) (bytes := bytes) (maxL := maxL) (ret := ret) ho hl hin hse hcode hy hK (by rw [hT]; exact hcB) hoB hclB hg (hsize.trans hml.symm) (argsL := As) (rest := rest) (fun sig h => hn.trans (hlen sig h)) hstack hW (by rw [hb]; exact hdg)
    (fun vm₁ hW₁ => ⟨hf.1, hf.2, hPc (T.setVm vm₁) hT hW₁⟩)
  dsimp only [Pt.U, Pt.locs, Pt.cells, Pt.slots] at X' e1 e2 h1 h2 h3 st
  subst h1; subst h2; subst h3
  exact ⟨v, (T.setVm vm₁).calling g' mk (Value.ref b :: As).toArray, t, U', L, hT, X', hL, e1, e2, hq, st⟩
section
variable {y : MethodName} {bytes cc : ByteArray} {maxL nL mc ms n index : Nat} {ret : Option FieldType} {ws : List Cond} {rm : Room} {Pc : Array Value → State → Prop} {Qc : Array Value → State → Outcome → State → Prop} {XC : String → State → State → Prop} {free : Addr → Prop} {Ts : List Cond} {own C : String} {b : Addr} {As rest : List Value} {g : JFrame}
theorem vx_runVX {hh : List (Nat × Nat × Nat × Nat)} (S : CallFix p m c cc nL s args Ts own) (hM : vx_Met l y ws rm Pc Qc XC mc ms free) (cw : vx_CVW R s args own C index y bytes maxL ret hh ws rm mc ms n) (hp : PreV s H C b Pc As)
    (hg : g.method = m) (hn : As.length = n) (hsize : g.locals.size = nL) (hstack : g.stack = As.reverse ++ .ref b :: rest) (hW : 2 * g.monitorRoom + (rest.map fun v => v.category).sum ≤ 8) (hdg : decode cc g.pc = .ok (.invokevirtual index, 3)) (hf : cells + mc ≤ R.cells ∧ slots + ms ≤ R.slots) :
    vx_Run p l e R s m args below meth c H locs cells slots mc ms g rest (Qc (Value.ref b :: As).toArray) XC free := by
  obtain ⟨⟨hrc, hrs, hfr, hlo, hws, hcw⟩, hcode, hini, hy, hlen, hl, hin, hse⟩ := cw
  have hK : vx_Back l R p e below s args y 3 8 (PreOf R mc ms Pc) (PostOf Qc mc ms free) (vx_Post XC mc ms free) := vx_backW (hh := hh) (bytes := bytes) (maxL := maxL) (ret := ret) hM hp.1 hrc hrs hfr hlo hws hcw (fun a' U hW => word_at hW (Or.inl (by first | rfl | simp [Cond.onTables, Cond.keeps, Cond.steady])) hini)
  obtain ⟨hx, hb, hml, ho, -⟩ := S
  obtain ⟨-, ⟨cellB, hcB, hoB, hclB⟩, hPc⟩ := hp
  intro T hT X
  rcases vx_callVX X hx (C := C) (hh := hh) (bytes := bytes) (maxL := maxL) (ret := ret) ho hl hin hse hcode hy hK (by rw [hT]; exact hcB) hoB hclB hg (hsize.trans hml.symm) (argsL := As) (rest := rest) (fun sig h => hn.trans (hlen sig h)) hstack hW (by rw [hb]; exact hdg)
    (fun vm₁ hW₁ => ⟨hf.1, hf.2, hPc (T.setVm vm₁) hT hW₁⟩) with ⟨v, vm₁, ⟨U', l2, c2, s2⟩, hW₁, X', ⟨g', mk, t, L, e1, e2, hq, h1, hL, h2, h3⟩, st⟩ | ⟨q, vm₁, ⟨U', l2, c2, s2⟩, hW₁, X', ⟨g', mk, t, L, E, ce, e1, e2, hq, hce, hcv, hcl, h1, hL, h2, h3⟩, st⟩
  · dsimp only [Pt.U, Pt.locs, Pt.cells, Pt.slots] at X' e1 e2 h1 h2 h3 st
    subst h1; subst h2; subst h3
    exact Or.inl ⟨v, (T.setVm vm₁).calling g' mk (Value.ref b :: As).toArray, t, U', L, hT, X', hL, e1, e2, hq, st⟩
  · dsimp only [Pt.U, Pt.locs, Pt.cells, Pt.slots] at X' e1 e2 h1 h2 h3 st hcl
    subst h1; subst h2; subst h3
    exact Or.inr ⟨q, (T.setVm vm₁).calling g' mk (Value.ref b :: As).toArray, t, U', L, E, ce, hT, X', hL, e1, e2, hq, hce, hcv, vx_cls hW₁ hcl, st⟩
theorem vx_runSX {hh : List (Nat × Nat × Nat × Nat)} (S : CallFix p m c cc nL s args Ts own) (hM : vx_Met l y ws rm Pc Qc XC mc ms free) (cw : vx_CSW R s args own index y bytes maxL ret hh ws rm mc ms n) (hp : PreS s H Pc As)
    (hg : g.method = m) (hn : As.length = n) (hsize : g.locals.size = nL) (hstack : g.stack = As.reverse ++ rest) (hW : 2 * g.monitorRoom + (rest.map fun v => v.category).sum ≤ 8) (hdg : decode cc g.pc = .ok (.invokestatic index, 3)) (hf : cells + mc ≤ R.cells ∧ slots + ms ≤ R.slots) :
    vx_Run p l e R s m args below meth c H locs cells slots mc ms g rest (Qc As.toArray) XC free := by
  obtain ⟨⟨hrc, hrs, hfr, hlo, hws, hcw⟩, hcode, hini, hy, hlen, hl, hstt⟩ := cw
  have hK : vx_Back l R p e below s args y 3 8 (PreOf R mc ms Pc) (PostOf Qc mc ms free) (vx_Post XC mc ms free) := vx_backW (hh := hh) (bytes := bytes) (maxL := maxL) (ret := ret) hM hp.1 hrc hrs hfr hlo hws hcw (fun a' U hW => word_at hW (Or.inl (by first | rfl | simp [Cond.onTables, Cond.keeps, Cond.steady])) hini)
  obtain ⟨hx, hb, hml, ho, -⟩ := S
  intro T hT X
  rcases vx_callSX X hx (hh := hh) (bytes := bytes) (maxL := maxL) (ret := ret) ho hl hstt hini hcode hy hK hg (hsize.trans hml.symm) (argsL := As) (rest := rest) (fun sig h => hn.trans (hlen sig h)) hstack hW (by rw [hb]; exact hdg)
    (fun vm₁ hW₁ => ⟨hf.1, hf.2, hp.2 (T.setVm vm₁) hT hW₁⟩) with ⟨v, vm₁, ⟨U', l2, c2, s2⟩, hW₁, X', ⟨g', mk, t, L, e1, e2, hq, h1, hL, h2, h3⟩, st⟩ | ⟨q, vm₁, ⟨U', l2, c2, s2⟩, hW₁, X', ⟨g', mk, t, L, E, ce, e1, e2, hq, hce, hcv, hcl, h1, hL, h2, h3⟩, st⟩
  · dsimp only [Pt.U, Pt.locs, Pt.cells, Pt.slots] at X' e1 e2 h1 h2 h3 st
    subst h1; subst h2; subst h3
    exact Or.inl ⟨v, (T.setVm vm₁).calling g' mk As.toArray, t, U', L, hT, X', hL, e1, e2, hq, st⟩
  · dsimp only [Pt.U, Pt.locs, Pt.cells, Pt.slots] at X' e1 e2 h1 h2 h3 st hcl
    subst h1; subst h2; subst h3
    exact Or.inr ⟨q, (T.setVm vm₁).calling g' mk As.toArray, t, U', L, E, ce, hT, X', hL, e1, e2, hq, hce, hcv, vx_cls hW₁ hcl, st⟩
end
end VXH
theorem vx_ofWH {l : Launch} {y : MethodName} {ws ws' : List Cond} {rm : Room} {Pc : Array Value → State → Prop} {Qc : Array Value → State → Outcome → State → Prop} {XC : String → State → State → Prop} {mc ms : Nat} {free : Addr → Prop} {cc : ByteArray} {maxL : Nat} {ret : Option FieldType} {hh : List (Nat × Nat × Nat × Nat)}
    (hy : plainName y.cls = true) (hw : ws = Cond.codeWith y cc maxL ret hh :: ws')
    (body : ∀ p e s m args below meth c s₁, BodyLoose p l y (headSpec ws rm) cc maxL ret e s m args below meth c s₁ → c.maxLocals = maxL → Pc args s →
      W p l e (headSpec ws rm).room s m args below meth c s.heap [] 0 0 (vx_MQ below Qc XC args s mc ms free) (entryFrame m args maxL)) : vx_Met l y ws rm Pc Qc XC mc ms free := by
  refine MetFree.of_bodyS (code := cc) (maxLocals := maxL) (ret := ret) hy ?_ ?_
  · intro args s m h hn
    obtain ⟨m9, meth, c, hn9, h1, h2, h3, h4, -, h5, h6, -⟩ := Cond.codeWith_spec (atoms_spec (ws := ws) h _ (by rw [hw]; exact List.mem_cons_self))
    cases hn.symm.trans hn9
    exact ⟨meth, c, h1, h2, h3, h4, h5, h6⟩
  · intro p e s m args below meth c s₁ B hml hP _
    have hh0 : s₁.heap = s.heap := by rw [B.state]; rfl
    obtain ⟨t, a1, o, b1, b2, b3⟩ := body p e s m args below meth c s₁ B hml hP s₁ hh0 (Stand.of_body B)
    exact ⟨t, o, a1, b1, b2, b3⟩
/-! ===== END ===== -/
end
section
/-! ===== BEGIN printed: names, fields, word lists, decode rows ===== -/
def RX0 : String := "NightSorters$Crew"
def TX0 : u_T := fun k => match k with
  | 0 => ("NightSorters$Crew", "size", "I", false)
  | 1 => ("NightSorters$Crew", "pace", "[I", true)
  | 2 => ("NightSorters$Crew", "towns", "[I", true)
  | 3 => ("NightSorters$Crew", "tired", "[I", true)
  | 4 => ("NightSorters$Crew", "withTea", "[I", true)
  | 5 => ("NightSorters$Crew", "held", "[I", true)
  | 6 => ("NightSorters$Crew", "minutesLeft", "[I", true)
  | _ => ("NightSorters$Crew", "sorted", "[I", true)
def tyX0 : Nat → FieldType := fun k => match k with
  | 0 => .int
  | 1 => .array .int
  | 2 => .array .int
  | 3 => .array .int
  | 4 => .array .int
  | 5 => .array .int
  | 6 => .array .int
  | _ => .array .int
abbrev wsX00 : List Cond := u_ws RX0 TX0 8
theorem nmX0 : ∀ a, a < 8 → ∀ b, b < 8 → a ≠ b → (TX0 a).2.1 ≠ (TX0 b).2.1 := by decide +kernel
theorem tyX0_ok : ∀ k, k < 8 → parseFieldDescriptor (TX0 k).2.2.1 = some (tyX0 k) := by decide +kernel
abbrev cX0_init : ByteArray := prog_2_method_1_code
def yX0_init : MethodName := ⟨RX0, "<init>", "()V"⟩
abbrev cX0_add : ByteArray := prog_2_method_2_code
def yX0_add : MethodName := ⟨RX0, "add", "(II)I"⟩
abbrev cX0_fact : ByteArray := prog_2_method_3_code
def yX0_fact : MethodName := ⟨RX0, "fact", "(II)I"⟩
abbrev cX0_minutesNeeded : ByteArray := prog_2_method_4_code
def yX0_minutesNeeded : MethodName := ⟨RX0, "minutesNeeded", "(I)I"⟩
abbrev cX0_takeUp : ByteArray := prog_2_method_5_code
def yX0_takeUp : MethodName := ⟨RX0, "takeUp", "(II)V"⟩
abbrev cX0_freeHands : ByteArray := prog_2_method_6_code
def yX0_freeHands : MethodName := ⟨RX0, "freeHands", "(I)V"⟩
abbrev cX0_spillTea : ByteArray := prog_2_method_7_code
def yX0_spillTea : MethodName := ⟨RX0, "spillTea", "()V"⟩
abbrev cX0_tireAll : ByteArray := prog_2_method_8_code
def yX0_tireAll : MethodName := ⟨RX0, "tireAll", "(I)V"⟩
abbrev cX0_copyFrom : ByteArray := prog_2_method_9_code
def yX0_copyFrom : MethodName := ⟨RX0, "copyFrom", "(LNightSorters$Crew;)V"⟩
def RX1 : String := "NightSorters$Line"
def TX1 : u_T := fun k => match k with
  | 0 => ("NightSorters$Line", "minutes", "[I", true)
  | _ => ("NightSorters$Line", "jolts", "[I", true)
def tyX1 : Nat → FieldType := fun k => match k with
  | 0 => .array .int
  | _ => .array .int
abbrev wsX10 : List Cond := u_ws RX1 TX1 2
theorem nmX1 : ∀ a, a < 2 → ∀ b, b < 2 → a ≠ b → (TX1 a).2.1 ≠ (TX1 b).2.1 := by decide +kernel
theorem tyX1_ok : ∀ k, k < 2 → parseFieldDescriptor (TX1 k).2.2.1 = some (tyX1 k) := by decide +kernel
abbrev cX1_init : ByteArray := prog_3_method_1_code
def yX1_init : MethodName := ⟨RX1, "<init>", "()V"⟩
abbrev cX1_wouldRise : ByteArray := prog_3_method_2_code
def yX1_wouldRise : MethodName := ⟨RX1, "wouldRise", "(II)Z"⟩
abbrev cX1_passedIn : ByteArray := prog_3_method_3_code
def yX1_passedIn : MethodName := ⟨RX1, "passedIn", "(I)I"⟩
abbrev cX1_nextFrom : ByteArray := prog_3_method_4_code
def yX1_nextFrom : MethodName := ⟨RX1, "nextFrom", "(I)I"⟩
def RX2 : String := "NightSorters$Mail"
def TX2 : u_T := fun k => match k with
  | 0 => ("NightSorters$Mail", "size", "I", false)
  | 1 => ("NightSorters$Mail", "town", "[I", true)
  | 2 => ("NightSorters$Mail", "postedAt", "[I", true)
  | 3 => ("NightSorters$Mail", "place", "[I", true)
  | 4 => ("NightSorters$Mail", "holder", "[I", true)
  | 5 => ("NightSorters$Mail", "endMinute", "[I", true)
  | 6 => ("NightSorters$Mail", "inPlace", "[I", true)
  | _ => ("NightSorters$Mail", "inHole", "[I", true)
def tyX2 : Nat → FieldType := fun k => match k with
  | 0 => .int
  | 1 => .array .int
  | 2 => .array .int
  | 3 => .array .int
  | 4 => .array .int
  | 5 => .array .int
  | 6 => .array .int
  | _ => .array .int
abbrev wsX20 : List Cond := u_ws RX2 TX2 8
theorem nmX2 : ∀ a, a < 8 → ∀ b, b < 8 → a ≠ b → (TX2 a).2.1 ≠ (TX2 b).2.1 := by decide +kernel
theorem tyX2_ok : ∀ k, k < 8 → parseFieldDescriptor (TX2 k).2.2.1 = some (tyX2 k) := by decide +kernel
abbrev cX2_init : ByteArray := prog_4_method_1_code
def yX2_init : MethodName := ⟨RX2, "<init>", "()V"⟩
abbrev cX2_addToBag : ByteArray := prog_4_method_2_code
def yX2_addToBag : MethodName := ⟨RX2, "addToBag", "(II)I"⟩
abbrev cX2_fact : ByteArray := prog_4_method_3_code
def yX2_fact : MethodName := ⟨RX2, "fact", "(II)I"⟩
abbrev cX2_move : ByteArray := prog_4_method_4_code
def yX2_move : MethodName := ⟨RX2, "move", "(II)V"⟩
abbrev cX2_moveToHands : ByteArray := prog_4_method_5_code
def yX2_moveToHands : MethodName := ⟨RX2, "moveToHands", "(II)V"⟩
abbrev cX2_end : ByteArray := prog_4_method_6_code
def yX2_end : MethodName := ⟨RX2, "end", "(III)V"⟩
abbrev cX2_firstOnTable : ByteArray := prog_4_method_7_code
def yX2_firstOnTable : MethodName := ⟨RX2, "firstOnTable", "(I)I"⟩
abbrev cX2_isInBag : ByteArray := prog_4_method_8_code
def yX2_isInBag : MethodName := ⟨RX2, "isInBag", "(II)Z"⟩
abbrev cX2_lettersInBag : ByteArray := prog_4_method_9_code
def yX2_lettersInBag : MethodName := ⟨RX2, "lettersInBag", "(I)I"⟩
abbrev cX2_fullestHole : ByteArray := prog_4_method_10_code
def yX2_fullestHole : MethodName := ⟨RX2, "fullestHole", "()I"⟩
abbrev cX2_spillHole : ByteArray := prog_4_method_11_code
def yX2_spillHole : MethodName := ⟨RX2, "spillHole", "(I)V"⟩
abbrev cX2_copyFrom : ByteArray := prog_4_method_12_code
def yX2_copyFrom : MethodName := ⟨RX2, "copyFrom", "(LNightSorters$Mail;)V"⟩
def RX3 : String := "NightSorters$Train"
def TX3 : u_T := fun k => match k with
  | 0 => ("NightSorters$Train", "line", "LNightSorters$Line;", true)
  | 1 => ("NightSorters$Train", "mail", "LNightSorters$Mail;", true)
  | 2 => ("NightSorters$Train", "crew", "LNightSorters$Crew;", true)
  | _ => ("NightSorters$Train", "minute", "I", false)
def tyX3 : Nat → FieldType := fun k => match k with
  | 0 => .object "NightSorters$Line"
  | 1 => .object "NightSorters$Mail"
  | 2 => .object "NightSorters$Crew"
  | _ => .int
abbrev wsX30 : List Cond := u_ws RX3 TX3 4
theorem nmX3 : ∀ a, a < 4 → ∀ b, b < 4 → a ≠ b → (TX3 a).2.1 ≠ (TX3 b).2.1 := by decide +kernel
theorem tyX3_ok : ∀ k, k < 4 → parseFieldDescriptor (TX3 k).2.2.1 = some (tyX3 k) := by decide +kernel
abbrev cX3_init : ByteArray := prog_5_method_1_code
def yX3_init : MethodName := ⟨RX3, "<init>", "(LNightSorters$Line;)V"⟩
abbrev cX3_copyFrom : ByteArray := prog_5_method_2_code
def yX3_copyFrom : MethodName := ⟨RX3, "copyFrom", "(LNightSorters$Train;)V"⟩
abbrev cX3_run : ByteArray := prog_5_method_3_code
def yX3_run : MethodName := ⟨RX3, "run", "(I)V"⟩
abbrev cX3_runMinute : ByteArray := prog_5_method_4_code
def yX3_runMinute : MethodName := ⟨RX3, "runMinute", "()V"⟩
abbrev cX3_takeLetter : ByteArray := prog_5_method_5_code
def yX3_takeLetter : MethodName := ⟨RX3, "takeLetter", "(I)V"⟩
abbrev cX3_workOn : ByteArray := prog_5_method_6_code
def yX3_workOn : MethodName := ⟨RX3, "workOn", "(I)V"⟩
abbrev cX3_putLetter : ByteArray := prog_5_method_7_code
def yX3_putLetter : MethodName := ⟨RX3, "putLetter", "(I)V"⟩
abbrev cX3_serve : ByteArray := prog_5_method_8_code
def yX3_serve : MethodName := ⟨RX3, "serve", "(I)V"⟩
abbrev cX3_hookIn : ByteArray := prog_5_method_9_code
def yX3_hookIn : MethodName := ⟨RX3, "hookIn", "(II)V"⟩
abbrev cX3_hookOut : ByteArray := prog_5_method_10_code
def yX3_hookOut : MethodName := ⟨RX3, "hookOut", "(I)V"⟩
abbrev cX3_shake : ByteArray := prog_5_method_11_code
def yX3_shake : MethodName := ⟨RX3, "shake", "(I)V"⟩
def RX4 : String := "NightSorters"
def TX4 : u_T := fun k => match k with
  | 0 => ("NightSorters", "train", "LNightSorters$Train;", true)
  | _ => ("NightSorters", "trial", "LNightSorters$Train;", true)
def tyX4 : Nat → FieldType := fun k => match k with
  | 0 => .object "NightSorters$Train"
  | _ => .object "NightSorters$Train"
abbrev wsX40 : List Cond := u_ws RX4 TX4 2
theorem nmX4 : ∀ a, a < 2 → ∀ b, b < 2 → a ≠ b → (TX4 a).2.1 ≠ (TX4 b).2.1 := by decide +kernel
theorem tyX4_ok : ∀ k, k < 2 → parseFieldDescriptor (TX4 k).2.2.1 = some (tyX4 k) := by decide +kernel
abbrev cX4_init : ByteArray := prog_1_method_1_code
def yX4_init : MethodName := ⟨RX4, "<init>", "()V"⟩
abbrev cX4_setStation : ByteArray := prog_1_method_2_code
def yX4_setStation : MethodName := ⟨RX4, "setStation", "(III)I"⟩
abbrev cX4_post : ByteArray := prog_1_method_3_code
def yX4_post : MethodName := ⟨RX4, "post", "(II)I"⟩
abbrev cX4_hire : ByteArray := prog_1_method_4_code
def yX4_hire : MethodName := ⟨RX4, "hire", "(II)I"⟩
abbrev cX4_assign : ByteArray := prog_1_method_5_code
def yX4_assign : MethodName := ⟨RX4, "assign", "(II)I"⟩
abbrev cX4_tea : ByteArray := prog_1_method_6_code
def yX4_tea : MethodName := ⟨RX4, "tea", "(I)I"⟩
abbrev cX4_letter : ByteArray := prog_1_method_7_code
def yX4_letter : MethodName := ⟨RX4, "letter", "(II)I"⟩
abbrev cX4_sorter : ByteArray := prog_1_method_8_code
def yX4_sorter : MethodName := ⟨RX4, "sorter", "(II)I"⟩
abbrev cX4_hole : ByteArray := prog_1_method_9_code
def yX4_hole : MethodName := ⟨RX4, "hole", "(I)I"⟩
abbrev cX4_station : ByteArray := prog_1_method_10_code
def yX4_station : MethodName := ⟨RX4, "station", "(II)I"⟩
abbrev cX4_count : ByteArray := prog_1_method_11_code
def yX4_count : MethodName := ⟨RX4, "count", "(I)I"⟩
abbrev cX4_pass : ByteArray := prog_1_method_12_code
def yX4_pass : MethodName := ⟨RX4, "pass", "(I)I"⟩
abbrev cX4_arrives : ByteArray := prog_1_method_13_code
def yX4_arrives : MethodName := ⟨RX4, "arrives", "(I)I"⟩
abbrev cX4_foresee : ByteArray := prog_1_method_14_code
def yX4_foresee : MethodName := ⟨RX4, "foresee", "(II)I"⟩
abbrev cX4_advise : ByteArray := prog_1_method_15_code
def yX4_advise : MethodName := ⟨RX4, "advise", "(II)I"⟩
abbrev cX4_share : ByteArray := prog_1_method_16_code
def yX4_share : MethodName := ⟨RX4, "share", "()D"⟩
abbrev cX4_digest : ByteArray := prog_1_method_17_code
def yX4_digest : MethodName := ⟨RX4, "digest", "()J"⟩
abbrev cX4_deliveredIfAssigned : ByteArray := prog_1_method_18_code
def yX4_deliveredIfAssigned : MethodName := ⟨RX4, "deliveredIfAssigned", "(III)I"⟩
abbrev cX4_checkIndex : ByteArray := prog_1_method_19_code
def yX4_checkIndex : MethodName := ⟨RX4, "checkIndex", "(II)V"⟩
abbrev cX4_checkArgument : ByteArray := prog_1_method_20_code
def yX4_checkArgument : MethodName := ⟨RX4, "checkArgument", "(III)V"⟩
abbrev cX4_hasTown : ByteArray := prog_1_method_21_code
def yX4_hasTown : MethodName := ⟨RX4, "hasTown", "(II)Z"⟩
abbrev cX4_stationOf : ByteArray := prog_1_method_22_code
def yX4_stationOf : MethodName := ⟨RX4, "stationOf", "(I)I"⟩
def RX5 : String := "NightSortersModel$State"
def TX5 : u_T := fun k => match k with
  | 0 => ("NightSortersModel$State", "minute", "I", false)
  | 1 => ("NightSortersModel$State", "where", "[I", true)
  | 2 => ("NightSortersModel$State", "who", "[I", true)
  | 3 => ("NightSortersModel$State", "when", "[I", true)
  | 4 => ("NightSortersModel$State", "towns", "[I", true)
  | 5 => ("NightSortersModel$State", "tired", "[I", true)
  | 6 => ("NightSortersModel$State", "tea", "[I", true)
  | 7 => ("NightSortersModel$State", "holds", "[I", true)
  | 8 => ("NightSortersModel$State", "left", "[I", true)
  | 9 => ("NightSortersModel$State", "sorted", "[I", true)
  | _ => ("NightSortersModel$State", "this$0", "LNightSortersModel;", true)
def tyX5 : Nat → FieldType := fun k => match k with
  | 0 => .int
  | 1 => .array .int
  | 2 => .array .int
  | 3 => .array .int
  | 4 => .array .int
  | 5 => .array .int
  | 6 => .array .int
  | 7 => .array .int
  | 8 => .array .int
  | 9 => .array .int
  | _ => .object "NightSortersModel"
abbrev wsX50 : List Cond := u_ws RX5 TX5 11
theorem nmX5 : ∀ a, a < 11 → ∀ b, b < 11 → a ≠ b → (TX5 a).2.1 ≠ (TX5 b).2.1 := by decide +kernel
theorem tyX5_ok : ∀ k, k < 11 → parseFieldDescriptor (TX5 k).2.2.1 = some (tyX5 k) := by decide +kernel
abbrev cX5_init : ByteArray := prog_8_method_1_code
def yX5_init : MethodName := ⟨RX5, "<init>", "(LNightSortersModel;)V"⟩
abbrev cX5_copy : ByteArray := prog_8_method_2_code
def yX5_copy : MethodName := ⟨RX5, "copy", "([I[I)V"⟩
abbrev cX5_become : ByteArray := prog_8_method_3_code
def yX5_become : MethodName := ⟨RX5, "become", "(LNightSortersModel$State;)V"⟩
abbrev cX5_are : ByteArray := prog_8_method_4_code
def yX5_are : MethodName := ⟨RX5, "are", "(I)I"⟩
abbrev cX5_inHole : ByteArray := prog_8_method_5_code
def yX5_inHole : MethodName := ⟨RX5, "inHole", "(I)I"⟩
abbrev cX5_firstFor : ByteArray := prog_8_method_6_code
def yX5_firstFor : MethodName := ⟨RX5, "firstFor", "(I)I"⟩
abbrev cX5_take : ByteArray := prog_8_method_7_code
def yX5_take : MethodName := ⟨RX5, "take", "(I)V"⟩
abbrev cX5_let : ByteArray := prog_8_method_8_code
def yX5_let : MethodName := ⟨RX5, "let", "(II)V"⟩
abbrev cX5_work : ByteArray := prog_8_method_9_code
def yX5_work : MethodName := ⟨RX5, "work", "(I)V"⟩
abbrev cX5_end : ByteArray := prog_8_method_10_code
def yX5_end : MethodName := ⟨RX5, "end", "(II)V"⟩
abbrev cX5_passStation : ByteArray := prog_8_method_11_code
def yX5_passStation : MethodName := ⟨RX5, "passStation", "(I)V"⟩
abbrev cX5_shake : ByteArray := prog_8_method_12_code
def yX5_shake : MethodName := ⟨RX5, "shake", "(I)V"⟩
abbrev cX5_pass : ByteArray := prog_8_method_13_code
def yX5_pass : MethodName := ⟨RX5, "pass", "()I"⟩
abbrev cX5_pass_ : ByteArray := prog_8_method_14_code
def yX5_pass_ : MethodName := ⟨RX5, "pass", "(I)I"⟩
def RX6 : String := "NightSortersModel"
def TX6 : u_T := fun k => match k with
  | 0 => ("NightSortersModel", "thrown", "I", false)
  | 1 => ("NightSortersModel", "passes", "[I", true)
  | 2 => ("NightSortersModel", "jolt", "[I", true)
  | 3 => ("NightSortersModel", "letters", "I", false)
  | 4 => ("NightSortersModel", "town", "[I", true)
  | 5 => ("NightSortersModel", "station", "[I", true)
  | 6 => ("NightSortersModel", "sorters", "I", false)
  | 7 => ("NightSortersModel", "pace", "[I", true)
  | 8 => ("NightSortersModel", "s", "LNightSortersModel$State;", true)
  | _ => ("NightSortersModel", "ahead", "LNightSortersModel$State;", true)
def tyX6 : Nat → FieldType := fun k => match k with
  | 0 => .int
  | 1 => .array .int
  | 2 => .array .int
  | 3 => .int
  | 4 => .array .int
  | 5 => .array .int
  | 6 => .int
  | 7 => .array .int
  | 8 => .object "NightSortersModel$State"
  | _ => .object "NightSortersModel$State"
abbrev wsX60 : List Cond := u_ws RX6 TX6 10
theorem nmX6 : ∀ a, a < 10 → ∀ b, b < 10 → a ≠ b → (TX6 a).2.1 ≠ (TX6 b).2.1 := by decide +kernel
theorem tyX6_ok : ∀ k, k < 10 → parseFieldDescriptor (TX6 k).2.2.1 = some (tyX6 k) := by decide +kernel
abbrev cX6_init : ByteArray := prog_7_method_1_code
def yX6_init : MethodName := ⟨RX6, "<init>", "()V"⟩
abbrev cX6_thrown : ByteArray := prog_7_method_2_code
def yX6_thrown : MethodName := ⟨RX6, "thrown", "()I"⟩
abbrev cX6_no : ByteArray := prog_7_method_3_code
def yX6_no : MethodName := ⟨RX6, "no", "(I)I"⟩
abbrev cX6_isIn : ByteArray := prog_7_method_4_code
def yX6_isIn : MethodName := ⟨RX6, "isIn", "(III)Z"⟩
abbrev cX6_isStation : ByteArray := prog_7_method_5_code
def yX6_isStation : MethodName := ⟨RX6, "isStation", "(I)Z"⟩
abbrev cX6_isTown : ByteArray := prog_7_method_6_code
def yX6_isTown : MethodName := ⟨RX6, "isTown", "(I)Z"⟩
abbrev cX6_isSet : ByteArray := prog_7_method_7_code
def yX6_isSet : MethodName := ⟨RX6, "isSet", "(I)Z"⟩
abbrev cX6_isLetter : ByteArray := prog_7_method_8_code
def yX6_isLetter : MethodName := ⟨RX6, "isLetter", "(I)Z"⟩
abbrev cX6_isSorter : ByteArray := prog_7_method_9_code
def yX6_isSorter : MethodName := ⟨RX6, "isSorter", "(I)Z"⟩
abbrev cX6_wouldRise : ByteArray := prog_7_method_10_code
def yX6_wouldRise : MethodName := ⟨RX6, "wouldRise", "(II)Z"⟩
abbrev cX6_setStation : ByteArray := prog_7_method_11_code
def yX6_setStation : MethodName := ⟨RX6, "setStation", "(III)I"⟩
abbrev cX6_post : ByteArray := prog_7_method_12_code
def yX6_post : MethodName := ⟨RX6, "post", "(II)I"⟩
abbrev cX6_hire : ByteArray := prog_7_method_13_code
def yX6_hire : MethodName := ⟨RX6, "hire", "(II)I"⟩
abbrev cX6_assign : ByteArray := prog_7_method_14_code
def yX6_assign : MethodName := ⟨RX6, "assign", "(II)I"⟩
abbrev cX6_tea : ByteArray := prog_7_method_15_code
def yX6_tea : MethodName := ⟨RX6, "tea", "(I)I"⟩
abbrev cX6_letterTold : ByteArray := prog_7_method_16_code
def yX6_letterTold : MethodName := ⟨RX6, "letterTold", "(II)I"⟩
abbrev cX6_letter : ByteArray := prog_7_method_17_code
def yX6_letter : MethodName := ⟨RX6, "letter", "(II)I"⟩
abbrev cX6_sorterTold : ByteArray := prog_7_method_18_code
def yX6_sorterTold : MethodName := ⟨RX6, "sorterTold", "(II)I"⟩
abbrev cX6_sorter : ByteArray := prog_7_method_19_code
def yX6_sorter : MethodName := ⟨RX6, "sorter", "(II)I"⟩
abbrev cX6_hole : ByteArray := prog_7_method_20_code
def yX6_hole : MethodName := ⟨RX6, "hole", "(I)I"⟩
abbrev cX6_stationTold : ByteArray := prog_7_method_21_code
def yX6_stationTold : MethodName := ⟨RX6, "stationTold", "(II)I"⟩
abbrev cX6_station : ByteArray := prog_7_method_22_code
def yX6_station : MethodName := ⟨RX6, "station", "(II)I"⟩
abbrev cX6_counted : ByteArray := prog_7_method_23_code
def yX6_counted : MethodName := ⟨RX6, "counted", "(I)I"⟩
abbrev cX6_count : ByteArray := prog_7_method_24_code
def yX6_count : MethodName := ⟨RX6, "count", "(I)I"⟩
abbrev cX6_pass : ByteArray := prog_7_method_25_code
def yX6_pass : MethodName := ⟨RX6, "pass", "(I)I"⟩
abbrev cX6_arrives : ByteArray := prog_7_method_26_code
def yX6_arrives : MethodName := ⟨RX6, "arrives", "(I)I"⟩
abbrev cX6_foresee : ByteArray := prog_7_method_27_code
def yX6_foresee : MethodName := ⟨RX6, "foresee", "(II)I"⟩
abbrev cX6_advise : ByteArray := prog_7_method_28_code
def yX6_advise : MethodName := ⟨RX6, "advise", "(II)I"⟩
abbrev cX6_share : ByteArray := prog_7_method_29_code
def yX6_share : MethodName := ⟨RX6, "share", "()D"⟩
abbrev cX6_digest : ByteArray := prog_7_method_30_code
def yX6_digest : MethodName := ⟨RX6, "digest", "()J"⟩
def RJ9 : String := "java/lang/Math"
def TJ9 : u_T := fun k => match k with
  | _ => ("", "", "", false)
def tyJ9 : Nat → FieldType := fun k => match k with
  | _ => .int
abbrev wsJ90 : List Cond := u_ws RJ9 TJ9 0
theorem nmJ9 : ∀ a, a < 0 → ∀ b, b < 0 → a ≠ b → (TJ9 a).2.1 ≠ (TJ9 b).2.1 := by decide +kernel
theorem tyJ9_ok : ∀ k, k < 0 → parseFieldDescriptor (TJ9 k).2.2.1 = some (tyJ9 k) := by decide +kernel
abbrev cJ9_max_7cf53 : ByteArray := prog_13_method_65_code
def yJ9_max_7cf53 : MethodName := ⟨RJ9, "max", "(II)I"⟩
def RJ0 : String := "java/lang/String"
def TJ0 : u_T := fun k => match k with
  | _ => ("", "", "", false)
def tyJ0 : Nat → FieldType := fun k => match k with
  | _ => .int
abbrev wsJ00 : List Cond := u_ws RJ0 TJ0 0
theorem nmJ0 : ∀ a, a < 0 → ∀ b, b < 0 → a ≠ b → (TJ0 a).2.1 ≠ (TJ0 b).2.1 := by decide +kernel
theorem tyJ0_ok : ∀ k, k < 0 → parseFieldDescriptor (TJ0 k).2.2.1 = some (tyJ0 k) := by decide +kernel
def RJ10 : String := "java/lang/System"
def TJ10 : u_T := fun k => match k with
  | _ => ("", "", "", false)
def tyJ10 : Nat → FieldType := fun k => match k with
  | _ => .int
abbrev wsJ100 : List Cond := u_ws RJ10 TJ10 0
theorem nmJ10 : ∀ a, a < 0 → ∀ b, b < 0 → a ≠ b → (TJ10 a).2.1 ≠ (TJ10 b).2.1 := by decide +kernel
theorem tyJ10_ok : ∀ k, k < 0 → parseFieldDescriptor (TJ10 k).2.2.1 = some (tyJ10 k) := by decide +kernel
def RL : String := "NightSortersLaw"
abbrev cL_setStation : ByteArray := method_3_code
def yL_setStation : MethodName := ⟨RL, "setStation", "(LNightSorters;III[J)I"⟩
abbrev cL_post : ByteArray := method_4_code
def yL_post : MethodName := ⟨RL, "post", "(LNightSorters;II[J)I"⟩
abbrev cL_hire : ByteArray := method_5_code
def yL_hire : MethodName := ⟨RL, "hire", "(LNightSorters;II[J)I"⟩
abbrev cL_assign : ByteArray := method_6_code
def yL_assign : MethodName := ⟨RL, "assign", "(LNightSorters;II[J)I"⟩
abbrev cL_tea : ByteArray := method_7_code
def yL_tea : MethodName := ⟨RL, "tea", "(LNightSorters;I[J)I"⟩
abbrev cL_letter : ByteArray := method_8_code
def yL_letter : MethodName := ⟨RL, "letter", "(LNightSorters;II[J)I"⟩
abbrev cL_sorter : ByteArray := method_9_code
def yL_sorter : MethodName := ⟨RL, "sorter", "(LNightSorters;II[J)I"⟩
abbrev cL_hole : ByteArray := method_10_code
def yL_hole : MethodName := ⟨RL, "hole", "(LNightSorters;I[J)I"⟩
abbrev cL_station : ByteArray := method_11_code
def yL_station : MethodName := ⟨RL, "station", "(LNightSorters;II[J)I"⟩
abbrev cL_count : ByteArray := method_12_code
def yL_count : MethodName := ⟨RL, "count", "(LNightSorters;I[J)I"⟩
abbrev cL_pass : ByteArray := method_13_code
def yL_pass : MethodName := ⟨RL, "pass", "(LNightSorters;I[J)I"⟩
abbrev cL_arrives : ByteArray := method_14_code
def yL_arrives : MethodName := ⟨RL, "arrives", "(LNightSorters;I[J)I"⟩
abbrev cL_foresee : ByteArray := method_15_code
def yL_foresee : MethodName := ⟨RL, "foresee", "(LNightSorters;II[J)I"⟩
abbrev cL_advise : ByteArray := method_16_code
def yL_advise : MethodName := ⟨RL, "advise", "(LNightSorters;II[J)I"⟩
abbrev cL_law : ByteArray := code
def yL_law : MethodName := ⟨RL, "law", "([I)Z"⟩
def wsX0_init : List Cond := .code yX0_init cX0_init 1 none :: ([.methodLink RX0 3 objectInit, .instanceMethod objectInit, .code objectInit ⟨#[0xb1]⟩ 1 none, .fieldLink RX0 9 "NightSorters$Crew" "size" "I", .arrayClass .int, .fieldLink RX0 15 "NightSorters$Crew" "pace" "[I", .fieldLink RX0 19 "NightSorters$Crew" "towns" "[I", .fieldLink RX0 22 "NightSorters$Crew" "tired" "[I", .fieldLink RX0 25 "NightSorters$Crew" "withTea" "[I", .fieldLink RX0 28 "NightSorters$Crew" "held" "[I", .fieldLink RX0 31 "NightSorters$Crew" "minutesLeft" "[I", .fieldLink RX0 34 "NightSorters$Crew" "sorted" "[I"] ++ wsX00)
def wsX0_add : List Cond := .code yX0_add cX0_add 4 (some .int) :: ([.fieldLink RX0 9 "NightSorters$Crew" "size" "I", .fieldLink RX0 15 "NightSorters$Crew" "pace" "[I", .fieldLink RX0 19 "NightSorters$Crew" "towns" "[I", .fieldLink RX0 28 "NightSorters$Crew" "held" "[I"] ++ wsX00)
def wsX0_fact : List Cond := .code yX0_fact cX0_fact 3 (some .int) :: ([.fieldLink RX0 15 "NightSorters$Crew" "pace" "[I", .fieldLink RX0 19 "NightSorters$Crew" "towns" "[I", .fieldLink RX0 22 "NightSorters$Crew" "tired" "[I", .fieldLink RX0 25 "NightSorters$Crew" "withTea" "[I", .fieldLink RX0 28 "NightSorters$Crew" "held" "[I", .fieldLink RX0 31 "NightSorters$Crew" "minutesLeft" "[I", .fieldLink RX0 34 "NightSorters$Crew" "sorted" "[I"] ++ wsX00)
def wsX0_minutesNeeded : List Cond := .code yX0_minutesNeeded cX0_minutesNeeded 3 (some .int) :: ([.fieldLink RX0 15 "NightSorters$Crew" "pace" "[I", .fieldLink RX0 22 "NightSorters$Crew" "tired" "[I", .fieldLink RX0 25 "NightSorters$Crew" "withTea" "[I"] ++ wsX00)
def wsX0_takeUp : List Cond := .code yX0_takeUp cX0_takeUp 3 none :: ([.fieldLink RX0 28 "NightSorters$Crew" "held" "[I", .fieldLink RX0 31 "NightSorters$Crew" "minutesLeft" "[I", .methodLink RX0 37 yX0_minutesNeeded, .instanceMethod yX0_minutesNeeded, .selects RX0 yX0_minutesNeeded yX0_minutesNeeded, .initialized RX0, .code yX0_minutesNeeded cX0_minutesNeeded 3 (some .int), .fieldLink RX0 15 "NightSorters$Crew" "pace" "[I", .fieldLink RX0 22 "NightSorters$Crew" "tired" "[I", .fieldLink RX0 25 "NightSorters$Crew" "withTea" "[I"] ++ wsX00)
def wsX0_freeHands : List Cond := .code yX0_freeHands cX0_freeHands 2 none :: ([.fieldLink RX0 28 "NightSorters$Crew" "held" "[I", .fieldLink RX0 31 "NightSorters$Crew" "minutesLeft" "[I"] ++ wsX00)
def wsX0_spillTea : List Cond := .code yX0_spillTea cX0_spillTea 2 none :: ([.fieldLink RX0 9 "NightSorters$Crew" "size" "I", .fieldLink RX0 25 "NightSorters$Crew" "withTea" "[I"] ++ wsX00)
def wsX0_tireAll : List Cond := .code yX0_tireAll cX0_tireAll 3 none :: ([.fieldLink RX0 9 "NightSorters$Crew" "size" "I", .fieldLink RX0 22 "NightSorters$Crew" "tired" "[I"] ++ wsX00)
def wsX0_copyFrom : List Cond := .code yX0_copyFrom cX0_copyFrom 2 none :: ([.fieldLink RX0 9 "NightSorters$Crew" "size" "I", .fieldLink RX0 15 "NightSorters$Crew" "pace" "[I", .methodLink RX0 41 arraycopyName, .native arraycopyName, .static arraycopyName, .initialized "java/lang/System", .fieldLink RX0 19 "NightSorters$Crew" "towns" "[I", .fieldLink RX0 22 "NightSorters$Crew" "tired" "[I", .fieldLink RX0 25 "NightSorters$Crew" "withTea" "[I", .fieldLink RX0 28 "NightSorters$Crew" "held" "[I", .fieldLink RX0 31 "NightSorters$Crew" "minutesLeft" "[I", .fieldLink RX0 34 "NightSorters$Crew" "sorted" "[I"] ++ wsX00)
def wsX1_init : List Cond := .code yX1_init cX1_init 2 none :: ([.methodLink RX1 3 objectInit, .instanceMethod objectInit, .code objectInit ⟨#[0xb1]⟩ 1 none, .arrayClass .int, .fieldLink RX1 9 "NightSorters$Line" "minutes" "[I", .fieldLink RX1 15 "NightSorters$Line" "jolts" "[I"] ++ wsX10)
def wsX1_wouldRise : List Cond := .code yX1_wouldRise cX1_wouldRise 5 (some .boolean) :: ([.fieldLink RX1 9 "NightSorters$Line" "minutes" "[I"] ++ wsX10)
def wsX1_passedIn : List Cond := .code yX1_passedIn cX1_passedIn 3 (some .int) :: ([.fieldLink RX1 9 "NightSorters$Line" "minutes" "[I"] ++ wsX10)
def wsX1_nextFrom : List Cond := .code yX1_nextFrom cX1_nextFrom 3 (some .int) :: ([.fieldLink RX1 9 "NightSorters$Line" "minutes" "[I"] ++ wsX10)
def wsX2_init : List Cond := .code yX2_init cX2_init 1 none :: ([.methodLink RX2 3 objectInit, .instanceMethod objectInit, .code objectInit ⟨#[0xb1]⟩ 1 none, .fieldLink RX2 9 "NightSorters$Mail" "size" "I", .arrayClass .int, .fieldLink RX2 15 "NightSorters$Mail" "town" "[I", .fieldLink RX2 19 "NightSorters$Mail" "postedAt" "[I", .fieldLink RX2 22 "NightSorters$Mail" "place" "[I", .fieldLink RX2 25 "NightSorters$Mail" "holder" "[I", .fieldLink RX2 28 "NightSorters$Mail" "endMinute" "[I", .fieldLink RX2 31 "NightSorters$Mail" "inPlace" "[I", .fieldLink RX2 34 "NightSorters$Mail" "inHole" "[I"] ++ wsX20)
def wsX2_addToBag : List Cond := .code yX2_addToBag cX2_addToBag 4 (some .int) :: ([.fieldLink RX2 9 "NightSorters$Mail" "size" "I", .fieldLink RX2 15 "NightSorters$Mail" "town" "[I", .fieldLink RX2 19 "NightSorters$Mail" "postedAt" "[I", .fieldLink RX2 22 "NightSorters$Mail" "place" "[I", .fieldLink RX2 25 "NightSorters$Mail" "holder" "[I", .fieldLink RX2 28 "NightSorters$Mail" "endMinute" "[I", .fieldLink RX2 31 "NightSorters$Mail" "inPlace" "[I"] ++ wsX20)
def wsX2_fact : List Cond := .code yX2_fact cX2_fact 3 (some .int) :: ([.fieldLink RX2 22 "NightSorters$Mail" "place" "[I", .fieldLink RX2 15 "NightSorters$Mail" "town" "[I", .fieldLink RX2 19 "NightSorters$Mail" "postedAt" "[I", .fieldLink RX2 25 "NightSorters$Mail" "holder" "[I", .fieldLink RX2 28 "NightSorters$Mail" "endMinute" "[I"] ++ wsX20)
def wsX2_move : List Cond := .code yX2_move cX2_move 4 none :: ([.fieldLink RX2 22 "NightSorters$Mail" "place" "[I", .fieldLink RX2 31 "NightSorters$Mail" "inPlace" "[I", .fieldLink RX2 34 "NightSorters$Mail" "inHole" "[I", .fieldLink RX2 15 "NightSorters$Mail" "town" "[I", .fieldLink RX2 25 "NightSorters$Mail" "holder" "[I"] ++ wsX20)
def wsX2_moveToHands : List Cond := .code yX2_moveToHands cX2_moveToHands 3 none :: ([.fieldLink RX2 25 "NightSorters$Mail" "holder" "[I", .methodLink RX2 37 yX2_move, .instanceMethod yX2_move, .selects RX2 yX2_move yX2_move, .initialized RX2, .code yX2_move cX2_move 4 none, .fieldLink RX2 22 "NightSorters$Mail" "place" "[I", .fieldLink RX2 31 "NightSorters$Mail" "inPlace" "[I", .fieldLink RX2 34 "NightSorters$Mail" "inHole" "[I", .fieldLink RX2 15 "NightSorters$Mail" "town" "[I"] ++ wsX20)
def wsX2_end : List Cond := .code yX2_end cX2_end 4 none :: ([.fieldLink RX2 28 "NightSorters$Mail" "endMinute" "[I", .methodLink RX2 37 yX2_move, .instanceMethod yX2_move, .selects RX2 yX2_move yX2_move, .initialized RX2, .code yX2_move cX2_move 4 none, .fieldLink RX2 22 "NightSorters$Mail" "place" "[I", .fieldLink RX2 31 "NightSorters$Mail" "inPlace" "[I", .fieldLink RX2 34 "NightSorters$Mail" "inHole" "[I", .fieldLink RX2 15 "NightSorters$Mail" "town" "[I", .fieldLink RX2 25 "NightSorters$Mail" "holder" "[I"] ++ wsX20)
def wsX4_hasTown : List Cond := .code yX4_hasTown cX4_hasTown 2 (some .boolean) :: ([])
def wsX2_firstOnTable : List Cond := .code yX2_firstOnTable cX2_firstOnTable 3 (some .int) :: ([.fieldLink RX2 31 "NightSorters$Mail" "inPlace" "[I", .fieldLink RX2 9 "NightSorters$Mail" "size" "I", .fieldLink RX2 22 "NightSorters$Mail" "place" "[I", .fieldLink RX2 15 "NightSorters$Mail" "town" "[I", .static yX4_hasTown, .initialized RX4, .code yX4_hasTown cX4_hasTown 2 (some .boolean)] ++ wsX20)
def wsX2_isInBag : List Cond := .code yX2_isInBag cX2_isInBag 3 (some .boolean) :: ([.fieldLink RX2 22 "NightSorters$Mail" "place" "[I", .fieldLink RX2 19 "NightSorters$Mail" "postedAt" "[I"] ++ wsX20)
def wsX2_lettersInBag : List Cond := .code yX2_lettersInBag cX2_lettersInBag 4 (some .int) :: ([.fieldLink RX2 9 "NightSorters$Mail" "size" "I", .methodLink RX2 45 yX2_isInBag, .instanceMethod yX2_isInBag, .selects RX2 yX2_isInBag yX2_isInBag, .initialized RX2, .code yX2_isInBag cX2_isInBag 3 (some .boolean), .fieldLink RX2 22 "NightSorters$Mail" "place" "[I", .fieldLink RX2 19 "NightSorters$Mail" "postedAt" "[I"] ++ wsX20)
def wsX2_fullestHole : List Cond := .code yX2_fullestHole cX2_fullestHole 3 (some .int) :: ([.fieldLink RX2 34 "NightSorters$Mail" "inHole" "[I"] ++ wsX20)
def wsX2_spillHole : List Cond := .code yX2_spillHole cX2_spillHole 3 none :: ([.fieldLink RX2 9 "NightSorters$Mail" "size" "I", .fieldLink RX2 22 "NightSorters$Mail" "place" "[I", .fieldLink RX2 15 "NightSorters$Mail" "town" "[I", .methodLink RX2 37 yX2_move, .instanceMethod yX2_move, .selects RX2 yX2_move yX2_move, .initialized RX2, .code yX2_move cX2_move 4 none, .fieldLink RX2 31 "NightSorters$Mail" "inPlace" "[I", .fieldLink RX2 34 "NightSorters$Mail" "inHole" "[I", .fieldLink RX2 25 "NightSorters$Mail" "holder" "[I"] ++ wsX20)
def wsX2_copyFrom : List Cond := .code yX2_copyFrom cX2_copyFrom 2 none :: ([.fieldLink RX2 9 "NightSorters$Mail" "size" "I", .fieldLink RX2 15 "NightSorters$Mail" "town" "[I", .methodLink RX2 48 arraycopyName, .native arraycopyName, .static arraycopyName, .initialized "java/lang/System", .fieldLink RX2 19 "NightSorters$Mail" "postedAt" "[I", .fieldLink RX2 22 "NightSorters$Mail" "place" "[I", .fieldLink RX2 25 "NightSorters$Mail" "holder" "[I", .fieldLink RX2 28 "NightSorters$Mail" "endMinute" "[I", .fieldLink RX2 31 "NightSorters$Mail" "inPlace" "[I", .fieldLink RX2 34 "NightSorters$Mail" "inHole" "[I"] ++ wsX20)
def wsX3_init_r1 : List Cond := [Cond.methodLink RX3 3 objectInit, Cond.instanceMethod objectInit, Cond.code objectInit ⟨#[0xb1]⟩ 1 none, Cond.classLink RX3 9 RX2, Cond.instantiable RX2 8, Cond.initialized RX2, Cond.fieldLink RX3 12 "NightSorters$Train" "mail" "LNightSorters$Mail;", Cond.classLink RX3 18 RX0, Cond.instantiable RX0 8, Cond.initialized RX0, Cond.fieldLink RX3 21 "NightSorters$Train" "crew" "LNightSorters$Crew;", Cond.fieldLink RX3 25 "NightSorters$Train" "minute" "I", Cond.fieldLink RX3 29 "NightSorters$Train" "line" "LNightSorters$Line;", Cond.instanceMethod yX2_init, Cond.code yX2_init cX2_init 1 none, Cond.methodLink RX2 3 objectInit, Cond.fieldLink RX2 9 "NightSorters$Mail" "size" "I", Cond.arrayClass .int, Cond.fieldLink RX2 15 "NightSorters$Mail" "town" "[I", Cond.fieldLink RX2 19 "NightSorters$Mail" "postedAt" "[I", Cond.fieldLink RX2 22 "NightSorters$Mail" "place" "[I", Cond.fieldLink RX2 25 "NightSorters$Mail" "holder" "[I", Cond.fieldLink RX2 28 "NightSorters$Mail" "endMinute" "[I", Cond.fieldLink RX2 31 "NightSorters$Mail" "inPlace" "[I"]
def wsX3_init_r2 : List Cond := [Cond.fieldLink RX2 34 "NightSorters$Mail" "inHole" "[I", Cond.instanceMethod yX0_init, Cond.code yX0_init cX0_init 1 none, Cond.methodLink RX0 3 objectInit, Cond.fieldLink RX0 9 "NightSorters$Crew" "size" "I", Cond.fieldLink RX0 15 "NightSorters$Crew" "pace" "[I", Cond.fieldLink RX0 19 "NightSorters$Crew" "towns" "[I", Cond.fieldLink RX0 22 "NightSorters$Crew" "tired" "[I", Cond.fieldLink RX0 25 "NightSorters$Crew" "withTea" "[I", Cond.fieldLink RX0 28 "NightSorters$Crew" "held" "[I", Cond.fieldLink RX0 31 "NightSorters$Crew" "minutesLeft" "[I", Cond.fieldLink RX0 34 "NightSorters$Crew" "sorted" "[I"]
def wsX3_init : List Cond := .code yX3_init cX3_init 2 none :: ((wsX3_init_r1 ++ wsX3_init_r2) ++ wsX20 ++ wsX30 ++ wsX00)
def wsX3_copyFrom_r1 : List Cond := [Cond.fieldLink RX3 25 "NightSorters$Train" "minute" "I", Cond.fieldLink RX3 12 "NightSorters$Train" "mail" "LNightSorters$Mail;", Cond.fieldLink RX3 21 "NightSorters$Train" "crew" "LNightSorters$Crew;", Cond.methodLink RX3 33 yX2_copyFrom, Cond.instanceMethod yX2_copyFrom, Cond.selects RX2 yX2_copyFrom yX2_copyFrom, Cond.initialized RX2, Cond.code yX2_copyFrom cX2_copyFrom 2 none, Cond.fieldLink RX2 9 "NightSorters$Mail" "size" "I", Cond.fieldLink RX2 15 "NightSorters$Mail" "town" "[I", Cond.methodLink RX2 48 arraycopyName, Cond.native arraycopyName, Cond.static arraycopyName, Cond.initialized "java/lang/System", Cond.fieldLink RX2 19 "NightSorters$Mail" "postedAt" "[I", Cond.fieldLink RX2 22 "NightSorters$Mail" "place" "[I", Cond.fieldLink RX2 25 "NightSorters$Mail" "holder" "[I", Cond.fieldLink RX2 28 "NightSorters$Mail" "endMinute" "[I", Cond.fieldLink RX2 31 "NightSorters$Mail" "inPlace" "[I", Cond.fieldLink RX2 34 "NightSorters$Mail" "inHole" "[I", Cond.methodLink RX3 37 yX0_copyFrom, Cond.instanceMethod yX0_copyFrom, Cond.selects RX0 yX0_copyFrom yX0_copyFrom, Cond.initialized RX0]
def wsX3_copyFrom_r2 : List Cond := [Cond.code yX0_copyFrom cX0_copyFrom 2 none, Cond.fieldLink RX0 9 "NightSorters$Crew" "size" "I", Cond.fieldLink RX0 15 "NightSorters$Crew" "pace" "[I", Cond.methodLink RX0 41 arraycopyName, Cond.fieldLink RX0 19 "NightSorters$Crew" "towns" "[I", Cond.fieldLink RX0 22 "NightSorters$Crew" "tired" "[I", Cond.fieldLink RX0 25 "NightSorters$Crew" "withTea" "[I", Cond.fieldLink RX0 28 "NightSorters$Crew" "held" "[I", Cond.fieldLink RX0 31 "NightSorters$Crew" "minutesLeft" "[I", Cond.fieldLink RX0 34 "NightSorters$Crew" "sorted" "[I"]
def wsX3_copyFrom : List Cond := .code yX3_copyFrom cX3_copyFrom 2 none :: ((wsX3_copyFrom_r1 ++ wsX3_copyFrom_r2) ++ wsX30 ++ wsX20 ++ wsX00)
def wsX3_takeLetter_r1 : List Cond := [Cond.fieldLink RX3 12 "NightSorters$Train" "mail" "LNightSorters$Mail;", Cond.fieldLink RX3 21 "NightSorters$Train" "crew" "LNightSorters$Crew;", Cond.fieldLink RX3 72 "NightSorters$Crew" "towns" "[I", Cond.methodLink RX3 75 yX2_firstOnTable, Cond.instanceMethod yX2_firstOnTable, Cond.selects RX2 yX2_firstOnTable yX2_firstOnTable, Cond.initialized RX2, Cond.code yX2_firstOnTable cX2_firstOnTable 3 (some .int), Cond.fieldLink RX2 31 "NightSorters$Mail" "inPlace" "[I", Cond.fieldLink RX2 9 "NightSorters$Mail" "size" "I", Cond.fieldLink RX2 22 "NightSorters$Mail" "place" "[I", Cond.fieldLink RX2 15 "NightSorters$Mail" "town" "[I", Cond.static yX4_hasTown, Cond.initialized RX4, Cond.code yX4_hasTown cX4_hasTown 2 (some .boolean), Cond.methodLink RX3 78 yX2_moveToHands, Cond.instanceMethod yX2_moveToHands, Cond.selects RX2 yX2_moveToHands yX2_moveToHands, Cond.code yX2_moveToHands cX2_moveToHands 3 none, Cond.fieldLink RX2 25 "NightSorters$Mail" "holder" "[I", Cond.methodLink RX2 37 yX2_move, Cond.instanceMethod yX2_move, Cond.selects RX2 yX2_move yX2_move, Cond.code yX2_move cX2_move 4 none]
def wsX3_takeLetter_r2 : List Cond := [Cond.fieldLink RX2 34 "NightSorters$Mail" "inHole" "[I", Cond.methodLink RX3 82 yX0_takeUp, Cond.instanceMethod yX0_takeUp, Cond.selects RX0 yX0_takeUp yX0_takeUp, Cond.initialized RX0, Cond.code yX0_takeUp cX0_takeUp 3 none, Cond.fieldLink RX0 28 "NightSorters$Crew" "held" "[I", Cond.fieldLink RX0 31 "NightSorters$Crew" "minutesLeft" "[I", Cond.methodLink RX0 37 yX0_minutesNeeded, Cond.instanceMethod yX0_minutesNeeded, Cond.selects RX0 yX0_minutesNeeded yX0_minutesNeeded, Cond.code yX0_minutesNeeded cX0_minutesNeeded 3 (some .int), Cond.fieldLink RX0 15 "NightSorters$Crew" "pace" "[I", Cond.fieldLink RX0 22 "NightSorters$Crew" "tired" "[I", Cond.fieldLink RX0 25 "NightSorters$Crew" "withTea" "[I"]
def wsX3_takeLetter : List Cond := .code yX3_takeLetter cX3_takeLetter 3 none :: ((wsX3_takeLetter_r1 ++ wsX3_takeLetter_r2) ++ wsX30 ++ wsX00 ++ wsX20)
def wsX3_putLetter : List Cond := .code yX3_putLetter cX3_putLetter 3 none :: ([.fieldLink RX3 21 "NightSorters$Train" "crew" "LNightSorters$Crew;", .fieldLink RX3 46 "NightSorters$Crew" "held" "[I", .fieldLink RX3 12 "NightSorters$Train" "mail" "LNightSorters$Mail;", .fieldLink RX3 91 "NightSorters$Mail" "inHole" "[I", .fieldLink RX3 94 "NightSorters$Mail" "town" "[I", .fieldLink RX3 100 "NightSorters$Crew" "sorted" "[I", .fieldLink RX3 103 "NightSorters$Crew" "tired" "[I", .methodLink RX3 97 yX2_move, .instanceMethod yX2_move, .selects RX2 yX2_move yX2_move, .initialized RX2, .code yX2_move cX2_move 4 none, .fieldLink RX2 22 "NightSorters$Mail" "place" "[I", .fieldLink RX2 31 "NightSorters$Mail" "inPlace" "[I", .fieldLink RX2 34 "NightSorters$Mail" "inHole" "[I", .fieldLink RX2 15 "NightSorters$Mail" "town" "[I", .fieldLink RX2 25 "NightSorters$Mail" "holder" "[I", .methodLink RX3 106 yX0_freeHands, .instanceMethod yX0_freeHands, .selects RX0 yX0_freeHands yX0_freeHands, .initialized RX0, .code yX0_freeHands cX0_freeHands 2 none, .fieldLink RX0 28 "NightSorters$Crew" "held" "[I", .fieldLink RX0 31 "NightSorters$Crew" "minutesLeft" "[I"] ++ wsX30 ++ wsX00 ++ wsX20)
def wsX3_workOn_r1 : List Cond := [Cond.fieldLink RX3 21 "NightSorters$Train" "crew" "LNightSorters$Crew;", Cond.fieldLink RX3 85 "NightSorters$Crew" "minutesLeft" "[I", Cond.methodLink RX3 88 yX3_putLetter, Cond.instanceMethod yX3_putLetter, Cond.selects RX3 yX3_putLetter yX3_putLetter, Cond.initialized RX3, Cond.code yX3_putLetter cX3_putLetter 3 none, Cond.fieldLink RX3 46 "NightSorters$Crew" "held" "[I", Cond.fieldLink RX3 12 "NightSorters$Train" "mail" "LNightSorters$Mail;", Cond.fieldLink RX3 91 "NightSorters$Mail" "inHole" "[I", Cond.fieldLink RX3 94 "NightSorters$Mail" "town" "[I", Cond.fieldLink RX3 100 "NightSorters$Crew" "sorted" "[I", Cond.fieldLink RX3 103 "NightSorters$Crew" "tired" "[I", Cond.methodLink RX3 97 yX2_move, Cond.instanceMethod yX2_move, Cond.selects RX2 yX2_move yX2_move, Cond.initialized RX2, Cond.code yX2_move cX2_move 4 none, Cond.fieldLink RX2 22 "NightSorters$Mail" "place" "[I", Cond.fieldLink RX2 31 "NightSorters$Mail" "inPlace" "[I", Cond.fieldLink RX2 34 "NightSorters$Mail" "inHole" "[I", Cond.fieldLink RX2 15 "NightSorters$Mail" "town" "[I", Cond.fieldLink RX2 25 "NightSorters$Mail" "holder" "[I", Cond.methodLink RX3 106 yX0_freeHands]
def wsX3_workOn_r2 : List Cond := [Cond.instanceMethod yX0_freeHands, Cond.selects RX0 yX0_freeHands yX0_freeHands, Cond.initialized RX0, Cond.code yX0_freeHands cX0_freeHands 2 none, Cond.fieldLink RX0 28 "NightSorters$Crew" "held" "[I", Cond.fieldLink RX0 31 "NightSorters$Crew" "minutesLeft" "[I"]
def wsX3_workOn : List Cond := .code yX3_workOn cX3_workOn 2 none :: ((wsX3_workOn_r1 ++ wsX3_workOn_r2) ++ wsX30 ++ wsX00 ++ wsX20)
def wsX4_stationOf : List Cond := .code yX4_stationOf cX4_stationOf 1 (some .int) :: ([])
def wsX3_hookIn : List Cond := .code yX3_hookIn cX3_hookIn 3 none :: ([.fieldLink RX3 12 "NightSorters$Train" "mail" "LNightSorters$Mail;", .fieldLink RX3 94 "NightSorters$Mail" "town" "[I", .fieldLink RX3 25 "NightSorters$Train" "minute" "I", .static yX4_stationOf, .initialized RX4, .code yX4_stationOf cX4_stationOf 1 (some .int), .methodLink RX3 123 yX2_end, .instanceMethod yX2_end, .selects RX2 yX2_end yX2_end, .initialized RX2, .code yX2_end cX2_end 4 none, .fieldLink RX2 28 "NightSorters$Mail" "endMinute" "[I", .methodLink RX2 37 yX2_move, .instanceMethod yX2_move, .selects RX2 yX2_move yX2_move, .code yX2_move cX2_move 4 none, .fieldLink RX2 22 "NightSorters$Mail" "place" "[I", .fieldLink RX2 31 "NightSorters$Mail" "inPlace" "[I", .fieldLink RX2 34 "NightSorters$Mail" "inHole" "[I", .fieldLink RX2 15 "NightSorters$Mail" "town" "[I", .fieldLink RX2 25 "NightSorters$Mail" "holder" "[I", .methodLink RX3 97 yX2_move] ++ wsX30 ++ wsX20)
def wsX3_hookOut_r1 : List Cond := [Cond.fieldLink RX3 12 "NightSorters$Train" "mail" "LNightSorters$Mail;", Cond.fieldLink RX3 127 "NightSorters$Mail" "place" "[I", Cond.fieldLink RX3 25 "NightSorters$Train" "minute" "I", Cond.fieldLink RX3 130 "NightSorters$Mail" "holder" "[I", Cond.fieldLink RX3 21 "NightSorters$Train" "crew" "LNightSorters$Crew;", Cond.methodLink RX3 123 yX2_end, Cond.instanceMethod yX2_end, Cond.selects RX2 yX2_end yX2_end, Cond.initialized RX2, Cond.code yX2_end cX2_end 4 none, Cond.fieldLink RX2 28 "NightSorters$Mail" "endMinute" "[I", Cond.methodLink RX2 37 yX2_move, Cond.instanceMethod yX2_move, Cond.selects RX2 yX2_move yX2_move, Cond.code yX2_move cX2_move 4 none, Cond.fieldLink RX2 22 "NightSorters$Mail" "place" "[I", Cond.fieldLink RX2 31 "NightSorters$Mail" "inPlace" "[I", Cond.fieldLink RX2 34 "NightSorters$Mail" "inHole" "[I", Cond.fieldLink RX2 15 "NightSorters$Mail" "town" "[I", Cond.fieldLink RX2 25 "NightSorters$Mail" "holder" "[I", Cond.methodLink RX3 106 yX0_freeHands, Cond.instanceMethod yX0_freeHands, Cond.selects RX0 yX0_freeHands yX0_freeHands, Cond.initialized RX0]
def wsX3_hookOut_r2 : List Cond := [Cond.code yX0_freeHands cX0_freeHands 2 none, Cond.fieldLink RX0 28 "NightSorters$Crew" "held" "[I", Cond.fieldLink RX0 31 "NightSorters$Crew" "minutesLeft" "[I"]
def wsX3_hookOut : List Cond := .code yX3_hookOut cX3_hookOut 4 none :: ((wsX3_hookOut_r1 ++ wsX3_hookOut_r2) ++ wsX30 ++ wsX20 ++ wsX00)
def wsX3_serve_r1 : List Cond := [Cond.fieldLink RX3 12 "NightSorters$Train" "mail" "LNightSorters$Mail;", Cond.fieldLink RX3 109 "NightSorters$Mail" "size" "I", Cond.fieldLink RX3 94 "NightSorters$Mail" "town" "[I", Cond.methodLink RX3 110 yX2_isInBag, Cond.instanceMethod yX2_isInBag, Cond.selects RX2 yX2_isInBag yX2_isInBag, Cond.initialized RX2, Cond.code yX2_isInBag cX2_isInBag 3 (some .boolean), Cond.fieldLink RX2 22 "NightSorters$Mail" "place" "[I", Cond.fieldLink RX2 19 "NightSorters$Mail" "postedAt" "[I", Cond.methodLink RX3 114 yX3_hookIn, Cond.instanceMethod yX3_hookIn, Cond.selects RX3 yX3_hookIn yX3_hookIn, Cond.initialized RX3, Cond.code yX3_hookIn cX3_hookIn 3 none, Cond.fieldLink RX3 25 "NightSorters$Train" "minute" "I", Cond.static yX4_stationOf, Cond.initialized RX4, Cond.code yX4_stationOf cX4_stationOf 1 (some .int), Cond.methodLink RX3 123 yX2_end, Cond.instanceMethod yX2_end, Cond.selects RX2 yX2_end yX2_end, Cond.code yX2_end cX2_end 4 none, Cond.fieldLink RX2 28 "NightSorters$Mail" "endMinute" "[I"]
def wsX3_serve_r2 : List Cond := [Cond.methodLink RX2 37 yX2_move, Cond.instanceMethod yX2_move, Cond.selects RX2 yX2_move yX2_move, Cond.code yX2_move cX2_move 4 none, Cond.fieldLink RX2 31 "NightSorters$Mail" "inPlace" "[I", Cond.fieldLink RX2 34 "NightSorters$Mail" "inHole" "[I", Cond.fieldLink RX2 15 "NightSorters$Mail" "town" "[I", Cond.fieldLink RX2 25 "NightSorters$Mail" "holder" "[I", Cond.methodLink RX3 97 yX2_move, Cond.methodLink RX3 120 yX3_hookOut, Cond.instanceMethod yX3_hookOut, Cond.selects RX3 yX3_hookOut yX3_hookOut, Cond.code yX3_hookOut cX3_hookOut 4 none, Cond.fieldLink RX3 127 "NightSorters$Mail" "place" "[I", Cond.fieldLink RX3 130 "NightSorters$Mail" "holder" "[I", Cond.fieldLink RX3 21 "NightSorters$Train" "crew" "LNightSorters$Crew;", Cond.methodLink RX3 106 yX0_freeHands, Cond.instanceMethod yX0_freeHands, Cond.selects RX0 yX0_freeHands yX0_freeHands, Cond.initialized RX0, Cond.code yX0_freeHands cX0_freeHands 2 none, Cond.fieldLink RX0 28 "NightSorters$Crew" "held" "[I", Cond.fieldLink RX0 31 "NightSorters$Crew" "minutesLeft" "[I"]
def wsX3_serve : List Cond := .code yX3_serve cX3_serve 3 none :: ((wsX3_serve_r1 ++ wsX3_serve_r2) ++ wsX30 ++ wsX20 ++ wsX00)
def wsX3_shake_r1 : List Cond := [Cond.fieldLink RX3 21 "NightSorters$Train" "crew" "LNightSorters$Crew;", Cond.fieldLink RX3 12 "NightSorters$Train" "mail" "LNightSorters$Mail;", Cond.methodLink RX3 133 yX0_spillTea, Cond.instanceMethod yX0_spillTea, Cond.selects RX0 yX0_spillTea yX0_spillTea, Cond.initialized RX0, Cond.code yX0_spillTea cX0_spillTea 2 none, Cond.fieldLink RX0 9 "NightSorters$Crew" "size" "I", Cond.fieldLink RX0 25 "NightSorters$Crew" "withTea" "[I", Cond.methodLink RX3 136 yX2_fullestHole, Cond.instanceMethod yX2_fullestHole, Cond.selects RX2 yX2_fullestHole yX2_fullestHole, Cond.initialized RX2, Cond.code yX2_fullestHole cX2_fullestHole 3 (some .int), Cond.fieldLink RX2 34 "NightSorters$Mail" "inHole" "[I", Cond.methodLink RX3 140 yX2_spillHole, Cond.instanceMethod yX2_spillHole, Cond.selects RX2 yX2_spillHole yX2_spillHole, Cond.code yX2_spillHole cX2_spillHole 3 none, Cond.fieldLink RX2 9 "NightSorters$Mail" "size" "I", Cond.fieldLink RX2 22 "NightSorters$Mail" "place" "[I", Cond.fieldLink RX2 15 "NightSorters$Mail" "town" "[I", Cond.methodLink RX2 37 yX2_move, Cond.instanceMethod yX2_move]
def wsX3_shake_r2 : List Cond := [Cond.selects RX2 yX2_move yX2_move, Cond.code yX2_move cX2_move 4 none, Cond.fieldLink RX2 31 "NightSorters$Mail" "inPlace" "[I", Cond.fieldLink RX2 25 "NightSorters$Mail" "holder" "[I", Cond.methodLink RX3 143 yX0_tireAll, Cond.instanceMethod yX0_tireAll, Cond.selects RX0 yX0_tireAll yX0_tireAll, Cond.code yX0_tireAll cX0_tireAll 3 none, Cond.fieldLink RX0 22 "NightSorters$Crew" "tired" "[I"]
def wsX3_shake : List Cond := .code yX3_shake cX3_shake 2 none :: ((wsX3_shake_r1 ++ wsX3_shake_r2) ++ wsX30 ++ wsX00 ++ wsX20)
def wsX3_runMinute_r1 : List Cond := [Cond.fieldLink RX3 21 "NightSorters$Train" "crew" "LNightSorters$Crew;", Cond.fieldLink RX3 43 "NightSorters$Crew" "size" "I", Cond.fieldLink RX3 46 "NightSorters$Crew" "held" "[I", Cond.fieldLink RX3 29 "NightSorters$Train" "line" "LNightSorters$Line;", Cond.fieldLink RX3 25 "NightSorters$Train" "minute" "I", Cond.fieldLink RX3 66 "NightSorters$Line" "jolts" "[I", Cond.methodLink RX3 50 yX3_takeLetter, Cond.instanceMethod yX3_takeLetter, Cond.selects RX3 yX3_takeLetter yX3_takeLetter, Cond.initialized RX3, Cond.code yX3_takeLetter cX3_takeLetter 3 none, Cond.fieldLink RX3 12 "NightSorters$Train" "mail" "LNightSorters$Mail;", Cond.fieldLink RX3 72 "NightSorters$Crew" "towns" "[I", Cond.methodLink RX3 75 yX2_firstOnTable, Cond.instanceMethod yX2_firstOnTable, Cond.selects RX2 yX2_firstOnTable yX2_firstOnTable, Cond.initialized RX2, Cond.code yX2_firstOnTable cX2_firstOnTable 3 (some .int), Cond.fieldLink RX2 31 "NightSorters$Mail" "inPlace" "[I", Cond.fieldLink RX2 9 "NightSorters$Mail" "size" "I", Cond.fieldLink RX2 22 "NightSorters$Mail" "place" "[I", Cond.fieldLink RX2 15 "NightSorters$Mail" "town" "[I", Cond.static yX4_hasTown, Cond.initialized RX4]
def wsX3_runMinute_r2 : List Cond := [Cond.code yX4_hasTown cX4_hasTown 2 (some .boolean), Cond.methodLink RX3 78 yX2_moveToHands, Cond.instanceMethod yX2_moveToHands, Cond.selects RX2 yX2_moveToHands yX2_moveToHands, Cond.code yX2_moveToHands cX2_moveToHands 3 none, Cond.fieldLink RX2 25 "NightSorters$Mail" "holder" "[I", Cond.methodLink RX2 37 yX2_move, Cond.instanceMethod yX2_move, Cond.selects RX2 yX2_move yX2_move, Cond.code yX2_move cX2_move 4 none, Cond.fieldLink RX2 34 "NightSorters$Mail" "inHole" "[I", Cond.methodLink RX3 82 yX0_takeUp, Cond.instanceMethod yX0_takeUp, Cond.selects RX0 yX0_takeUp yX0_takeUp, Cond.initialized RX0, Cond.code yX0_takeUp cX0_takeUp 3 none, Cond.fieldLink RX0 28 "NightSorters$Crew" "held" "[I", Cond.fieldLink RX0 31 "NightSorters$Crew" "minutesLeft" "[I", Cond.methodLink RX0 37 yX0_minutesNeeded, Cond.instanceMethod yX0_minutesNeeded, Cond.selects RX0 yX0_minutesNeeded yX0_minutesNeeded, Cond.code yX0_minutesNeeded cX0_minutesNeeded 3 (some .int), Cond.fieldLink RX0 15 "NightSorters$Crew" "pace" "[I", Cond.fieldLink RX0 22 "NightSorters$Crew" "tired" "[I"]
def wsX3_runMinute_r3 : List Cond := [Cond.fieldLink RX0 25 "NightSorters$Crew" "withTea" "[I", Cond.methodLink RX3 54 yX3_workOn, Cond.instanceMethod yX3_workOn, Cond.selects RX3 yX3_workOn yX3_workOn, Cond.code yX3_workOn cX3_workOn 2 none, Cond.fieldLink RX3 85 "NightSorters$Crew" "minutesLeft" "[I", Cond.methodLink RX3 88 yX3_putLetter, Cond.instanceMethod yX3_putLetter, Cond.selects RX3 yX3_putLetter yX3_putLetter, Cond.code yX3_putLetter cX3_putLetter 3 none, Cond.fieldLink RX3 91 "NightSorters$Mail" "inHole" "[I", Cond.fieldLink RX3 94 "NightSorters$Mail" "town" "[I", Cond.fieldLink RX3 100 "NightSorters$Crew" "sorted" "[I", Cond.fieldLink RX3 103 "NightSorters$Crew" "tired" "[I", Cond.methodLink RX3 97 yX2_move, Cond.methodLink RX3 106 yX0_freeHands, Cond.instanceMethod yX0_freeHands, Cond.selects RX0 yX0_freeHands yX0_freeHands, Cond.code yX0_freeHands cX0_freeHands 2 none, Cond.methodLink RX3 57 yX1_passedIn, Cond.instanceMethod yX1_passedIn, Cond.selects RX1 yX1_passedIn yX1_passedIn, Cond.initialized RX1, Cond.code yX1_passedIn cX1_passedIn 3 (some .int)]
def wsX3_runMinute_r4 : List Cond := [Cond.fieldLink RX1 9 "NightSorters$Line" "minutes" "[I", Cond.methodLink RX3 63 yX3_serve, Cond.instanceMethod yX3_serve, Cond.selects RX3 yX3_serve yX3_serve, Cond.code yX3_serve cX3_serve 3 none, Cond.fieldLink RX3 109 "NightSorters$Mail" "size" "I", Cond.methodLink RX3 110 yX2_isInBag, Cond.instanceMethod yX2_isInBag, Cond.selects RX2 yX2_isInBag yX2_isInBag, Cond.code yX2_isInBag cX2_isInBag 3 (some .boolean), Cond.fieldLink RX2 19 "NightSorters$Mail" "postedAt" "[I", Cond.methodLink RX3 114 yX3_hookIn, Cond.instanceMethod yX3_hookIn, Cond.selects RX3 yX3_hookIn yX3_hookIn, Cond.code yX3_hookIn cX3_hookIn 3 none, Cond.static yX4_stationOf, Cond.code yX4_stationOf cX4_stationOf 1 (some .int), Cond.methodLink RX3 123 yX2_end, Cond.instanceMethod yX2_end, Cond.selects RX2 yX2_end yX2_end, Cond.code yX2_end cX2_end 4 none, Cond.fieldLink RX2 28 "NightSorters$Mail" "endMinute" "[I", Cond.methodLink RX3 120 yX3_hookOut, Cond.instanceMethod yX3_hookOut]
def wsX3_runMinute_r5 : List Cond := [Cond.selects RX3 yX3_hookOut yX3_hookOut, Cond.code yX3_hookOut cX3_hookOut 4 none, Cond.fieldLink RX3 127 "NightSorters$Mail" "place" "[I", Cond.fieldLink RX3 130 "NightSorters$Mail" "holder" "[I", Cond.methodLink RX3 69 yX3_shake, Cond.instanceMethod yX3_shake, Cond.selects RX3 yX3_shake yX3_shake, Cond.code yX3_shake cX3_shake 2 none, Cond.methodLink RX3 133 yX0_spillTea, Cond.instanceMethod yX0_spillTea, Cond.selects RX0 yX0_spillTea yX0_spillTea, Cond.code yX0_spillTea cX0_spillTea 2 none, Cond.fieldLink RX0 9 "NightSorters$Crew" "size" "I", Cond.methodLink RX3 136 yX2_fullestHole, Cond.instanceMethod yX2_fullestHole, Cond.selects RX2 yX2_fullestHole yX2_fullestHole, Cond.code yX2_fullestHole cX2_fullestHole 3 (some .int), Cond.methodLink RX3 140 yX2_spillHole, Cond.instanceMethod yX2_spillHole, Cond.selects RX2 yX2_spillHole yX2_spillHole, Cond.code yX2_spillHole cX2_spillHole 3 none, Cond.methodLink RX3 143 yX0_tireAll, Cond.instanceMethod yX0_tireAll, Cond.selects RX0 yX0_tireAll yX0_tireAll]
def wsX3_runMinute_r6 : List Cond := [Cond.code yX0_tireAll cX0_tireAll 3 none]
def wsX3_runMinute : List Cond := .code yX3_runMinute cX3_runMinute 3 none :: ((wsX3_runMinute_r1 ++ (wsX3_runMinute_r2 ++ (wsX3_runMinute_r3 ++ (wsX3_runMinute_r4 ++ (wsX3_runMinute_r5 ++ wsX3_runMinute_r6))))) ++ wsX30 ++ wsX00 ++ wsX10 ++ wsX20)
def wsX3_run_r1 : List Cond := [Cond.methodLink RX3 40 yX3_runMinute, Cond.instanceMethod yX3_runMinute, Cond.selects RX3 yX3_runMinute yX3_runMinute, Cond.initialized RX3, Cond.code yX3_runMinute cX3_runMinute 3 none, Cond.fieldLink RX3 21 "NightSorters$Train" "crew" "LNightSorters$Crew;", Cond.fieldLink RX3 43 "NightSorters$Crew" "size" "I", Cond.fieldLink RX3 46 "NightSorters$Crew" "held" "[I", Cond.fieldLink RX3 29 "NightSorters$Train" "line" "LNightSorters$Line;", Cond.fieldLink RX3 25 "NightSorters$Train" "minute" "I", Cond.fieldLink RX3 66 "NightSorters$Line" "jolts" "[I", Cond.methodLink RX3 50 yX3_takeLetter, Cond.instanceMethod yX3_takeLetter, Cond.selects RX3 yX3_takeLetter yX3_takeLetter, Cond.code yX3_takeLetter cX3_takeLetter 3 none, Cond.fieldLink RX3 12 "NightSorters$Train" "mail" "LNightSorters$Mail;", Cond.fieldLink RX3 72 "NightSorters$Crew" "towns" "[I", Cond.methodLink RX3 75 yX2_firstOnTable, Cond.instanceMethod yX2_firstOnTable, Cond.selects RX2 yX2_firstOnTable yX2_firstOnTable, Cond.initialized RX2, Cond.code yX2_firstOnTable cX2_firstOnTable 3 (some .int), Cond.fieldLink RX2 31 "NightSorters$Mail" "inPlace" "[I", Cond.fieldLink RX2 9 "NightSorters$Mail" "size" "I"]
def wsX3_run_r2 : List Cond := [Cond.fieldLink RX2 22 "NightSorters$Mail" "place" "[I", Cond.fieldLink RX2 15 "NightSorters$Mail" "town" "[I", Cond.static yX4_hasTown, Cond.initialized RX4, Cond.code yX4_hasTown cX4_hasTown 2 (some .boolean), Cond.methodLink RX3 78 yX2_moveToHands, Cond.instanceMethod yX2_moveToHands, Cond.selects RX2 yX2_moveToHands yX2_moveToHands, Cond.code yX2_moveToHands cX2_moveToHands 3 none, Cond.fieldLink RX2 25 "NightSorters$Mail" "holder" "[I", Cond.methodLink RX2 37 yX2_move, Cond.instanceMethod yX2_move, Cond.selects RX2 yX2_move yX2_move, Cond.code yX2_move cX2_move 4 none, Cond.fieldLink RX2 34 "NightSorters$Mail" "inHole" "[I", Cond.methodLink RX3 82 yX0_takeUp, Cond.instanceMethod yX0_takeUp, Cond.selects RX0 yX0_takeUp yX0_takeUp, Cond.initialized RX0, Cond.code yX0_takeUp cX0_takeUp 3 none, Cond.fieldLink RX0 28 "NightSorters$Crew" "held" "[I", Cond.fieldLink RX0 31 "NightSorters$Crew" "minutesLeft" "[I", Cond.methodLink RX0 37 yX0_minutesNeeded, Cond.instanceMethod yX0_minutesNeeded]
def wsX3_run_r3 : List Cond := [Cond.selects RX0 yX0_minutesNeeded yX0_minutesNeeded, Cond.code yX0_minutesNeeded cX0_minutesNeeded 3 (some .int), Cond.fieldLink RX0 15 "NightSorters$Crew" "pace" "[I", Cond.fieldLink RX0 22 "NightSorters$Crew" "tired" "[I", Cond.fieldLink RX0 25 "NightSorters$Crew" "withTea" "[I", Cond.methodLink RX3 54 yX3_workOn, Cond.instanceMethod yX3_workOn, Cond.selects RX3 yX3_workOn yX3_workOn, Cond.code yX3_workOn cX3_workOn 2 none, Cond.fieldLink RX3 85 "NightSorters$Crew" "minutesLeft" "[I", Cond.methodLink RX3 88 yX3_putLetter, Cond.instanceMethod yX3_putLetter, Cond.selects RX3 yX3_putLetter yX3_putLetter, Cond.code yX3_putLetter cX3_putLetter 3 none, Cond.fieldLink RX3 91 "NightSorters$Mail" "inHole" "[I", Cond.fieldLink RX3 94 "NightSorters$Mail" "town" "[I", Cond.fieldLink RX3 100 "NightSorters$Crew" "sorted" "[I", Cond.fieldLink RX3 103 "NightSorters$Crew" "tired" "[I", Cond.methodLink RX3 97 yX2_move, Cond.methodLink RX3 106 yX0_freeHands, Cond.instanceMethod yX0_freeHands, Cond.selects RX0 yX0_freeHands yX0_freeHands, Cond.code yX0_freeHands cX0_freeHands 2 none, Cond.methodLink RX3 57 yX1_passedIn]
def wsX3_run_r4 : List Cond := [Cond.instanceMethod yX1_passedIn, Cond.selects RX1 yX1_passedIn yX1_passedIn, Cond.initialized RX1, Cond.code yX1_passedIn cX1_passedIn 3 (some .int), Cond.fieldLink RX1 9 "NightSorters$Line" "minutes" "[I", Cond.methodLink RX3 63 yX3_serve, Cond.instanceMethod yX3_serve, Cond.selects RX3 yX3_serve yX3_serve, Cond.code yX3_serve cX3_serve 3 none, Cond.fieldLink RX3 109 "NightSorters$Mail" "size" "I", Cond.methodLink RX3 110 yX2_isInBag, Cond.instanceMethod yX2_isInBag, Cond.selects RX2 yX2_isInBag yX2_isInBag, Cond.code yX2_isInBag cX2_isInBag 3 (some .boolean), Cond.fieldLink RX2 19 "NightSorters$Mail" "postedAt" "[I", Cond.methodLink RX3 114 yX3_hookIn, Cond.instanceMethod yX3_hookIn, Cond.selects RX3 yX3_hookIn yX3_hookIn, Cond.code yX3_hookIn cX3_hookIn 3 none, Cond.static yX4_stationOf, Cond.code yX4_stationOf cX4_stationOf 1 (some .int), Cond.methodLink RX3 123 yX2_end, Cond.instanceMethod yX2_end, Cond.selects RX2 yX2_end yX2_end]
def wsX3_run_r5 : List Cond := [Cond.code yX2_end cX2_end 4 none, Cond.fieldLink RX2 28 "NightSorters$Mail" "endMinute" "[I", Cond.methodLink RX3 120 yX3_hookOut, Cond.instanceMethod yX3_hookOut, Cond.selects RX3 yX3_hookOut yX3_hookOut, Cond.code yX3_hookOut cX3_hookOut 4 none, Cond.fieldLink RX3 127 "NightSorters$Mail" "place" "[I", Cond.fieldLink RX3 130 "NightSorters$Mail" "holder" "[I", Cond.methodLink RX3 69 yX3_shake, Cond.instanceMethod yX3_shake, Cond.selects RX3 yX3_shake yX3_shake, Cond.code yX3_shake cX3_shake 2 none, Cond.methodLink RX3 133 yX0_spillTea, Cond.instanceMethod yX0_spillTea, Cond.selects RX0 yX0_spillTea yX0_spillTea, Cond.code yX0_spillTea cX0_spillTea 2 none, Cond.fieldLink RX0 9 "NightSorters$Crew" "size" "I", Cond.methodLink RX3 136 yX2_fullestHole, Cond.instanceMethod yX2_fullestHole, Cond.selects RX2 yX2_fullestHole yX2_fullestHole, Cond.code yX2_fullestHole cX2_fullestHole 3 (some .int), Cond.methodLink RX3 140 yX2_spillHole, Cond.instanceMethod yX2_spillHole, Cond.selects RX2 yX2_spillHole yX2_spillHole]
def wsX3_run_r6 : List Cond := [Cond.code yX2_spillHole cX2_spillHole 3 none, Cond.methodLink RX3 143 yX0_tireAll, Cond.instanceMethod yX0_tireAll, Cond.selects RX0 yX0_tireAll yX0_tireAll, Cond.code yX0_tireAll cX0_tireAll 3 none]
def wsX3_run : List Cond := .code yX3_run cX3_run 3 none :: ((wsX3_run_r1 ++ (wsX3_run_r2 ++ (wsX3_run_r3 ++ (wsX3_run_r4 ++ (wsX3_run_r5 ++ wsX3_run_r6))))) ++ wsX30 ++ wsX00 ++ wsX10 ++ wsX20)
def wsX4_init_r1 : List Cond := [Cond.methodLink RX4 3 objectInit, Cond.instanceMethod objectInit, Cond.code objectInit ⟨#[0xb1]⟩ 1 none, Cond.classLink RX4 9 RX1, Cond.instantiable RX1 2, Cond.initialized RX1, Cond.classLink RX4 12 RX3, Cond.instantiable RX3 4, Cond.initialized RX3, Cond.fieldLink RX4 17 "NightSorters" "train" "LNightSorters$Train;", Cond.fieldLink RX4 21 "NightSorters" "trial" "LNightSorters$Train;", Cond.methodLink RX4 11 yX1_init, Cond.instanceMethod yX1_init, Cond.code yX1_init cX1_init 2 none, Cond.methodLink RX1 3 objectInit, Cond.arrayClass .int, Cond.fieldLink RX1 9 "NightSorters$Line" "minutes" "[I", Cond.fieldLink RX1 15 "NightSorters$Line" "jolts" "[I", Cond.methodLink RX4 14 yX3_init, Cond.instanceMethod yX3_init, Cond.code yX3_init cX3_init 2 none, Cond.methodLink RX3 3 objectInit, Cond.classLink RX3 9 RX2, Cond.instantiable RX2 8]
def wsX4_init_r2 : List Cond := [Cond.initialized RX2, Cond.fieldLink RX3 12 "NightSorters$Train" "mail" "LNightSorters$Mail;", Cond.classLink RX3 18 RX0, Cond.instantiable RX0 8, Cond.initialized RX0, Cond.fieldLink RX3 21 "NightSorters$Train" "crew" "LNightSorters$Crew;", Cond.fieldLink RX3 25 "NightSorters$Train" "minute" "I", Cond.fieldLink RX3 29 "NightSorters$Train" "line" "LNightSorters$Line;", Cond.instanceMethod yX2_init, Cond.code yX2_init cX2_init 1 none, Cond.methodLink RX2 3 objectInit, Cond.fieldLink RX2 9 "NightSorters$Mail" "size" "I", Cond.fieldLink RX2 15 "NightSorters$Mail" "town" "[I", Cond.fieldLink RX2 19 "NightSorters$Mail" "postedAt" "[I", Cond.fieldLink RX2 22 "NightSorters$Mail" "place" "[I", Cond.fieldLink RX2 25 "NightSorters$Mail" "holder" "[I", Cond.fieldLink RX2 28 "NightSorters$Mail" "endMinute" "[I", Cond.fieldLink RX2 31 "NightSorters$Mail" "inPlace" "[I", Cond.fieldLink RX2 34 "NightSorters$Mail" "inHole" "[I", Cond.instanceMethod yX0_init, Cond.code yX0_init cX0_init 1 none, Cond.methodLink RX0 3 objectInit, Cond.fieldLink RX0 9 "NightSorters$Crew" "size" "I", Cond.fieldLink RX0 15 "NightSorters$Crew" "pace" "[I"]
def wsX4_init_r3 : List Cond := [Cond.fieldLink RX0 19 "NightSorters$Crew" "towns" "[I", Cond.fieldLink RX0 22 "NightSorters$Crew" "tired" "[I", Cond.fieldLink RX0 25 "NightSorters$Crew" "withTea" "[I", Cond.fieldLink RX0 28 "NightSorters$Crew" "held" "[I", Cond.fieldLink RX0 31 "NightSorters$Crew" "minutesLeft" "[I", Cond.fieldLink RX0 34 "NightSorters$Crew" "sorted" "[I"]
def wsX4_init : List Cond := .code yX4_init cX4_init 2 none :: ((wsX4_init_r1 ++ (wsX4_init_r2 ++ wsX4_init_r3)) ++ wsX10 ++ wsX30 ++ wsX40 ++ wsX20 ++ wsX00)
def wsX4_checkIndex : List Cond := .code yX4_checkIndex cX4_checkIndex 2 none :: ([.classLink RX4 126 "java/lang/IndexOutOfBoundsException", .initialized "java/lang/IndexOutOfBoundsException"] ++ (vx_atS RX4 130 "java/lang/IndexOutOfBoundsException" ["java/lang/RuntimeException", "java/lang/Exception"]).filter goodWord)
def wsX4_checkArgument : List Cond := .code yX4_checkArgument cX4_checkArgument 3 none :: ([.classLink RX4 159 "java/lang/IllegalArgumentException", .initialized "java/lang/IllegalArgumentException"] ++ (vx_atS RX4 163 "java/lang/IllegalArgumentException" ["java/lang/RuntimeException", "java/lang/Exception"]).filter goodWord)
def wsX4_setStation : List Cond := .code yX4_setStation cX4_setStation 6 (some .int) :: ([.classLink RX4 48 "java/lang/IllegalStateException", .initialized "java/lang/IllegalStateException", .fieldLink RX4 17 "NightSorters" "train" "LNightSorters$Train;", .fieldLink RX4 32 "NightSorters$Train" "line" "LNightSorters$Line;", .fieldLink RX4 36 "NightSorters$Train" "minute" "I", .fieldLink RX4 40 "NightSorters$Line" "minutes" "[I", .fieldLink RX4 55 "NightSorters$Line" "jolts" "[I", .methodLink RX4 24 yX4_checkIndex, .static yX4_checkIndex, .initialized RX4, .code yX4_checkIndex cX4_checkIndex 2 none, .classLink RX4 126 "java/lang/IndexOutOfBoundsException", .initialized "java/lang/IndexOutOfBoundsException", .methodLink RX4 28 yX4_checkArgument, .static yX4_checkArgument, .code yX4_checkArgument cX4_checkArgument 3 none, .classLink RX4 159 "java/lang/IllegalArgumentException", .initialized "java/lang/IllegalArgumentException", .methodLink RX4 44 yX1_wouldRise, .instanceMethod yX1_wouldRise, .selects RX1 yX1_wouldRise yX1_wouldRise, .initialized RX1, .code yX1_wouldRise cX1_wouldRise 5 (some .boolean), .fieldLink RX1 9 "NightSorters$Line" "minutes" "[I"] ++ wsX40 ++ wsX30 ++ wsX10 ++ (vx_atS RX4 52 "java/lang/IllegalStateException" ["java/lang/RuntimeException", "java/lang/Exception"]).filter goodWord ++ (vx_atS RX4 130 "java/lang/IndexOutOfBoundsException" ["java/lang/RuntimeException", "java/lang/Exception"]).filter goodWord ++ (vx_atS RX4 163 "java/lang/IllegalArgumentException" ["java/lang/RuntimeException", "java/lang/Exception"]).filter goodWord)
def wsX4_post : List Cond := .code yX4_post cX4_post 3 (some .int) :: ([.classLink RX4 48 "java/lang/IllegalStateException", .initialized "java/lang/IllegalStateException", .fieldLink RX4 17 "NightSorters" "train" "LNightSorters$Train;", .fieldLink RX4 58 "NightSorters$Train" "mail" "LNightSorters$Mail;", .fieldLink RX4 62 "NightSorters$Mail" "size" "I", .methodLink RX4 24 yX4_checkIndex, .static yX4_checkIndex, .initialized RX4, .code yX4_checkIndex cX4_checkIndex 2 none, .classLink RX4 126 "java/lang/IndexOutOfBoundsException", .initialized "java/lang/IndexOutOfBoundsException", .methodLink RX4 69 yX2_addToBag, .instanceMethod yX2_addToBag, .selects RX2 yX2_addToBag yX2_addToBag, .initialized RX2, .code yX2_addToBag cX2_addToBag 4 (some .int), .fieldLink RX2 9 "NightSorters$Mail" "size" "I", .fieldLink RX2 15 "NightSorters$Mail" "town" "[I", .fieldLink RX2 19 "NightSorters$Mail" "postedAt" "[I", .fieldLink RX2 22 "NightSorters$Mail" "place" "[I", .fieldLink RX2 25 "NightSorters$Mail" "holder" "[I", .fieldLink RX2 28 "NightSorters$Mail" "endMinute" "[I", .fieldLink RX2 31 "NightSorters$Mail" "inPlace" "[I"] ++ wsX40 ++ wsX30 ++ wsX20 ++ (vx_atS RX4 52 "java/lang/IllegalStateException" ["java/lang/RuntimeException", "java/lang/Exception"]).filter goodWord ++ (vx_atS RX4 130 "java/lang/IndexOutOfBoundsException" ["java/lang/RuntimeException", "java/lang/Exception"]).filter goodWord)
def wsX4_hire : List Cond := .code yX4_hire cX4_hire 3 (some .int) :: ([.classLink RX4 48 "java/lang/IllegalStateException", .initialized "java/lang/IllegalStateException", .constant RX4 73 (65535), .fieldLink RX4 17 "NightSorters" "train" "LNightSorters$Train;", .fieldLink RX4 74 "NightSorters$Train" "crew" "LNightSorters$Crew;", .fieldLink RX4 78 "NightSorters$Crew" "size" "I", .methodLink RX4 28 yX4_checkArgument, .static yX4_checkArgument, .initialized RX4, .code yX4_checkArgument cX4_checkArgument 3 none, .classLink RX4 159 "java/lang/IllegalArgumentException", .initialized "java/lang/IllegalArgumentException", .methodLink RX4 83 yX0_add, .instanceMethod yX0_add, .selects RX0 yX0_add yX0_add, .initialized RX0, .code yX0_add cX0_add 4 (some .int), .fieldLink RX0 9 "NightSorters$Crew" "size" "I", .fieldLink RX0 15 "NightSorters$Crew" "pace" "[I", .fieldLink RX0 19 "NightSorters$Crew" "towns" "[I", .fieldLink RX0 28 "NightSorters$Crew" "held" "[I"] ++ wsX40 ++ wsX30 ++ wsX00 ++ (vx_atS RX4 52 "java/lang/IllegalStateException" ["java/lang/RuntimeException", "java/lang/Exception"]).filter goodWord ++ (vx_atS RX4 163 "java/lang/IllegalArgumentException" ["java/lang/RuntimeException", "java/lang/Exception"]).filter goodWord)
def wsX4_assign : List Cond := .code yX4_assign cX4_assign 4 (some .int) :: ([.fieldLink RX4 17 "NightSorters" "train" "LNightSorters$Train;", .fieldLink RX4 74 "NightSorters$Train" "crew" "LNightSorters$Crew;", .fieldLink RX4 78 "NightSorters$Crew" "size" "I", .constant RX4 73 (65535), .fieldLink RX4 86 "NightSorters$Crew" "towns" "[I", .methodLink RX4 24 yX4_checkIndex, .static yX4_checkIndex, .initialized RX4, .code yX4_checkIndex cX4_checkIndex 2 none, .classLink RX4 126 "java/lang/IndexOutOfBoundsException", .initialized "java/lang/IndexOutOfBoundsException", .methodLink RX4 28 yX4_checkArgument, .static yX4_checkArgument, .code yX4_checkArgument cX4_checkArgument 3 none, .classLink RX4 159 "java/lang/IllegalArgumentException", .initialized "java/lang/IllegalArgumentException"] ++ wsX40 ++ wsX30 ++ wsX00 ++ (vx_atS RX4 130 "java/lang/IndexOutOfBoundsException" ["java/lang/RuntimeException", "java/lang/Exception"]).filter goodWord ++ (vx_atS RX4 163 "java/lang/IllegalArgumentException" ["java/lang/RuntimeException", "java/lang/Exception"]).filter goodWord)
def wsX4_tea : List Cond := .code yX4_tea cX4_tea 3 (some .int) :: ([.fieldLink RX4 17 "NightSorters" "train" "LNightSorters$Train;", .fieldLink RX4 74 "NightSorters$Train" "crew" "LNightSorters$Crew;", .fieldLink RX4 78 "NightSorters$Crew" "size" "I", .fieldLink RX4 89 "NightSorters$Crew" "tired" "[I", .fieldLink RX4 92 "NightSorters$Crew" "withTea" "[I", .methodLink RX4 24 yX4_checkIndex, .static yX4_checkIndex, .initialized RX4, .code yX4_checkIndex cX4_checkIndex 2 none, .classLink RX4 126 "java/lang/IndexOutOfBoundsException", .initialized "java/lang/IndexOutOfBoundsException"] ++ wsX40 ++ wsX30 ++ wsX00 ++ (vx_atS RX4 130 "java/lang/IndexOutOfBoundsException" ["java/lang/RuntimeException", "java/lang/Exception"]).filter goodWord)
def wsX4_letter : List Cond := .code yX4_letter cX4_letter 3 (some .int) :: ([.fieldLink RX4 17 "NightSorters" "train" "LNightSorters$Train;", .fieldLink RX4 58 "NightSorters$Train" "mail" "LNightSorters$Mail;", .fieldLink RX4 62 "NightSorters$Mail" "size" "I", .methodLink RX4 24 yX4_checkIndex, .static yX4_checkIndex, .initialized RX4, .code yX4_checkIndex cX4_checkIndex 2 none, .classLink RX4 126 "java/lang/IndexOutOfBoundsException", .initialized "java/lang/IndexOutOfBoundsException", .methodLink RX4 95 yX2_fact, .instanceMethod yX2_fact, .selects RX2 yX2_fact yX2_fact, .initialized RX2, .code yX2_fact cX2_fact 3 (some .int), .fieldLink RX2 22 "NightSorters$Mail" "place" "[I", .fieldLink RX2 15 "NightSorters$Mail" "town" "[I", .fieldLink RX2 19 "NightSorters$Mail" "postedAt" "[I", .fieldLink RX2 25 "NightSorters$Mail" "holder" "[I", .fieldLink RX2 28 "NightSorters$Mail" "endMinute" "[I"] ++ wsX40 ++ wsX30 ++ wsX20 ++ (vx_atS RX4 130 "java/lang/IndexOutOfBoundsException" ["java/lang/RuntimeException", "java/lang/Exception"]).filter goodWord)
def wsX4_sorter : List Cond := .code yX4_sorter cX4_sorter 3 (some .int) :: ([.fieldLink RX4 17 "NightSorters" "train" "LNightSorters$Train;", .fieldLink RX4 74 "NightSorters$Train" "crew" "LNightSorters$Crew;", .fieldLink RX4 78 "NightSorters$Crew" "size" "I", .methodLink RX4 24 yX4_checkIndex, .static yX4_checkIndex, .initialized RX4, .code yX4_checkIndex cX4_checkIndex 2 none, .classLink RX4 126 "java/lang/IndexOutOfBoundsException", .initialized "java/lang/IndexOutOfBoundsException", .methodLink RX4 98 yX0_fact, .instanceMethod yX0_fact, .selects RX0 yX0_fact yX0_fact, .initialized RX0, .code yX0_fact cX0_fact 3 (some .int), .fieldLink RX0 15 "NightSorters$Crew" "pace" "[I", .fieldLink RX0 19 "NightSorters$Crew" "towns" "[I", .fieldLink RX0 22 "NightSorters$Crew" "tired" "[I", .fieldLink RX0 25 "NightSorters$Crew" "withTea" "[I", .fieldLink RX0 28 "NightSorters$Crew" "held" "[I", .fieldLink RX0 31 "NightSorters$Crew" "minutesLeft" "[I", .fieldLink RX0 34 "NightSorters$Crew" "sorted" "[I"] ++ wsX40 ++ wsX30 ++ wsX00 ++ (vx_atS RX4 130 "java/lang/IndexOutOfBoundsException" ["java/lang/RuntimeException", "java/lang/Exception"]).filter goodWord)
def wsX4_hole : List Cond := .code yX4_hole cX4_hole 2 (some .int) :: ([.fieldLink RX4 17 "NightSorters" "train" "LNightSorters$Train;", .fieldLink RX4 58 "NightSorters$Train" "mail" "LNightSorters$Mail;", .fieldLink RX4 99 "NightSorters$Mail" "inHole" "[I", .methodLink RX4 24 yX4_checkIndex, .static yX4_checkIndex, .initialized RX4, .code yX4_checkIndex cX4_checkIndex 2 none, .classLink RX4 126 "java/lang/IndexOutOfBoundsException", .initialized "java/lang/IndexOutOfBoundsException"] ++ wsX40 ++ wsX30 ++ wsX20 ++ (vx_atS RX4 130 "java/lang/IndexOutOfBoundsException" ["java/lang/RuntimeException", "java/lang/Exception"]).filter goodWord)
def wsX4_station : List Cond := .code yX4_station cX4_station 3 (some .int) :: ([.fieldLink RX4 17 "NightSorters" "train" "LNightSorters$Train;", .fieldLink RX4 32 "NightSorters$Train" "line" "LNightSorters$Line;", .fieldLink RX4 40 "NightSorters$Line" "minutes" "[I", .fieldLink RX4 55 "NightSorters$Line" "jolts" "[I", .fieldLink RX4 58 "NightSorters$Train" "mail" "LNightSorters$Mail;", .methodLink RX4 24 yX4_checkIndex, .static yX4_checkIndex, .initialized RX4, .code yX4_checkIndex cX4_checkIndex 2 none, .classLink RX4 126 "java/lang/IndexOutOfBoundsException", .initialized "java/lang/IndexOutOfBoundsException", .methodLink RX4 102 yX2_lettersInBag, .instanceMethod yX2_lettersInBag, .selects RX2 yX2_lettersInBag yX2_lettersInBag, .initialized RX2, .code yX2_lettersInBag cX2_lettersInBag 4 (some .int), .fieldLink RX2 9 "NightSorters$Mail" "size" "I", .methodLink RX2 45 yX2_isInBag, .instanceMethod yX2_isInBag, .selects RX2 yX2_isInBag yX2_isInBag, .code yX2_isInBag cX2_isInBag 3 (some .boolean), .fieldLink RX2 22 "NightSorters$Mail" "place" "[I", .fieldLink RX2 19 "NightSorters$Mail" "postedAt" "[I"] ++ wsX40 ++ wsX30 ++ wsX10 ++ wsX20 ++ (vx_atS RX4 130 "java/lang/IndexOutOfBoundsException" ["java/lang/RuntimeException", "java/lang/Exception"]).filter goodWord)
def wsX4_count : List Cond := .code yX4_count cX4_count 2 (some .int) :: ([.fieldLink RX4 17 "NightSorters" "train" "LNightSorters$Train;", .fieldLink RX4 36 "NightSorters$Train" "minute" "I", .fieldLink RX4 58 "NightSorters$Train" "mail" "LNightSorters$Mail;", .fieldLink RX4 62 "NightSorters$Mail" "size" "I", .fieldLink RX4 74 "NightSorters$Train" "crew" "LNightSorters$Crew;", .fieldLink RX4 78 "NightSorters$Crew" "size" "I", .fieldLink RX4 32 "NightSorters$Train" "line" "LNightSorters$Line;", .fieldLink RX4 109 "NightSorters$Mail" "inPlace" "[I", .methodLink RX4 24 yX4_checkIndex, .static yX4_checkIndex, .initialized RX4, .code yX4_checkIndex cX4_checkIndex 2 none, .classLink RX4 126 "java/lang/IndexOutOfBoundsException", .initialized "java/lang/IndexOutOfBoundsException", .methodLink RX4 106 yX1_nextFrom, .instanceMethod yX1_nextFrom, .selects RX1 yX1_nextFrom yX1_nextFrom, .initialized RX1, .code yX1_nextFrom cX1_nextFrom 3 (some .int), .fieldLink RX1 9 "NightSorters$Line" "minutes" "[I"] ++ wsX40 ++ wsX30 ++ wsX20 ++ wsX00 ++ wsX10 ++ (vx_atS RX4 130 "java/lang/IndexOutOfBoundsException" ["java/lang/RuntimeException", "java/lang/Exception"]).filter goodWord)
def wsX4_pass_r1 : List Cond := [Cond.fieldLink RX4 17 "NightSorters" "train" "LNightSorters$Train;", Cond.fieldLink RX4 58 "NightSorters$Train" "mail" "LNightSorters$Mail;", Cond.fieldLink RX4 109 "NightSorters$Mail" "inPlace" "[I", Cond.methodLink RX4 28 yX4_checkArgument, Cond.static yX4_checkArgument, Cond.initialized RX4, Cond.code yX4_checkArgument cX4_checkArgument 3 none, Cond.classLink RX4 159 "java/lang/IllegalArgumentException", Cond.initialized "java/lang/IllegalArgumentException", Cond.methodLink RX4 112 yX3_run, Cond.instanceMethod yX3_run, Cond.selects RX3 yX3_run yX3_run, Cond.initialized RX3, Cond.code yX3_run cX3_run 3 none, Cond.methodLink RX3 40 yX3_runMinute, Cond.instanceMethod yX3_runMinute, Cond.selects RX3 yX3_runMinute yX3_runMinute, Cond.code yX3_runMinute cX3_runMinute 3 none, Cond.fieldLink RX3 21 "NightSorters$Train" "crew" "LNightSorters$Crew;", Cond.fieldLink RX3 43 "NightSorters$Crew" "size" "I", Cond.fieldLink RX3 46 "NightSorters$Crew" "held" "[I", Cond.fieldLink RX3 29 "NightSorters$Train" "line" "LNightSorters$Line;", Cond.fieldLink RX3 25 "NightSorters$Train" "minute" "I", Cond.fieldLink RX3 66 "NightSorters$Line" "jolts" "[I"]
def wsX4_pass_r2 : List Cond := [Cond.methodLink RX3 50 yX3_takeLetter, Cond.instanceMethod yX3_takeLetter, Cond.selects RX3 yX3_takeLetter yX3_takeLetter, Cond.code yX3_takeLetter cX3_takeLetter 3 none, Cond.fieldLink RX3 12 "NightSorters$Train" "mail" "LNightSorters$Mail;", Cond.fieldLink RX3 72 "NightSorters$Crew" "towns" "[I", Cond.methodLink RX3 75 yX2_firstOnTable, Cond.instanceMethod yX2_firstOnTable, Cond.selects RX2 yX2_firstOnTable yX2_firstOnTable, Cond.initialized RX2, Cond.code yX2_firstOnTable cX2_firstOnTable 3 (some .int), Cond.fieldLink RX2 31 "NightSorters$Mail" "inPlace" "[I", Cond.fieldLink RX2 9 "NightSorters$Mail" "size" "I", Cond.fieldLink RX2 22 "NightSorters$Mail" "place" "[I", Cond.fieldLink RX2 15 "NightSorters$Mail" "town" "[I", Cond.static yX4_hasTown, Cond.code yX4_hasTown cX4_hasTown 2 (some .boolean), Cond.methodLink RX3 78 yX2_moveToHands, Cond.instanceMethod yX2_moveToHands, Cond.selects RX2 yX2_moveToHands yX2_moveToHands, Cond.code yX2_moveToHands cX2_moveToHands 3 none, Cond.fieldLink RX2 25 "NightSorters$Mail" "holder" "[I", Cond.methodLink RX2 37 yX2_move, Cond.instanceMethod yX2_move]
def wsX4_pass_r3 : List Cond := [Cond.selects RX2 yX2_move yX2_move, Cond.code yX2_move cX2_move 4 none, Cond.fieldLink RX2 34 "NightSorters$Mail" "inHole" "[I", Cond.methodLink RX3 82 yX0_takeUp, Cond.instanceMethod yX0_takeUp, Cond.selects RX0 yX0_takeUp yX0_takeUp, Cond.initialized RX0, Cond.code yX0_takeUp cX0_takeUp 3 none, Cond.fieldLink RX0 28 "NightSorters$Crew" "held" "[I", Cond.fieldLink RX0 31 "NightSorters$Crew" "minutesLeft" "[I", Cond.methodLink RX0 37 yX0_minutesNeeded, Cond.instanceMethod yX0_minutesNeeded, Cond.selects RX0 yX0_minutesNeeded yX0_minutesNeeded, Cond.code yX0_minutesNeeded cX0_minutesNeeded 3 (some .int), Cond.fieldLink RX0 15 "NightSorters$Crew" "pace" "[I", Cond.fieldLink RX0 22 "NightSorters$Crew" "tired" "[I", Cond.fieldLink RX0 25 "NightSorters$Crew" "withTea" "[I", Cond.methodLink RX3 54 yX3_workOn, Cond.instanceMethod yX3_workOn, Cond.selects RX3 yX3_workOn yX3_workOn, Cond.code yX3_workOn cX3_workOn 2 none, Cond.fieldLink RX3 85 "NightSorters$Crew" "minutesLeft" "[I", Cond.methodLink RX3 88 yX3_putLetter, Cond.instanceMethod yX3_putLetter]
def wsX4_pass_r4 : List Cond := [Cond.selects RX3 yX3_putLetter yX3_putLetter, Cond.code yX3_putLetter cX3_putLetter 3 none, Cond.fieldLink RX3 91 "NightSorters$Mail" "inHole" "[I", Cond.fieldLink RX3 94 "NightSorters$Mail" "town" "[I", Cond.fieldLink RX3 100 "NightSorters$Crew" "sorted" "[I", Cond.fieldLink RX3 103 "NightSorters$Crew" "tired" "[I", Cond.methodLink RX3 97 yX2_move, Cond.methodLink RX3 106 yX0_freeHands, Cond.instanceMethod yX0_freeHands, Cond.selects RX0 yX0_freeHands yX0_freeHands, Cond.code yX0_freeHands cX0_freeHands 2 none, Cond.methodLink RX3 57 yX1_passedIn, Cond.instanceMethod yX1_passedIn, Cond.selects RX1 yX1_passedIn yX1_passedIn, Cond.initialized RX1, Cond.code yX1_passedIn cX1_passedIn 3 (some .int), Cond.fieldLink RX1 9 "NightSorters$Line" "minutes" "[I", Cond.methodLink RX3 63 yX3_serve, Cond.instanceMethod yX3_serve, Cond.selects RX3 yX3_serve yX3_serve, Cond.code yX3_serve cX3_serve 3 none, Cond.fieldLink RX3 109 "NightSorters$Mail" "size" "I", Cond.methodLink RX3 110 yX2_isInBag, Cond.instanceMethod yX2_isInBag]
def wsX4_pass_r5 : List Cond := [Cond.selects RX2 yX2_isInBag yX2_isInBag, Cond.code yX2_isInBag cX2_isInBag 3 (some .boolean), Cond.fieldLink RX2 19 "NightSorters$Mail" "postedAt" "[I", Cond.methodLink RX3 114 yX3_hookIn, Cond.instanceMethod yX3_hookIn, Cond.selects RX3 yX3_hookIn yX3_hookIn, Cond.code yX3_hookIn cX3_hookIn 3 none, Cond.static yX4_stationOf, Cond.code yX4_stationOf cX4_stationOf 1 (some .int), Cond.methodLink RX3 123 yX2_end, Cond.instanceMethod yX2_end, Cond.selects RX2 yX2_end yX2_end, Cond.code yX2_end cX2_end 4 none, Cond.fieldLink RX2 28 "NightSorters$Mail" "endMinute" "[I", Cond.methodLink RX3 120 yX3_hookOut, Cond.instanceMethod yX3_hookOut, Cond.selects RX3 yX3_hookOut yX3_hookOut, Cond.code yX3_hookOut cX3_hookOut 4 none, Cond.fieldLink RX3 127 "NightSorters$Mail" "place" "[I", Cond.fieldLink RX3 130 "NightSorters$Mail" "holder" "[I", Cond.methodLink RX3 69 yX3_shake, Cond.instanceMethod yX3_shake, Cond.selects RX3 yX3_shake yX3_shake, Cond.code yX3_shake cX3_shake 2 none]
def wsX4_pass_r6 : List Cond := [Cond.methodLink RX3 133 yX0_spillTea, Cond.instanceMethod yX0_spillTea, Cond.selects RX0 yX0_spillTea yX0_spillTea, Cond.code yX0_spillTea cX0_spillTea 2 none, Cond.fieldLink RX0 9 "NightSorters$Crew" "size" "I", Cond.methodLink RX3 136 yX2_fullestHole, Cond.instanceMethod yX2_fullestHole, Cond.selects RX2 yX2_fullestHole yX2_fullestHole, Cond.code yX2_fullestHole cX2_fullestHole 3 (some .int), Cond.methodLink RX3 140 yX2_spillHole, Cond.instanceMethod yX2_spillHole, Cond.selects RX2 yX2_spillHole yX2_spillHole, Cond.code yX2_spillHole cX2_spillHole 3 none, Cond.methodLink RX3 143 yX0_tireAll, Cond.instanceMethod yX0_tireAll, Cond.selects RX0 yX0_tireAll yX0_tireAll, Cond.code yX0_tireAll cX0_tireAll 3 none]
def wsX4_pass : List Cond := .code yX4_pass cX4_pass 3 (some .int) :: ((wsX4_pass_r1 ++ (wsX4_pass_r2 ++ (wsX4_pass_r3 ++ (wsX4_pass_r4 ++ (wsX4_pass_r5 ++ wsX4_pass_r6))))) ++ wsX40 ++ wsX30 ++ wsX20 ++ wsX00 ++ wsX10 ++ (vx_atS RX4 163 "java/lang/IllegalArgumentException" ["java/lang/RuntimeException", "java/lang/Exception"]).filter goodWord)
def wsX4_arrives_r1 : List Cond := [Cond.fieldLink RX4 17 "NightSorters" "train" "LNightSorters$Train;", Cond.fieldLink RX4 58 "NightSorters$Train" "mail" "LNightSorters$Mail;", Cond.fieldLink RX4 62 "NightSorters$Mail" "size" "I", Cond.fieldLink RX4 21 "NightSorters" "trial" "LNightSorters$Train;", Cond.fieldLink RX4 120 "NightSorters$Mail" "place" "[I", Cond.methodLink RX4 24 yX4_checkIndex, Cond.static yX4_checkIndex, Cond.initialized RX4, Cond.code yX4_checkIndex cX4_checkIndex 2 none, Cond.classLink RX4 126 "java/lang/IndexOutOfBoundsException", Cond.initialized "java/lang/IndexOutOfBoundsException", Cond.methodLink RX4 116 yX3_copyFrom, Cond.instanceMethod yX3_copyFrom, Cond.selects RX3 yX3_copyFrom yX3_copyFrom, Cond.initialized RX3, Cond.code yX3_copyFrom cX3_copyFrom 2 none, Cond.fieldLink RX3 25 "NightSorters$Train" "minute" "I", Cond.fieldLink RX3 12 "NightSorters$Train" "mail" "LNightSorters$Mail;", Cond.fieldLink RX3 21 "NightSorters$Train" "crew" "LNightSorters$Crew;", Cond.methodLink RX3 33 yX2_copyFrom, Cond.instanceMethod yX2_copyFrom, Cond.selects RX2 yX2_copyFrom yX2_copyFrom, Cond.initialized RX2, Cond.code yX2_copyFrom cX2_copyFrom 2 none]
def wsX4_arrives_r2 : List Cond := [Cond.fieldLink RX2 9 "NightSorters$Mail" "size" "I", Cond.fieldLink RX2 15 "NightSorters$Mail" "town" "[I", Cond.methodLink RX2 48 arraycopyName, Cond.native arraycopyName, Cond.static arraycopyName, Cond.initialized "java/lang/System", Cond.fieldLink RX2 19 "NightSorters$Mail" "postedAt" "[I", Cond.fieldLink RX2 22 "NightSorters$Mail" "place" "[I", Cond.fieldLink RX2 25 "NightSorters$Mail" "holder" "[I", Cond.fieldLink RX2 28 "NightSorters$Mail" "endMinute" "[I", Cond.fieldLink RX2 31 "NightSorters$Mail" "inPlace" "[I", Cond.fieldLink RX2 34 "NightSorters$Mail" "inHole" "[I", Cond.methodLink RX3 37 yX0_copyFrom, Cond.instanceMethod yX0_copyFrom, Cond.selects RX0 yX0_copyFrom yX0_copyFrom, Cond.initialized RX0, Cond.code yX0_copyFrom cX0_copyFrom 2 none, Cond.fieldLink RX0 9 "NightSorters$Crew" "size" "I", Cond.fieldLink RX0 15 "NightSorters$Crew" "pace" "[I", Cond.methodLink RX0 41 arraycopyName, Cond.fieldLink RX0 19 "NightSorters$Crew" "towns" "[I", Cond.fieldLink RX0 22 "NightSorters$Crew" "tired" "[I", Cond.fieldLink RX0 25 "NightSorters$Crew" "withTea" "[I", Cond.fieldLink RX0 28 "NightSorters$Crew" "held" "[I"]
def wsX4_arrives_r3 : List Cond := [Cond.fieldLink RX0 31 "NightSorters$Crew" "minutesLeft" "[I", Cond.fieldLink RX0 34 "NightSorters$Crew" "sorted" "[I", Cond.methodLink RX4 123 yX3_runMinute, Cond.instanceMethod yX3_runMinute, Cond.selects RX3 yX3_runMinute yX3_runMinute, Cond.code yX3_runMinute cX3_runMinute 3 none, Cond.fieldLink RX3 43 "NightSorters$Crew" "size" "I", Cond.fieldLink RX3 46 "NightSorters$Crew" "held" "[I", Cond.fieldLink RX3 29 "NightSorters$Train" "line" "LNightSorters$Line;", Cond.fieldLink RX3 66 "NightSorters$Line" "jolts" "[I", Cond.methodLink RX3 50 yX3_takeLetter, Cond.instanceMethod yX3_takeLetter, Cond.selects RX3 yX3_takeLetter yX3_takeLetter, Cond.code yX3_takeLetter cX3_takeLetter 3 none, Cond.fieldLink RX3 72 "NightSorters$Crew" "towns" "[I", Cond.methodLink RX3 75 yX2_firstOnTable, Cond.instanceMethod yX2_firstOnTable, Cond.selects RX2 yX2_firstOnTable yX2_firstOnTable, Cond.code yX2_firstOnTable cX2_firstOnTable 3 (some .int), Cond.static yX4_hasTown, Cond.code yX4_hasTown cX4_hasTown 2 (some .boolean), Cond.methodLink RX3 78 yX2_moveToHands, Cond.instanceMethod yX2_moveToHands, Cond.selects RX2 yX2_moveToHands yX2_moveToHands]
def wsX4_arrives_r4 : List Cond := [Cond.code yX2_moveToHands cX2_moveToHands 3 none, Cond.methodLink RX2 37 yX2_move, Cond.instanceMethod yX2_move, Cond.selects RX2 yX2_move yX2_move, Cond.code yX2_move cX2_move 4 none, Cond.methodLink RX3 82 yX0_takeUp, Cond.instanceMethod yX0_takeUp, Cond.selects RX0 yX0_takeUp yX0_takeUp, Cond.code yX0_takeUp cX0_takeUp 3 none, Cond.methodLink RX0 37 yX0_minutesNeeded, Cond.instanceMethod yX0_minutesNeeded, Cond.selects RX0 yX0_minutesNeeded yX0_minutesNeeded, Cond.code yX0_minutesNeeded cX0_minutesNeeded 3 (some .int), Cond.methodLink RX3 54 yX3_workOn, Cond.instanceMethod yX3_workOn, Cond.selects RX3 yX3_workOn yX3_workOn, Cond.code yX3_workOn cX3_workOn 2 none, Cond.fieldLink RX3 85 "NightSorters$Crew" "minutesLeft" "[I", Cond.methodLink RX3 88 yX3_putLetter, Cond.instanceMethod yX3_putLetter, Cond.selects RX3 yX3_putLetter yX3_putLetter, Cond.code yX3_putLetter cX3_putLetter 3 none, Cond.fieldLink RX3 91 "NightSorters$Mail" "inHole" "[I", Cond.fieldLink RX3 94 "NightSorters$Mail" "town" "[I"]
def wsX4_arrives_r5 : List Cond := [Cond.fieldLink RX3 100 "NightSorters$Crew" "sorted" "[I", Cond.fieldLink RX3 103 "NightSorters$Crew" "tired" "[I", Cond.methodLink RX3 97 yX2_move, Cond.methodLink RX3 106 yX0_freeHands, Cond.instanceMethod yX0_freeHands, Cond.selects RX0 yX0_freeHands yX0_freeHands, Cond.code yX0_freeHands cX0_freeHands 2 none, Cond.methodLink RX3 57 yX1_passedIn, Cond.instanceMethod yX1_passedIn, Cond.selects RX1 yX1_passedIn yX1_passedIn, Cond.initialized RX1, Cond.code yX1_passedIn cX1_passedIn 3 (some .int), Cond.fieldLink RX1 9 "NightSorters$Line" "minutes" "[I", Cond.methodLink RX3 63 yX3_serve, Cond.instanceMethod yX3_serve, Cond.selects RX3 yX3_serve yX3_serve, Cond.code yX3_serve cX3_serve 3 none, Cond.fieldLink RX3 109 "NightSorters$Mail" "size" "I", Cond.methodLink RX3 110 yX2_isInBag, Cond.instanceMethod yX2_isInBag, Cond.selects RX2 yX2_isInBag yX2_isInBag, Cond.code yX2_isInBag cX2_isInBag 3 (some .boolean), Cond.methodLink RX3 114 yX3_hookIn, Cond.instanceMethod yX3_hookIn]
def wsX4_arrives_r6 : List Cond := [Cond.selects RX3 yX3_hookIn yX3_hookIn, Cond.code yX3_hookIn cX3_hookIn 3 none, Cond.static yX4_stationOf, Cond.code yX4_stationOf cX4_stationOf 1 (some .int), Cond.methodLink RX3 123 yX2_end, Cond.instanceMethod yX2_end, Cond.selects RX2 yX2_end yX2_end, Cond.code yX2_end cX2_end 4 none, Cond.methodLink RX3 120 yX3_hookOut, Cond.instanceMethod yX3_hookOut, Cond.selects RX3 yX3_hookOut yX3_hookOut, Cond.code yX3_hookOut cX3_hookOut 4 none, Cond.fieldLink RX3 127 "NightSorters$Mail" "place" "[I", Cond.fieldLink RX3 130 "NightSorters$Mail" "holder" "[I", Cond.methodLink RX3 69 yX3_shake, Cond.instanceMethod yX3_shake, Cond.selects RX3 yX3_shake yX3_shake, Cond.code yX3_shake cX3_shake 2 none, Cond.methodLink RX3 133 yX0_spillTea, Cond.instanceMethod yX0_spillTea, Cond.selects RX0 yX0_spillTea yX0_spillTea, Cond.code yX0_spillTea cX0_spillTea 2 none, Cond.methodLink RX3 136 yX2_fullestHole, Cond.instanceMethod yX2_fullestHole]
def wsX4_arrives_r7 : List Cond := [Cond.selects RX2 yX2_fullestHole yX2_fullestHole, Cond.code yX2_fullestHole cX2_fullestHole 3 (some .int), Cond.methodLink RX3 140 yX2_spillHole, Cond.instanceMethod yX2_spillHole, Cond.selects RX2 yX2_spillHole yX2_spillHole, Cond.code yX2_spillHole cX2_spillHole 3 none, Cond.methodLink RX3 143 yX0_tireAll, Cond.instanceMethod yX0_tireAll, Cond.selects RX0 yX0_tireAll yX0_tireAll, Cond.code yX0_tireAll cX0_tireAll 3 none]
def wsX4_arrives : List Cond := .code yX4_arrives cX4_arrives 4 (some .int) :: ((wsX4_arrives_r1 ++ (wsX4_arrives_r2 ++ (wsX4_arrives_r3 ++ (wsX4_arrives_r4 ++ (wsX4_arrives_r5 ++ (wsX4_arrives_r6 ++ wsX4_arrives_r7)))))) ++ wsX40 ++ wsX30 ++ wsX20 ++ wsX00 ++ wsX10 ++ (vx_atS RX4 130 "java/lang/IndexOutOfBoundsException" ["java/lang/RuntimeException", "java/lang/Exception"]).filter goodWord)
def wsX4_foresee_r1 : List Cond := [Cond.classLink RX4 126 "java/lang/IndexOutOfBoundsException", Cond.initialized "java/lang/IndexOutOfBoundsException", Cond.fieldLink RX4 21 "NightSorters" "trial" "LNightSorters$Train;", Cond.fieldLink RX4 17 "NightSorters" "train" "LNightSorters$Train;", Cond.fieldLink RX4 58 "NightSorters$Train" "mail" "LNightSorters$Mail;", Cond.fieldLink RX4 109 "NightSorters$Mail" "inPlace" "[I", Cond.methodLink RX4 28 yX4_checkArgument, Cond.static yX4_checkArgument, Cond.initialized RX4, Cond.code yX4_checkArgument cX4_checkArgument 3 none, Cond.classLink RX4 159 "java/lang/IllegalArgumentException", Cond.initialized "java/lang/IllegalArgumentException", Cond.methodLink RX4 116 yX3_copyFrom, Cond.instanceMethod yX3_copyFrom, Cond.selects RX3 yX3_copyFrom yX3_copyFrom, Cond.initialized RX3, Cond.code yX3_copyFrom cX3_copyFrom 2 none, Cond.fieldLink RX3 25 "NightSorters$Train" "minute" "I", Cond.fieldLink RX3 12 "NightSorters$Train" "mail" "LNightSorters$Mail;", Cond.fieldLink RX3 21 "NightSorters$Train" "crew" "LNightSorters$Crew;", Cond.methodLink RX3 33 yX2_copyFrom, Cond.instanceMethod yX2_copyFrom, Cond.selects RX2 yX2_copyFrom yX2_copyFrom, Cond.initialized RX2]
def wsX4_foresee_r2 : List Cond := [Cond.code yX2_copyFrom cX2_copyFrom 2 none, Cond.fieldLink RX2 9 "NightSorters$Mail" "size" "I", Cond.fieldLink RX2 15 "NightSorters$Mail" "town" "[I", Cond.methodLink RX2 48 arraycopyName, Cond.native arraycopyName, Cond.static arraycopyName, Cond.initialized "java/lang/System", Cond.fieldLink RX2 19 "NightSorters$Mail" "postedAt" "[I", Cond.fieldLink RX2 22 "NightSorters$Mail" "place" "[I", Cond.fieldLink RX2 25 "NightSorters$Mail" "holder" "[I", Cond.fieldLink RX2 28 "NightSorters$Mail" "endMinute" "[I", Cond.fieldLink RX2 31 "NightSorters$Mail" "inPlace" "[I", Cond.fieldLink RX2 34 "NightSorters$Mail" "inHole" "[I", Cond.methodLink RX3 37 yX0_copyFrom, Cond.instanceMethod yX0_copyFrom, Cond.selects RX0 yX0_copyFrom yX0_copyFrom, Cond.initialized RX0, Cond.code yX0_copyFrom cX0_copyFrom 2 none, Cond.fieldLink RX0 9 "NightSorters$Crew" "size" "I", Cond.fieldLink RX0 15 "NightSorters$Crew" "pace" "[I", Cond.methodLink RX0 41 arraycopyName, Cond.fieldLink RX0 19 "NightSorters$Crew" "towns" "[I", Cond.fieldLink RX0 22 "NightSorters$Crew" "tired" "[I", Cond.fieldLink RX0 25 "NightSorters$Crew" "withTea" "[I"]
def wsX4_foresee_r3 : List Cond := [Cond.fieldLink RX0 28 "NightSorters$Crew" "held" "[I", Cond.fieldLink RX0 31 "NightSorters$Crew" "minutesLeft" "[I", Cond.fieldLink RX0 34 "NightSorters$Crew" "sorted" "[I", Cond.methodLink RX4 112 yX3_run, Cond.instanceMethod yX3_run, Cond.selects RX3 yX3_run yX3_run, Cond.code yX3_run cX3_run 3 none, Cond.methodLink RX3 40 yX3_runMinute, Cond.instanceMethod yX3_runMinute, Cond.selects RX3 yX3_runMinute yX3_runMinute, Cond.code yX3_runMinute cX3_runMinute 3 none, Cond.fieldLink RX3 43 "NightSorters$Crew" "size" "I", Cond.fieldLink RX3 46 "NightSorters$Crew" "held" "[I", Cond.fieldLink RX3 29 "NightSorters$Train" "line" "LNightSorters$Line;", Cond.fieldLink RX3 66 "NightSorters$Line" "jolts" "[I", Cond.methodLink RX3 50 yX3_takeLetter, Cond.instanceMethod yX3_takeLetter, Cond.selects RX3 yX3_takeLetter yX3_takeLetter, Cond.code yX3_takeLetter cX3_takeLetter 3 none, Cond.fieldLink RX3 72 "NightSorters$Crew" "towns" "[I", Cond.methodLink RX3 75 yX2_firstOnTable, Cond.instanceMethod yX2_firstOnTable, Cond.selects RX2 yX2_firstOnTable yX2_firstOnTable, Cond.code yX2_firstOnTable cX2_firstOnTable 3 (some .int)]
def wsX4_foresee_r4 : List Cond := [Cond.static yX4_hasTown, Cond.code yX4_hasTown cX4_hasTown 2 (some .boolean), Cond.methodLink RX3 78 yX2_moveToHands, Cond.instanceMethod yX2_moveToHands, Cond.selects RX2 yX2_moveToHands yX2_moveToHands, Cond.code yX2_moveToHands cX2_moveToHands 3 none, Cond.methodLink RX2 37 yX2_move, Cond.instanceMethod yX2_move, Cond.selects RX2 yX2_move yX2_move, Cond.code yX2_move cX2_move 4 none, Cond.methodLink RX3 82 yX0_takeUp, Cond.instanceMethod yX0_takeUp, Cond.selects RX0 yX0_takeUp yX0_takeUp, Cond.code yX0_takeUp cX0_takeUp 3 none, Cond.methodLink RX0 37 yX0_minutesNeeded, Cond.instanceMethod yX0_minutesNeeded, Cond.selects RX0 yX0_minutesNeeded yX0_minutesNeeded, Cond.code yX0_minutesNeeded cX0_minutesNeeded 3 (some .int), Cond.methodLink RX3 54 yX3_workOn, Cond.instanceMethod yX3_workOn, Cond.selects RX3 yX3_workOn yX3_workOn, Cond.code yX3_workOn cX3_workOn 2 none, Cond.fieldLink RX3 85 "NightSorters$Crew" "minutesLeft" "[I", Cond.methodLink RX3 88 yX3_putLetter]
def wsX4_foresee_r5 : List Cond := [Cond.instanceMethod yX3_putLetter, Cond.selects RX3 yX3_putLetter yX3_putLetter, Cond.code yX3_putLetter cX3_putLetter 3 none, Cond.fieldLink RX3 91 "NightSorters$Mail" "inHole" "[I", Cond.fieldLink RX3 94 "NightSorters$Mail" "town" "[I", Cond.fieldLink RX3 100 "NightSorters$Crew" "sorted" "[I", Cond.fieldLink RX3 103 "NightSorters$Crew" "tired" "[I", Cond.methodLink RX3 97 yX2_move, Cond.methodLink RX3 106 yX0_freeHands, Cond.instanceMethod yX0_freeHands, Cond.selects RX0 yX0_freeHands yX0_freeHands, Cond.code yX0_freeHands cX0_freeHands 2 none, Cond.methodLink RX3 57 yX1_passedIn, Cond.instanceMethod yX1_passedIn, Cond.selects RX1 yX1_passedIn yX1_passedIn, Cond.initialized RX1, Cond.code yX1_passedIn cX1_passedIn 3 (some .int), Cond.fieldLink RX1 9 "NightSorters$Line" "minutes" "[I", Cond.methodLink RX3 63 yX3_serve, Cond.instanceMethod yX3_serve, Cond.selects RX3 yX3_serve yX3_serve, Cond.code yX3_serve cX3_serve 3 none, Cond.fieldLink RX3 109 "NightSorters$Mail" "size" "I", Cond.methodLink RX3 110 yX2_isInBag]
def wsX4_foresee_r6 : List Cond := [Cond.instanceMethod yX2_isInBag, Cond.selects RX2 yX2_isInBag yX2_isInBag, Cond.code yX2_isInBag cX2_isInBag 3 (some .boolean), Cond.methodLink RX3 114 yX3_hookIn, Cond.instanceMethod yX3_hookIn, Cond.selects RX3 yX3_hookIn yX3_hookIn, Cond.code yX3_hookIn cX3_hookIn 3 none, Cond.static yX4_stationOf, Cond.code yX4_stationOf cX4_stationOf 1 (some .int), Cond.methodLink RX3 123 yX2_end, Cond.instanceMethod yX2_end, Cond.selects RX2 yX2_end yX2_end, Cond.code yX2_end cX2_end 4 none, Cond.methodLink RX3 120 yX3_hookOut, Cond.instanceMethod yX3_hookOut, Cond.selects RX3 yX3_hookOut yX3_hookOut, Cond.code yX3_hookOut cX3_hookOut 4 none, Cond.fieldLink RX3 127 "NightSorters$Mail" "place" "[I", Cond.fieldLink RX3 130 "NightSorters$Mail" "holder" "[I", Cond.methodLink RX3 69 yX3_shake, Cond.instanceMethod yX3_shake, Cond.selects RX3 yX3_shake yX3_shake, Cond.code yX3_shake cX3_shake 2 none, Cond.methodLink RX3 133 yX0_spillTea]
def wsX4_foresee_r7 : List Cond := [Cond.instanceMethod yX0_spillTea, Cond.selects RX0 yX0_spillTea yX0_spillTea, Cond.code yX0_spillTea cX0_spillTea 2 none, Cond.methodLink RX3 136 yX2_fullestHole, Cond.instanceMethod yX2_fullestHole, Cond.selects RX2 yX2_fullestHole yX2_fullestHole, Cond.code yX2_fullestHole cX2_fullestHole 3 (some .int), Cond.methodLink RX3 140 yX2_spillHole, Cond.instanceMethod yX2_spillHole, Cond.selects RX2 yX2_spillHole yX2_spillHole, Cond.code yX2_spillHole cX2_spillHole 3 none, Cond.methodLink RX3 143 yX0_tireAll, Cond.instanceMethod yX0_tireAll, Cond.selects RX0 yX0_tireAll yX0_tireAll, Cond.code yX0_tireAll cX0_tireAll 3 none]
def wsX4_foresee : List Cond := .code yX4_foresee cX4_foresee 3 (some .int) :: ((wsX4_foresee_r1 ++ (wsX4_foresee_r2 ++ (wsX4_foresee_r3 ++ (wsX4_foresee_r4 ++ (wsX4_foresee_r5 ++ (wsX4_foresee_r6 ++ wsX4_foresee_r7)))))) ++ wsX40 ++ wsX30 ++ wsX20 ++ wsX00 ++ wsX10 ++ (vx_atS RX4 130 "java/lang/IndexOutOfBoundsException" ["java/lang/RuntimeException", "java/lang/Exception"]).filter goodWord ++ (vx_atS RX4 163 "java/lang/IllegalArgumentException" ["java/lang/RuntimeException", "java/lang/Exception"]).filter goodWord)
def wsX4_deliveredIfAssigned_r1 : List Cond := [Cond.fieldLink RX4 21 "NightSorters" "trial" "LNightSorters$Train;", Cond.fieldLink RX4 17 "NightSorters" "train" "LNightSorters$Train;", Cond.fieldLink RX4 74 "NightSorters$Train" "crew" "LNightSorters$Crew;", Cond.fieldLink RX4 86 "NightSorters$Crew" "towns" "[I", Cond.fieldLink RX4 58 "NightSorters$Train" "mail" "LNightSorters$Mail;", Cond.fieldLink RX4 109 "NightSorters$Mail" "inPlace" "[I", Cond.methodLink RX4 116 yX3_copyFrom, Cond.instanceMethod yX3_copyFrom, Cond.selects RX3 yX3_copyFrom yX3_copyFrom, Cond.initialized RX3, Cond.code yX3_copyFrom cX3_copyFrom 2 none, Cond.fieldLink RX3 25 "NightSorters$Train" "minute" "I", Cond.fieldLink RX3 12 "NightSorters$Train" "mail" "LNightSorters$Mail;", Cond.fieldLink RX3 21 "NightSorters$Train" "crew" "LNightSorters$Crew;", Cond.methodLink RX3 33 yX2_copyFrom, Cond.instanceMethod yX2_copyFrom, Cond.selects RX2 yX2_copyFrom yX2_copyFrom, Cond.initialized RX2, Cond.code yX2_copyFrom cX2_copyFrom 2 none, Cond.fieldLink RX2 9 "NightSorters$Mail" "size" "I", Cond.fieldLink RX2 15 "NightSorters$Mail" "town" "[I", Cond.methodLink RX2 48 arraycopyName, Cond.native arraycopyName, Cond.static arraycopyName]
def wsX4_deliveredIfAssigned_r2 : List Cond := [Cond.initialized "java/lang/System", Cond.fieldLink RX2 19 "NightSorters$Mail" "postedAt" "[I", Cond.fieldLink RX2 22 "NightSorters$Mail" "place" "[I", Cond.fieldLink RX2 25 "NightSorters$Mail" "holder" "[I", Cond.fieldLink RX2 28 "NightSorters$Mail" "endMinute" "[I", Cond.fieldLink RX2 31 "NightSorters$Mail" "inPlace" "[I", Cond.fieldLink RX2 34 "NightSorters$Mail" "inHole" "[I", Cond.methodLink RX3 37 yX0_copyFrom, Cond.instanceMethod yX0_copyFrom, Cond.selects RX0 yX0_copyFrom yX0_copyFrom, Cond.initialized RX0, Cond.code yX0_copyFrom cX0_copyFrom 2 none, Cond.fieldLink RX0 9 "NightSorters$Crew" "size" "I", Cond.fieldLink RX0 15 "NightSorters$Crew" "pace" "[I", Cond.methodLink RX0 41 arraycopyName, Cond.fieldLink RX0 19 "NightSorters$Crew" "towns" "[I", Cond.fieldLink RX0 22 "NightSorters$Crew" "tired" "[I", Cond.fieldLink RX0 25 "NightSorters$Crew" "withTea" "[I", Cond.fieldLink RX0 28 "NightSorters$Crew" "held" "[I", Cond.fieldLink RX0 31 "NightSorters$Crew" "minutesLeft" "[I", Cond.fieldLink RX0 34 "NightSorters$Crew" "sorted" "[I", Cond.methodLink RX4 112 yX3_run, Cond.instanceMethod yX3_run, Cond.selects RX3 yX3_run yX3_run]
def wsX4_deliveredIfAssigned_r3 : List Cond := [Cond.code yX3_run cX3_run 3 none, Cond.methodLink RX3 40 yX3_runMinute, Cond.instanceMethod yX3_runMinute, Cond.selects RX3 yX3_runMinute yX3_runMinute, Cond.code yX3_runMinute cX3_runMinute 3 none, Cond.fieldLink RX3 43 "NightSorters$Crew" "size" "I", Cond.fieldLink RX3 46 "NightSorters$Crew" "held" "[I", Cond.fieldLink RX3 29 "NightSorters$Train" "line" "LNightSorters$Line;", Cond.fieldLink RX3 66 "NightSorters$Line" "jolts" "[I", Cond.methodLink RX3 50 yX3_takeLetter, Cond.instanceMethod yX3_takeLetter, Cond.selects RX3 yX3_takeLetter yX3_takeLetter, Cond.code yX3_takeLetter cX3_takeLetter 3 none, Cond.fieldLink RX3 72 "NightSorters$Crew" "towns" "[I", Cond.methodLink RX3 75 yX2_firstOnTable, Cond.instanceMethod yX2_firstOnTable, Cond.selects RX2 yX2_firstOnTable yX2_firstOnTable, Cond.code yX2_firstOnTable cX2_firstOnTable 3 (some .int), Cond.static yX4_hasTown, Cond.initialized RX4, Cond.code yX4_hasTown cX4_hasTown 2 (some .boolean), Cond.methodLink RX3 78 yX2_moveToHands, Cond.instanceMethod yX2_moveToHands, Cond.selects RX2 yX2_moveToHands yX2_moveToHands]
def wsX4_deliveredIfAssigned_r4 : List Cond := [Cond.code yX2_moveToHands cX2_moveToHands 3 none, Cond.methodLink RX2 37 yX2_move, Cond.instanceMethod yX2_move, Cond.selects RX2 yX2_move yX2_move, Cond.code yX2_move cX2_move 4 none, Cond.methodLink RX3 82 yX0_takeUp, Cond.instanceMethod yX0_takeUp, Cond.selects RX0 yX0_takeUp yX0_takeUp, Cond.code yX0_takeUp cX0_takeUp 3 none, Cond.methodLink RX0 37 yX0_minutesNeeded, Cond.instanceMethod yX0_minutesNeeded, Cond.selects RX0 yX0_minutesNeeded yX0_minutesNeeded, Cond.code yX0_minutesNeeded cX0_minutesNeeded 3 (some .int), Cond.methodLink RX3 54 yX3_workOn, Cond.instanceMethod yX3_workOn, Cond.selects RX3 yX3_workOn yX3_workOn, Cond.code yX3_workOn cX3_workOn 2 none, Cond.fieldLink RX3 85 "NightSorters$Crew" "minutesLeft" "[I", Cond.methodLink RX3 88 yX3_putLetter, Cond.instanceMethod yX3_putLetter, Cond.selects RX3 yX3_putLetter yX3_putLetter, Cond.code yX3_putLetter cX3_putLetter 3 none, Cond.fieldLink RX3 91 "NightSorters$Mail" "inHole" "[I", Cond.fieldLink RX3 94 "NightSorters$Mail" "town" "[I"]
def wsX4_deliveredIfAssigned_r5 : List Cond := [Cond.fieldLink RX3 100 "NightSorters$Crew" "sorted" "[I", Cond.fieldLink RX3 103 "NightSorters$Crew" "tired" "[I", Cond.methodLink RX3 97 yX2_move, Cond.methodLink RX3 106 yX0_freeHands, Cond.instanceMethod yX0_freeHands, Cond.selects RX0 yX0_freeHands yX0_freeHands, Cond.code yX0_freeHands cX0_freeHands 2 none, Cond.methodLink RX3 57 yX1_passedIn, Cond.instanceMethod yX1_passedIn, Cond.selects RX1 yX1_passedIn yX1_passedIn, Cond.initialized RX1, Cond.code yX1_passedIn cX1_passedIn 3 (some .int), Cond.fieldLink RX1 9 "NightSorters$Line" "minutes" "[I", Cond.methodLink RX3 63 yX3_serve, Cond.instanceMethod yX3_serve, Cond.selects RX3 yX3_serve yX3_serve, Cond.code yX3_serve cX3_serve 3 none, Cond.fieldLink RX3 109 "NightSorters$Mail" "size" "I", Cond.methodLink RX3 110 yX2_isInBag, Cond.instanceMethod yX2_isInBag, Cond.selects RX2 yX2_isInBag yX2_isInBag, Cond.code yX2_isInBag cX2_isInBag 3 (some .boolean), Cond.methodLink RX3 114 yX3_hookIn, Cond.instanceMethod yX3_hookIn]
def wsX4_deliveredIfAssigned_r6 : List Cond := [Cond.selects RX3 yX3_hookIn yX3_hookIn, Cond.code yX3_hookIn cX3_hookIn 3 none, Cond.static yX4_stationOf, Cond.code yX4_stationOf cX4_stationOf 1 (some .int), Cond.methodLink RX3 123 yX2_end, Cond.instanceMethod yX2_end, Cond.selects RX2 yX2_end yX2_end, Cond.code yX2_end cX2_end 4 none, Cond.methodLink RX3 120 yX3_hookOut, Cond.instanceMethod yX3_hookOut, Cond.selects RX3 yX3_hookOut yX3_hookOut, Cond.code yX3_hookOut cX3_hookOut 4 none, Cond.fieldLink RX3 127 "NightSorters$Mail" "place" "[I", Cond.fieldLink RX3 130 "NightSorters$Mail" "holder" "[I", Cond.methodLink RX3 69 yX3_shake, Cond.instanceMethod yX3_shake, Cond.selects RX3 yX3_shake yX3_shake, Cond.code yX3_shake cX3_shake 2 none, Cond.methodLink RX3 133 yX0_spillTea, Cond.instanceMethod yX0_spillTea, Cond.selects RX0 yX0_spillTea yX0_spillTea, Cond.code yX0_spillTea cX0_spillTea 2 none, Cond.methodLink RX3 136 yX2_fullestHole, Cond.instanceMethod yX2_fullestHole]
def wsX4_deliveredIfAssigned_r7 : List Cond := [Cond.selects RX2 yX2_fullestHole yX2_fullestHole, Cond.code yX2_fullestHole cX2_fullestHole 3 (some .int), Cond.methodLink RX3 140 yX2_spillHole, Cond.instanceMethod yX2_spillHole, Cond.selects RX2 yX2_spillHole yX2_spillHole, Cond.code yX2_spillHole cX2_spillHole 3 none, Cond.methodLink RX3 143 yX0_tireAll, Cond.instanceMethod yX0_tireAll, Cond.selects RX0 yX0_tireAll yX0_tireAll, Cond.code yX0_tireAll cX0_tireAll 3 none]
def wsX4_deliveredIfAssigned : List Cond := .code yX4_deliveredIfAssigned cX4_deliveredIfAssigned 4 (some .int) :: ((wsX4_deliveredIfAssigned_r1 ++ (wsX4_deliveredIfAssigned_r2 ++ (wsX4_deliveredIfAssigned_r3 ++ (wsX4_deliveredIfAssigned_r4 ++ (wsX4_deliveredIfAssigned_r5 ++ (wsX4_deliveredIfAssigned_r6 ++ wsX4_deliveredIfAssigned_r7)))))) ++ wsX40 ++ wsX30 ++ wsX00 ++ wsX20 ++ wsX10)
def wsX4_advise_r1 : List Cond := [Cond.fieldLink RX4 17 "NightSorters" "train" "LNightSorters$Train;", Cond.fieldLink RX4 74 "NightSorters$Train" "crew" "LNightSorters$Crew;", Cond.fieldLink RX4 78 "NightSorters$Crew" "size" "I", Cond.fieldLink RX4 86 "NightSorters$Crew" "towns" "[I", Cond.methodLink RX4 24 yX4_checkIndex, Cond.static yX4_checkIndex, Cond.initialized RX4, Cond.code yX4_checkIndex cX4_checkIndex 2 none, Cond.classLink RX4 126 "java/lang/IndexOutOfBoundsException", Cond.initialized "java/lang/IndexOutOfBoundsException", Cond.methodLink RX4 28 yX4_checkArgument, Cond.static yX4_checkArgument, Cond.code yX4_checkArgument cX4_checkArgument 3 none, Cond.classLink RX4 159 "java/lang/IllegalArgumentException", Cond.initialized "java/lang/IllegalArgumentException", Cond.methodLink RX4 131 yX4_deliveredIfAssigned, Cond.instanceMethod yX4_deliveredIfAssigned, Cond.selects RX4 yX4_deliveredIfAssigned yX4_deliveredIfAssigned, Cond.code yX4_deliveredIfAssigned cX4_deliveredIfAssigned 4 (some .int), Cond.fieldLink RX4 21 "NightSorters" "trial" "LNightSorters$Train;", Cond.fieldLink RX4 58 "NightSorters$Train" "mail" "LNightSorters$Mail;", Cond.fieldLink RX4 109 "NightSorters$Mail" "inPlace" "[I", Cond.methodLink RX4 116 yX3_copyFrom, Cond.instanceMethod yX3_copyFrom]
def wsX4_advise_r2 : List Cond := [Cond.selects RX3 yX3_copyFrom yX3_copyFrom, Cond.initialized RX3, Cond.code yX3_copyFrom cX3_copyFrom 2 none, Cond.fieldLink RX3 25 "NightSorters$Train" "minute" "I", Cond.fieldLink RX3 12 "NightSorters$Train" "mail" "LNightSorters$Mail;", Cond.fieldLink RX3 21 "NightSorters$Train" "crew" "LNightSorters$Crew;", Cond.methodLink RX3 33 yX2_copyFrom, Cond.instanceMethod yX2_copyFrom, Cond.selects RX2 yX2_copyFrom yX2_copyFrom, Cond.initialized RX2, Cond.code yX2_copyFrom cX2_copyFrom 2 none, Cond.fieldLink RX2 9 "NightSorters$Mail" "size" "I", Cond.fieldLink RX2 15 "NightSorters$Mail" "town" "[I", Cond.methodLink RX2 48 arraycopyName, Cond.native arraycopyName, Cond.static arraycopyName, Cond.initialized "java/lang/System", Cond.fieldLink RX2 19 "NightSorters$Mail" "postedAt" "[I", Cond.fieldLink RX2 22 "NightSorters$Mail" "place" "[I", Cond.fieldLink RX2 25 "NightSorters$Mail" "holder" "[I", Cond.fieldLink RX2 28 "NightSorters$Mail" "endMinute" "[I", Cond.fieldLink RX2 31 "NightSorters$Mail" "inPlace" "[I", Cond.fieldLink RX2 34 "NightSorters$Mail" "inHole" "[I", Cond.methodLink RX3 37 yX0_copyFrom]
def wsX4_advise_r3 : List Cond := [Cond.instanceMethod yX0_copyFrom, Cond.selects RX0 yX0_copyFrom yX0_copyFrom, Cond.initialized RX0, Cond.code yX0_copyFrom cX0_copyFrom 2 none, Cond.fieldLink RX0 9 "NightSorters$Crew" "size" "I", Cond.fieldLink RX0 15 "NightSorters$Crew" "pace" "[I", Cond.methodLink RX0 41 arraycopyName, Cond.fieldLink RX0 19 "NightSorters$Crew" "towns" "[I", Cond.fieldLink RX0 22 "NightSorters$Crew" "tired" "[I", Cond.fieldLink RX0 25 "NightSorters$Crew" "withTea" "[I", Cond.fieldLink RX0 28 "NightSorters$Crew" "held" "[I", Cond.fieldLink RX0 31 "NightSorters$Crew" "minutesLeft" "[I", Cond.fieldLink RX0 34 "NightSorters$Crew" "sorted" "[I", Cond.methodLink RX4 112 yX3_run, Cond.instanceMethod yX3_run, Cond.selects RX3 yX3_run yX3_run, Cond.code yX3_run cX3_run 3 none, Cond.methodLink RX3 40 yX3_runMinute, Cond.instanceMethod yX3_runMinute, Cond.selects RX3 yX3_runMinute yX3_runMinute, Cond.code yX3_runMinute cX3_runMinute 3 none, Cond.fieldLink RX3 43 "NightSorters$Crew" "size" "I", Cond.fieldLink RX3 46 "NightSorters$Crew" "held" "[I", Cond.fieldLink RX3 29 "NightSorters$Train" "line" "LNightSorters$Line;"]
def wsX4_advise_r4 : List Cond := [Cond.fieldLink RX3 66 "NightSorters$Line" "jolts" "[I", Cond.methodLink RX3 50 yX3_takeLetter, Cond.instanceMethod yX3_takeLetter, Cond.selects RX3 yX3_takeLetter yX3_takeLetter, Cond.code yX3_takeLetter cX3_takeLetter 3 none, Cond.fieldLink RX3 72 "NightSorters$Crew" "towns" "[I", Cond.methodLink RX3 75 yX2_firstOnTable, Cond.instanceMethod yX2_firstOnTable, Cond.selects RX2 yX2_firstOnTable yX2_firstOnTable, Cond.code yX2_firstOnTable cX2_firstOnTable 3 (some .int), Cond.static yX4_hasTown, Cond.code yX4_hasTown cX4_hasTown 2 (some .boolean), Cond.methodLink RX3 78 yX2_moveToHands, Cond.instanceMethod yX2_moveToHands, Cond.selects RX2 yX2_moveToHands yX2_moveToHands, Cond.code yX2_moveToHands cX2_moveToHands 3 none, Cond.methodLink RX2 37 yX2_move, Cond.instanceMethod yX2_move, Cond.selects RX2 yX2_move yX2_move, Cond.code yX2_move cX2_move 4 none, Cond.methodLink RX3 82 yX0_takeUp, Cond.instanceMethod yX0_takeUp, Cond.selects RX0 yX0_takeUp yX0_takeUp, Cond.code yX0_takeUp cX0_takeUp 3 none]
def wsX4_advise_r5 : List Cond := [Cond.methodLink RX0 37 yX0_minutesNeeded, Cond.instanceMethod yX0_minutesNeeded, Cond.selects RX0 yX0_minutesNeeded yX0_minutesNeeded, Cond.code yX0_minutesNeeded cX0_minutesNeeded 3 (some .int), Cond.methodLink RX3 54 yX3_workOn, Cond.instanceMethod yX3_workOn, Cond.selects RX3 yX3_workOn yX3_workOn, Cond.code yX3_workOn cX3_workOn 2 none, Cond.fieldLink RX3 85 "NightSorters$Crew" "minutesLeft" "[I", Cond.methodLink RX3 88 yX3_putLetter, Cond.instanceMethod yX3_putLetter, Cond.selects RX3 yX3_putLetter yX3_putLetter, Cond.code yX3_putLetter cX3_putLetter 3 none, Cond.fieldLink RX3 91 "NightSorters$Mail" "inHole" "[I", Cond.fieldLink RX3 94 "NightSorters$Mail" "town" "[I", Cond.fieldLink RX3 100 "NightSorters$Crew" "sorted" "[I", Cond.fieldLink RX3 103 "NightSorters$Crew" "tired" "[I", Cond.methodLink RX3 97 yX2_move, Cond.methodLink RX3 106 yX0_freeHands, Cond.instanceMethod yX0_freeHands, Cond.selects RX0 yX0_freeHands yX0_freeHands, Cond.code yX0_freeHands cX0_freeHands 2 none, Cond.methodLink RX3 57 yX1_passedIn, Cond.instanceMethod yX1_passedIn]
def wsX4_advise_r6 : List Cond := [Cond.selects RX1 yX1_passedIn yX1_passedIn, Cond.initialized RX1, Cond.code yX1_passedIn cX1_passedIn 3 (some .int), Cond.fieldLink RX1 9 "NightSorters$Line" "minutes" "[I", Cond.methodLink RX3 63 yX3_serve, Cond.instanceMethod yX3_serve, Cond.selects RX3 yX3_serve yX3_serve, Cond.code yX3_serve cX3_serve 3 none, Cond.fieldLink RX3 109 "NightSorters$Mail" "size" "I", Cond.methodLink RX3 110 yX2_isInBag, Cond.instanceMethod yX2_isInBag, Cond.selects RX2 yX2_isInBag yX2_isInBag, Cond.code yX2_isInBag cX2_isInBag 3 (some .boolean), Cond.methodLink RX3 114 yX3_hookIn, Cond.instanceMethod yX3_hookIn, Cond.selects RX3 yX3_hookIn yX3_hookIn, Cond.code yX3_hookIn cX3_hookIn 3 none, Cond.static yX4_stationOf, Cond.code yX4_stationOf cX4_stationOf 1 (some .int), Cond.methodLink RX3 123 yX2_end, Cond.instanceMethod yX2_end, Cond.selects RX2 yX2_end yX2_end, Cond.code yX2_end cX2_end 4 none, Cond.methodLink RX3 120 yX3_hookOut]
def wsX4_advise_r7 : List Cond := [Cond.instanceMethod yX3_hookOut, Cond.selects RX3 yX3_hookOut yX3_hookOut, Cond.code yX3_hookOut cX3_hookOut 4 none, Cond.fieldLink RX3 127 "NightSorters$Mail" "place" "[I", Cond.fieldLink RX3 130 "NightSorters$Mail" "holder" "[I", Cond.methodLink RX3 69 yX3_shake, Cond.instanceMethod yX3_shake, Cond.selects RX3 yX3_shake yX3_shake, Cond.code yX3_shake cX3_shake 2 none, Cond.methodLink RX3 133 yX0_spillTea, Cond.instanceMethod yX0_spillTea, Cond.selects RX0 yX0_spillTea yX0_spillTea, Cond.code yX0_spillTea cX0_spillTea 2 none, Cond.methodLink RX3 136 yX2_fullestHole, Cond.instanceMethod yX2_fullestHole, Cond.selects RX2 yX2_fullestHole yX2_fullestHole, Cond.code yX2_fullestHole cX2_fullestHole 3 (some .int), Cond.methodLink RX3 140 yX2_spillHole, Cond.instanceMethod yX2_spillHole, Cond.selects RX2 yX2_spillHole yX2_spillHole, Cond.code yX2_spillHole cX2_spillHole 3 none, Cond.methodLink RX3 143 yX0_tireAll, Cond.instanceMethod yX0_tireAll, Cond.selects RX0 yX0_tireAll yX0_tireAll]
def wsX4_advise_r8 : List Cond := [Cond.code yX0_tireAll cX0_tireAll 3 none, Cond.methodLink RX4 135 yX4_hasTown]
def wsX4_advise : List Cond := .code yX4_advise cX4_advise 8 (some .int) :: ((wsX4_advise_r1 ++ (wsX4_advise_r2 ++ (wsX4_advise_r3 ++ (wsX4_advise_r4 ++ (wsX4_advise_r5 ++ (wsX4_advise_r6 ++ (wsX4_advise_r7 ++ wsX4_advise_r8))))))) ++ wsX40 ++ wsX30 ++ wsX00 ++ wsX20 ++ wsX10 ++ (vx_atS RX4 130 "java/lang/IndexOutOfBoundsException" ["java/lang/RuntimeException", "java/lang/Exception"]).filter goodWord ++ (vx_atS RX4 163 "java/lang/IllegalArgumentException" ["java/lang/RuntimeException", "java/lang/Exception"]).filter goodWord)
def wsX4_share : List Cond := .code yX4_share cX4_share 3 (some .double) :: ([.fieldLink RX4 17 "NightSorters" "train" "LNightSorters$Train;", .fieldLink RX4 58 "NightSorters$Train" "mail" "LNightSorters$Mail;", .fieldLink RX4 109 "NightSorters$Mail" "inPlace" "[I"] ++ wsX40 ++ wsX30 ++ wsX20)
def wsX4_digest_r1 : List Cond := [Cond.constantLong RX4 138 (1049), Cond.constantLong RX4 140 (31), Cond.fieldLink RX4 17 "NightSorters" "train" "LNightSorters$Train;", Cond.fieldLink RX4 74 "NightSorters$Train" "crew" "LNightSorters$Crew;", Cond.fieldLink RX4 78 "NightSorters$Crew" "size" "I", Cond.fieldLink RX4 58 "NightSorters$Train" "mail" "LNightSorters$Mail;", Cond.fieldLink RX4 62 "NightSorters$Mail" "size" "I", Cond.methodLink RX4 142 yX4_count, Cond.instanceMethod yX4_count, Cond.selects RX4 yX4_count yX4_count, Cond.initialized RX4, Cond.code yX4_count cX4_count 2 (some .int), Cond.fieldLink RX4 36 "NightSorters$Train" "minute" "I", Cond.fieldLink RX4 32 "NightSorters$Train" "line" "LNightSorters$Line;", Cond.fieldLink RX4 109 "NightSorters$Mail" "inPlace" "[I", Cond.methodLink RX4 24 yX4_checkIndex, Cond.static yX4_checkIndex, Cond.code yX4_checkIndex cX4_checkIndex 2 none, Cond.classLink RX4 126 "java/lang/IndexOutOfBoundsException", Cond.initialized "java/lang/IndexOutOfBoundsException", Cond.methodLink RX4 106 yX1_nextFrom, Cond.instanceMethod yX1_nextFrom, Cond.selects RX1 yX1_nextFrom yX1_nextFrom, Cond.initialized RX1]
def wsX4_digest_r2 : List Cond := [Cond.code yX1_nextFrom cX1_nextFrom 3 (some .int), Cond.fieldLink RX1 9 "NightSorters$Line" "minutes" "[I", Cond.methodLink RX4 145 yX4_station, Cond.instanceMethod yX4_station, Cond.selects RX4 yX4_station yX4_station, Cond.code yX4_station cX4_station 3 (some .int), Cond.fieldLink RX4 40 "NightSorters$Line" "minutes" "[I", Cond.fieldLink RX4 55 "NightSorters$Line" "jolts" "[I", Cond.methodLink RX4 102 yX2_lettersInBag, Cond.instanceMethod yX2_lettersInBag, Cond.selects RX2 yX2_lettersInBag yX2_lettersInBag, Cond.initialized RX2, Cond.code yX2_lettersInBag cX2_lettersInBag 4 (some .int), Cond.fieldLink RX2 9 "NightSorters$Mail" "size" "I", Cond.methodLink RX2 45 yX2_isInBag, Cond.instanceMethod yX2_isInBag, Cond.selects RX2 yX2_isInBag yX2_isInBag, Cond.code yX2_isInBag cX2_isInBag 3 (some .boolean), Cond.fieldLink RX2 22 "NightSorters$Mail" "place" "[I", Cond.fieldLink RX2 19 "NightSorters$Mail" "postedAt" "[I", Cond.methodLink RX4 148 yX4_hole, Cond.instanceMethod yX4_hole, Cond.selects RX4 yX4_hole yX4_hole, Cond.code yX4_hole cX4_hole 2 (some .int)]
def wsX4_digest_r3 : List Cond := [Cond.fieldLink RX4 99 "NightSorters$Mail" "inHole" "[I", Cond.methodLink RX4 151 yX4_sorter, Cond.instanceMethod yX4_sorter, Cond.selects RX4 yX4_sorter yX4_sorter, Cond.code yX4_sorter cX4_sorter 3 (some .int), Cond.methodLink RX4 98 yX0_fact, Cond.instanceMethod yX0_fact, Cond.selects RX0 yX0_fact yX0_fact, Cond.initialized RX0, Cond.code yX0_fact cX0_fact 3 (some .int), Cond.fieldLink RX0 15 "NightSorters$Crew" "pace" "[I", Cond.fieldLink RX0 19 "NightSorters$Crew" "towns" "[I", Cond.fieldLink RX0 22 "NightSorters$Crew" "tired" "[I", Cond.fieldLink RX0 25 "NightSorters$Crew" "withTea" "[I", Cond.fieldLink RX0 28 "NightSorters$Crew" "held" "[I", Cond.fieldLink RX0 31 "NightSorters$Crew" "minutesLeft" "[I", Cond.fieldLink RX0 34 "NightSorters$Crew" "sorted" "[I", Cond.methodLink RX4 154 yX4_letter, Cond.instanceMethod yX4_letter, Cond.selects RX4 yX4_letter yX4_letter, Cond.code yX4_letter cX4_letter 3 (some .int), Cond.methodLink RX4 95 yX2_fact, Cond.instanceMethod yX2_fact, Cond.selects RX2 yX2_fact yX2_fact]
def wsX4_digest_r4 : List Cond := [Cond.code yX2_fact cX2_fact 3 (some .int), Cond.fieldLink RX2 15 "NightSorters$Mail" "town" "[I", Cond.fieldLink RX2 25 "NightSorters$Mail" "holder" "[I", Cond.fieldLink RX2 28 "NightSorters$Mail" "endMinute" "[I"]
def wsX4_digest : List Cond := .code yX4_digest cX4_digest 5 (some .long) :: ((wsX4_digest_r1 ++ (wsX4_digest_r2 ++ (wsX4_digest_r3 ++ wsX4_digest_r4))) ++ wsX40 ++ wsX30 ++ wsX00 ++ wsX20 ++ wsX10 ++ (vx_atS RX4 130 "java/lang/IndexOutOfBoundsException" ["java/lang/RuntimeException", "java/lang/Exception"]).filter goodWord)
def wsX5_init : List Cond := .code yX5_init cX5_init 2 none :: ([.fieldLink RX5 3 "NightSortersModel$State" "this$0" "LNightSortersModel;", .methodLink RX5 9 objectInit, .instanceMethod objectInit, .code objectInit ⟨#[0xb1]⟩ 1 none, .arrayClass .int, .fieldLink RX5 15 "NightSortersModel$State" "where" "[I", .fieldLink RX5 19 "NightSortersModel$State" "who" "[I", .fieldLink RX5 22 "NightSortersModel$State" "when" "[I", .fieldLink RX5 25 "NightSortersModel$State" "towns" "[I", .fieldLink RX5 28 "NightSortersModel$State" "tired" "[I", .fieldLink RX5 31 "NightSortersModel$State" "tea" "[I", .fieldLink RX5 34 "NightSortersModel$State" "holds" "[I", .fieldLink RX5 37 "NightSortersModel$State" "left" "[I", .fieldLink RX5 40 "NightSortersModel$State" "sorted" "[I"] ++ wsX50)
def wsX5_copy : List Cond := .code yX5_copy cX5_copy 3 none :: ([.methodLink RX5 43 arraycopyName, .native arraycopyName, .static arraycopyName, .initialized "java/lang/System"])
def wsX5_become : List Cond := .code yX5_become cX5_become 2 none :: ([.fieldLink RX5 49 "NightSortersModel$State" "minute" "I", .fieldLink RX5 15 "NightSortersModel$State" "where" "[I", .fieldLink RX5 19 "NightSortersModel$State" "who" "[I", .fieldLink RX5 22 "NightSortersModel$State" "when" "[I", .fieldLink RX5 25 "NightSortersModel$State" "towns" "[I", .fieldLink RX5 28 "NightSortersModel$State" "tired" "[I", .fieldLink RX5 31 "NightSortersModel$State" "tea" "[I", .fieldLink RX5 34 "NightSortersModel$State" "holds" "[I", .fieldLink RX5 37 "NightSortersModel$State" "left" "[I", .fieldLink RX5 40 "NightSortersModel$State" "sorted" "[I", .methodLink RX5 53 yX5_copy, .instanceMethod yX5_copy, .selects RX5 yX5_copy yX5_copy, .initialized RX5, .code yX5_copy cX5_copy 3 none, .methodLink RX5 43 arraycopyName, .native arraycopyName, .static arraycopyName, .initialized "java/lang/System"] ++ wsX50)
def wsX5_are : List Cond := .code yX5_are cX5_are 4 (some .int) :: ([.fieldLink RX5 3 "NightSortersModel$State" "this$0" "LNightSortersModel;", .fieldLink RX5 15 "NightSortersModel$State" "where" "[I"] ++ wsX50 ++ wsX60)
def wsX5_inHole : List Cond := .code yX5_inHole cX5_inHole 4 (some .int) :: ([.fieldLink RX5 3 "NightSortersModel$State" "this$0" "LNightSortersModel;", .fieldLink RX5 15 "NightSortersModel$State" "where" "[I"] ++ wsX50 ++ wsX60)
def wsX5_firstFor : List Cond := .code yX5_firstFor cX5_firstFor 3 (some .int) :: ([.fieldLink RX5 3 "NightSortersModel$State" "this$0" "LNightSortersModel;", .fieldLink RX5 15 "NightSortersModel$State" "where" "[I", .fieldLink RX5 25 "NightSortersModel$State" "towns" "[I"] ++ wsX50 ++ wsX60)
def wsX5_take : List Cond := .code yX5_take cX5_take 3 none :: ([.fieldLink RX5 34 "NightSortersModel$State" "holds" "[I", .fieldLink RX5 37 "NightSortersModel$State" "left" "[I", .fieldLink RX5 3 "NightSortersModel$State" "this$0" "LNightSortersModel;", .fieldLink RX5 28 "NightSortersModel$State" "tired" "[I", .fieldLink RX5 31 "NightSortersModel$State" "tea" "[I", .methodLink RX5 70 Lib.Math.max.name, .static Lib.Math.max.name, .initialized "java/lang/Math", .code Lib.Math.max.name Lib.Math.max.code 2 (some .int), .fieldLink RX5 15 "NightSortersModel$State" "where" "[I", .fieldLink RX5 19 "NightSortersModel$State" "who" "[I", .methodLink RX5 63 yX5_firstFor, .instanceMethod yX5_firstFor, .selects RX5 yX5_firstFor yX5_firstFor, .initialized RX5, .code yX5_firstFor cX5_firstFor 3 (some .int), .fieldLink RX5 25 "NightSortersModel$State" "towns" "[I"] ++ wsX50 ++ wsX60)
def wsX5_let : List Cond := .code yX5_let cX5_let 4 none :: ([.fieldLink RX5 34 "NightSortersModel$State" "holds" "[I", .fieldLink RX5 15 "NightSortersModel$State" "where" "[I", .fieldLink RX5 19 "NightSortersModel$State" "who" "[I", .fieldLink RX5 37 "NightSortersModel$State" "left" "[I"] ++ wsX50)
def wsX5_work_r1 : List Cond := [Cond.fieldLink RX5 34 "NightSortersModel$State" "holds" "[I", Cond.fieldLink RX5 37 "NightSortersModel$State" "left" "[I", Cond.fieldLink RX5 3 "NightSortersModel$State" "this$0" "LNightSortersModel;", Cond.fieldLink RX5 40 "NightSortersModel$State" "sorted" "[I", Cond.fieldLink RX5 28 "NightSortersModel$State" "tired" "[I", Cond.methodLink RX5 76 yX5_take, Cond.instanceMethod yX5_take, Cond.selects RX5 yX5_take yX5_take, Cond.initialized RX5, Cond.code yX5_take cX5_take 3 none, Cond.fieldLink RX5 31 "NightSortersModel$State" "tea" "[I", Cond.methodLink RX5 70 Lib.Math.max.name, Cond.static Lib.Math.max.name, Cond.initialized "java/lang/Math", Cond.code Lib.Math.max.name Lib.Math.max.code 2 (some .int), Cond.fieldLink RX5 15 "NightSortersModel$State" "where" "[I", Cond.fieldLink RX5 19 "NightSortersModel$State" "who" "[I", Cond.methodLink RX5 63 yX5_firstFor, Cond.instanceMethod yX5_firstFor, Cond.selects RX5 yX5_firstFor yX5_firstFor, Cond.code yX5_firstFor cX5_firstFor 3 (some .int), Cond.fieldLink RX5 25 "NightSortersModel$State" "towns" "[I", Cond.methodLink RX5 80 yX5_inHole, Cond.instanceMethod yX5_inHole]
def wsX5_work_r2 : List Cond := [Cond.selects RX5 yX5_inHole yX5_inHole, Cond.code yX5_inHole cX5_inHole 4 (some .int), Cond.methodLink RX5 83 yX5_let, Cond.instanceMethod yX5_let, Cond.selects RX5 yX5_let yX5_let, Cond.code yX5_let cX5_let 4 none]
def wsX5_work : List Cond := .code yX5_work cX5_work 3 none :: ((wsX5_work_r1 ++ wsX5_work_r2) ++ wsX50 ++ wsX60)
def wsX5_end : List Cond := .code yX5_end cX5_end 3 none :: ([.fieldLink RX5 15 "NightSortersModel$State" "where" "[I", .fieldLink RX5 19 "NightSortersModel$State" "who" "[I", .fieldLink RX5 22 "NightSortersModel$State" "when" "[I", .fieldLink RX5 49 "NightSortersModel$State" "minute" "I", .methodLink RX5 83 yX5_let, .instanceMethod yX5_let, .selects RX5 yX5_let yX5_let, .initialized RX5, .code yX5_let cX5_let 4 none, .fieldLink RX5 34 "NightSortersModel$State" "holds" "[I", .fieldLink RX5 37 "NightSortersModel$State" "left" "[I"] ++ wsX50)
def wsX5_passStation : List Cond := .code yX5_passStation cX5_passStation 4 none :: ([.fieldLink RX5 3 "NightSortersModel$State" "this$0" "LNightSortersModel;", .fieldLink RX5 15 "NightSortersModel$State" "where" "[I", .methodLink RX5 87 yX5_end, .instanceMethod yX5_end, .selects RX5 yX5_end yX5_end, .initialized RX5, .code yX5_end cX5_end 3 none, .fieldLink RX5 19 "NightSortersModel$State" "who" "[I", .fieldLink RX5 22 "NightSortersModel$State" "when" "[I", .fieldLink RX5 49 "NightSortersModel$State" "minute" "I", .methodLink RX5 83 yX5_let, .instanceMethod yX5_let, .selects RX5 yX5_let yX5_let, .code yX5_let cX5_let 4 none, .fieldLink RX5 34 "NightSortersModel$State" "holds" "[I", .fieldLink RX5 37 "NightSortersModel$State" "left" "[I"] ++ wsX50 ++ wsX60)
def wsX5_shake : List Cond := .code yX5_shake cX5_shake 4 none :: ([.fieldLink RX5 3 "NightSortersModel$State" "this$0" "LNightSortersModel;", .fieldLink RX5 31 "NightSortersModel$State" "tea" "[I", .fieldLink RX5 28 "NightSortersModel$State" "tired" "[I", .fieldLink RX5 15 "NightSortersModel$State" "where" "[I", .methodLink RX5 80 yX5_inHole, .instanceMethod yX5_inHole, .selects RX5 yX5_inHole yX5_inHole, .initialized RX5, .code yX5_inHole cX5_inHole 4 (some .int)] ++ wsX50 ++ wsX60)
def wsX5_pass_r1 : List Cond := [Cond.fieldLink RX5 3 "NightSortersModel$State" "this$0" "LNightSortersModel;", Cond.fieldLink RX5 49 "NightSortersModel$State" "minute" "I", Cond.methodLink RX5 96 yX5_work, Cond.instanceMethod yX5_work, Cond.selects RX5 yX5_work yX5_work, Cond.initialized RX5, Cond.code yX5_work cX5_work 3 none, Cond.fieldLink RX5 34 "NightSortersModel$State" "holds" "[I", Cond.fieldLink RX5 37 "NightSortersModel$State" "left" "[I", Cond.fieldLink RX5 40 "NightSortersModel$State" "sorted" "[I", Cond.fieldLink RX5 28 "NightSortersModel$State" "tired" "[I", Cond.methodLink RX5 76 yX5_take, Cond.instanceMethod yX5_take, Cond.selects RX5 yX5_take yX5_take, Cond.code yX5_take cX5_take 3 none, Cond.fieldLink RX5 31 "NightSortersModel$State" "tea" "[I", Cond.methodLink RX5 70 Lib.Math.max.name, Cond.static Lib.Math.max.name, Cond.initialized "java/lang/Math", Cond.code Lib.Math.max.name Lib.Math.max.code 2 (some .int), Cond.fieldLink RX5 15 "NightSortersModel$State" "where" "[I", Cond.fieldLink RX5 19 "NightSortersModel$State" "who" "[I", Cond.methodLink RX5 63 yX5_firstFor, Cond.instanceMethod yX5_firstFor]
def wsX5_pass_r2 : List Cond := [Cond.selects RX5 yX5_firstFor yX5_firstFor, Cond.code yX5_firstFor cX5_firstFor 3 (some .int), Cond.fieldLink RX5 25 "NightSortersModel$State" "towns" "[I", Cond.methodLink RX5 80 yX5_inHole, Cond.instanceMethod yX5_inHole, Cond.selects RX5 yX5_inHole yX5_inHole, Cond.code yX5_inHole cX5_inHole 4 (some .int), Cond.methodLink RX5 83 yX5_let, Cond.instanceMethod yX5_let, Cond.selects RX5 yX5_let yX5_let, Cond.code yX5_let cX5_let 4 none, Cond.methodLink RX5 99 yX5_are, Cond.instanceMethod yX5_are, Cond.selects RX5 yX5_are yX5_are, Cond.code yX5_are cX5_are 4 (some .int), Cond.methodLink RX5 105 yX5_passStation, Cond.instanceMethod yX5_passStation, Cond.selects RX5 yX5_passStation yX5_passStation, Cond.code yX5_passStation cX5_passStation 4 none, Cond.methodLink RX5 87 yX5_end, Cond.instanceMethod yX5_end, Cond.selects RX5 yX5_end yX5_end, Cond.code yX5_end cX5_end 3 none, Cond.fieldLink RX5 22 "NightSortersModel$State" "when" "[I"]
def wsX5_pass_r3 : List Cond := [Cond.methodLink RX5 111 yX5_shake, Cond.instanceMethod yX5_shake, Cond.selects RX5 yX5_shake yX5_shake, Cond.code yX5_shake cX5_shake 4 none]
def wsX5_pass : List Cond := .code yX5_pass cX5_pass 3 (some .int) :: ((wsX5_pass_r1 ++ (wsX5_pass_r2 ++ wsX5_pass_r3)) ++ wsX50 ++ wsX60)
def wsX5_pass__r1 : List Cond := [Cond.methodLink RX5 114 yX5_pass, Cond.instanceMethod yX5_pass, Cond.selects RX5 yX5_pass yX5_pass, Cond.initialized RX5, Cond.code yX5_pass cX5_pass 3 (some .int), Cond.fieldLink RX5 3 "NightSortersModel$State" "this$0" "LNightSortersModel;", Cond.fieldLink RX5 49 "NightSortersModel$State" "minute" "I", Cond.methodLink RX5 96 yX5_work, Cond.instanceMethod yX5_work, Cond.selects RX5 yX5_work yX5_work, Cond.code yX5_work cX5_work 3 none, Cond.fieldLink RX5 34 "NightSortersModel$State" "holds" "[I", Cond.fieldLink RX5 37 "NightSortersModel$State" "left" "[I", Cond.fieldLink RX5 40 "NightSortersModel$State" "sorted" "[I", Cond.fieldLink RX5 28 "NightSortersModel$State" "tired" "[I", Cond.methodLink RX5 76 yX5_take, Cond.instanceMethod yX5_take, Cond.selects RX5 yX5_take yX5_take, Cond.code yX5_take cX5_take 3 none, Cond.fieldLink RX5 31 "NightSortersModel$State" "tea" "[I", Cond.methodLink RX5 70 Lib.Math.max.name, Cond.static Lib.Math.max.name, Cond.initialized "java/lang/Math", Cond.code Lib.Math.max.name Lib.Math.max.code 2 (some .int)]
def wsX5_pass__r2 : List Cond := [Cond.fieldLink RX5 15 "NightSortersModel$State" "where" "[I", Cond.fieldLink RX5 19 "NightSortersModel$State" "who" "[I", Cond.methodLink RX5 63 yX5_firstFor, Cond.instanceMethod yX5_firstFor, Cond.selects RX5 yX5_firstFor yX5_firstFor, Cond.code yX5_firstFor cX5_firstFor 3 (some .int), Cond.fieldLink RX5 25 "NightSortersModel$State" "towns" "[I", Cond.methodLink RX5 80 yX5_inHole, Cond.instanceMethod yX5_inHole, Cond.selects RX5 yX5_inHole yX5_inHole, Cond.code yX5_inHole cX5_inHole 4 (some .int), Cond.methodLink RX5 83 yX5_let, Cond.instanceMethod yX5_let, Cond.selects RX5 yX5_let yX5_let, Cond.code yX5_let cX5_let 4 none, Cond.methodLink RX5 99 yX5_are, Cond.instanceMethod yX5_are, Cond.selects RX5 yX5_are yX5_are, Cond.code yX5_are cX5_are 4 (some .int), Cond.methodLink RX5 105 yX5_passStation, Cond.instanceMethod yX5_passStation, Cond.selects RX5 yX5_passStation yX5_passStation, Cond.code yX5_passStation cX5_passStation 4 none, Cond.methodLink RX5 87 yX5_end]
def wsX5_pass__r3 : List Cond := [Cond.instanceMethod yX5_end, Cond.selects RX5 yX5_end yX5_end, Cond.code yX5_end cX5_end 3 none, Cond.fieldLink RX5 22 "NightSortersModel$State" "when" "[I", Cond.methodLink RX5 111 yX5_shake, Cond.instanceMethod yX5_shake, Cond.selects RX5 yX5_shake yX5_shake, Cond.code yX5_shake cX5_shake 4 none]
def wsX5_pass_ : List Cond := .code yX5_pass_ cX5_pass_ 4 (some .int) :: ((wsX5_pass__r1 ++ (wsX5_pass__r2 ++ wsX5_pass__r3)) ++ wsX50 ++ wsX60)
def wsX6_init_r1 : List Cond := [Cond.methodLink RX6 1 objectInit, Cond.instanceMethod objectInit, Cond.code objectInit ⟨#[0xb1]⟩ 1 none, Cond.arrayClass .int, Cond.fieldLink RX6 9 "NightSortersModel" "passes" "[I", Cond.fieldLink RX6 13 "NightSortersModel" "jolt" "[I", Cond.fieldLink RX6 16 "NightSortersModel" "town" "[I", Cond.fieldLink RX6 19 "NightSortersModel" "station" "[I", Cond.fieldLink RX6 22 "NightSortersModel" "pace" "[I", Cond.classLink RX6 25 RX5, Cond.instantiable RX5 11, Cond.initialized RX5, Cond.fieldLink RX6 30 "NightSortersModel" "s" "LNightSortersModel$State;", Cond.fieldLink RX6 34 "NightSortersModel" "ahead" "LNightSortersModel$State;", Cond.instanceMethod yX5_init, Cond.code yX5_init cX5_init 2 none, Cond.fieldLink RX5 3 "NightSortersModel$State" "this$0" "LNightSortersModel;", Cond.methodLink RX5 9 objectInit, Cond.fieldLink RX5 15 "NightSortersModel$State" "where" "[I", Cond.fieldLink RX5 19 "NightSortersModel$State" "who" "[I", Cond.fieldLink RX5 22 "NightSortersModel$State" "when" "[I", Cond.fieldLink RX5 25 "NightSortersModel$State" "towns" "[I", Cond.fieldLink RX5 28 "NightSortersModel$State" "tired" "[I", Cond.fieldLink RX5 31 "NightSortersModel$State" "tea" "[I"]
def wsX6_init_r2 : List Cond := [Cond.fieldLink RX5 34 "NightSortersModel$State" "holds" "[I", Cond.fieldLink RX5 37 "NightSortersModel$State" "left" "[I", Cond.fieldLink RX5 40 "NightSortersModel$State" "sorted" "[I"]
def wsX6_init : List Cond := .code yX6_init cX6_init 2 none :: ((wsX6_init_r1 ++ wsX6_init_r2) ++ wsX60 ++ wsX50)
def wsX6_thrown : List Cond := .code yX6_thrown cX6_thrown 1 (some .int) :: ([.fieldLink RX6 37 "NightSortersModel" "thrown" "I"] ++ wsX60)
def wsX6_no : List Cond := .code yX6_no cX6_no 2 (some .int) :: ([.fieldLink RX6 37 "NightSortersModel" "thrown" "I"] ++ wsX60)
def wsX6_isIn : List Cond := .code yX6_isIn cX6_isIn 3 (some .boolean) :: ([])
def wsX6_isStation : List Cond := .code yX6_isStation cX6_isStation 1 (some .boolean) :: ([.methodLink RX6 41 yX6_isIn, .static yX6_isIn, .initialized RX6, .code yX6_isIn cX6_isIn 3 (some .boolean)])
def wsX6_isTown : List Cond := .code yX6_isTown cX6_isTown 1 (some .boolean) :: ([.methodLink RX6 41 yX6_isIn, .static yX6_isIn, .initialized RX6, .code yX6_isIn cX6_isIn 3 (some .boolean)])
def wsX6_isSet : List Cond := .code yX6_isSet cX6_isSet 1 (some .boolean) :: ([.constant RX6 45 (65535), .methodLink RX6 41 yX6_isIn, .static yX6_isIn, .initialized RX6, .code yX6_isIn cX6_isIn 3 (some .boolean)])
def wsX6_isLetter : List Cond := .code yX6_isLetter cX6_isLetter 2 (some .boolean) :: ([.fieldLink RX6 46 "NightSortersModel" "letters" "I", .methodLink RX6 41 yX6_isIn, .static yX6_isIn, .initialized RX6, .code yX6_isIn cX6_isIn 3 (some .boolean)] ++ wsX60)
def wsX6_isSorter : List Cond := .code yX6_isSorter cX6_isSorter 2 (some .boolean) :: ([.fieldLink RX6 49 "NightSortersModel" "sorters" "I", .methodLink RX6 41 yX6_isIn, .static yX6_isIn, .initialized RX6, .code yX6_isIn cX6_isIn 3 (some .boolean)] ++ wsX60)
def wsX6_wouldRise : List Cond := .code yX6_wouldRise cX6_wouldRise 3 (some .boolean) :: ([.fieldLink RX6 9 "NightSortersModel" "passes" "[I"] ++ wsX60)
def wsX6_setStation : List Cond := .code yX6_setStation cX6_setStation 5 (some .int) :: ([.fieldLink RX6 37 "NightSortersModel" "thrown" "I", .fieldLink RX6 30 "NightSortersModel" "s" "LNightSortersModel$State;", .fieldLink RX6 9 "NightSortersModel" "passes" "[I", .fieldLink RX6 13 "NightSortersModel" "jolt" "[I", .methodLink RX6 52 yX6_isStation, .static yX6_isStation, .initialized RX6, .code yX6_isStation cX6_isStation 1 (some .boolean), .methodLink RX6 41 yX6_isIn, .static yX6_isIn, .code yX6_isIn cX6_isIn 3 (some .boolean), .methodLink RX6 56 yX6_no, .instanceMethod yX6_no, .selects RX6 yX6_no yX6_no, .code yX6_no cX6_no 2 (some .int), .methodLink RX6 63 yX6_wouldRise, .instanceMethod yX6_wouldRise, .selects RX6 yX6_wouldRise yX6_wouldRise, .code yX6_wouldRise cX6_wouldRise 3 (some .boolean)] ++ wsX60 ++ wsX50)
def wsX6_post : List Cond := .code yX6_post cX6_post 3 (some .int) :: ([.fieldLink RX6 37 "NightSortersModel" "thrown" "I", .fieldLink RX6 46 "NightSortersModel" "letters" "I", .fieldLink RX6 19 "NightSortersModel" "station" "[I", .fieldLink RX6 16 "NightSortersModel" "town" "[I", .fieldLink RX6 30 "NightSortersModel" "s" "LNightSortersModel$State;", .methodLink RX6 52 yX6_isStation, .static yX6_isStation, .initialized RX6, .code yX6_isStation cX6_isStation 1 (some .boolean), .methodLink RX6 41 yX6_isIn, .static yX6_isIn, .code yX6_isIn cX6_isIn 3 (some .boolean), .methodLink RX6 67 yX6_isTown, .static yX6_isTown, .code yX6_isTown cX6_isTown 1 (some .boolean), .methodLink RX6 56 yX6_no, .instanceMethod yX6_no, .selects RX6 yX6_no yX6_no, .code yX6_no cX6_no 2 (some .int)] ++ wsX60 ++ wsX50)
def wsX6_hire : List Cond := .code yX6_hire cX6_hire 3 (some .int) :: ([.fieldLink RX6 37 "NightSortersModel" "thrown" "I", .fieldLink RX6 49 "NightSortersModel" "sorters" "I", .fieldLink RX6 22 "NightSortersModel" "pace" "[I", .fieldLink RX6 30 "NightSortersModel" "s" "LNightSortersModel$State;", .methodLink RX6 41 yX6_isIn, .static yX6_isIn, .initialized RX6, .code yX6_isIn cX6_isIn 3 (some .boolean), .methodLink RX6 76 yX6_isSet, .static yX6_isSet, .code yX6_isSet cX6_isSet 1 (some .boolean), .constant RX6 45 (65535), .methodLink RX6 56 yX6_no, .instanceMethod yX6_no, .selects RX6 yX6_no yX6_no, .code yX6_no cX6_no 2 (some .int)] ++ wsX60 ++ wsX50)
def wsX6_assign : List Cond := .code yX6_assign cX6_assign 4 (some .int) :: ([.fieldLink RX6 37 "NightSortersModel" "thrown" "I", .fieldLink RX6 30 "NightSortersModel" "s" "LNightSortersModel$State;", .methodLink RX6 85 yX6_isSorter, .instanceMethod yX6_isSorter, .selects RX6 yX6_isSorter yX6_isSorter, .initialized RX6, .code yX6_isSorter cX6_isSorter 2 (some .boolean), .fieldLink RX6 49 "NightSortersModel" "sorters" "I", .methodLink RX6 41 yX6_isIn, .static yX6_isIn, .code yX6_isIn cX6_isIn 3 (some .boolean), .methodLink RX6 56 yX6_no, .instanceMethod yX6_no, .selects RX6 yX6_no yX6_no, .code yX6_no cX6_no 2 (some .int), .methodLink RX6 76 yX6_isSet, .static yX6_isSet, .code yX6_isSet cX6_isSet 1 (some .boolean), .constant RX6 45 (65535)] ++ wsX60 ++ wsX50)
def wsX6_tea : List Cond := .code yX6_tea cX6_tea 3 (some .int) :: ([.fieldLink RX6 37 "NightSortersModel" "thrown" "I", .fieldLink RX6 30 "NightSortersModel" "s" "LNightSortersModel$State;", .methodLink RX6 85 yX6_isSorter, .instanceMethod yX6_isSorter, .selects RX6 yX6_isSorter yX6_isSorter, .initialized RX6, .code yX6_isSorter cX6_isSorter 2 (some .boolean), .fieldLink RX6 49 "NightSortersModel" "sorters" "I", .methodLink RX6 41 yX6_isIn, .static yX6_isIn, .code yX6_isIn cX6_isIn 3 (some .boolean), .methodLink RX6 56 yX6_no, .instanceMethod yX6_no, .selects RX6 yX6_no yX6_no, .code yX6_no cX6_no 2 (some .int)] ++ wsX60 ++ wsX50)
def wsX6_letterTold : List Cond := .code yX6_letterTold cX6_letterTold 4 (some .int) :: ([.arrayClass .int, .fieldLink RX6 30 "NightSortersModel" "s" "LNightSortersModel$State;", .fieldLink RX6 16 "NightSortersModel" "town" "[I", .fieldLink RX6 19 "NightSortersModel" "station" "[I"] ++ wsX60 ++ wsX50)
def wsX6_letter : List Cond := .code yX6_letter cX6_letter 3 (some .int) :: ([.fieldLink RX6 37 "NightSortersModel" "thrown" "I", .methodLink RX6 97 yX6_isLetter, .instanceMethod yX6_isLetter, .selects RX6 yX6_isLetter yX6_isLetter, .initialized RX6, .code yX6_isLetter cX6_isLetter 2 (some .boolean), .fieldLink RX6 46 "NightSortersModel" "letters" "I", .methodLink RX6 41 yX6_isIn, .static yX6_isIn, .code yX6_isIn cX6_isIn 3 (some .boolean), .methodLink RX6 100 yX6_letterTold, .instanceMethod yX6_letterTold, .selects RX6 yX6_letterTold yX6_letterTold, .code yX6_letterTold cX6_letterTold 4 (some .int), .arrayClass .int, .fieldLink RX6 30 "NightSortersModel" "s" "LNightSortersModel$State;", .fieldLink RX6 16 "NightSortersModel" "town" "[I", .fieldLink RX6 19 "NightSortersModel" "station" "[I", .methodLink RX6 56 yX6_no, .instanceMethod yX6_no, .selects RX6 yX6_no yX6_no, .code yX6_no cX6_no 2 (some .int)] ++ wsX60 ++ wsX50)
def wsX6_sorterTold : List Cond := .code yX6_sorterTold cX6_sorterTold 4 (some .int) :: ([.arrayClass .int, .fieldLink RX6 22 "NightSortersModel" "pace" "[I", .fieldLink RX6 30 "NightSortersModel" "s" "LNightSortersModel$State;"] ++ wsX60 ++ wsX50)
def wsX6_sorter : List Cond := .code yX6_sorter cX6_sorter 3 (some .int) :: ([.fieldLink RX6 37 "NightSortersModel" "thrown" "I", .methodLink RX6 85 yX6_isSorter, .instanceMethod yX6_isSorter, .selects RX6 yX6_isSorter yX6_isSorter, .initialized RX6, .code yX6_isSorter cX6_isSorter 2 (some .boolean), .fieldLink RX6 49 "NightSortersModel" "sorters" "I", .methodLink RX6 41 yX6_isIn, .static yX6_isIn, .code yX6_isIn cX6_isIn 3 (some .boolean), .methodLink RX6 110 yX6_sorterTold, .instanceMethod yX6_sorterTold, .selects RX6 yX6_sorterTold yX6_sorterTold, .code yX6_sorterTold cX6_sorterTold 4 (some .int), .arrayClass .int, .fieldLink RX6 22 "NightSortersModel" "pace" "[I", .fieldLink RX6 30 "NightSortersModel" "s" "LNightSortersModel$State;", .methodLink RX6 56 yX6_no, .instanceMethod yX6_no, .selects RX6 yX6_no yX6_no, .code yX6_no cX6_no 2 (some .int)] ++ wsX60 ++ wsX50)
def wsX6_hole : List Cond := .code yX6_hole cX6_hole 2 (some .int) :: ([.fieldLink RX6 37 "NightSortersModel" "thrown" "I", .fieldLink RX6 30 "NightSortersModel" "s" "LNightSortersModel$State;", .methodLink RX6 67 yX6_isTown, .static yX6_isTown, .initialized RX6, .code yX6_isTown cX6_isTown 1 (some .boolean), .methodLink RX6 41 yX6_isIn, .static yX6_isIn, .code yX6_isIn cX6_isIn 3 (some .boolean), .methodLink RX6 113 yX5_inHole, .instanceMethod yX5_inHole, .selects RX5 yX5_inHole yX5_inHole, .initialized RX5, .code yX5_inHole cX5_inHole 4 (some .int), .fieldLink RX5 3 "NightSortersModel$State" "this$0" "LNightSortersModel;", .fieldLink RX5 15 "NightSortersModel$State" "where" "[I", .methodLink RX6 56 yX6_no, .instanceMethod yX6_no, .selects RX6 yX6_no yX6_no, .code yX6_no cX6_no 2 (some .int)] ++ wsX60 ++ wsX50)
def wsX6_stationTold : List Cond := .code yX6_stationTold cX6_stationTold 5 (some .int) :: ([.fieldLink RX6 46 "NightSortersModel" "letters" "I", .fieldLink RX6 30 "NightSortersModel" "s" "LNightSortersModel$State;", .fieldLink RX6 19 "NightSortersModel" "station" "[I", .fieldLink RX6 9 "NightSortersModel" "passes" "[I", .fieldLink RX6 13 "NightSortersModel" "jolt" "[I"] ++ wsX60 ++ wsX50)
def wsX6_station : List Cond := .code yX6_station cX6_station 3 (some .int) :: ([.fieldLink RX6 37 "NightSortersModel" "thrown" "I", .methodLink RX6 52 yX6_isStation, .static yX6_isStation, .initialized RX6, .code yX6_isStation cX6_isStation 1 (some .boolean), .methodLink RX6 41 yX6_isIn, .static yX6_isIn, .code yX6_isIn cX6_isIn 3 (some .boolean), .methodLink RX6 116 yX6_stationTold, .instanceMethod yX6_stationTold, .selects RX6 yX6_stationTold yX6_stationTold, .code yX6_stationTold cX6_stationTold 5 (some .int), .fieldLink RX6 46 "NightSortersModel" "letters" "I", .fieldLink RX6 30 "NightSortersModel" "s" "LNightSortersModel$State;", .fieldLink RX6 19 "NightSortersModel" "station" "[I", .fieldLink RX6 9 "NightSortersModel" "passes" "[I", .fieldLink RX6 13 "NightSortersModel" "jolt" "[I", .methodLink RX6 56 yX6_no, .instanceMethod yX6_no, .selects RX6 yX6_no yX6_no, .code yX6_no cX6_no 2 (some .int)] ++ wsX60 ++ wsX50)
def wsX6_counted : List Cond := .code yX6_counted cX6_counted 3 (some .int) :: ([.fieldLink RX6 30 "NightSortersModel" "s" "LNightSortersModel$State;", .fieldLink RX6 9 "NightSortersModel" "passes" "[I", .fieldLink RX6 46 "NightSortersModel" "letters" "I", .fieldLink RX6 49 "NightSortersModel" "sorters" "I", .methodLink RX6 41 yX6_isIn, .static yX6_isIn, .initialized RX6, .code yX6_isIn cX6_isIn 3 (some .boolean), .methodLink RX6 119 yX5_are, .instanceMethod yX5_are, .selects RX5 yX5_are yX5_are, .initialized RX5, .code yX5_are cX5_are 4 (some .int), .fieldLink RX5 3 "NightSortersModel$State" "this$0" "LNightSortersModel;", .fieldLink RX5 15 "NightSortersModel$State" "where" "[I"] ++ wsX60 ++ wsX50)
def wsX6_count : List Cond := .code yX6_count cX6_count 2 (some .int) :: ([.fieldLink RX6 37 "NightSortersModel" "thrown" "I", .methodLink RX6 41 yX6_isIn, .static yX6_isIn, .initialized RX6, .code yX6_isIn cX6_isIn 3 (some .boolean), .methodLink RX6 122 yX6_counted, .instanceMethod yX6_counted, .selects RX6 yX6_counted yX6_counted, .code yX6_counted cX6_counted 3 (some .int), .fieldLink RX6 30 "NightSortersModel" "s" "LNightSortersModel$State;", .fieldLink RX6 9 "NightSortersModel" "passes" "[I", .fieldLink RX6 46 "NightSortersModel" "letters" "I", .fieldLink RX6 49 "NightSortersModel" "sorters" "I", .methodLink RX6 119 yX5_are, .instanceMethod yX5_are, .selects RX5 yX5_are yX5_are, .initialized RX5, .code yX5_are cX5_are 4 (some .int), .fieldLink RX5 3 "NightSortersModel$State" "this$0" "LNightSortersModel;", .fieldLink RX5 15 "NightSortersModel$State" "where" "[I", .methodLink RX6 56 yX6_no, .instanceMethod yX6_no, .selects RX6 yX6_no yX6_no, .code yX6_no cX6_no 2 (some .int)] ++ wsX60 ++ wsX50)
def wsX6_pass_r1 : List Cond := [Cond.fieldLink RX6 37 "NightSortersModel" "thrown" "I", Cond.fieldLink RX6 30 "NightSortersModel" "s" "LNightSortersModel$State;", Cond.methodLink RX6 41 yX6_isIn, Cond.static yX6_isIn, Cond.initialized RX6, Cond.code yX6_isIn cX6_isIn 3 (some .boolean), Cond.methodLink RX6 125 yX5_pass_, Cond.instanceMethod yX5_pass_, Cond.selects RX5 yX5_pass_ yX5_pass_, Cond.initialized RX5, Cond.code yX5_pass_ cX5_pass_ 4 (some .int), Cond.methodLink RX5 114 yX5_pass, Cond.instanceMethod yX5_pass, Cond.selects RX5 yX5_pass yX5_pass, Cond.code yX5_pass cX5_pass 3 (some .int), Cond.fieldLink RX5 3 "NightSortersModel$State" "this$0" "LNightSortersModel;", Cond.fieldLink RX5 49 "NightSortersModel$State" "minute" "I", Cond.methodLink RX5 96 yX5_work, Cond.instanceMethod yX5_work, Cond.selects RX5 yX5_work yX5_work, Cond.code yX5_work cX5_work 3 none, Cond.fieldLink RX5 34 "NightSortersModel$State" "holds" "[I", Cond.fieldLink RX5 37 "NightSortersModel$State" "left" "[I", Cond.fieldLink RX5 40 "NightSortersModel$State" "sorted" "[I"]
def wsX6_pass_r2 : List Cond := [Cond.fieldLink RX5 28 "NightSortersModel$State" "tired" "[I", Cond.methodLink RX5 76 yX5_take, Cond.instanceMethod yX5_take, Cond.selects RX5 yX5_take yX5_take, Cond.code yX5_take cX5_take 3 none, Cond.fieldLink RX5 31 "NightSortersModel$State" "tea" "[I", Cond.methodLink RX5 70 Lib.Math.max.name, Cond.static Lib.Math.max.name, Cond.initialized "java/lang/Math", Cond.code Lib.Math.max.name Lib.Math.max.code 2 (some .int), Cond.fieldLink RX5 15 "NightSortersModel$State" "where" "[I", Cond.fieldLink RX5 19 "NightSortersModel$State" "who" "[I", Cond.methodLink RX5 63 yX5_firstFor, Cond.instanceMethod yX5_firstFor, Cond.selects RX5 yX5_firstFor yX5_firstFor, Cond.code yX5_firstFor cX5_firstFor 3 (some .int), Cond.fieldLink RX5 25 "NightSortersModel$State" "towns" "[I", Cond.methodLink RX5 80 yX5_inHole, Cond.instanceMethod yX5_inHole, Cond.selects RX5 yX5_inHole yX5_inHole, Cond.code yX5_inHole cX5_inHole 4 (some .int), Cond.methodLink RX5 83 yX5_let, Cond.instanceMethod yX5_let, Cond.selects RX5 yX5_let yX5_let]
def wsX6_pass_r3 : List Cond := [Cond.code yX5_let cX5_let 4 none, Cond.methodLink RX5 99 yX5_are, Cond.instanceMethod yX5_are, Cond.selects RX5 yX5_are yX5_are, Cond.code yX5_are cX5_are 4 (some .int), Cond.methodLink RX5 105 yX5_passStation, Cond.instanceMethod yX5_passStation, Cond.selects RX5 yX5_passStation yX5_passStation, Cond.code yX5_passStation cX5_passStation 4 none, Cond.methodLink RX5 87 yX5_end, Cond.instanceMethod yX5_end, Cond.selects RX5 yX5_end yX5_end, Cond.code yX5_end cX5_end 3 none, Cond.fieldLink RX5 22 "NightSortersModel$State" "when" "[I", Cond.methodLink RX5 111 yX5_shake, Cond.instanceMethod yX5_shake, Cond.selects RX5 yX5_shake yX5_shake, Cond.code yX5_shake cX5_shake 4 none, Cond.methodLink RX6 56 yX6_no, Cond.instanceMethod yX6_no, Cond.selects RX6 yX6_no yX6_no, Cond.code yX6_no cX6_no 2 (some .int)]
def wsX6_pass : List Cond := .code yX6_pass cX6_pass 2 (some .int) :: ((wsX6_pass_r1 ++ (wsX6_pass_r2 ++ wsX6_pass_r3)) ++ wsX60 ++ wsX50)
def wsX6_arrives_r1 : List Cond := [Cond.fieldLink RX6 37 "NightSortersModel" "thrown" "I", Cond.fieldLink RX6 34 "NightSortersModel" "ahead" "LNightSortersModel$State;", Cond.fieldLink RX6 30 "NightSortersModel" "s" "LNightSortersModel$State;", Cond.methodLink RX6 97 yX6_isLetter, Cond.instanceMethod yX6_isLetter, Cond.selects RX6 yX6_isLetter yX6_isLetter, Cond.initialized RX6, Cond.code yX6_isLetter cX6_isLetter 2 (some .boolean), Cond.fieldLink RX6 46 "NightSortersModel" "letters" "I", Cond.methodLink RX6 41 yX6_isIn, Cond.static yX6_isIn, Cond.code yX6_isIn cX6_isIn 3 (some .boolean), Cond.methodLink RX6 56 yX6_no, Cond.instanceMethod yX6_no, Cond.selects RX6 yX6_no yX6_no, Cond.code yX6_no cX6_no 2 (some .int), Cond.methodLink RX6 128 yX5_become, Cond.instanceMethod yX5_become, Cond.selects RX5 yX5_become yX5_become, Cond.initialized RX5, Cond.code yX5_become cX5_become 2 none, Cond.fieldLink RX5 49 "NightSortersModel$State" "minute" "I", Cond.fieldLink RX5 15 "NightSortersModel$State" "where" "[I", Cond.fieldLink RX5 19 "NightSortersModel$State" "who" "[I"]
def wsX6_arrives_r2 : List Cond := [Cond.fieldLink RX5 22 "NightSortersModel$State" "when" "[I", Cond.fieldLink RX5 25 "NightSortersModel$State" "towns" "[I", Cond.fieldLink RX5 28 "NightSortersModel$State" "tired" "[I", Cond.fieldLink RX5 31 "NightSortersModel$State" "tea" "[I", Cond.fieldLink RX5 34 "NightSortersModel$State" "holds" "[I", Cond.fieldLink RX5 37 "NightSortersModel$State" "left" "[I", Cond.fieldLink RX5 40 "NightSortersModel$State" "sorted" "[I", Cond.methodLink RX5 53 yX5_copy, Cond.instanceMethod yX5_copy, Cond.selects RX5 yX5_copy yX5_copy, Cond.code yX5_copy cX5_copy 3 none, Cond.methodLink RX5 43 arraycopyName, Cond.native arraycopyName, Cond.static arraycopyName, Cond.initialized "java/lang/System", Cond.methodLink RX6 132 yX5_pass, Cond.instanceMethod yX5_pass, Cond.selects RX5 yX5_pass yX5_pass, Cond.code yX5_pass cX5_pass 3 (some .int), Cond.fieldLink RX5 3 "NightSortersModel$State" "this$0" "LNightSortersModel;", Cond.methodLink RX5 96 yX5_work, Cond.instanceMethod yX5_work, Cond.selects RX5 yX5_work yX5_work, Cond.code yX5_work cX5_work 3 none]
def wsX6_arrives_r3 : List Cond := [Cond.methodLink RX5 76 yX5_take, Cond.instanceMethod yX5_take, Cond.selects RX5 yX5_take yX5_take, Cond.code yX5_take cX5_take 3 none, Cond.methodLink RX5 70 Lib.Math.max.name, Cond.static Lib.Math.max.name, Cond.initialized "java/lang/Math", Cond.code Lib.Math.max.name Lib.Math.max.code 2 (some .int), Cond.methodLink RX5 63 yX5_firstFor, Cond.instanceMethod yX5_firstFor, Cond.selects RX5 yX5_firstFor yX5_firstFor, Cond.code yX5_firstFor cX5_firstFor 3 (some .int), Cond.methodLink RX5 80 yX5_inHole, Cond.instanceMethod yX5_inHole, Cond.selects RX5 yX5_inHole yX5_inHole, Cond.code yX5_inHole cX5_inHole 4 (some .int), Cond.methodLink RX5 83 yX5_let, Cond.instanceMethod yX5_let, Cond.selects RX5 yX5_let yX5_let, Cond.code yX5_let cX5_let 4 none, Cond.methodLink RX5 99 yX5_are, Cond.instanceMethod yX5_are, Cond.selects RX5 yX5_are yX5_are, Cond.code yX5_are cX5_are 4 (some .int)]
def wsX6_arrives_r4 : List Cond := [Cond.methodLink RX5 105 yX5_passStation, Cond.instanceMethod yX5_passStation, Cond.selects RX5 yX5_passStation yX5_passStation, Cond.code yX5_passStation cX5_passStation 4 none, Cond.methodLink RX5 87 yX5_end, Cond.instanceMethod yX5_end, Cond.selects RX5 yX5_end yX5_end, Cond.code yX5_end cX5_end 3 none, Cond.methodLink RX5 111 yX5_shake, Cond.instanceMethod yX5_shake, Cond.selects RX5 yX5_shake yX5_shake, Cond.code yX5_shake cX5_shake 4 none]
def wsX6_arrives : List Cond := .code yX6_arrives cX6_arrives 3 (some .int) :: ((wsX6_arrives_r1 ++ (wsX6_arrives_r2 ++ (wsX6_arrives_r3 ++ wsX6_arrives_r4))) ++ wsX60 ++ wsX50)
def wsX6_foresee_r1 : List Cond := [Cond.fieldLink RX6 37 "NightSortersModel" "thrown" "I", Cond.fieldLink RX6 34 "NightSortersModel" "ahead" "LNightSortersModel$State;", Cond.fieldLink RX6 30 "NightSortersModel" "s" "LNightSortersModel$State;", Cond.methodLink RX6 41 yX6_isIn, Cond.static yX6_isIn, Cond.initialized RX6, Cond.code yX6_isIn cX6_isIn 3 (some .boolean), Cond.methodLink RX6 56 yX6_no, Cond.instanceMethod yX6_no, Cond.selects RX6 yX6_no yX6_no, Cond.code yX6_no cX6_no 2 (some .int), Cond.methodLink RX6 128 yX5_become, Cond.instanceMethod yX5_become, Cond.selects RX5 yX5_become yX5_become, Cond.initialized RX5, Cond.code yX5_become cX5_become 2 none, Cond.fieldLink RX5 49 "NightSortersModel$State" "minute" "I", Cond.fieldLink RX5 15 "NightSortersModel$State" "where" "[I", Cond.fieldLink RX5 19 "NightSortersModel$State" "who" "[I", Cond.fieldLink RX5 22 "NightSortersModel$State" "when" "[I", Cond.fieldLink RX5 25 "NightSortersModel$State" "towns" "[I", Cond.fieldLink RX5 28 "NightSortersModel$State" "tired" "[I", Cond.fieldLink RX5 31 "NightSortersModel$State" "tea" "[I", Cond.fieldLink RX5 34 "NightSortersModel$State" "holds" "[I"]
def wsX6_foresee_r2 : List Cond := [Cond.fieldLink RX5 37 "NightSortersModel$State" "left" "[I", Cond.fieldLink RX5 40 "NightSortersModel$State" "sorted" "[I", Cond.methodLink RX5 53 yX5_copy, Cond.instanceMethod yX5_copy, Cond.selects RX5 yX5_copy yX5_copy, Cond.code yX5_copy cX5_copy 3 none, Cond.methodLink RX5 43 arraycopyName, Cond.native arraycopyName, Cond.static arraycopyName, Cond.initialized "java/lang/System", Cond.methodLink RX6 125 yX5_pass_, Cond.instanceMethod yX5_pass_, Cond.selects RX5 yX5_pass_ yX5_pass_, Cond.code yX5_pass_ cX5_pass_ 4 (some .int), Cond.methodLink RX5 114 yX5_pass, Cond.instanceMethod yX5_pass, Cond.selects RX5 yX5_pass yX5_pass, Cond.code yX5_pass cX5_pass 3 (some .int), Cond.fieldLink RX5 3 "NightSortersModel$State" "this$0" "LNightSortersModel;", Cond.methodLink RX5 96 yX5_work, Cond.instanceMethod yX5_work, Cond.selects RX5 yX5_work yX5_work, Cond.code yX5_work cX5_work 3 none, Cond.methodLink RX5 76 yX5_take]
def wsX6_foresee_r3 : List Cond := [Cond.instanceMethod yX5_take, Cond.selects RX5 yX5_take yX5_take, Cond.code yX5_take cX5_take 3 none, Cond.methodLink RX5 70 Lib.Math.max.name, Cond.static Lib.Math.max.name, Cond.initialized "java/lang/Math", Cond.code Lib.Math.max.name Lib.Math.max.code 2 (some .int), Cond.methodLink RX5 63 yX5_firstFor, Cond.instanceMethod yX5_firstFor, Cond.selects RX5 yX5_firstFor yX5_firstFor, Cond.code yX5_firstFor cX5_firstFor 3 (some .int), Cond.methodLink RX5 80 yX5_inHole, Cond.instanceMethod yX5_inHole, Cond.selects RX5 yX5_inHole yX5_inHole, Cond.code yX5_inHole cX5_inHole 4 (some .int), Cond.methodLink RX5 83 yX5_let, Cond.instanceMethod yX5_let, Cond.selects RX5 yX5_let yX5_let, Cond.code yX5_let cX5_let 4 none, Cond.methodLink RX5 99 yX5_are, Cond.instanceMethod yX5_are, Cond.selects RX5 yX5_are yX5_are, Cond.code yX5_are cX5_are 4 (some .int), Cond.methodLink RX5 105 yX5_passStation]
def wsX6_foresee_r4 : List Cond := [Cond.instanceMethod yX5_passStation, Cond.selects RX5 yX5_passStation yX5_passStation, Cond.code yX5_passStation cX5_passStation 4 none, Cond.methodLink RX5 87 yX5_end, Cond.instanceMethod yX5_end, Cond.selects RX5 yX5_end yX5_end, Cond.code yX5_end cX5_end 3 none, Cond.methodLink RX5 111 yX5_shake, Cond.instanceMethod yX5_shake, Cond.selects RX5 yX5_shake yX5_shake, Cond.code yX5_shake cX5_shake 4 none, Cond.methodLink RX6 119 yX5_are]
def wsX6_foresee : List Cond := .code yX6_foresee cX6_foresee 3 (some .int) :: ((wsX6_foresee_r1 ++ (wsX6_foresee_r2 ++ (wsX6_foresee_r3 ++ wsX6_foresee_r4))) ++ wsX60 ++ wsX50)
def wsX6_advise_r1 : List Cond := [Cond.fieldLink RX6 37 "NightSortersModel" "thrown" "I", Cond.fieldLink RX6 34 "NightSortersModel" "ahead" "LNightSortersModel$State;", Cond.fieldLink RX6 30 "NightSortersModel" "s" "LNightSortersModel$State;", Cond.methodLink RX6 85 yX6_isSorter, Cond.instanceMethod yX6_isSorter, Cond.selects RX6 yX6_isSorter yX6_isSorter, Cond.initialized RX6, Cond.code yX6_isSorter cX6_isSorter 2 (some .boolean), Cond.fieldLink RX6 49 "NightSortersModel" "sorters" "I", Cond.methodLink RX6 41 yX6_isIn, Cond.static yX6_isIn, Cond.code yX6_isIn cX6_isIn 3 (some .boolean), Cond.methodLink RX6 56 yX6_no, Cond.instanceMethod yX6_no, Cond.selects RX6 yX6_no yX6_no, Cond.code yX6_no cX6_no 2 (some .int), Cond.methodLink RX6 128 yX5_become, Cond.instanceMethod yX5_become, Cond.selects RX5 yX5_become yX5_become, Cond.initialized RX5, Cond.code yX5_become cX5_become 2 none, Cond.fieldLink RX5 49 "NightSortersModel$State" "minute" "I", Cond.fieldLink RX5 15 "NightSortersModel$State" "where" "[I", Cond.fieldLink RX5 19 "NightSortersModel$State" "who" "[I"]
def wsX6_advise_r2 : List Cond := [Cond.fieldLink RX5 22 "NightSortersModel$State" "when" "[I", Cond.fieldLink RX5 25 "NightSortersModel$State" "towns" "[I", Cond.fieldLink RX5 28 "NightSortersModel$State" "tired" "[I", Cond.fieldLink RX5 31 "NightSortersModel$State" "tea" "[I", Cond.fieldLink RX5 34 "NightSortersModel$State" "holds" "[I", Cond.fieldLink RX5 37 "NightSortersModel$State" "left" "[I", Cond.fieldLink RX5 40 "NightSortersModel$State" "sorted" "[I", Cond.methodLink RX5 53 yX5_copy, Cond.instanceMethod yX5_copy, Cond.selects RX5 yX5_copy yX5_copy, Cond.code yX5_copy cX5_copy 3 none, Cond.methodLink RX5 43 arraycopyName, Cond.native arraycopyName, Cond.static arraycopyName, Cond.initialized "java/lang/System", Cond.methodLink RX6 125 yX5_pass_, Cond.instanceMethod yX5_pass_, Cond.selects RX5 yX5_pass_ yX5_pass_, Cond.code yX5_pass_ cX5_pass_ 4 (some .int), Cond.methodLink RX5 114 yX5_pass, Cond.instanceMethod yX5_pass, Cond.selects RX5 yX5_pass yX5_pass, Cond.code yX5_pass cX5_pass 3 (some .int), Cond.fieldLink RX5 3 "NightSortersModel$State" "this$0" "LNightSortersModel;"]
def wsX6_advise_r3 : List Cond := [Cond.methodLink RX5 96 yX5_work, Cond.instanceMethod yX5_work, Cond.selects RX5 yX5_work yX5_work, Cond.code yX5_work cX5_work 3 none, Cond.methodLink RX5 76 yX5_take, Cond.instanceMethod yX5_take, Cond.selects RX5 yX5_take yX5_take, Cond.code yX5_take cX5_take 3 none, Cond.methodLink RX5 70 Lib.Math.max.name, Cond.static Lib.Math.max.name, Cond.initialized "java/lang/Math", Cond.code Lib.Math.max.name Lib.Math.max.code 2 (some .int), Cond.methodLink RX5 63 yX5_firstFor, Cond.instanceMethod yX5_firstFor, Cond.selects RX5 yX5_firstFor yX5_firstFor, Cond.code yX5_firstFor cX5_firstFor 3 (some .int), Cond.methodLink RX5 80 yX5_inHole, Cond.instanceMethod yX5_inHole, Cond.selects RX5 yX5_inHole yX5_inHole, Cond.code yX5_inHole cX5_inHole 4 (some .int), Cond.methodLink RX5 83 yX5_let, Cond.instanceMethod yX5_let, Cond.selects RX5 yX5_let yX5_let, Cond.code yX5_let cX5_let 4 none]
def wsX6_advise_r4 : List Cond := [Cond.methodLink RX5 99 yX5_are, Cond.instanceMethod yX5_are, Cond.selects RX5 yX5_are yX5_are, Cond.code yX5_are cX5_are 4 (some .int), Cond.methodLink RX5 105 yX5_passStation, Cond.instanceMethod yX5_passStation, Cond.selects RX5 yX5_passStation yX5_passStation, Cond.code yX5_passStation cX5_passStation 4 none, Cond.methodLink RX5 87 yX5_end, Cond.instanceMethod yX5_end, Cond.selects RX5 yX5_end yX5_end, Cond.code yX5_end cX5_end 3 none, Cond.methodLink RX5 111 yX5_shake, Cond.instanceMethod yX5_shake, Cond.selects RX5 yX5_shake yX5_shake, Cond.code yX5_shake cX5_shake 4 none]
def wsX6_advise : List Cond := .code yX6_advise cX6_advise 7 (some .int) :: ((wsX6_advise_r1 ++ (wsX6_advise_r2 ++ (wsX6_advise_r3 ++ wsX6_advise_r4))) ++ wsX60 ++ wsX50)
def wsX6_share : List Cond := .code yX6_share cX6_share 2 (some .double) :: ([.fieldLink RX6 37 "NightSortersModel" "thrown" "I", .fieldLink RX6 30 "NightSortersModel" "s" "LNightSortersModel$State;", .methodLink RX6 119 yX5_are, .instanceMethod yX5_are, .selects RX5 yX5_are yX5_are, .initialized RX5, .code yX5_are cX5_are 4 (some .int), .fieldLink RX5 3 "NightSortersModel$State" "this$0" "LNightSortersModel;", .fieldLink RX5 15 "NightSortersModel$State" "where" "[I"] ++ wsX60 ++ wsX50)
def wsX6_digest_r1 : List Cond := [Cond.fieldLink RX6 37 "NightSortersModel" "thrown" "I", Cond.constantLong RX6 135 (1049), Cond.constantLong RX6 137 (31), Cond.fieldLink RX6 30 "NightSortersModel" "s" "LNightSortersModel$State;", Cond.fieldLink RX6 49 "NightSortersModel" "sorters" "I", Cond.fieldLink RX6 46 "NightSortersModel" "letters" "I", Cond.methodLink RX6 122 yX6_counted, Cond.instanceMethod yX6_counted, Cond.selects RX6 yX6_counted yX6_counted, Cond.initialized RX6, Cond.code yX6_counted cX6_counted 3 (some .int), Cond.fieldLink RX6 9 "NightSortersModel" "passes" "[I", Cond.methodLink RX6 41 yX6_isIn, Cond.static yX6_isIn, Cond.code yX6_isIn cX6_isIn 3 (some .boolean), Cond.methodLink RX6 119 yX5_are, Cond.instanceMethod yX5_are, Cond.selects RX5 yX5_are yX5_are, Cond.initialized RX5, Cond.code yX5_are cX5_are 4 (some .int), Cond.fieldLink RX5 3 "NightSortersModel$State" "this$0" "LNightSortersModel;", Cond.fieldLink RX5 15 "NightSortersModel$State" "where" "[I", Cond.methodLink RX6 116 yX6_stationTold, Cond.instanceMethod yX6_stationTold]
def wsX6_digest_r2 : List Cond := [Cond.selects RX6 yX6_stationTold yX6_stationTold, Cond.code yX6_stationTold cX6_stationTold 5 (some .int), Cond.fieldLink RX6 19 "NightSortersModel" "station" "[I", Cond.fieldLink RX6 13 "NightSortersModel" "jolt" "[I", Cond.methodLink RX6 113 yX5_inHole, Cond.instanceMethod yX5_inHole, Cond.selects RX5 yX5_inHole yX5_inHole, Cond.code yX5_inHole cX5_inHole 4 (some .int), Cond.methodLink RX6 110 yX6_sorterTold, Cond.instanceMethod yX6_sorterTold, Cond.selects RX6 yX6_sorterTold yX6_sorterTold, Cond.code yX6_sorterTold cX6_sorterTold 4 (some .int), Cond.arrayClass .int, Cond.fieldLink RX6 22 "NightSortersModel" "pace" "[I", Cond.methodLink RX6 100 yX6_letterTold, Cond.instanceMethod yX6_letterTold, Cond.selects RX6 yX6_letterTold yX6_letterTold, Cond.code yX6_letterTold cX6_letterTold 4 (some .int), Cond.fieldLink RX6 16 "NightSortersModel" "town" "[I"]
def wsX6_digest : List Cond := .code yX6_digest cX6_digest 5 (some .long) :: ((wsX6_digest_r1 ++ wsX6_digest_r2) ++ wsX60 ++ wsX50)
def wsJ9_max_7cf53 : List Cond := .code yJ9_max_7cf53 cJ9_max_7cf53 2 (some .int) :: ([])
def wsL_setStation_r1 : List Cond := [Cond.classLink RL 13 "java/lang/IndexOutOfBoundsException", Cond.classLink RL 15 "java/lang/IllegalArgumentException", Cond.classLink RL 17 "java/lang/IllegalStateException", Cond.methodLink RL 7 yX4_setStation, Cond.instanceMethod yX4_setStation, Cond.selects RX4 yX4_setStation yX4_setStation, Cond.initialized RX4, Cond.code yX4_setStation cX4_setStation 6 (some .int), Cond.classLink RX4 48 "java/lang/IllegalStateException", Cond.initialized "java/lang/IllegalStateException", Cond.fieldLink RX4 17 "NightSorters" "train" "LNightSorters$Train;", Cond.fieldLink RX4 32 "NightSorters$Train" "line" "LNightSorters$Line;", Cond.fieldLink RX4 36 "NightSorters$Train" "minute" "I", Cond.fieldLink RX4 40 "NightSorters$Line" "minutes" "[I", Cond.fieldLink RX4 55 "NightSorters$Line" "jolts" "[I", Cond.methodLink RX4 24 yX4_checkIndex, Cond.static yX4_checkIndex, Cond.code yX4_checkIndex cX4_checkIndex 2 none, Cond.classLink RX4 126 "java/lang/IndexOutOfBoundsException", Cond.initialized "java/lang/IndexOutOfBoundsException", Cond.methodLink RX4 28 yX4_checkArgument, Cond.static yX4_checkArgument, Cond.code yX4_checkArgument cX4_checkArgument 3 none, Cond.classLink RX4 159 "java/lang/IllegalArgumentException"]
def wsL_setStation_r2 : List Cond := [Cond.initialized "java/lang/IllegalArgumentException", Cond.methodLink RX4 44 yX1_wouldRise, Cond.instanceMethod yX1_wouldRise, Cond.selects RX1 yX1_wouldRise yX1_wouldRise, Cond.initialized RX1, Cond.code yX1_wouldRise cX1_wouldRise 5 (some .boolean), Cond.fieldLink RX1 9 "NightSorters$Line" "minutes" "[I"]
def wsL_setStation : List Cond := .codeWith yL_setStation cL_setStation 6 (some .int) [(0, 12, 15, 13), (0, 12, 19, 15), (0, 12, 23, 17)] :: ((wsL_setStation_r1 ++ wsL_setStation_r2) ++ wsX40 ++ wsX30 ++ wsX10 ++ (vx_atS RX4 52 "java/lang/IllegalStateException" ["java/lang/RuntimeException", "java/lang/Exception"]).filter goodWord ++ (vx_atS RX4 130 "java/lang/IndexOutOfBoundsException" ["java/lang/RuntimeException", "java/lang/Exception"]).filter goodWord ++ (vx_atS RX4 163 "java/lang/IllegalArgumentException" ["java/lang/RuntimeException", "java/lang/Exception"]).filter goodWord)
def wsL_post_r1 : List Cond := [Cond.classLink RL 13 "java/lang/IndexOutOfBoundsException", Cond.classLink RL 17 "java/lang/IllegalStateException", Cond.methodLink RL 19 yX4_post, Cond.instanceMethod yX4_post, Cond.selects RX4 yX4_post yX4_post, Cond.initialized RX4, Cond.code yX4_post cX4_post 3 (some .int), Cond.classLink RX4 48 "java/lang/IllegalStateException", Cond.initialized "java/lang/IllegalStateException", Cond.fieldLink RX4 17 "NightSorters" "train" "LNightSorters$Train;", Cond.fieldLink RX4 58 "NightSorters$Train" "mail" "LNightSorters$Mail;", Cond.fieldLink RX4 62 "NightSorters$Mail" "size" "I", Cond.methodLink RX4 24 yX4_checkIndex, Cond.static yX4_checkIndex, Cond.code yX4_checkIndex cX4_checkIndex 2 none, Cond.classLink RX4 126 "java/lang/IndexOutOfBoundsException", Cond.initialized "java/lang/IndexOutOfBoundsException", Cond.methodLink RX4 69 yX2_addToBag, Cond.instanceMethod yX2_addToBag, Cond.selects RX2 yX2_addToBag yX2_addToBag, Cond.initialized RX2, Cond.code yX2_addToBag cX2_addToBag 4 (some .int), Cond.fieldLink RX2 9 "NightSorters$Mail" "size" "I", Cond.fieldLink RX2 15 "NightSorters$Mail" "town" "[I"]
def wsL_post_r2 : List Cond := [Cond.fieldLink RX2 19 "NightSorters$Mail" "postedAt" "[I", Cond.fieldLink RX2 22 "NightSorters$Mail" "place" "[I", Cond.fieldLink RX2 25 "NightSorters$Mail" "holder" "[I", Cond.fieldLink RX2 28 "NightSorters$Mail" "endMinute" "[I", Cond.fieldLink RX2 31 "NightSorters$Mail" "inPlace" "[I"]
def wsL_post : List Cond := .codeWith yL_post cL_post 5 (some .int) [(0, 10, 13, 13), (0, 10, 17, 17)] :: ((wsL_post_r1 ++ wsL_post_r2) ++ wsX40 ++ wsX30 ++ wsX20 ++ (vx_atS RX4 52 "java/lang/IllegalStateException" ["java/lang/RuntimeException", "java/lang/Exception"]).filter goodWord ++ (vx_atS RX4 130 "java/lang/IndexOutOfBoundsException" ["java/lang/RuntimeException", "java/lang/Exception"]).filter goodWord)
def wsL_hire_r1 : List Cond := [Cond.classLink RL 15 "java/lang/IllegalArgumentException", Cond.classLink RL 17 "java/lang/IllegalStateException", Cond.methodLink RL 23 yX4_hire, Cond.instanceMethod yX4_hire, Cond.selects RX4 yX4_hire yX4_hire, Cond.initialized RX4, Cond.code yX4_hire cX4_hire 3 (some .int), Cond.classLink RX4 48 "java/lang/IllegalStateException", Cond.initialized "java/lang/IllegalStateException", Cond.constant RX4 73 (65535), Cond.fieldLink RX4 17 "NightSorters" "train" "LNightSorters$Train;", Cond.fieldLink RX4 74 "NightSorters$Train" "crew" "LNightSorters$Crew;", Cond.fieldLink RX4 78 "NightSorters$Crew" "size" "I", Cond.methodLink RX4 28 yX4_checkArgument, Cond.static yX4_checkArgument, Cond.code yX4_checkArgument cX4_checkArgument 3 none, Cond.classLink RX4 159 "java/lang/IllegalArgumentException", Cond.initialized "java/lang/IllegalArgumentException", Cond.methodLink RX4 83 yX0_add, Cond.instanceMethod yX0_add, Cond.selects RX0 yX0_add yX0_add, Cond.initialized RX0, Cond.code yX0_add cX0_add 4 (some .int), Cond.fieldLink RX0 9 "NightSorters$Crew" "size" "I"]
def wsL_hire_r2 : List Cond := [Cond.fieldLink RX0 15 "NightSorters$Crew" "pace" "[I", Cond.fieldLink RX0 19 "NightSorters$Crew" "towns" "[I", Cond.fieldLink RX0 28 "NightSorters$Crew" "held" "[I"]
def wsL_hire : List Cond := .codeWith yL_hire cL_hire 5 (some .int) [(0, 10, 13, 15), (0, 10, 17, 17)] :: ((wsL_hire_r1 ++ wsL_hire_r2) ++ wsX40 ++ wsX30 ++ wsX00 ++ (vx_atS RX4 52 "java/lang/IllegalStateException" ["java/lang/RuntimeException", "java/lang/Exception"]).filter goodWord ++ (vx_atS RX4 163 "java/lang/IllegalArgumentException" ["java/lang/RuntimeException", "java/lang/Exception"]).filter goodWord)
def wsL_assign : List Cond := .codeWith yL_assign cL_assign 5 (some .int) [(0, 10, 13, 13), (0, 10, 17, 15)] :: ([.classLink RL 13 "java/lang/IndexOutOfBoundsException", .classLink RL 15 "java/lang/IllegalArgumentException", .methodLink RL 26 yX4_assign, .instanceMethod yX4_assign, .selects RX4 yX4_assign yX4_assign, .initialized RX4, .code yX4_assign cX4_assign 4 (some .int), .fieldLink RX4 17 "NightSorters" "train" "LNightSorters$Train;", .fieldLink RX4 74 "NightSorters$Train" "crew" "LNightSorters$Crew;", .fieldLink RX4 78 "NightSorters$Crew" "size" "I", .constant RX4 73 (65535), .fieldLink RX4 86 "NightSorters$Crew" "towns" "[I", .methodLink RX4 24 yX4_checkIndex, .static yX4_checkIndex, .code yX4_checkIndex cX4_checkIndex 2 none, .classLink RX4 126 "java/lang/IndexOutOfBoundsException", .initialized "java/lang/IndexOutOfBoundsException", .methodLink RX4 28 yX4_checkArgument, .static yX4_checkArgument, .code yX4_checkArgument cX4_checkArgument 3 none, .classLink RX4 159 "java/lang/IllegalArgumentException", .initialized "java/lang/IllegalArgumentException"] ++ wsX40 ++ wsX30 ++ wsX00 ++ (vx_atS RX4 130 "java/lang/IndexOutOfBoundsException" ["java/lang/RuntimeException", "java/lang/Exception"]).filter goodWord ++ (vx_atS RX4 163 "java/lang/IllegalArgumentException" ["java/lang/RuntimeException", "java/lang/Exception"]).filter goodWord)
def wsL_tea : List Cond := .codeWith yL_tea cL_tea 4 (some .int) [(0, 9, 12, 13)] :: ([.classLink RL 13 "java/lang/IndexOutOfBoundsException", .methodLink RL 29 yX4_tea, .instanceMethod yX4_tea, .selects RX4 yX4_tea yX4_tea, .initialized RX4, .code yX4_tea cX4_tea 3 (some .int), .fieldLink RX4 17 "NightSorters" "train" "LNightSorters$Train;", .fieldLink RX4 74 "NightSorters$Train" "crew" "LNightSorters$Crew;", .fieldLink RX4 78 "NightSorters$Crew" "size" "I", .fieldLink RX4 89 "NightSorters$Crew" "tired" "[I", .fieldLink RX4 92 "NightSorters$Crew" "withTea" "[I", .methodLink RX4 24 yX4_checkIndex, .static yX4_checkIndex, .code yX4_checkIndex cX4_checkIndex 2 none, .classLink RX4 126 "java/lang/IndexOutOfBoundsException", .initialized "java/lang/IndexOutOfBoundsException"] ++ wsX40 ++ wsX30 ++ wsX00 ++ (vx_atS RX4 130 "java/lang/IndexOutOfBoundsException" ["java/lang/RuntimeException", "java/lang/Exception"]).filter goodWord)
def wsL_letter : List Cond := .codeWith yL_letter cL_letter 5 (some .int) [(0, 10, 13, 13)] :: ([.classLink RL 13 "java/lang/IndexOutOfBoundsException", .methodLink RL 33 yX4_letter, .instanceMethod yX4_letter, .selects RX4 yX4_letter yX4_letter, .initialized RX4, .code yX4_letter cX4_letter 3 (some .int), .fieldLink RX4 17 "NightSorters" "train" "LNightSorters$Train;", .fieldLink RX4 58 "NightSorters$Train" "mail" "LNightSorters$Mail;", .fieldLink RX4 62 "NightSorters$Mail" "size" "I", .methodLink RX4 24 yX4_checkIndex, .static yX4_checkIndex, .code yX4_checkIndex cX4_checkIndex 2 none, .classLink RX4 126 "java/lang/IndexOutOfBoundsException", .initialized "java/lang/IndexOutOfBoundsException", .methodLink RX4 95 yX2_fact, .instanceMethod yX2_fact, .selects RX2 yX2_fact yX2_fact, .initialized RX2, .code yX2_fact cX2_fact 3 (some .int), .fieldLink RX2 22 "NightSorters$Mail" "place" "[I", .fieldLink RX2 15 "NightSorters$Mail" "town" "[I", .fieldLink RX2 19 "NightSorters$Mail" "postedAt" "[I", .fieldLink RX2 25 "NightSorters$Mail" "holder" "[I", .fieldLink RX2 28 "NightSorters$Mail" "endMinute" "[I"] ++ wsX40 ++ wsX30 ++ wsX20 ++ (vx_atS RX4 130 "java/lang/IndexOutOfBoundsException" ["java/lang/RuntimeException", "java/lang/Exception"]).filter goodWord)
def wsL_sorter_r1 : List Cond := [Cond.classLink RL 13 "java/lang/IndexOutOfBoundsException", Cond.methodLink RL 36 yX4_sorter, Cond.instanceMethod yX4_sorter, Cond.selects RX4 yX4_sorter yX4_sorter, Cond.initialized RX4, Cond.code yX4_sorter cX4_sorter 3 (some .int), Cond.fieldLink RX4 17 "NightSorters" "train" "LNightSorters$Train;", Cond.fieldLink RX4 74 "NightSorters$Train" "crew" "LNightSorters$Crew;", Cond.fieldLink RX4 78 "NightSorters$Crew" "size" "I", Cond.methodLink RX4 24 yX4_checkIndex, Cond.static yX4_checkIndex, Cond.code yX4_checkIndex cX4_checkIndex 2 none, Cond.classLink RX4 126 "java/lang/IndexOutOfBoundsException", Cond.initialized "java/lang/IndexOutOfBoundsException", Cond.methodLink RX4 98 yX0_fact, Cond.instanceMethod yX0_fact, Cond.selects RX0 yX0_fact yX0_fact, Cond.initialized RX0, Cond.code yX0_fact cX0_fact 3 (some .int), Cond.fieldLink RX0 15 "NightSorters$Crew" "pace" "[I", Cond.fieldLink RX0 19 "NightSorters$Crew" "towns" "[I", Cond.fieldLink RX0 22 "NightSorters$Crew" "tired" "[I", Cond.fieldLink RX0 25 "NightSorters$Crew" "withTea" "[I", Cond.fieldLink RX0 28 "NightSorters$Crew" "held" "[I"]
def wsL_sorter_r2 : List Cond := [Cond.fieldLink RX0 31 "NightSorters$Crew" "minutesLeft" "[I", Cond.fieldLink RX0 34 "NightSorters$Crew" "sorted" "[I"]
def wsL_sorter : List Cond := .codeWith yL_sorter cL_sorter 5 (some .int) [(0, 10, 13, 13)] :: ((wsL_sorter_r1 ++ wsL_sorter_r2) ++ wsX40 ++ wsX30 ++ wsX00 ++ (vx_atS RX4 130 "java/lang/IndexOutOfBoundsException" ["java/lang/RuntimeException", "java/lang/Exception"]).filter goodWord)
def wsL_hole : List Cond := .codeWith yL_hole cL_hole 4 (some .int) [(0, 9, 12, 13)] :: ([.classLink RL 13 "java/lang/IndexOutOfBoundsException", .methodLink RL 39 yX4_hole, .instanceMethod yX4_hole, .selects RX4 yX4_hole yX4_hole, .initialized RX4, .code yX4_hole cX4_hole 2 (some .int), .fieldLink RX4 17 "NightSorters" "train" "LNightSorters$Train;", .fieldLink RX4 58 "NightSorters$Train" "mail" "LNightSorters$Mail;", .fieldLink RX4 99 "NightSorters$Mail" "inHole" "[I", .methodLink RX4 24 yX4_checkIndex, .static yX4_checkIndex, .code yX4_checkIndex cX4_checkIndex 2 none, .classLink RX4 126 "java/lang/IndexOutOfBoundsException", .initialized "java/lang/IndexOutOfBoundsException"] ++ wsX40 ++ wsX30 ++ wsX20 ++ (vx_atS RX4 130 "java/lang/IndexOutOfBoundsException" ["java/lang/RuntimeException", "java/lang/Exception"]).filter goodWord)
def wsL_station_r1 : List Cond := [Cond.classLink RL 13 "java/lang/IndexOutOfBoundsException", Cond.methodLink RL 42 yX4_station, Cond.instanceMethod yX4_station, Cond.selects RX4 yX4_station yX4_station, Cond.initialized RX4, Cond.code yX4_station cX4_station 3 (some .int), Cond.fieldLink RX4 17 "NightSorters" "train" "LNightSorters$Train;", Cond.fieldLink RX4 32 "NightSorters$Train" "line" "LNightSorters$Line;", Cond.fieldLink RX4 40 "NightSorters$Line" "minutes" "[I", Cond.fieldLink RX4 55 "NightSorters$Line" "jolts" "[I", Cond.fieldLink RX4 58 "NightSorters$Train" "mail" "LNightSorters$Mail;", Cond.methodLink RX4 24 yX4_checkIndex, Cond.static yX4_checkIndex, Cond.code yX4_checkIndex cX4_checkIndex 2 none, Cond.classLink RX4 126 "java/lang/IndexOutOfBoundsException", Cond.initialized "java/lang/IndexOutOfBoundsException", Cond.methodLink RX4 102 yX2_lettersInBag, Cond.instanceMethod yX2_lettersInBag, Cond.selects RX2 yX2_lettersInBag yX2_lettersInBag, Cond.initialized RX2, Cond.code yX2_lettersInBag cX2_lettersInBag 4 (some .int), Cond.fieldLink RX2 9 "NightSorters$Mail" "size" "I", Cond.methodLink RX2 45 yX2_isInBag, Cond.instanceMethod yX2_isInBag]
def wsL_station_r2 : List Cond := [Cond.selects RX2 yX2_isInBag yX2_isInBag, Cond.code yX2_isInBag cX2_isInBag 3 (some .boolean), Cond.fieldLink RX2 22 "NightSorters$Mail" "place" "[I", Cond.fieldLink RX2 19 "NightSorters$Mail" "postedAt" "[I"]
def wsL_station : List Cond := .codeWith yL_station cL_station 5 (some .int) [(0, 10, 13, 13)] :: ((wsL_station_r1 ++ wsL_station_r2) ++ wsX40 ++ wsX30 ++ wsX10 ++ wsX20 ++ (vx_atS RX4 130 "java/lang/IndexOutOfBoundsException" ["java/lang/RuntimeException", "java/lang/Exception"]).filter goodWord)
def wsL_count_r1 : List Cond := [Cond.classLink RL 13 "java/lang/IndexOutOfBoundsException", Cond.methodLink RL 45 yX4_count, Cond.instanceMethod yX4_count, Cond.selects RX4 yX4_count yX4_count, Cond.initialized RX4, Cond.code yX4_count cX4_count 2 (some .int), Cond.fieldLink RX4 17 "NightSorters" "train" "LNightSorters$Train;", Cond.fieldLink RX4 36 "NightSorters$Train" "minute" "I", Cond.fieldLink RX4 58 "NightSorters$Train" "mail" "LNightSorters$Mail;", Cond.fieldLink RX4 62 "NightSorters$Mail" "size" "I", Cond.fieldLink RX4 74 "NightSorters$Train" "crew" "LNightSorters$Crew;", Cond.fieldLink RX4 78 "NightSorters$Crew" "size" "I", Cond.fieldLink RX4 32 "NightSorters$Train" "line" "LNightSorters$Line;", Cond.fieldLink RX4 109 "NightSorters$Mail" "inPlace" "[I", Cond.methodLink RX4 24 yX4_checkIndex, Cond.static yX4_checkIndex, Cond.code yX4_checkIndex cX4_checkIndex 2 none, Cond.classLink RX4 126 "java/lang/IndexOutOfBoundsException", Cond.initialized "java/lang/IndexOutOfBoundsException", Cond.methodLink RX4 106 yX1_nextFrom, Cond.instanceMethod yX1_nextFrom, Cond.selects RX1 yX1_nextFrom yX1_nextFrom, Cond.initialized RX1, Cond.code yX1_nextFrom cX1_nextFrom 3 (some .int)]
def wsL_count_r2 : List Cond := [Cond.fieldLink RX1 9 "NightSorters$Line" "minutes" "[I"]
def wsL_count : List Cond := .codeWith yL_count cL_count 4 (some .int) [(0, 9, 12, 13)] :: ((wsL_count_r1 ++ wsL_count_r2) ++ wsX40 ++ wsX30 ++ wsX20 ++ wsX00 ++ wsX10 ++ (vx_atS RX4 130 "java/lang/IndexOutOfBoundsException" ["java/lang/RuntimeException", "java/lang/Exception"]).filter goodWord)
def wsL_pass_r1 : List Cond := [Cond.classLink RL 15 "java/lang/IllegalArgumentException", Cond.methodLink RL 48 yX4_pass, Cond.instanceMethod yX4_pass, Cond.selects RX4 yX4_pass yX4_pass, Cond.initialized RX4, Cond.code yX4_pass cX4_pass 3 (some .int), Cond.fieldLink RX4 17 "NightSorters" "train" "LNightSorters$Train;", Cond.fieldLink RX4 58 "NightSorters$Train" "mail" "LNightSorters$Mail;", Cond.fieldLink RX4 109 "NightSorters$Mail" "inPlace" "[I", Cond.methodLink RX4 28 yX4_checkArgument, Cond.static yX4_checkArgument, Cond.code yX4_checkArgument cX4_checkArgument 3 none, Cond.classLink RX4 159 "java/lang/IllegalArgumentException", Cond.initialized "java/lang/IllegalArgumentException", Cond.methodLink RX4 112 yX3_run, Cond.instanceMethod yX3_run, Cond.selects RX3 yX3_run yX3_run, Cond.initialized RX3, Cond.code yX3_run cX3_run 3 none, Cond.methodLink RX3 40 yX3_runMinute, Cond.instanceMethod yX3_runMinute, Cond.selects RX3 yX3_runMinute yX3_runMinute, Cond.code yX3_runMinute cX3_runMinute 3 none, Cond.fieldLink RX3 21 "NightSorters$Train" "crew" "LNightSorters$Crew;"]
def wsL_pass_r2 : List Cond := [Cond.fieldLink RX3 43 "NightSorters$Crew" "size" "I", Cond.fieldLink RX3 46 "NightSorters$Crew" "held" "[I", Cond.fieldLink RX3 29 "NightSorters$Train" "line" "LNightSorters$Line;", Cond.fieldLink RX3 25 "NightSorters$Train" "minute" "I", Cond.fieldLink RX3 66 "NightSorters$Line" "jolts" "[I", Cond.methodLink RX3 50 yX3_takeLetter, Cond.instanceMethod yX3_takeLetter, Cond.selects RX3 yX3_takeLetter yX3_takeLetter, Cond.code yX3_takeLetter cX3_takeLetter 3 none, Cond.fieldLink RX3 12 "NightSorters$Train" "mail" "LNightSorters$Mail;", Cond.fieldLink RX3 72 "NightSorters$Crew" "towns" "[I", Cond.methodLink RX3 75 yX2_firstOnTable, Cond.instanceMethod yX2_firstOnTable, Cond.selects RX2 yX2_firstOnTable yX2_firstOnTable, Cond.initialized RX2, Cond.code yX2_firstOnTable cX2_firstOnTable 3 (some .int), Cond.fieldLink RX2 31 "NightSorters$Mail" "inPlace" "[I", Cond.fieldLink RX2 9 "NightSorters$Mail" "size" "I", Cond.fieldLink RX2 22 "NightSorters$Mail" "place" "[I", Cond.fieldLink RX2 15 "NightSorters$Mail" "town" "[I", Cond.static yX4_hasTown, Cond.code yX4_hasTown cX4_hasTown 2 (some .boolean), Cond.methodLink RX3 78 yX2_moveToHands, Cond.instanceMethod yX2_moveToHands]
def wsL_pass_r3 : List Cond := [Cond.selects RX2 yX2_moveToHands yX2_moveToHands, Cond.code yX2_moveToHands cX2_moveToHands 3 none, Cond.fieldLink RX2 25 "NightSorters$Mail" "holder" "[I", Cond.methodLink RX2 37 yX2_move, Cond.instanceMethod yX2_move, Cond.selects RX2 yX2_move yX2_move, Cond.code yX2_move cX2_move 4 none, Cond.fieldLink RX2 34 "NightSorters$Mail" "inHole" "[I", Cond.methodLink RX3 82 yX0_takeUp, Cond.instanceMethod yX0_takeUp, Cond.selects RX0 yX0_takeUp yX0_takeUp, Cond.initialized RX0, Cond.code yX0_takeUp cX0_takeUp 3 none, Cond.fieldLink RX0 28 "NightSorters$Crew" "held" "[I", Cond.fieldLink RX0 31 "NightSorters$Crew" "minutesLeft" "[I", Cond.methodLink RX0 37 yX0_minutesNeeded, Cond.instanceMethod yX0_minutesNeeded, Cond.selects RX0 yX0_minutesNeeded yX0_minutesNeeded, Cond.code yX0_minutesNeeded cX0_minutesNeeded 3 (some .int), Cond.fieldLink RX0 15 "NightSorters$Crew" "pace" "[I", Cond.fieldLink RX0 22 "NightSorters$Crew" "tired" "[I", Cond.fieldLink RX0 25 "NightSorters$Crew" "withTea" "[I", Cond.methodLink RX3 54 yX3_workOn, Cond.instanceMethod yX3_workOn]
def wsL_pass_r4 : List Cond := [Cond.selects RX3 yX3_workOn yX3_workOn, Cond.code yX3_workOn cX3_workOn 2 none, Cond.fieldLink RX3 85 "NightSorters$Crew" "minutesLeft" "[I", Cond.methodLink RX3 88 yX3_putLetter, Cond.instanceMethod yX3_putLetter, Cond.selects RX3 yX3_putLetter yX3_putLetter, Cond.code yX3_putLetter cX3_putLetter 3 none, Cond.fieldLink RX3 91 "NightSorters$Mail" "inHole" "[I", Cond.fieldLink RX3 94 "NightSorters$Mail" "town" "[I", Cond.fieldLink RX3 100 "NightSorters$Crew" "sorted" "[I", Cond.fieldLink RX3 103 "NightSorters$Crew" "tired" "[I", Cond.methodLink RX3 97 yX2_move, Cond.methodLink RX3 106 yX0_freeHands, Cond.instanceMethod yX0_freeHands, Cond.selects RX0 yX0_freeHands yX0_freeHands, Cond.code yX0_freeHands cX0_freeHands 2 none, Cond.methodLink RX3 57 yX1_passedIn, Cond.instanceMethod yX1_passedIn, Cond.selects RX1 yX1_passedIn yX1_passedIn, Cond.initialized RX1, Cond.code yX1_passedIn cX1_passedIn 3 (some .int), Cond.fieldLink RX1 9 "NightSorters$Line" "minutes" "[I", Cond.methodLink RX3 63 yX3_serve, Cond.instanceMethod yX3_serve]
def wsL_pass_r5 : List Cond := [Cond.selects RX3 yX3_serve yX3_serve, Cond.code yX3_serve cX3_serve 3 none, Cond.fieldLink RX3 109 "NightSorters$Mail" "size" "I", Cond.methodLink RX3 110 yX2_isInBag, Cond.instanceMethod yX2_isInBag, Cond.selects RX2 yX2_isInBag yX2_isInBag, Cond.code yX2_isInBag cX2_isInBag 3 (some .boolean), Cond.fieldLink RX2 19 "NightSorters$Mail" "postedAt" "[I", Cond.methodLink RX3 114 yX3_hookIn, Cond.instanceMethod yX3_hookIn, Cond.selects RX3 yX3_hookIn yX3_hookIn, Cond.code yX3_hookIn cX3_hookIn 3 none, Cond.static yX4_stationOf, Cond.code yX4_stationOf cX4_stationOf 1 (some .int), Cond.methodLink RX3 123 yX2_end, Cond.instanceMethod yX2_end, Cond.selects RX2 yX2_end yX2_end, Cond.code yX2_end cX2_end 4 none, Cond.fieldLink RX2 28 "NightSorters$Mail" "endMinute" "[I", Cond.methodLink RX3 120 yX3_hookOut, Cond.instanceMethod yX3_hookOut, Cond.selects RX3 yX3_hookOut yX3_hookOut, Cond.code yX3_hookOut cX3_hookOut 4 none, Cond.fieldLink RX3 127 "NightSorters$Mail" "place" "[I"]
def wsL_pass_r6 : List Cond := [Cond.fieldLink RX3 130 "NightSorters$Mail" "holder" "[I", Cond.methodLink RX3 69 yX3_shake, Cond.instanceMethod yX3_shake, Cond.selects RX3 yX3_shake yX3_shake, Cond.code yX3_shake cX3_shake 2 none, Cond.methodLink RX3 133 yX0_spillTea, Cond.instanceMethod yX0_spillTea, Cond.selects RX0 yX0_spillTea yX0_spillTea, Cond.code yX0_spillTea cX0_spillTea 2 none, Cond.fieldLink RX0 9 "NightSorters$Crew" "size" "I", Cond.methodLink RX3 136 yX2_fullestHole, Cond.instanceMethod yX2_fullestHole, Cond.selects RX2 yX2_fullestHole yX2_fullestHole, Cond.code yX2_fullestHole cX2_fullestHole 3 (some .int), Cond.methodLink RX3 140 yX2_spillHole, Cond.instanceMethod yX2_spillHole, Cond.selects RX2 yX2_spillHole yX2_spillHole, Cond.code yX2_spillHole cX2_spillHole 3 none, Cond.methodLink RX3 143 yX0_tireAll, Cond.instanceMethod yX0_tireAll, Cond.selects RX0 yX0_tireAll yX0_tireAll, Cond.code yX0_tireAll cX0_tireAll 3 none]
def wsL_pass : List Cond := .codeWith yL_pass cL_pass 4 (some .int) [(0, 9, 12, 15)] :: ((wsL_pass_r1 ++ (wsL_pass_r2 ++ (wsL_pass_r3 ++ (wsL_pass_r4 ++ (wsL_pass_r5 ++ wsL_pass_r6))))) ++ wsX40 ++ wsX30 ++ wsX20 ++ wsX00 ++ wsX10 ++ (vx_atS RX4 163 "java/lang/IllegalArgumentException" ["java/lang/RuntimeException", "java/lang/Exception"]).filter goodWord)
def wsL_arrives_r1 : List Cond := [Cond.classLink RL 13 "java/lang/IndexOutOfBoundsException", Cond.methodLink RL 51 yX4_arrives, Cond.instanceMethod yX4_arrives, Cond.selects RX4 yX4_arrives yX4_arrives, Cond.initialized RX4, Cond.code yX4_arrives cX4_arrives 4 (some .int), Cond.fieldLink RX4 17 "NightSorters" "train" "LNightSorters$Train;", Cond.fieldLink RX4 58 "NightSorters$Train" "mail" "LNightSorters$Mail;", Cond.fieldLink RX4 62 "NightSorters$Mail" "size" "I", Cond.fieldLink RX4 21 "NightSorters" "trial" "LNightSorters$Train;", Cond.fieldLink RX4 120 "NightSorters$Mail" "place" "[I", Cond.methodLink RX4 24 yX4_checkIndex, Cond.static yX4_checkIndex, Cond.code yX4_checkIndex cX4_checkIndex 2 none, Cond.classLink RX4 126 "java/lang/IndexOutOfBoundsException", Cond.initialized "java/lang/IndexOutOfBoundsException", Cond.methodLink RX4 116 yX3_copyFrom, Cond.instanceMethod yX3_copyFrom, Cond.selects RX3 yX3_copyFrom yX3_copyFrom, Cond.initialized RX3, Cond.code yX3_copyFrom cX3_copyFrom 2 none, Cond.fieldLink RX3 25 "NightSorters$Train" "minute" "I", Cond.fieldLink RX3 12 "NightSorters$Train" "mail" "LNightSorters$Mail;", Cond.fieldLink RX3 21 "NightSorters$Train" "crew" "LNightSorters$Crew;"]
def wsL_arrives_r2 : List Cond := [Cond.methodLink RX3 33 yX2_copyFrom, Cond.instanceMethod yX2_copyFrom, Cond.selects RX2 yX2_copyFrom yX2_copyFrom, Cond.initialized RX2, Cond.code yX2_copyFrom cX2_copyFrom 2 none, Cond.fieldLink RX2 9 "NightSorters$Mail" "size" "I", Cond.fieldLink RX2 15 "NightSorters$Mail" "town" "[I", Cond.methodLink RX2 48 arraycopyName, Cond.native arraycopyName, Cond.static arraycopyName, Cond.initialized "java/lang/System", Cond.fieldLink RX2 19 "NightSorters$Mail" "postedAt" "[I", Cond.fieldLink RX2 22 "NightSorters$Mail" "place" "[I", Cond.fieldLink RX2 25 "NightSorters$Mail" "holder" "[I", Cond.fieldLink RX2 28 "NightSorters$Mail" "endMinute" "[I", Cond.fieldLink RX2 31 "NightSorters$Mail" "inPlace" "[I", Cond.fieldLink RX2 34 "NightSorters$Mail" "inHole" "[I", Cond.methodLink RX3 37 yX0_copyFrom, Cond.instanceMethod yX0_copyFrom, Cond.selects RX0 yX0_copyFrom yX0_copyFrom, Cond.initialized RX0, Cond.code yX0_copyFrom cX0_copyFrom 2 none, Cond.fieldLink RX0 9 "NightSorters$Crew" "size" "I", Cond.fieldLink RX0 15 "NightSorters$Crew" "pace" "[I"]
def wsL_arrives_r3 : List Cond := [Cond.methodLink RX0 41 arraycopyName, Cond.fieldLink RX0 19 "NightSorters$Crew" "towns" "[I", Cond.fieldLink RX0 22 "NightSorters$Crew" "tired" "[I", Cond.fieldLink RX0 25 "NightSorters$Crew" "withTea" "[I", Cond.fieldLink RX0 28 "NightSorters$Crew" "held" "[I", Cond.fieldLink RX0 31 "NightSorters$Crew" "minutesLeft" "[I", Cond.fieldLink RX0 34 "NightSorters$Crew" "sorted" "[I", Cond.methodLink RX4 123 yX3_runMinute, Cond.instanceMethod yX3_runMinute, Cond.selects RX3 yX3_runMinute yX3_runMinute, Cond.code yX3_runMinute cX3_runMinute 3 none, Cond.fieldLink RX3 43 "NightSorters$Crew" "size" "I", Cond.fieldLink RX3 46 "NightSorters$Crew" "held" "[I", Cond.fieldLink RX3 29 "NightSorters$Train" "line" "LNightSorters$Line;", Cond.fieldLink RX3 66 "NightSorters$Line" "jolts" "[I", Cond.methodLink RX3 50 yX3_takeLetter, Cond.instanceMethod yX3_takeLetter, Cond.selects RX3 yX3_takeLetter yX3_takeLetter, Cond.code yX3_takeLetter cX3_takeLetter 3 none, Cond.fieldLink RX3 72 "NightSorters$Crew" "towns" "[I", Cond.methodLink RX3 75 yX2_firstOnTable, Cond.instanceMethod yX2_firstOnTable, Cond.selects RX2 yX2_firstOnTable yX2_firstOnTable, Cond.code yX2_firstOnTable cX2_firstOnTable 3 (some .int)]
def wsL_arrives_r4 : List Cond := [Cond.static yX4_hasTown, Cond.code yX4_hasTown cX4_hasTown 2 (some .boolean), Cond.methodLink RX3 78 yX2_moveToHands, Cond.instanceMethod yX2_moveToHands, Cond.selects RX2 yX2_moveToHands yX2_moveToHands, Cond.code yX2_moveToHands cX2_moveToHands 3 none, Cond.methodLink RX2 37 yX2_move, Cond.instanceMethod yX2_move, Cond.selects RX2 yX2_move yX2_move, Cond.code yX2_move cX2_move 4 none, Cond.methodLink RX3 82 yX0_takeUp, Cond.instanceMethod yX0_takeUp, Cond.selects RX0 yX0_takeUp yX0_takeUp, Cond.code yX0_takeUp cX0_takeUp 3 none, Cond.methodLink RX0 37 yX0_minutesNeeded, Cond.instanceMethod yX0_minutesNeeded, Cond.selects RX0 yX0_minutesNeeded yX0_minutesNeeded, Cond.code yX0_minutesNeeded cX0_minutesNeeded 3 (some .int), Cond.methodLink RX3 54 yX3_workOn, Cond.instanceMethod yX3_workOn, Cond.selects RX3 yX3_workOn yX3_workOn, Cond.code yX3_workOn cX3_workOn 2 none, Cond.fieldLink RX3 85 "NightSorters$Crew" "minutesLeft" "[I", Cond.methodLink RX3 88 yX3_putLetter]
def wsL_arrives_r5 : List Cond := [Cond.instanceMethod yX3_putLetter, Cond.selects RX3 yX3_putLetter yX3_putLetter, Cond.code yX3_putLetter cX3_putLetter 3 none, Cond.fieldLink RX3 91 "NightSorters$Mail" "inHole" "[I", Cond.fieldLink RX3 94 "NightSorters$Mail" "town" "[I", Cond.fieldLink RX3 100 "NightSorters$Crew" "sorted" "[I", Cond.fieldLink RX3 103 "NightSorters$Crew" "tired" "[I", Cond.methodLink RX3 97 yX2_move, Cond.methodLink RX3 106 yX0_freeHands, Cond.instanceMethod yX0_freeHands, Cond.selects RX0 yX0_freeHands yX0_freeHands, Cond.code yX0_freeHands cX0_freeHands 2 none, Cond.methodLink RX3 57 yX1_passedIn, Cond.instanceMethod yX1_passedIn, Cond.selects RX1 yX1_passedIn yX1_passedIn, Cond.initialized RX1, Cond.code yX1_passedIn cX1_passedIn 3 (some .int), Cond.fieldLink RX1 9 "NightSorters$Line" "minutes" "[I", Cond.methodLink RX3 63 yX3_serve, Cond.instanceMethod yX3_serve, Cond.selects RX3 yX3_serve yX3_serve, Cond.code yX3_serve cX3_serve 3 none, Cond.fieldLink RX3 109 "NightSorters$Mail" "size" "I", Cond.methodLink RX3 110 yX2_isInBag]
def wsL_arrives_r6 : List Cond := [Cond.instanceMethod yX2_isInBag, Cond.selects RX2 yX2_isInBag yX2_isInBag, Cond.code yX2_isInBag cX2_isInBag 3 (some .boolean), Cond.methodLink RX3 114 yX3_hookIn, Cond.instanceMethod yX3_hookIn, Cond.selects RX3 yX3_hookIn yX3_hookIn, Cond.code yX3_hookIn cX3_hookIn 3 none, Cond.static yX4_stationOf, Cond.code yX4_stationOf cX4_stationOf 1 (some .int), Cond.methodLink RX3 123 yX2_end, Cond.instanceMethod yX2_end, Cond.selects RX2 yX2_end yX2_end, Cond.code yX2_end cX2_end 4 none, Cond.methodLink RX3 120 yX3_hookOut, Cond.instanceMethod yX3_hookOut, Cond.selects RX3 yX3_hookOut yX3_hookOut, Cond.code yX3_hookOut cX3_hookOut 4 none, Cond.fieldLink RX3 127 "NightSorters$Mail" "place" "[I", Cond.fieldLink RX3 130 "NightSorters$Mail" "holder" "[I", Cond.methodLink RX3 69 yX3_shake, Cond.instanceMethod yX3_shake, Cond.selects RX3 yX3_shake yX3_shake, Cond.code yX3_shake cX3_shake 2 none, Cond.methodLink RX3 133 yX0_spillTea]
def wsL_arrives_r7 : List Cond := [Cond.instanceMethod yX0_spillTea, Cond.selects RX0 yX0_spillTea yX0_spillTea, Cond.code yX0_spillTea cX0_spillTea 2 none, Cond.methodLink RX3 136 yX2_fullestHole, Cond.instanceMethod yX2_fullestHole, Cond.selects RX2 yX2_fullestHole yX2_fullestHole, Cond.code yX2_fullestHole cX2_fullestHole 3 (some .int), Cond.methodLink RX3 140 yX2_spillHole, Cond.instanceMethod yX2_spillHole, Cond.selects RX2 yX2_spillHole yX2_spillHole, Cond.code yX2_spillHole cX2_spillHole 3 none, Cond.methodLink RX3 143 yX0_tireAll, Cond.instanceMethod yX0_tireAll, Cond.selects RX0 yX0_tireAll yX0_tireAll, Cond.code yX0_tireAll cX0_tireAll 3 none]
def wsL_arrives : List Cond := .codeWith yL_arrives cL_arrives 4 (some .int) [(0, 9, 12, 13)] :: ((wsL_arrives_r1 ++ (wsL_arrives_r2 ++ (wsL_arrives_r3 ++ (wsL_arrives_r4 ++ (wsL_arrives_r5 ++ (wsL_arrives_r6 ++ wsL_arrives_r7)))))) ++ wsX40 ++ wsX30 ++ wsX20 ++ wsX00 ++ wsX10 ++ (vx_atS RX4 130 "java/lang/IndexOutOfBoundsException" ["java/lang/RuntimeException", "java/lang/Exception"]).filter goodWord)
def wsL_foresee_r1 : List Cond := [Cond.classLink RL 15 "java/lang/IllegalArgumentException", Cond.classLink RL 13 "java/lang/IndexOutOfBoundsException", Cond.methodLink RL 54 yX4_foresee, Cond.instanceMethod yX4_foresee, Cond.selects RX4 yX4_foresee yX4_foresee, Cond.initialized RX4, Cond.code yX4_foresee cX4_foresee 3 (some .int), Cond.classLink RX4 126 "java/lang/IndexOutOfBoundsException", Cond.initialized "java/lang/IndexOutOfBoundsException", Cond.fieldLink RX4 21 "NightSorters" "trial" "LNightSorters$Train;", Cond.fieldLink RX4 17 "NightSorters" "train" "LNightSorters$Train;", Cond.fieldLink RX4 58 "NightSorters$Train" "mail" "LNightSorters$Mail;", Cond.fieldLink RX4 109 "NightSorters$Mail" "inPlace" "[I", Cond.methodLink RX4 28 yX4_checkArgument, Cond.static yX4_checkArgument, Cond.code yX4_checkArgument cX4_checkArgument 3 none, Cond.classLink RX4 159 "java/lang/IllegalArgumentException", Cond.initialized "java/lang/IllegalArgumentException", Cond.methodLink RX4 116 yX3_copyFrom, Cond.instanceMethod yX3_copyFrom, Cond.selects RX3 yX3_copyFrom yX3_copyFrom, Cond.initialized RX3, Cond.code yX3_copyFrom cX3_copyFrom 2 none, Cond.fieldLink RX3 25 "NightSorters$Train" "minute" "I"]
def wsL_foresee_r2 : List Cond := [Cond.fieldLink RX3 12 "NightSorters$Train" "mail" "LNightSorters$Mail;", Cond.fieldLink RX3 21 "NightSorters$Train" "crew" "LNightSorters$Crew;", Cond.methodLink RX3 33 yX2_copyFrom, Cond.instanceMethod yX2_copyFrom, Cond.selects RX2 yX2_copyFrom yX2_copyFrom, Cond.initialized RX2, Cond.code yX2_copyFrom cX2_copyFrom 2 none, Cond.fieldLink RX2 9 "NightSorters$Mail" "size" "I", Cond.fieldLink RX2 15 "NightSorters$Mail" "town" "[I", Cond.methodLink RX2 48 arraycopyName, Cond.native arraycopyName, Cond.static arraycopyName, Cond.initialized "java/lang/System", Cond.fieldLink RX2 19 "NightSorters$Mail" "postedAt" "[I", Cond.fieldLink RX2 22 "NightSorters$Mail" "place" "[I", Cond.fieldLink RX2 25 "NightSorters$Mail" "holder" "[I", Cond.fieldLink RX2 28 "NightSorters$Mail" "endMinute" "[I", Cond.fieldLink RX2 31 "NightSorters$Mail" "inPlace" "[I", Cond.fieldLink RX2 34 "NightSorters$Mail" "inHole" "[I", Cond.methodLink RX3 37 yX0_copyFrom, Cond.instanceMethod yX0_copyFrom, Cond.selects RX0 yX0_copyFrom yX0_copyFrom, Cond.initialized RX0, Cond.code yX0_copyFrom cX0_copyFrom 2 none]
def wsL_foresee_r3 : List Cond := [Cond.fieldLink RX0 9 "NightSorters$Crew" "size" "I", Cond.fieldLink RX0 15 "NightSorters$Crew" "pace" "[I", Cond.methodLink RX0 41 arraycopyName, Cond.fieldLink RX0 19 "NightSorters$Crew" "towns" "[I", Cond.fieldLink RX0 22 "NightSorters$Crew" "tired" "[I", Cond.fieldLink RX0 25 "NightSorters$Crew" "withTea" "[I", Cond.fieldLink RX0 28 "NightSorters$Crew" "held" "[I", Cond.fieldLink RX0 31 "NightSorters$Crew" "minutesLeft" "[I", Cond.fieldLink RX0 34 "NightSorters$Crew" "sorted" "[I", Cond.methodLink RX4 112 yX3_run, Cond.instanceMethod yX3_run, Cond.selects RX3 yX3_run yX3_run, Cond.code yX3_run cX3_run 3 none, Cond.methodLink RX3 40 yX3_runMinute, Cond.instanceMethod yX3_runMinute, Cond.selects RX3 yX3_runMinute yX3_runMinute, Cond.code yX3_runMinute cX3_runMinute 3 none, Cond.fieldLink RX3 43 "NightSorters$Crew" "size" "I", Cond.fieldLink RX3 46 "NightSorters$Crew" "held" "[I", Cond.fieldLink RX3 29 "NightSorters$Train" "line" "LNightSorters$Line;", Cond.fieldLink RX3 66 "NightSorters$Line" "jolts" "[I", Cond.methodLink RX3 50 yX3_takeLetter, Cond.instanceMethod yX3_takeLetter, Cond.selects RX3 yX3_takeLetter yX3_takeLetter]
def wsL_foresee_r4 : List Cond := [Cond.code yX3_takeLetter cX3_takeLetter 3 none, Cond.fieldLink RX3 72 "NightSorters$Crew" "towns" "[I", Cond.methodLink RX3 75 yX2_firstOnTable, Cond.instanceMethod yX2_firstOnTable, Cond.selects RX2 yX2_firstOnTable yX2_firstOnTable, Cond.code yX2_firstOnTable cX2_firstOnTable 3 (some .int), Cond.static yX4_hasTown, Cond.code yX4_hasTown cX4_hasTown 2 (some .boolean), Cond.methodLink RX3 78 yX2_moveToHands, Cond.instanceMethod yX2_moveToHands, Cond.selects RX2 yX2_moveToHands yX2_moveToHands, Cond.code yX2_moveToHands cX2_moveToHands 3 none, Cond.methodLink RX2 37 yX2_move, Cond.instanceMethod yX2_move, Cond.selects RX2 yX2_move yX2_move, Cond.code yX2_move cX2_move 4 none, Cond.methodLink RX3 82 yX0_takeUp, Cond.instanceMethod yX0_takeUp, Cond.selects RX0 yX0_takeUp yX0_takeUp, Cond.code yX0_takeUp cX0_takeUp 3 none, Cond.methodLink RX0 37 yX0_minutesNeeded, Cond.instanceMethod yX0_minutesNeeded, Cond.selects RX0 yX0_minutesNeeded yX0_minutesNeeded, Cond.code yX0_minutesNeeded cX0_minutesNeeded 3 (some .int)]
def wsL_foresee_r5 : List Cond := [Cond.methodLink RX3 54 yX3_workOn, Cond.instanceMethod yX3_workOn, Cond.selects RX3 yX3_workOn yX3_workOn, Cond.code yX3_workOn cX3_workOn 2 none, Cond.fieldLink RX3 85 "NightSorters$Crew" "minutesLeft" "[I", Cond.methodLink RX3 88 yX3_putLetter, Cond.instanceMethod yX3_putLetter, Cond.selects RX3 yX3_putLetter yX3_putLetter, Cond.code yX3_putLetter cX3_putLetter 3 none, Cond.fieldLink RX3 91 "NightSorters$Mail" "inHole" "[I", Cond.fieldLink RX3 94 "NightSorters$Mail" "town" "[I", Cond.fieldLink RX3 100 "NightSorters$Crew" "sorted" "[I", Cond.fieldLink RX3 103 "NightSorters$Crew" "tired" "[I", Cond.methodLink RX3 97 yX2_move, Cond.methodLink RX3 106 yX0_freeHands, Cond.instanceMethod yX0_freeHands, Cond.selects RX0 yX0_freeHands yX0_freeHands, Cond.code yX0_freeHands cX0_freeHands 2 none, Cond.methodLink RX3 57 yX1_passedIn, Cond.instanceMethod yX1_passedIn, Cond.selects RX1 yX1_passedIn yX1_passedIn, Cond.initialized RX1, Cond.code yX1_passedIn cX1_passedIn 3 (some .int), Cond.fieldLink RX1 9 "NightSorters$Line" "minutes" "[I"]
def wsL_foresee_r6 : List Cond := [Cond.methodLink RX3 63 yX3_serve, Cond.instanceMethod yX3_serve, Cond.selects RX3 yX3_serve yX3_serve, Cond.code yX3_serve cX3_serve 3 none, Cond.fieldLink RX3 109 "NightSorters$Mail" "size" "I", Cond.methodLink RX3 110 yX2_isInBag, Cond.instanceMethod yX2_isInBag, Cond.selects RX2 yX2_isInBag yX2_isInBag, Cond.code yX2_isInBag cX2_isInBag 3 (some .boolean), Cond.methodLink RX3 114 yX3_hookIn, Cond.instanceMethod yX3_hookIn, Cond.selects RX3 yX3_hookIn yX3_hookIn, Cond.code yX3_hookIn cX3_hookIn 3 none, Cond.static yX4_stationOf, Cond.code yX4_stationOf cX4_stationOf 1 (some .int), Cond.methodLink RX3 123 yX2_end, Cond.instanceMethod yX2_end, Cond.selects RX2 yX2_end yX2_end, Cond.code yX2_end cX2_end 4 none, Cond.methodLink RX3 120 yX3_hookOut, Cond.instanceMethod yX3_hookOut, Cond.selects RX3 yX3_hookOut yX3_hookOut, Cond.code yX3_hookOut cX3_hookOut 4 none, Cond.fieldLink RX3 127 "NightSorters$Mail" "place" "[I"]
def wsL_foresee_r7 : List Cond := [Cond.fieldLink RX3 130 "NightSorters$Mail" "holder" "[I", Cond.methodLink RX3 69 yX3_shake, Cond.instanceMethod yX3_shake, Cond.selects RX3 yX3_shake yX3_shake, Cond.code yX3_shake cX3_shake 2 none, Cond.methodLink RX3 133 yX0_spillTea, Cond.instanceMethod yX0_spillTea, Cond.selects RX0 yX0_spillTea yX0_spillTea, Cond.code yX0_spillTea cX0_spillTea 2 none, Cond.methodLink RX3 136 yX2_fullestHole, Cond.instanceMethod yX2_fullestHole, Cond.selects RX2 yX2_fullestHole yX2_fullestHole, Cond.code yX2_fullestHole cX2_fullestHole 3 (some .int), Cond.methodLink RX3 140 yX2_spillHole, Cond.instanceMethod yX2_spillHole, Cond.selects RX2 yX2_spillHole yX2_spillHole, Cond.code yX2_spillHole cX2_spillHole 3 none, Cond.methodLink RX3 143 yX0_tireAll, Cond.instanceMethod yX0_tireAll, Cond.selects RX0 yX0_tireAll yX0_tireAll, Cond.code yX0_tireAll cX0_tireAll 3 none]
def wsL_foresee : List Cond := .codeWith yL_foresee cL_foresee 5 (some .int) [(0, 10, 13, 15), (0, 10, 17, 13)] :: ((wsL_foresee_r1 ++ (wsL_foresee_r2 ++ (wsL_foresee_r3 ++ (wsL_foresee_r4 ++ (wsL_foresee_r5 ++ (wsL_foresee_r6 ++ wsL_foresee_r7)))))) ++ wsX40 ++ wsX30 ++ wsX20 ++ wsX00 ++ wsX10 ++ (vx_atS RX4 130 "java/lang/IndexOutOfBoundsException" ["java/lang/RuntimeException", "java/lang/Exception"]).filter goodWord ++ (vx_atS RX4 163 "java/lang/IllegalArgumentException" ["java/lang/RuntimeException", "java/lang/Exception"]).filter goodWord)
def wsL_advise_r1 : List Cond := [Cond.classLink RL 13 "java/lang/IndexOutOfBoundsException", Cond.classLink RL 15 "java/lang/IllegalArgumentException", Cond.methodLink RL 57 yX4_advise, Cond.instanceMethod yX4_advise, Cond.selects RX4 yX4_advise yX4_advise, Cond.initialized RX4, Cond.code yX4_advise cX4_advise 8 (some .int), Cond.fieldLink RX4 17 "NightSorters" "train" "LNightSorters$Train;", Cond.fieldLink RX4 74 "NightSorters$Train" "crew" "LNightSorters$Crew;", Cond.fieldLink RX4 78 "NightSorters$Crew" "size" "I", Cond.fieldLink RX4 86 "NightSorters$Crew" "towns" "[I", Cond.methodLink RX4 24 yX4_checkIndex, Cond.static yX4_checkIndex, Cond.code yX4_checkIndex cX4_checkIndex 2 none, Cond.classLink RX4 126 "java/lang/IndexOutOfBoundsException", Cond.initialized "java/lang/IndexOutOfBoundsException", Cond.methodLink RX4 28 yX4_checkArgument, Cond.static yX4_checkArgument, Cond.code yX4_checkArgument cX4_checkArgument 3 none, Cond.classLink RX4 159 "java/lang/IllegalArgumentException", Cond.initialized "java/lang/IllegalArgumentException", Cond.methodLink RX4 131 yX4_deliveredIfAssigned, Cond.instanceMethod yX4_deliveredIfAssigned, Cond.selects RX4 yX4_deliveredIfAssigned yX4_deliveredIfAssigned]
def wsL_advise_r2 : List Cond := [Cond.code yX4_deliveredIfAssigned cX4_deliveredIfAssigned 4 (some .int), Cond.fieldLink RX4 21 "NightSorters" "trial" "LNightSorters$Train;", Cond.fieldLink RX4 58 "NightSorters$Train" "mail" "LNightSorters$Mail;", Cond.fieldLink RX4 109 "NightSorters$Mail" "inPlace" "[I", Cond.methodLink RX4 116 yX3_copyFrom, Cond.instanceMethod yX3_copyFrom, Cond.selects RX3 yX3_copyFrom yX3_copyFrom, Cond.initialized RX3, Cond.code yX3_copyFrom cX3_copyFrom 2 none, Cond.fieldLink RX3 25 "NightSorters$Train" "minute" "I", Cond.fieldLink RX3 12 "NightSorters$Train" "mail" "LNightSorters$Mail;", Cond.fieldLink RX3 21 "NightSorters$Train" "crew" "LNightSorters$Crew;", Cond.methodLink RX3 33 yX2_copyFrom, Cond.instanceMethod yX2_copyFrom, Cond.selects RX2 yX2_copyFrom yX2_copyFrom, Cond.initialized RX2, Cond.code yX2_copyFrom cX2_copyFrom 2 none, Cond.fieldLink RX2 9 "NightSorters$Mail" "size" "I", Cond.fieldLink RX2 15 "NightSorters$Mail" "town" "[I", Cond.methodLink RX2 48 arraycopyName, Cond.native arraycopyName, Cond.static arraycopyName, Cond.initialized "java/lang/System", Cond.fieldLink RX2 19 "NightSorters$Mail" "postedAt" "[I"]
def wsL_advise_r3 : List Cond := [Cond.fieldLink RX2 22 "NightSorters$Mail" "place" "[I", Cond.fieldLink RX2 25 "NightSorters$Mail" "holder" "[I", Cond.fieldLink RX2 28 "NightSorters$Mail" "endMinute" "[I", Cond.fieldLink RX2 31 "NightSorters$Mail" "inPlace" "[I", Cond.fieldLink RX2 34 "NightSorters$Mail" "inHole" "[I", Cond.methodLink RX3 37 yX0_copyFrom, Cond.instanceMethod yX0_copyFrom, Cond.selects RX0 yX0_copyFrom yX0_copyFrom, Cond.initialized RX0, Cond.code yX0_copyFrom cX0_copyFrom 2 none, Cond.fieldLink RX0 9 "NightSorters$Crew" "size" "I", Cond.fieldLink RX0 15 "NightSorters$Crew" "pace" "[I", Cond.methodLink RX0 41 arraycopyName, Cond.fieldLink RX0 19 "NightSorters$Crew" "towns" "[I", Cond.fieldLink RX0 22 "NightSorters$Crew" "tired" "[I", Cond.fieldLink RX0 25 "NightSorters$Crew" "withTea" "[I", Cond.fieldLink RX0 28 "NightSorters$Crew" "held" "[I", Cond.fieldLink RX0 31 "NightSorters$Crew" "minutesLeft" "[I", Cond.fieldLink RX0 34 "NightSorters$Crew" "sorted" "[I", Cond.methodLink RX4 112 yX3_run, Cond.instanceMethod yX3_run, Cond.selects RX3 yX3_run yX3_run, Cond.code yX3_run cX3_run 3 none, Cond.methodLink RX3 40 yX3_runMinute]
def wsL_advise_r4 : List Cond := [Cond.instanceMethod yX3_runMinute, Cond.selects RX3 yX3_runMinute yX3_runMinute, Cond.code yX3_runMinute cX3_runMinute 3 none, Cond.fieldLink RX3 43 "NightSorters$Crew" "size" "I", Cond.fieldLink RX3 46 "NightSorters$Crew" "held" "[I", Cond.fieldLink RX3 29 "NightSorters$Train" "line" "LNightSorters$Line;", Cond.fieldLink RX3 66 "NightSorters$Line" "jolts" "[I", Cond.methodLink RX3 50 yX3_takeLetter, Cond.instanceMethod yX3_takeLetter, Cond.selects RX3 yX3_takeLetter yX3_takeLetter, Cond.code yX3_takeLetter cX3_takeLetter 3 none, Cond.fieldLink RX3 72 "NightSorters$Crew" "towns" "[I", Cond.methodLink RX3 75 yX2_firstOnTable, Cond.instanceMethod yX2_firstOnTable, Cond.selects RX2 yX2_firstOnTable yX2_firstOnTable, Cond.code yX2_firstOnTable cX2_firstOnTable 3 (some .int), Cond.static yX4_hasTown, Cond.code yX4_hasTown cX4_hasTown 2 (some .boolean), Cond.methodLink RX3 78 yX2_moveToHands, Cond.instanceMethod yX2_moveToHands, Cond.selects RX2 yX2_moveToHands yX2_moveToHands, Cond.code yX2_moveToHands cX2_moveToHands 3 none, Cond.methodLink RX2 37 yX2_move, Cond.instanceMethod yX2_move]
def wsL_advise_r5 : List Cond := [Cond.selects RX2 yX2_move yX2_move, Cond.code yX2_move cX2_move 4 none, Cond.methodLink RX3 82 yX0_takeUp, Cond.instanceMethod yX0_takeUp, Cond.selects RX0 yX0_takeUp yX0_takeUp, Cond.code yX0_takeUp cX0_takeUp 3 none, Cond.methodLink RX0 37 yX0_minutesNeeded, Cond.instanceMethod yX0_minutesNeeded, Cond.selects RX0 yX0_minutesNeeded yX0_minutesNeeded, Cond.code yX0_minutesNeeded cX0_minutesNeeded 3 (some .int), Cond.methodLink RX3 54 yX3_workOn, Cond.instanceMethod yX3_workOn, Cond.selects RX3 yX3_workOn yX3_workOn, Cond.code yX3_workOn cX3_workOn 2 none, Cond.fieldLink RX3 85 "NightSorters$Crew" "minutesLeft" "[I", Cond.methodLink RX3 88 yX3_putLetter, Cond.instanceMethod yX3_putLetter, Cond.selects RX3 yX3_putLetter yX3_putLetter, Cond.code yX3_putLetter cX3_putLetter 3 none, Cond.fieldLink RX3 91 "NightSorters$Mail" "inHole" "[I", Cond.fieldLink RX3 94 "NightSorters$Mail" "town" "[I", Cond.fieldLink RX3 100 "NightSorters$Crew" "sorted" "[I", Cond.fieldLink RX3 103 "NightSorters$Crew" "tired" "[I", Cond.methodLink RX3 97 yX2_move]
def wsL_advise_r6 : List Cond := [Cond.methodLink RX3 106 yX0_freeHands, Cond.instanceMethod yX0_freeHands, Cond.selects RX0 yX0_freeHands yX0_freeHands, Cond.code yX0_freeHands cX0_freeHands 2 none, Cond.methodLink RX3 57 yX1_passedIn, Cond.instanceMethod yX1_passedIn, Cond.selects RX1 yX1_passedIn yX1_passedIn, Cond.initialized RX1, Cond.code yX1_passedIn cX1_passedIn 3 (some .int), Cond.fieldLink RX1 9 "NightSorters$Line" "minutes" "[I", Cond.methodLink RX3 63 yX3_serve, Cond.instanceMethod yX3_serve, Cond.selects RX3 yX3_serve yX3_serve, Cond.code yX3_serve cX3_serve 3 none, Cond.fieldLink RX3 109 "NightSorters$Mail" "size" "I", Cond.methodLink RX3 110 yX2_isInBag, Cond.instanceMethod yX2_isInBag, Cond.selects RX2 yX2_isInBag yX2_isInBag, Cond.code yX2_isInBag cX2_isInBag 3 (some .boolean), Cond.methodLink RX3 114 yX3_hookIn, Cond.instanceMethod yX3_hookIn, Cond.selects RX3 yX3_hookIn yX3_hookIn, Cond.code yX3_hookIn cX3_hookIn 3 none, Cond.static yX4_stationOf]
def wsL_advise_r7 : List Cond := [Cond.code yX4_stationOf cX4_stationOf 1 (some .int), Cond.methodLink RX3 123 yX2_end, Cond.instanceMethod yX2_end, Cond.selects RX2 yX2_end yX2_end, Cond.code yX2_end cX2_end 4 none, Cond.methodLink RX3 120 yX3_hookOut, Cond.instanceMethod yX3_hookOut, Cond.selects RX3 yX3_hookOut yX3_hookOut, Cond.code yX3_hookOut cX3_hookOut 4 none, Cond.fieldLink RX3 127 "NightSorters$Mail" "place" "[I", Cond.fieldLink RX3 130 "NightSorters$Mail" "holder" "[I", Cond.methodLink RX3 69 yX3_shake, Cond.instanceMethod yX3_shake, Cond.selects RX3 yX3_shake yX3_shake, Cond.code yX3_shake cX3_shake 2 none, Cond.methodLink RX3 133 yX0_spillTea, Cond.instanceMethod yX0_spillTea, Cond.selects RX0 yX0_spillTea yX0_spillTea, Cond.code yX0_spillTea cX0_spillTea 2 none, Cond.methodLink RX3 136 yX2_fullestHole, Cond.instanceMethod yX2_fullestHole, Cond.selects RX2 yX2_fullestHole yX2_fullestHole, Cond.code yX2_fullestHole cX2_fullestHole 3 (some .int), Cond.methodLink RX3 140 yX2_spillHole]
def wsL_advise_r8 : List Cond := [Cond.instanceMethod yX2_spillHole, Cond.selects RX2 yX2_spillHole yX2_spillHole, Cond.code yX2_spillHole cX2_spillHole 3 none, Cond.methodLink RX3 143 yX0_tireAll, Cond.instanceMethod yX0_tireAll, Cond.selects RX0 yX0_tireAll yX0_tireAll, Cond.code yX0_tireAll cX0_tireAll 3 none, Cond.methodLink RX4 135 yX4_hasTown]
def wsL_advise : List Cond := .codeWith yL_advise cL_advise 5 (some .int) [(0, 10, 13, 13), (0, 10, 17, 15)] :: ((wsL_advise_r1 ++ (wsL_advise_r2 ++ (wsL_advise_r3 ++ (wsL_advise_r4 ++ (wsL_advise_r5 ++ (wsL_advise_r6 ++ (wsL_advise_r7 ++ wsL_advise_r8))))))) ++ wsX40 ++ wsX30 ++ wsX00 ++ wsX20 ++ wsX10 ++ (vx_atS RX4 130 "java/lang/IndexOutOfBoundsException" ["java/lang/RuntimeException", "java/lang/Exception"]).filter goodWord ++ (vx_atS RX4 163 "java/lang/IllegalArgumentException" ["java/lang/RuntimeException", "java/lang/Exception"]).filter goodWord)
def wsL_law0_r1 : List Cond := [Cond.classLink RL 8 RX4, Cond.instantiable RX4 2, Cond.initialized RX4, Cond.classLink RL 61 RX6, Cond.instantiable RX6 10, Cond.initialized RX6, Cond.arrayClass .long, Cond.methodLink RL 60 yX4_init, Cond.instanceMethod yX4_init, Cond.code yX4_init cX4_init 2 none, Cond.methodLink RX4 3 objectInit, Cond.instanceMethod objectInit, Cond.code objectInit ⟨#[0xb1]⟩ 1 none, Cond.classLink RX4 9 RX1, Cond.instantiable RX1 2, Cond.initialized RX1, Cond.classLink RX4 12 RX3, Cond.instantiable RX3 4, Cond.initialized RX3, Cond.fieldLink RX4 17 "NightSorters" "train" "LNightSorters$Train;", Cond.fieldLink RX4 21 "NightSorters" "trial" "LNightSorters$Train;", Cond.methodLink RX4 11 yX1_init, Cond.instanceMethod yX1_init, Cond.code yX1_init cX1_init 2 none]
def wsL_law0_r2 : List Cond := [Cond.methodLink RX1 3 objectInit, Cond.arrayClass .int, Cond.fieldLink RX1 9 "NightSorters$Line" "minutes" "[I", Cond.fieldLink RX1 15 "NightSorters$Line" "jolts" "[I", Cond.methodLink RX4 14 yX3_init, Cond.instanceMethod yX3_init, Cond.code yX3_init cX3_init 2 none, Cond.methodLink RX3 3 objectInit, Cond.classLink RX3 9 RX2, Cond.instantiable RX2 8, Cond.initialized RX2, Cond.fieldLink RX3 12 "NightSorters$Train" "mail" "LNightSorters$Mail;", Cond.classLink RX3 18 RX0, Cond.instantiable RX0 8, Cond.initialized RX0, Cond.fieldLink RX3 21 "NightSorters$Train" "crew" "LNightSorters$Crew;", Cond.fieldLink RX3 25 "NightSorters$Train" "minute" "I", Cond.fieldLink RX3 29 "NightSorters$Train" "line" "LNightSorters$Line;", Cond.instanceMethod yX2_init, Cond.code yX2_init cX2_init 1 none, Cond.methodLink RX2 3 objectInit, Cond.fieldLink RX2 9 "NightSorters$Mail" "size" "I", Cond.fieldLink RX2 15 "NightSorters$Mail" "town" "[I", Cond.fieldLink RX2 19 "NightSorters$Mail" "postedAt" "[I"]
def wsL_law0_r3 : List Cond := [Cond.fieldLink RX2 22 "NightSorters$Mail" "place" "[I", Cond.fieldLink RX2 25 "NightSorters$Mail" "holder" "[I", Cond.fieldLink RX2 28 "NightSorters$Mail" "endMinute" "[I", Cond.fieldLink RX2 31 "NightSorters$Mail" "inPlace" "[I", Cond.fieldLink RX2 34 "NightSorters$Mail" "inHole" "[I", Cond.instanceMethod yX0_init, Cond.code yX0_init cX0_init 1 none, Cond.methodLink RX0 3 objectInit, Cond.fieldLink RX0 9 "NightSorters$Crew" "size" "I", Cond.fieldLink RX0 15 "NightSorters$Crew" "pace" "[I", Cond.fieldLink RX0 19 "NightSorters$Crew" "towns" "[I", Cond.fieldLink RX0 22 "NightSorters$Crew" "tired" "[I", Cond.fieldLink RX0 25 "NightSorters$Crew" "withTea" "[I", Cond.fieldLink RX0 28 "NightSorters$Crew" "held" "[I", Cond.fieldLink RX0 31 "NightSorters$Crew" "minutesLeft" "[I", Cond.fieldLink RX0 34 "NightSorters$Crew" "sorted" "[I", Cond.methodLink RL 63 yX6_init, Cond.instanceMethod yX6_init, Cond.code yX6_init cX6_init 2 none, Cond.methodLink RX6 1 objectInit, Cond.fieldLink RX6 9 "NightSortersModel" "passes" "[I", Cond.fieldLink RX6 13 "NightSortersModel" "jolt" "[I", Cond.fieldLink RX6 16 "NightSortersModel" "town" "[I", Cond.fieldLink RX6 19 "NightSortersModel" "station" "[I"]
def wsL_law0_r4 : List Cond := [Cond.fieldLink RX6 22 "NightSortersModel" "pace" "[I", Cond.classLink RX6 25 RX5, Cond.instantiable RX5 11, Cond.initialized RX5, Cond.fieldLink RX6 30 "NightSortersModel" "s" "LNightSortersModel$State;", Cond.fieldLink RX6 34 "NightSortersModel" "ahead" "LNightSortersModel$State;", Cond.instanceMethod yX5_init, Cond.code yX5_init cX5_init 2 none, Cond.fieldLink RX5 3 "NightSortersModel$State" "this$0" "LNightSortersModel;", Cond.methodLink RX5 9 objectInit, Cond.fieldLink RX5 15 "NightSortersModel$State" "where" "[I", Cond.fieldLink RX5 19 "NightSortersModel$State" "who" "[I", Cond.fieldLink RX5 22 "NightSortersModel$State" "when" "[I", Cond.fieldLink RX5 25 "NightSortersModel$State" "towns" "[I", Cond.fieldLink RX5 28 "NightSortersModel$State" "tired" "[I", Cond.fieldLink RX5 31 "NightSortersModel$State" "tea" "[I", Cond.fieldLink RX5 34 "NightSortersModel$State" "holds" "[I", Cond.fieldLink RX5 37 "NightSortersModel$State" "left" "[I", Cond.fieldLink RX5 40 "NightSortersModel$State" "sorted" "[I", Cond.methodLink RL 64 yL_setStation, Cond.static yL_setStation, Cond.initialized RL, Cond.codeWith yL_setStation cL_setStation 6 (some .int) [(0, 12, 15, 13), (0, 12, 19, 15), (0, 12, 23, 17)], Cond.classLink RL 13 "java/lang/IndexOutOfBoundsException"]
def wsL_law0_r5 : List Cond := [Cond.classLink RL 15 "java/lang/IllegalArgumentException", Cond.classLink RL 17 "java/lang/IllegalStateException", Cond.methodLink RL 7 yX4_setStation, Cond.instanceMethod yX4_setStation, Cond.selects RX4 yX4_setStation yX4_setStation, Cond.code yX4_setStation cX4_setStation 6 (some .int), Cond.classLink RX4 48 "java/lang/IllegalStateException", Cond.initialized "java/lang/IllegalStateException", Cond.fieldLink RX4 32 "NightSorters$Train" "line" "LNightSorters$Line;", Cond.fieldLink RX4 36 "NightSorters$Train" "minute" "I", Cond.fieldLink RX4 40 "NightSorters$Line" "minutes" "[I", Cond.fieldLink RX4 55 "NightSorters$Line" "jolts" "[I", Cond.methodLink RX4 24 yX4_checkIndex, Cond.static yX4_checkIndex, Cond.code yX4_checkIndex cX4_checkIndex 2 none, Cond.classLink RX4 126 "java/lang/IndexOutOfBoundsException", Cond.initialized "java/lang/IndexOutOfBoundsException", Cond.methodLink RX4 28 yX4_checkArgument, Cond.static yX4_checkArgument, Cond.code yX4_checkArgument cX4_checkArgument 3 none, Cond.classLink RX4 159 "java/lang/IllegalArgumentException", Cond.initialized "java/lang/IllegalArgumentException", Cond.methodLink RX4 44 yX1_wouldRise, Cond.instanceMethod yX1_wouldRise]
def wsL_law0_r6 : List Cond := [Cond.selects RX1 yX1_wouldRise yX1_wouldRise, Cond.code yX1_wouldRise cX1_wouldRise 5 (some .boolean), Cond.methodLink RL 69 yX6_setStation, Cond.instanceMethod yX6_setStation, Cond.selects RX6 yX6_setStation yX6_setStation, Cond.code yX6_setStation cX6_setStation 5 (some .int), Cond.fieldLink RX6 37 "NightSortersModel" "thrown" "I", Cond.methodLink RX6 52 yX6_isStation, Cond.static yX6_isStation, Cond.code yX6_isStation cX6_isStation 1 (some .boolean), Cond.methodLink RX6 41 yX6_isIn, Cond.static yX6_isIn, Cond.code yX6_isIn cX6_isIn 3 (some .boolean), Cond.methodLink RX6 56 yX6_no, Cond.instanceMethod yX6_no, Cond.selects RX6 yX6_no yX6_no, Cond.code yX6_no cX6_no 2 (some .int), Cond.methodLink RX6 63 yX6_wouldRise, Cond.instanceMethod yX6_wouldRise, Cond.selects RX6 yX6_wouldRise yX6_wouldRise, Cond.code yX6_wouldRise cX6_wouldRise 3 (some .boolean), Cond.methodLink RL 70 yX6_thrown, Cond.instanceMethod yX6_thrown, Cond.selects RX6 yX6_thrown yX6_thrown]
def wsL_law0_r7 : List Cond := [Cond.code yX6_thrown cX6_thrown 1 (some .int), Cond.methodLink RL 74 yL_post, Cond.static yL_post, Cond.codeWith yL_post cL_post 5 (some .int) [(0, 10, 13, 13), (0, 10, 17, 17)], Cond.methodLink RL 19 yX4_post, Cond.instanceMethod yX4_post, Cond.selects RX4 yX4_post yX4_post, Cond.code yX4_post cX4_post 3 (some .int), Cond.fieldLink RX4 58 "NightSorters$Train" "mail" "LNightSorters$Mail;", Cond.fieldLink RX4 62 "NightSorters$Mail" "size" "I", Cond.methodLink RX4 69 yX2_addToBag, Cond.instanceMethod yX2_addToBag, Cond.selects RX2 yX2_addToBag yX2_addToBag, Cond.code yX2_addToBag cX2_addToBag 4 (some .int), Cond.methodLink RL 77 yX6_post, Cond.instanceMethod yX6_post, Cond.selects RX6 yX6_post yX6_post, Cond.code yX6_post cX6_post 3 (some .int), Cond.fieldLink RX6 46 "NightSortersModel" "letters" "I", Cond.methodLink RX6 67 yX6_isTown, Cond.static yX6_isTown, Cond.code yX6_isTown cX6_isTown 1 (some .boolean), Cond.methodLink RL 78 yL_hire, Cond.static yL_hire]
def wsL_law0_r8 : List Cond := [Cond.codeWith yL_hire cL_hire 5 (some .int) [(0, 10, 13, 15), (0, 10, 17, 17)], Cond.methodLink RL 23 yX4_hire, Cond.instanceMethod yX4_hire, Cond.selects RX4 yX4_hire yX4_hire, Cond.code yX4_hire cX4_hire 3 (some .int), Cond.constant RX4 73 (65535), Cond.fieldLink RX4 74 "NightSorters$Train" "crew" "LNightSorters$Crew;", Cond.fieldLink RX4 78 "NightSorters$Crew" "size" "I", Cond.methodLink RX4 83 yX0_add, Cond.instanceMethod yX0_add, Cond.selects RX0 yX0_add yX0_add, Cond.code yX0_add cX0_add 4 (some .int), Cond.methodLink RL 80 yX6_hire, Cond.instanceMethod yX6_hire, Cond.selects RX6 yX6_hire yX6_hire, Cond.code yX6_hire cX6_hire 3 (some .int), Cond.fieldLink RX6 49 "NightSortersModel" "sorters" "I", Cond.methodLink RX6 76 yX6_isSet, Cond.static yX6_isSet, Cond.code yX6_isSet cX6_isSet 1 (some .boolean), Cond.constant RX6 45 (65535), Cond.methodLink RL 81 yL_assign, Cond.static yL_assign, Cond.codeWith yL_assign cL_assign 5 (some .int) [(0, 10, 13, 13), (0, 10, 17, 15)]]
def wsL_law0_r9 : List Cond := [Cond.methodLink RL 26 yX4_assign, Cond.instanceMethod yX4_assign, Cond.selects RX4 yX4_assign yX4_assign, Cond.code yX4_assign cX4_assign 4 (some .int), Cond.fieldLink RX4 86 "NightSorters$Crew" "towns" "[I", Cond.methodLink RL 83 yX6_assign, Cond.instanceMethod yX6_assign, Cond.selects RX6 yX6_assign yX6_assign, Cond.code yX6_assign cX6_assign 4 (some .int), Cond.methodLink RX6 85 yX6_isSorter, Cond.instanceMethod yX6_isSorter, Cond.selects RX6 yX6_isSorter yX6_isSorter, Cond.code yX6_isSorter cX6_isSorter 2 (some .boolean), Cond.methodLink RL 84 yL_tea, Cond.static yL_tea, Cond.codeWith yL_tea cL_tea 4 (some .int) [(0, 9, 12, 13)], Cond.methodLink RL 29 yX4_tea, Cond.instanceMethod yX4_tea, Cond.selects RX4 yX4_tea yX4_tea, Cond.code yX4_tea cX4_tea 3 (some .int), Cond.fieldLink RX4 89 "NightSorters$Crew" "tired" "[I", Cond.fieldLink RX4 92 "NightSorters$Crew" "withTea" "[I", Cond.methodLink RL 87 yX6_tea, Cond.instanceMethod yX6_tea]
def wsL_law0_r10 : List Cond := [Cond.selects RX6 yX6_tea yX6_tea, Cond.code yX6_tea cX6_tea 3 (some .int), Cond.methodLink RL 88 yL_letter, Cond.static yL_letter, Cond.codeWith yL_letter cL_letter 5 (some .int) [(0, 10, 13, 13)], Cond.methodLink RL 33 yX4_letter, Cond.instanceMethod yX4_letter, Cond.selects RX4 yX4_letter yX4_letter, Cond.code yX4_letter cX4_letter 3 (some .int), Cond.methodLink RX4 95 yX2_fact, Cond.instanceMethod yX2_fact, Cond.selects RX2 yX2_fact yX2_fact, Cond.code yX2_fact cX2_fact 3 (some .int), Cond.methodLink RL 90 yX6_letter, Cond.instanceMethod yX6_letter, Cond.selects RX6 yX6_letter yX6_letter, Cond.code yX6_letter cX6_letter 3 (some .int), Cond.methodLink RX6 97 yX6_isLetter, Cond.instanceMethod yX6_isLetter, Cond.selects RX6 yX6_isLetter yX6_isLetter, Cond.code yX6_isLetter cX6_isLetter 2 (some .boolean), Cond.methodLink RX6 100 yX6_letterTold, Cond.instanceMethod yX6_letterTold, Cond.selects RX6 yX6_letterTold yX6_letterTold]
def wsL_law0_r11 : List Cond := [Cond.code yX6_letterTold cX6_letterTold 4 (some .int), Cond.methodLink RL 91 yL_sorter, Cond.static yL_sorter, Cond.codeWith yL_sorter cL_sorter 5 (some .int) [(0, 10, 13, 13)], Cond.methodLink RL 36 yX4_sorter, Cond.instanceMethod yX4_sorter, Cond.selects RX4 yX4_sorter yX4_sorter, Cond.code yX4_sorter cX4_sorter 3 (some .int), Cond.methodLink RX4 98 yX0_fact, Cond.instanceMethod yX0_fact, Cond.selects RX0 yX0_fact yX0_fact, Cond.code yX0_fact cX0_fact 3 (some .int), Cond.methodLink RL 93 yX6_sorter, Cond.instanceMethod yX6_sorter, Cond.selects RX6 yX6_sorter yX6_sorter, Cond.code yX6_sorter cX6_sorter 3 (some .int), Cond.methodLink RX6 110 yX6_sorterTold, Cond.instanceMethod yX6_sorterTold, Cond.selects RX6 yX6_sorterTold yX6_sorterTold, Cond.code yX6_sorterTold cX6_sorterTold 4 (some .int), Cond.methodLink RL 94 yL_hole, Cond.static yL_hole, Cond.codeWith yL_hole cL_hole 4 (some .int) [(0, 9, 12, 13)], Cond.methodLink RL 39 yX4_hole]
def wsL_law0_r12 : List Cond := [Cond.instanceMethod yX4_hole, Cond.selects RX4 yX4_hole yX4_hole, Cond.code yX4_hole cX4_hole 2 (some .int), Cond.fieldLink RX4 99 "NightSorters$Mail" "inHole" "[I", Cond.methodLink RL 96 yX6_hole, Cond.instanceMethod yX6_hole, Cond.selects RX6 yX6_hole yX6_hole, Cond.code yX6_hole cX6_hole 2 (some .int), Cond.methodLink RX6 113 yX5_inHole, Cond.instanceMethod yX5_inHole, Cond.selects RX5 yX5_inHole yX5_inHole, Cond.code yX5_inHole cX5_inHole 4 (some .int), Cond.methodLink RL 97 yL_station, Cond.static yL_station, Cond.codeWith yL_station cL_station 5 (some .int) [(0, 10, 13, 13)], Cond.methodLink RL 42 yX4_station, Cond.instanceMethod yX4_station, Cond.selects RX4 yX4_station yX4_station, Cond.code yX4_station cX4_station 3 (some .int), Cond.methodLink RX4 102 yX2_lettersInBag, Cond.instanceMethod yX2_lettersInBag, Cond.selects RX2 yX2_lettersInBag yX2_lettersInBag, Cond.code yX2_lettersInBag cX2_lettersInBag 4 (some .int), Cond.methodLink RX2 45 yX2_isInBag]
def wsL_law0_r13 : List Cond := [Cond.instanceMethod yX2_isInBag, Cond.selects RX2 yX2_isInBag yX2_isInBag, Cond.code yX2_isInBag cX2_isInBag 3 (some .boolean), Cond.methodLink RL 99 yX6_station, Cond.instanceMethod yX6_station, Cond.selects RX6 yX6_station yX6_station, Cond.code yX6_station cX6_station 3 (some .int), Cond.methodLink RX6 116 yX6_stationTold, Cond.instanceMethod yX6_stationTold, Cond.selects RX6 yX6_stationTold yX6_stationTold, Cond.code yX6_stationTold cX6_stationTold 5 (some .int), Cond.methodLink RL 100 yL_count, Cond.static yL_count, Cond.codeWith yL_count cL_count 4 (some .int) [(0, 9, 12, 13)], Cond.methodLink RL 45 yX4_count, Cond.instanceMethod yX4_count, Cond.selects RX4 yX4_count yX4_count, Cond.code yX4_count cX4_count 2 (some .int), Cond.fieldLink RX4 109 "NightSorters$Mail" "inPlace" "[I", Cond.methodLink RX4 106 yX1_nextFrom, Cond.instanceMethod yX1_nextFrom, Cond.selects RX1 yX1_nextFrom yX1_nextFrom, Cond.code yX1_nextFrom cX1_nextFrom 3 (some .int), Cond.methodLink RL 102 yX6_count]
def wsL_law0_r14 : List Cond := [Cond.instanceMethod yX6_count, Cond.selects RX6 yX6_count yX6_count, Cond.code yX6_count cX6_count 2 (some .int), Cond.methodLink RX6 122 yX6_counted, Cond.instanceMethod yX6_counted, Cond.selects RX6 yX6_counted yX6_counted, Cond.code yX6_counted cX6_counted 3 (some .int), Cond.methodLink RX6 119 yX5_are, Cond.instanceMethod yX5_are, Cond.selects RX5 yX5_are yX5_are, Cond.code yX5_are cX5_are 4 (some .int), Cond.methodLink RL 103 yL_pass, Cond.static yL_pass, Cond.codeWith yL_pass cL_pass 4 (some .int) [(0, 9, 12, 15)], Cond.methodLink RL 48 yX4_pass, Cond.instanceMethod yX4_pass, Cond.selects RX4 yX4_pass yX4_pass, Cond.code yX4_pass cX4_pass 3 (some .int), Cond.methodLink RX4 112 yX3_run, Cond.instanceMethod yX3_run, Cond.selects RX3 yX3_run yX3_run, Cond.code yX3_run cX3_run 3 none, Cond.methodLink RX3 40 yX3_runMinute, Cond.instanceMethod yX3_runMinute]
def wsL_law0_r15 : List Cond := [Cond.selects RX3 yX3_runMinute yX3_runMinute, Cond.code yX3_runMinute cX3_runMinute 3 none, Cond.fieldLink RX3 43 "NightSorters$Crew" "size" "I", Cond.fieldLink RX3 46 "NightSorters$Crew" "held" "[I", Cond.fieldLink RX3 66 "NightSorters$Line" "jolts" "[I", Cond.methodLink RX3 50 yX3_takeLetter, Cond.instanceMethod yX3_takeLetter, Cond.selects RX3 yX3_takeLetter yX3_takeLetter, Cond.code yX3_takeLetter cX3_takeLetter 3 none, Cond.fieldLink RX3 72 "NightSorters$Crew" "towns" "[I", Cond.methodLink RX3 75 yX2_firstOnTable, Cond.instanceMethod yX2_firstOnTable, Cond.selects RX2 yX2_firstOnTable yX2_firstOnTable, Cond.code yX2_firstOnTable cX2_firstOnTable 3 (some .int), Cond.static yX4_hasTown, Cond.code yX4_hasTown cX4_hasTown 2 (some .boolean), Cond.methodLink RX3 78 yX2_moveToHands, Cond.instanceMethod yX2_moveToHands, Cond.selects RX2 yX2_moveToHands yX2_moveToHands, Cond.code yX2_moveToHands cX2_moveToHands 3 none, Cond.methodLink RX2 37 yX2_move, Cond.instanceMethod yX2_move, Cond.selects RX2 yX2_move yX2_move, Cond.code yX2_move cX2_move 4 none]
def wsL_law0_r16 : List Cond := [Cond.methodLink RX3 82 yX0_takeUp, Cond.instanceMethod yX0_takeUp, Cond.selects RX0 yX0_takeUp yX0_takeUp, Cond.code yX0_takeUp cX0_takeUp 3 none, Cond.methodLink RX0 37 yX0_minutesNeeded, Cond.instanceMethod yX0_minutesNeeded, Cond.selects RX0 yX0_minutesNeeded yX0_minutesNeeded, Cond.code yX0_minutesNeeded cX0_minutesNeeded 3 (some .int), Cond.methodLink RX3 54 yX3_workOn, Cond.instanceMethod yX3_workOn, Cond.selects RX3 yX3_workOn yX3_workOn, Cond.code yX3_workOn cX3_workOn 2 none, Cond.fieldLink RX3 85 "NightSorters$Crew" "minutesLeft" "[I", Cond.methodLink RX3 88 yX3_putLetter, Cond.instanceMethod yX3_putLetter, Cond.selects RX3 yX3_putLetter yX3_putLetter, Cond.code yX3_putLetter cX3_putLetter 3 none, Cond.fieldLink RX3 91 "NightSorters$Mail" "inHole" "[I", Cond.fieldLink RX3 94 "NightSorters$Mail" "town" "[I", Cond.fieldLink RX3 100 "NightSorters$Crew" "sorted" "[I", Cond.fieldLink RX3 103 "NightSorters$Crew" "tired" "[I", Cond.methodLink RX3 97 yX2_move, Cond.methodLink RX3 106 yX0_freeHands, Cond.instanceMethod yX0_freeHands]
def wsL_law0_r17 : List Cond := [Cond.selects RX0 yX0_freeHands yX0_freeHands, Cond.code yX0_freeHands cX0_freeHands 2 none, Cond.methodLink RX3 57 yX1_passedIn, Cond.instanceMethod yX1_passedIn, Cond.selects RX1 yX1_passedIn yX1_passedIn, Cond.code yX1_passedIn cX1_passedIn 3 (some .int), Cond.methodLink RX3 63 yX3_serve, Cond.instanceMethod yX3_serve, Cond.selects RX3 yX3_serve yX3_serve, Cond.code yX3_serve cX3_serve 3 none, Cond.fieldLink RX3 109 "NightSorters$Mail" "size" "I", Cond.methodLink RX3 110 yX2_isInBag, Cond.methodLink RX3 114 yX3_hookIn, Cond.instanceMethod yX3_hookIn, Cond.selects RX3 yX3_hookIn yX3_hookIn, Cond.code yX3_hookIn cX3_hookIn 3 none, Cond.static yX4_stationOf, Cond.code yX4_stationOf cX4_stationOf 1 (some .int), Cond.methodLink RX3 123 yX2_end, Cond.instanceMethod yX2_end, Cond.selects RX2 yX2_end yX2_end, Cond.code yX2_end cX2_end 4 none, Cond.methodLink RX3 120 yX3_hookOut, Cond.instanceMethod yX3_hookOut]
def wsL_law0_r18 : List Cond := [Cond.selects RX3 yX3_hookOut yX3_hookOut, Cond.code yX3_hookOut cX3_hookOut 4 none, Cond.fieldLink RX3 127 "NightSorters$Mail" "place" "[I", Cond.fieldLink RX3 130 "NightSorters$Mail" "holder" "[I", Cond.methodLink RX3 69 yX3_shake, Cond.instanceMethod yX3_shake, Cond.selects RX3 yX3_shake yX3_shake, Cond.code yX3_shake cX3_shake 2 none, Cond.methodLink RX3 133 yX0_spillTea, Cond.instanceMethod yX0_spillTea, Cond.selects RX0 yX0_spillTea yX0_spillTea, Cond.code yX0_spillTea cX0_spillTea 2 none, Cond.methodLink RX3 136 yX2_fullestHole, Cond.instanceMethod yX2_fullestHole, Cond.selects RX2 yX2_fullestHole yX2_fullestHole, Cond.code yX2_fullestHole cX2_fullestHole 3 (some .int), Cond.methodLink RX3 140 yX2_spillHole, Cond.instanceMethod yX2_spillHole, Cond.selects RX2 yX2_spillHole yX2_spillHole, Cond.code yX2_spillHole cX2_spillHole 3 none, Cond.methodLink RX3 143 yX0_tireAll, Cond.instanceMethod yX0_tireAll, Cond.selects RX0 yX0_tireAll yX0_tireAll, Cond.code yX0_tireAll cX0_tireAll 3 none]
def wsL_law0_r19 : List Cond := [Cond.methodLink RL 105 yX6_pass, Cond.instanceMethod yX6_pass, Cond.selects RX6 yX6_pass yX6_pass, Cond.code yX6_pass cX6_pass 2 (some .int), Cond.methodLink RX6 125 yX5_pass_, Cond.instanceMethod yX5_pass_, Cond.selects RX5 yX5_pass_ yX5_pass_, Cond.code yX5_pass_ cX5_pass_ 4 (some .int), Cond.methodLink RX5 114 yX5_pass, Cond.instanceMethod yX5_pass, Cond.selects RX5 yX5_pass yX5_pass, Cond.code yX5_pass cX5_pass 3 (some .int), Cond.fieldLink RX5 49 "NightSortersModel$State" "minute" "I", Cond.methodLink RX5 96 yX5_work, Cond.instanceMethod yX5_work, Cond.selects RX5 yX5_work yX5_work, Cond.code yX5_work cX5_work 3 none, Cond.methodLink RX5 76 yX5_take, Cond.instanceMethod yX5_take, Cond.selects RX5 yX5_take yX5_take, Cond.code yX5_take cX5_take 3 none, Cond.methodLink RX5 70 Lib.Math.max.name, Cond.static Lib.Math.max.name, Cond.initialized "java/lang/Math"]
def wsL_law0_r20 : List Cond := [Cond.code Lib.Math.max.name Lib.Math.max.code 2 (some .int), Cond.methodLink RX5 63 yX5_firstFor, Cond.instanceMethod yX5_firstFor, Cond.selects RX5 yX5_firstFor yX5_firstFor, Cond.code yX5_firstFor cX5_firstFor 3 (some .int), Cond.methodLink RX5 80 yX5_inHole, Cond.methodLink RX5 83 yX5_let, Cond.instanceMethod yX5_let, Cond.selects RX5 yX5_let yX5_let, Cond.code yX5_let cX5_let 4 none, Cond.methodLink RX5 99 yX5_are, Cond.methodLink RX5 105 yX5_passStation, Cond.instanceMethod yX5_passStation, Cond.selects RX5 yX5_passStation yX5_passStation, Cond.code yX5_passStation cX5_passStation 4 none, Cond.methodLink RX5 87 yX5_end, Cond.instanceMethod yX5_end, Cond.selects RX5 yX5_end yX5_end, Cond.code yX5_end cX5_end 3 none, Cond.methodLink RX5 111 yX5_shake, Cond.instanceMethod yX5_shake, Cond.selects RX5 yX5_shake yX5_shake, Cond.code yX5_shake cX5_shake 4 none, Cond.methodLink RL 106 yL_arrives]
def wsL_law0_r21 : List Cond := [Cond.static yL_arrives, Cond.codeWith yL_arrives cL_arrives 4 (some .int) [(0, 9, 12, 13)], Cond.methodLink RL 51 yX4_arrives, Cond.instanceMethod yX4_arrives, Cond.selects RX4 yX4_arrives yX4_arrives, Cond.code yX4_arrives cX4_arrives 4 (some .int), Cond.fieldLink RX4 120 "NightSorters$Mail" "place" "[I", Cond.methodLink RX4 116 yX3_copyFrom, Cond.instanceMethod yX3_copyFrom, Cond.selects RX3 yX3_copyFrom yX3_copyFrom, Cond.code yX3_copyFrom cX3_copyFrom 2 none, Cond.methodLink RX3 33 yX2_copyFrom, Cond.instanceMethod yX2_copyFrom, Cond.selects RX2 yX2_copyFrom yX2_copyFrom, Cond.code yX2_copyFrom cX2_copyFrom 2 none, Cond.methodLink RX2 48 arraycopyName, Cond.native arraycopyName, Cond.static arraycopyName, Cond.initialized "java/lang/System", Cond.methodLink RX3 37 yX0_copyFrom, Cond.instanceMethod yX0_copyFrom, Cond.selects RX0 yX0_copyFrom yX0_copyFrom, Cond.code yX0_copyFrom cX0_copyFrom 2 none, Cond.methodLink RX0 41 arraycopyName]
def wsL_law0_r22 : List Cond := [Cond.methodLink RX4 123 yX3_runMinute, Cond.methodLink RL 108 yX6_arrives, Cond.instanceMethod yX6_arrives, Cond.selects RX6 yX6_arrives yX6_arrives, Cond.code yX6_arrives cX6_arrives 3 (some .int), Cond.methodLink RX6 128 yX5_become, Cond.instanceMethod yX5_become, Cond.selects RX5 yX5_become yX5_become, Cond.code yX5_become cX5_become 2 none, Cond.methodLink RX5 53 yX5_copy, Cond.instanceMethod yX5_copy, Cond.selects RX5 yX5_copy yX5_copy, Cond.code yX5_copy cX5_copy 3 none, Cond.methodLink RX5 43 arraycopyName, Cond.methodLink RX6 132 yX5_pass, Cond.methodLink RL 109 yL_foresee, Cond.static yL_foresee, Cond.codeWith yL_foresee cL_foresee 5 (some .int) [(0, 10, 13, 15), (0, 10, 17, 13)], Cond.methodLink RL 54 yX4_foresee, Cond.instanceMethod yX4_foresee, Cond.selects RX4 yX4_foresee yX4_foresee, Cond.code yX4_foresee cX4_foresee 3 (some .int), Cond.methodLink RL 111 yX6_foresee, Cond.instanceMethod yX6_foresee]
def wsL_law0_r23 : List Cond := [Cond.selects RX6 yX6_foresee yX6_foresee, Cond.code yX6_foresee cX6_foresee 3 (some .int), Cond.methodLink RL 112 yL_advise, Cond.static yL_advise, Cond.codeWith yL_advise cL_advise 5 (some .int) [(0, 10, 13, 13), (0, 10, 17, 15)], Cond.methodLink RL 57 yX4_advise, Cond.instanceMethod yX4_advise, Cond.selects RX4 yX4_advise yX4_advise, Cond.code yX4_advise cX4_advise 8 (some .int), Cond.methodLink RX4 131 yX4_deliveredIfAssigned, Cond.instanceMethod yX4_deliveredIfAssigned, Cond.selects RX4 yX4_deliveredIfAssigned yX4_deliveredIfAssigned, Cond.code yX4_deliveredIfAssigned cX4_deliveredIfAssigned 4 (some .int), Cond.methodLink RX4 135 yX4_hasTown, Cond.methodLink RL 114 yX6_advise, Cond.instanceMethod yX6_advise, Cond.selects RX6 yX6_advise yX6_advise, Cond.code yX6_advise cX6_advise 7 (some .int), Cond.methodLink RL 115 yX4_share, Cond.instanceMethod yX4_share, Cond.selects RX4 yX4_share yX4_share, Cond.code yX4_share cX4_share 3 (some .double), Cond.methodLink RL 119 yX6_share, Cond.instanceMethod yX6_share]
def wsL_law0_r24 : List Cond := [Cond.selects RX6 yX6_share yX6_share, Cond.code yX6_share cX6_share 2 (some .double), Cond.methodLink RL 120 yX4_digest, Cond.instanceMethod yX4_digest, Cond.selects RX4 yX4_digest yX4_digest, Cond.code yX4_digest cX4_digest 5 (some .long), Cond.constantLong RX4 138 (1049), Cond.constantLong RX4 140 (31), Cond.methodLink RX4 142 yX4_count, Cond.methodLink RX4 145 yX4_station, Cond.methodLink RX4 148 yX4_hole, Cond.methodLink RX4 151 yX4_sorter, Cond.methodLink RX4 154 yX4_letter, Cond.methodLink RL 124 yX6_digest, Cond.instanceMethod yX6_digest, Cond.selects RX6 yX6_digest yX6_digest, Cond.code yX6_digest cX6_digest 5 (some .long), Cond.constantLong RX6 135 (1049), Cond.constantLong RX6 137 (31)]
def wsL_law0 : List Cond := (wsL_law0_r1 ++ (wsL_law0_r2 ++ (wsL_law0_r3 ++ (wsL_law0_r4 ++ (wsL_law0_r5 ++ (wsL_law0_r6 ++ (wsL_law0_r7 ++ (wsL_law0_r8 ++ (wsL_law0_r9 ++ (wsL_law0_r10 ++ (wsL_law0_r11 ++ (wsL_law0_r12 ++ (wsL_law0_r13 ++ (wsL_law0_r14 ++ (wsL_law0_r15 ++ (wsL_law0_r16 ++ (wsL_law0_r17 ++ (wsL_law0_r18 ++ (wsL_law0_r19 ++ (wsL_law0_r20 ++ (wsL_law0_r21 ++ (wsL_law0_r22 ++ (wsL_law0_r23 ++ wsL_law0_r24))))))))))))))))))))))) ++ wsX40 ++ wsX60 ++ wsX10 ++ wsX30 ++ wsX20 ++ wsX00 ++ wsX50 ++ ([] : List Cond)
def wsL_law : List Cond := wsL_law0 ++ (vx_atS RX4 52 "java/lang/IllegalStateException" ["java/lang/RuntimeException", "java/lang/Exception"]).filter goodWord ++ (vx_atS RX4 130 "java/lang/IndexOutOfBoundsException" ["java/lang/RuntimeException", "java/lang/Exception"]).filter goodWord ++ (vx_atS RX4 163 "java/lang/IllegalArgumentException" ["java/lang/RuntimeException", "java/lang/Exception"]).filter goodWord
abbrev vwCl : List vw_C := [(RX0, TX0, 8), (RX1, TX1, 2), (RX2, TX2, 8), (RX3, TX3, 4), (RX4, TX4, 2), (RX5, TX5, 11), (RX6, TX6, 10)]
end
section
/-! the state as one record of rows (field, place), contracts whose answer and world are functions of it, and short rows -/
abbrev Rc : Type := Nat → Nat → Int32
abbrev iv (x : Int32) : Nat := x.toNatClampNeg
def put (σ : Rc) (f i : Nat) (v : Int32) : Rc := fun g => if g = f then upd (σ g) i v else σ g
theorem put_at (σ : Rc) (f i : Nat) (v : Int32) (g j : Nat) : put σ f i v g j = if g = f ∧ j = i then v else σ g j := by
  unfold put
  by_cases h : g = f
  · by_cases h2 : j = i
    · simp [h, h2, upd]
    · simp [h, h2, upd]
  · simp [h]
theorem put_ne {σ : Rc} {f i : Nat} {v : Int32} {g j : Nat} (h : g ≠ f) : put σ f i v g j = σ g j := by
  rw [put_at, if_neg (fun q => h q.1)]
theorem put_rw {σ : Rc} {f i : Nat} {v : Int32} {g : Nat} (h : g ≠ f) : put σ f i v g = σ g := by
  unfold put
  rw [if_neg h]
theorem put_eq {σ : Rc} {f i : Nat} {v : Int32} : put σ f i v f i = v := by
  rw [put_at, if_pos ⟨rfl, rfl⟩]
theorem vi_eq {x : Int32} {n : Nat} (h : vp_in x n) (hn : n ≤ 2147483647) : x = nI (iv x) := by
  obtain ⟨j, hj, rfl⟩ := vp_in_of h (by omega)
  rw [iv, nI_clamp (by omega)]
theorem vi_lt {x : Int32} {n : Nat} (h : vp_in x n) : iv x < n := Nat.lt_of_not_le (fun q => h (Or.inr q))
theorem vi_of {j n : Nat} (h : j < n) (hn : n ≤ 2147483647) : vp_in (nI j) n := vp_in_nI h (by omega)
theorem iv_nI {j : Nat} (h : j ≤ 2147483647) : iv (nI j) = j := nI_clamp (by omega)
/-- the tables' words on links among nest mates -/
def nestQ (w : Cond) : Bool := match w with
  | .fieldLinkNest _ _ _ _ _ _ => true
  | .methodLinkNest _ _ _ _ => true
  | _ => false
def NWs : List Cond := tables_1.filter nestQ
def NW (U : State) : Prop := ∀ w ∈ NWs, va_Nw w U
theorem NW.warm {s U : State} (hW : s.WarmedH U.vm) (h : NW s) : NW U := by
  intro w hw
  have h1 := h w hw
  have h2 : nestQ w = true := (List.mem_filter.mp hw).2
  cases w <;> first | exact va_Nw.warmF hW h1 | exact va_Nw.warmM hW h1 | exact absurd h2 (by simp [nestQ])
theorem NW.same {u U : State} (hv : u.vm = U.vm) (h : NW u) : NW U := by
  intro w hw
  have h1 := h w hw
  have h2 : nestQ w = true := (List.mem_filter.mp hw).2
  cases w <;> first | (refine va_Nw.same ?_ hv h1; rfl) | exact absurd h2 (by simp [nestQ])
/-- a contract's start over the world W0, and its end over W1 -/
def MP (D : va_G) (cI : ClassId) (W0 : va_W) (sz : Nat) : State → Prop := fun U => U.heap.size = sz ∧ va_P D vwCl W0 U.heap ∧ (va_K D vwCl [(cI, .int)] U ∧ NW U) ∧ va_D (fun _ => True) W0
def PO (D : va_G) (W1 : va_W) (A : Nat → Prop) : State → Prop := fun t => va_P D vwCl W1 t.heap ∧ va_D A W1
def CI (l : Launch) (y : MethodName) (ws : List Cond) (rm : Room) (D : va_G) (cI : ClassId) (av : List Value) (W0 : va_W) (r : Int32) (W1 : va_W) : Prop :=
  ∀ sz : Nat, Met l y ws rm (va_Pc av (MP D cI W0 sz)) (va_Qi (fun (r' : Int32) (_ : Unit) => r' = r) (fun _ => PO D W1 (va_A W0 sz)) (va_A W0 sz)) rm.cells rm.slots (va_A W0 sz)
def CL (l : Launch) (y : MethodName) (ws : List Cond) (rm : Room) (D : va_G) (cI : ClassId) (av : List Value) (W0 : va_W) (r : Int64) (W1 : va_W) : Prop :=
  ∀ sz : Nat, Met l y ws rm (va_Pc av (MP D cI W0 sz)) (va_Ql (fun (r' : Int64) (_ : Unit) => r' = r) (fun _ => PO D W1 (va_A W0 sz)) (va_A W0 sz)) rm.cells rm.slots (va_A W0 sz)
def CV (l : Launch) (y : MethodName) (ws : List Cond) (rm : Room) (D : va_G) (cI : ClassId) (av : List Value) (W0 : va_W) (W1 : va_W) : Prop :=
  ∀ sz : Nat, Met l y ws rm (va_Pc av (MP D cI W0 sz)) (va_Qv (fun (_ : Unit) => True) (fun _ => PO D W1 (va_A W0 sz)) (va_A W0 sz)) rm.cells rm.slots (va_A W0 sz)
theorem MP.blind {D : va_G} {cI : ClassId} {W0 : va_W} {sz : Nat} {av : List Value} : FrameBlind (va_Pc av (MP D cI W0 sz)) := by
  intro a U g mk q
  obtain ⟨q0, q1, qP, ⟨qK, qN⟩, qD⟩ := q
  exact ⟨q0, q1, qP, ⟨va_K.moved (u := U) (U := U.calling g mk a) (Vm.Alike.refl U.vm) qK, NW.same (u := U) (U := U.calling g mk a) rfl qN⟩, qD⟩
section XROWS
variable {p : Program} {l : Launch} {e : Env} {R : Room} {s : State} {m : MethodId} {args : Array Value} {below : List Frame} {meth : Method} {c : Code} {H : Heap} {locs : List Loc} {cells slots : Nat} {Q : State → Prop}
variable {cc : ByteArray} {pc : Nat} {ls : Array Slot} {rest : List Value} {D : va_G} {cl : List vw_C} {A : Nat → Prop} {a : Nat} {tys : List (ClassId × FieldType)} {ws : va_W} {H0 : Heap}
theorem xald (hexec : p.tables.exec = Jvm.exec) (hb : c.code = cc) (hK : va_K D cl tys s) (hP : va_P D cl ws H) (q0 : Nat) {cA : ClassId} {n : Nat} {f : Nat → Int32} (ha : ws[q0]? = some (a, .inl (cA, n, .inl f))) (ht : tys[0]? = some (cA, .int)) {i : Int32} (j : Nat) (hi : i = nI j) (hj : j < n) (hn : n ≤ 2147483647) (hdg : decode cc pc = .ok (.iaload, 1))
    (kk : W p l e R s m args below meth c H locs cells slots Q (F0 m (pc + 1) ls (.int (f j) :: rest))) : W p l e R s m args below meth c H locs cells slots Q (F0 m pc ls (.int i :: .ref a :: rest)) := by
  refine va_iald hexec hb hK hP q0 0 ha ht (by rw [hi]; exact vi_of hj hn) hdg ?_
  have e1 : i.toNatClampNeg = j := by rw [hi]; exact iv_nI (by omega)
  rw [e1]
  exact kk
theorem xast (hexec : p.tables.exec = Jvm.exec) (hb : c.code = cc) (hK : va_K D cl tys s) (hP : va_P D cl ws H) (hD : va_D A ws) (hS : va_S A H0 H locs) (q0 : Nat) {cA : ClassId} {n : Nat} {f : Nat → Int32} (ha : ws[q0]? = some (a, .inl (cA, n, .inl f))) (ht : tys[0]? = some (cA, .int)) {i : Int32} {x : Int32} (j : Nat) (hi : i = nI j) (hj : j < n) (hn : n ≤ 2147483647) (w1 : va_W) (hw : ws.set q0 (a, .inl (cA, n, .inl (upd f j x))) = w1) (hdg : decode cc pc = .ok (.iastore, 1))
    (kk : ∀ (H1 : Heap) (locs1 : List Loc), va_P D cl w1 H1 → va_D A w1 → va_S A H0 H1 locs1 → W p l e R s m args below meth c H1 locs1 cells slots Q (F0 m (pc + 1) ls rest)) : W p l e R s m args below meth c H locs cells slots Q (F0 m pc ls (.int x :: .int i :: .ref a :: rest)) := by
  have e1 : i.toNatClampNeg = j := by rw [hi]; exact iv_nI (by omega)
  refine va_iast hexec hb hK hP hD hS q0 0 ha ht (by rw [hi]; exact vi_of hj hn) hdg (fun H1 locs1 h1 h2 h3 => kk H1 locs1 ?_ ?_ h3)
  · rw [e1, hw] at h1; exact h1
  · rw [e1, hw] at h2; exact h2
end XROWS
/-- a call at hand: any contract of y may be used here -/
def Inv (p : Program) (l : Launch) (e : Env) (R : Room) (s : State) (m : MethodId) (args : Array Value) (below : List Frame) (meth : Method) (c : Code) (H : Heap) (locs : List Loc) (cells slots : Nat) (y : MethodName) (ws : List Cond) (rm : Room) (As : List Value) (g : JFrame) (rest : List Value) : Prop :=
  ∀ (Pc : Array Value → State → Prop) (Qc : Array Value → State → Outcome → State → Prop) (free : Addr → Prop), Met l y ws rm Pc Qc rm.cells rm.slots free → FrameBlind Pc → (∀ U : State, U.heap = H → s.WarmedH U.vm → Pc As.toArray U) → cells + rm.cells ≤ R.cells ∧ slots + rm.slots ≤ R.slots →
    va_Run p l e R s m args below meth c H locs cells slots rm.cells rm.slots g rest (Qc As.toArray) free
section XINV
variable {p : Program} {l : Launch} {e : Env} {R : Room} {s : State} {m : MethodId} {args : Array Value} {below : List Frame} {meth : Method} {c : Code} {H : Heap} {locs : List Loc} {cells slots : Nat} {Q : State → Prop}
variable {y : MethodName} {bytes cc : ByteArray} {maxL nL n index pc : Nat} {ret : Option FieldType} {ws : List Cond} {rm : Room} {Ts : List Cond} {own C host : String} {b : Addr} {As rest st0 : List Value} {ls : Array Slot}
theorem invV (S : CallFix p m c cc nL s args Ts own) (cw : CallW R s args own C index y bytes maxL ret ws rm rm.cells rm.slots n) (hrec : ∃ cellB : Cell, H[b]? = some cellB ∧ cellB.vm.isStatics = false ∧ s.vm.findClass C = some cellB.cls)
    (hst : st0 = As.reverse ++ .ref b :: rest) (hn : As.length = n) (hsize : ls.size = nL) (hW : (rest.map fun v => v.category).sum ≤ 8) (hdg : decode cc pc = .ok (.invokevirtual index, 3)) : Inv p l e R s m args below meth c H locs cells slots y ws rm (.ref b :: As) (F0 m pc ls st0) rest :=
  fun Pc Qc free hM hbl hp hf => va_runV S hM cw ⟨hbl, hrec, hp⟩ rfl hn hsize hst (lv_room (pc := pc) (ls := ls) (rest := st0) hW) hdg hf
theorem invVN (S : CallFix p m c cc nL s args Ts own) (cw : va_CN R s args own index y host bytes maxL ret ws rm rm.cells rm.slots n ∧ (Cond.instanceMethod y).before args s = true ∧ (Cond.selects C y y).before args s = true) (hrec : ∃ cellB : Cell, H[b]? = some cellB ∧ cellB.vm.isStatics = false ∧ s.vm.findClass C = some cellB.cls)
    (hst : st0 = As.reverse ++ .ref b :: rest) (hn : As.length = n) (hsize : ls.size = nL) (hW : (rest.map fun v => v.category).sum ≤ 8) (hdg : decode cc pc = .ok (.invokevirtual index, 3)) : Inv p l e R s m args below meth c H locs cells slots y ws rm (.ref b :: As) (F0 m pc ls st0) rest :=
  fun Pc Qc free hM hbl hp hf => va_runVN S hM cw ⟨hbl, hrec, hp⟩ rfl hn hsize hst (lv_room (pc := pc) (ls := ls) (rest := st0) hW) hdg hf
theorem invS (S : CallFix p m c cc nL s args Ts own) (cw : CallB R s args own index y bytes maxL ret ws rm rm.cells rm.slots n ∧ (Cond.static y).before args s = true)
    (hst : st0 = As.reverse ++ rest) (hn : As.length = n) (hsize : ls.size = nL) (hW : (rest.map fun v => v.category).sum ≤ 8) (hdg : decode cc pc = .ok (.invokestatic index, 3)) : Inv p l e R s m args below meth c H locs cells slots y ws rm As (F0 m pc ls st0) rest :=
  fun Pc Qc free hM hbl hp hf => va_runS S hM cw ⟨hbl, hp⟩ rfl hn hsize hst (lv_room (pc := pc) (ls := ls) (rest := st0) hW) hdg hf
theorem invSN (S : CallFix p m c cc nL s args Ts own) (cw : va_CN R s args own index y host bytes maxL ret ws rm rm.cells rm.slots n ∧ (Cond.static y).before args s = true ∧ True)
    (hst : st0 = As.reverse ++ rest) (hn : As.length = n) (hsize : ls.size = nL) (hW : (rest.map fun v => v.category).sum ≤ 8) (hdg : decode cc pc = .ok (.invokestatic index, 3)) : Inv p l e R s m args below meth c H locs cells slots y ws rm As (F0 m pc ls st0) rest :=
  fun Pc Qc free hM hbl hp hf => va_runSN S hM cw ⟨hbl, hp⟩ rfl hn hsize hst (lv_room (pc := pc) (ls := ls) (rest := st0) hW) hdg hf
end XINV
section XCALL
variable {p : Program} {l : Launch} {e : Env} {R : Room} {s : State} {m : MethodId} {args : Array Value} {below : List Frame} {meth : Method} {c : Code} {H : Heap} {locs : List Loc} {cells slots : Nat} {Q : State → Prop}
variable {y : MethodName} {wsY : List Cond} {rm : Room} {As rest st0 : List Value} {ls : Array Slot} {pc : Nat} {D : va_G} {cI : ClassId} {A : Nat → Prop} {W0 Wc Wr W1 W2 : va_W} {H0 : Heap}
theorem xback (hK : va_K D vwCl [(cI, .int)] s) (hN : NW s) (hA : ∀ q, H0.size ≤ q → A q) (hP : va_P D vwCl W0 H) (hD : va_D A W0) (hS : va_S A H0 H locs) (isC : List Nat) (hC : isC.map (fun i => W0[i]?) = Wc.map some) (hnC : va_nd isC = true) :
    (∀ U : State, U.heap = H → s.WarmedH U.vm → va_Pc As (MP D cI Wc H.size) As.toArray U) := by
  intro U hU hW
  have hPc : va_P D vwCl Wc H := hP.sub isC (by
    have := congrArg (List.filterMap id) hC
    simpa [List.filterMap_map, Function.comp_def] using this)
  exact ⟨rfl, by rw [hU], by rw [hU]; exact hPc, ⟨va_K.moved hW.alike hK, NW.warm hW hN⟩, (hD.sub isC hnC hC).weaken (fun _ _ _ _ => trivial)⟩
theorem xafter (hA : ∀ q, H0.size ≤ q → A q) (hP : va_P D vwCl W0 H) (hD : va_D A W0) (hS : va_S A H0 H locs) (isC isR isB : List Nat) (hC : isC.map (fun i => W0[i]?) = Wc.map some) (hR : isR.map (fun i => W0[i]?) = Wr.map some) (hB : isB.map (fun i => (Wr ++ W1)[i]?) = W2.map some) (hnR : va_nd isR = true) (hnB : va_nd isB = true) (hdis : ∀ i ∈ isR, i ∉ isC)
    {t : State} {H1 : Heap} (ht : t.heap = H1) (hB1 : PO D W1 (va_A Wc H.size) t) (hk1 : ∀ q : Nat, q < H.size → ¬ va_A Wc H.size q → H1[q]? = H[q]?) : va_P D vwCl W2 H1 ∧ va_D A W2 := by
  obtain ⟨hP1, hD1⟩ := hB1
  rw [ht] at hP1
  have hF := va_free hD hS hA isC hC
  obtain ⟨h1, h2⟩ := va_join hP hD isC isR hC hR hnR hdis hk1 hF hP1 hD1
  refine ⟨h1.sub isB ?_, h2.sub isB hnB hB⟩
  have := congrArg (List.filterMap id) hB
  simpa [List.filterMap_map, Function.comp_def] using this
theorem xcalli {r : Int32} (hI : Inv p l e R s m args below meth c H locs cells slots y wsY rm As (F0 m pc ls st0) rest) (hM : CI l y wsY rm D cI As Wc r W1) (hK : va_K D vwCl [(cI, .int)] s) (hN : NW s) (hA : ∀ q, H0.size ≤ q → A q) (hP : va_P D vwCl W0 H) (hD : va_D A W0) (hS : va_S A H0 H locs)
    (isC isR isB : List Nat) (hC : isC.map (fun i => W0[i]?) = Wc.map some) (hR : isR.map (fun i => W0[i]?) = Wr.map some) (hB : isB.map (fun i => (Wr ++ W1)[i]?) = W2.map some) (hnn : va_nd isC = true ∧ va_nd isR = true ∧ va_nd isB = true ∧ isR.all (fun i => !isC.contains i) = true) (hf : cells + rm.cells ≤ R.cells ∧ slots + rm.slots ≤ R.slots)
    (kk : ∀ (H1 : Heap) (locs1 : List Loc), va_P D vwCl W2 H1 → va_D A W2 → va_S A H0 H1 locs1 → W p l e R s m args below meth c H1 locs1 (cells + rm.cells) (slots + rm.slots) Q (F0 m (pc + 3) ls (.int r :: rest))) : W p l e R s m args below meth c H locs cells slots Q (F0 m pc ls st0) := by
  have hdis : ∀ i ∈ isR, i ∉ isC := fun i hi h => by
    have := List.all_eq_true.mp hnn.2.2.2 i hi
    simp [h] at this
  have hF := va_free hD hS hA isC hC
  refine va_calli (hI _ _ _ (hM H.size) MP.blind (xback hK hN hA hP hD hS isC hC hnn.1) hf) hS (fun q _ h => hF q h) hF (fun r' u t H1 locs1 ht hvm hw hB1 hz1 hk1 hS1 => ?_)
  obtain ⟨h1, h2⟩ := xafter hA hP hD hS isC isR isB hC hR hB hnn.2.1 hnn.2.2.1 hdis ht hB1 hk1
  rw [hw]
  exact kk H1 locs1 h1 h2 hS1
theorem xcalll {r : Int64} (hI : Inv p l e R s m args below meth c H locs cells slots y wsY rm As (F0 m pc ls st0) rest) (hM : CL l y wsY rm D cI As Wc r W1) (hK : va_K D vwCl [(cI, .int)] s) (hN : NW s) (hA : ∀ q, H0.size ≤ q → A q) (hP : va_P D vwCl W0 H) (hD : va_D A W0) (hS : va_S A H0 H locs)
    (isC isR isB : List Nat) (hC : isC.map (fun i => W0[i]?) = Wc.map some) (hR : isR.map (fun i => W0[i]?) = Wr.map some) (hB : isB.map (fun i => (Wr ++ W1)[i]?) = W2.map some) (hnn : va_nd isC = true ∧ va_nd isR = true ∧ va_nd isB = true ∧ isR.all (fun i => !isC.contains i) = true) (hf : cells + rm.cells ≤ R.cells ∧ slots + rm.slots ≤ R.slots)
    (kk : ∀ (H1 : Heap) (locs1 : List Loc), va_P D vwCl W2 H1 → va_D A W2 → va_S A H0 H1 locs1 → W p l e R s m args below meth c H1 locs1 (cells + rm.cells) (slots + rm.slots) Q (F0 m (pc + 3) ls (.long r :: rest))) : W p l e R s m args below meth c H locs cells slots Q (F0 m pc ls st0) := by
  have hdis : ∀ i ∈ isR, i ∉ isC := fun i hi h => by
    have := List.all_eq_true.mp hnn.2.2.2 i hi
    simp [h] at this
  have hF := va_free hD hS hA isC hC
  refine va_calll (hI _ _ _ (hM H.size) MP.blind (xback hK hN hA hP hD hS isC hC hnn.1) hf) hS (fun q _ h => hF q h) hF (fun r' u t H1 locs1 ht hvm hw hB1 hz1 hk1 hS1 => ?_)
  obtain ⟨h1, h2⟩ := xafter hA hP hD hS isC isR isB hC hR hB hnn.2.1 hnn.2.2.1 hdis ht hB1 hk1
  rw [hw]
  exact kk H1 locs1 h1 h2 hS1
theorem xcallv (hI : Inv p l e R s m args below meth c H locs cells slots y wsY rm As (F0 m pc ls st0) rest) (hM : CV l y wsY rm D cI As Wc W1) (hK : va_K D vwCl [(cI, .int)] s) (hN : NW s) (hA : ∀ q, H0.size ≤ q → A q) (hP : va_P D vwCl W0 H) (hD : va_D A W0) (hS : va_S A H0 H locs)
    (isC isR isB : List Nat) (hC : isC.map (fun i => W0[i]?) = Wc.map some) (hR : isR.map (fun i => W0[i]?) = Wr.map some) (hB : isB.map (fun i => (Wr ++ W1)[i]?) = W2.map some) (hnn : va_nd isC = true ∧ va_nd isR = true ∧ va_nd isB = true ∧ isR.all (fun i => !isC.contains i) = true) (hf : cells + rm.cells ≤ R.cells ∧ slots + rm.slots ≤ R.slots)
    (kk : ∀ (H1 : Heap) (locs1 : List Loc), va_P D vwCl W2 H1 → va_D A W2 → va_S A H0 H1 locs1 → W p l e R s m args below meth c H1 locs1 (cells + rm.cells) (slots + rm.slots) Q (F0 m (pc + 3) ls rest)) : W p l e R s m args below meth c H locs cells slots Q (F0 m pc ls st0) := by
  have hdis : ∀ i ∈ isR, i ∉ isC := fun i hi h => by
    have := List.all_eq_true.mp hnn.2.2.2 i hi
    simp [h] at this
  have hF := va_free hD hS hA isC hC
  refine va_callv (hI _ _ _ (hM H.size) MP.blind (xback hK hN hA hP hD hS isC hC hnn.1) hf) hS (fun q _ h => hF q h) hF (fun u t H1 locs1 ht hvm hw hB1 hz1 hk1 hS1 => ?_)
  obtain ⟨h1, h2⟩ := xafter hA hP hD hS isC isR isB hC hR hB hnn.2.1 hnn.2.2.1 hdis ht hB1 hk1
  exact kk H1 locs1 h1 h2 hS1
end XCALL
section XMK
variable {l : Launch} {y : MethodName} {ws ws' : List Cond} {rm : Room} {D : va_G} {cI : ClassId} {av : List Value} {W0 W1 : va_W} {cc : ByteArray} {maxL : Nat}
theorem CI.mk {ret : Option FieldType} {rt : FieldType} {r : Int32} (hret : ret = some rt) (hnr : narrow rt (.int r) = .int r) (hy : plainName y.cls = true) (hw : ws = Cond.code y cc maxL ret :: ws') (hsz : (lg_sl av).length ≤ maxL)
    (body : ∀ (p : Program) (e : Env) (s : State) (m : MethodId) (args : Array Value) (below : List Frame) (meth : Method) (c : Code) (A : Nat → Prop) (Q : State → Prop) (ls : Array Slot), p.tables.exec = Jvm.exec → c.code = cc → (∀ w ∈ ws, w.before args s = true) → s.vm.findClass y.cls = some m.cls → c.maxLocals = maxL → va_K D vwCl [(cI, .int)] s → NW s → (∀ q, s.heap.size ≤ q → A q) → va_P D vwCl W0 s.heap → va_D A W0 → va_S A s.heap s.heap [] → lv_has ls maxL (lv_args 0 av) →
      (∀ (H : Heap) (locs : List Loc) (k n pc : Nat) (ls' : Array Slot) (r' : Int32) (W1' : va_W), r' = r → W1' = W1 → va_P D vwCl W1' H → va_D A W1' → va_S A s.heap H locs → k ≤ rm.cells → n ≤ rm.slots → decode cc pc = .ok (.ireturn, 1) → W p l e rm s m args below meth c H locs k n Q (F0 m pc ls' [.int r'])) →
      W p l e rm s m args below meth c s.heap [] 0 0 Q (F0 m 0 ls [])) : CI l y ws rm D cI av W0 r W1 := by
  intro sz
  refine Met.ofW (cc := cc) (maxL := maxL) (ret := ret) hy hw ?_
  intro p e s m args below meth c s₁ B hml hv
  obtain ⟨rfl, hsz0, hP, ⟨hK, hN⟩, hD0⟩ := hv
  have hr := B.returns
  have hlocks := B.notSynchronized
  have hts := atoms_spec (ws := ws) B.pre
  have hown : s.vm.findClass y.cls = some m.cls := findClass_of_methodNamed B.named
  subst hsz0
  have hA : ∀ q : Nat, s.heap.size ≤ q → va_A W0 s.heap.size q := fun q h => Or.inr h
  have hl := lv_entry av (n := maxL) hsz
  rw [lg_entry_eq]
  refine body p e s m av.toArray below meth c (va_A W0 s.heap.size) _ _ B.exec B.bytes hts hown hml hK hN hA hP (hD0.self (sz := s.heap.size)) va_S.rf hl ?_
  intro H locs k n pc ls' r' W1' e1 e2 hP1 hD1 hS1 hk hn hdg
  subst e1; subst e2
  refine W.widen hk hn ?_
  exact W.zret B.exec B.bytes (hr.trans hret) hnr (fun t ht hW => ⟨⟨r', (), rfl, rfl, by rw [ht]; exact hP1, hD1⟩, hS1.F ht⟩) hS1.2.2 hdg hlocks
theorem CV.mk (hy : plainName y.cls = true) (hw : ws = Cond.code y cc maxL none :: ws') (hsz : (lg_sl av).length ≤ maxL)
    (body : ∀ (p : Program) (e : Env) (s : State) (m : MethodId) (args : Array Value) (below : List Frame) (meth : Method) (c : Code) (A : Nat → Prop) (Q : State → Prop) (ls : Array Slot), p.tables.exec = Jvm.exec → c.code = cc → (∀ w ∈ ws, w.before args s = true) → s.vm.findClass y.cls = some m.cls → c.maxLocals = maxL → va_K D vwCl [(cI, .int)] s → NW s → (∀ q, s.heap.size ≤ q → A q) → va_P D vwCl W0 s.heap → va_D A W0 → va_S A s.heap s.heap [] → lv_has ls maxL (lv_args 0 av) →
      (∀ (H : Heap) (locs : List Loc) (k n pc : Nat) (ls' : Array Slot) (W1' : va_W), W1' = W1 → va_P D vwCl W1' H → va_D A W1' → va_S A s.heap H locs → k ≤ rm.cells → n ≤ rm.slots → decode cc pc = .ok (.return_, 1) → W p l e rm s m args below meth c H locs k n Q (F0 m pc ls' [])) →
      W p l e rm s m args below meth c s.heap [] 0 0 Q (F0 m 0 ls [])) : CV l y ws rm D cI av W0 W1 := by
  intro sz
  refine Met.ofW (cc := cc) (maxL := maxL) (ret := none) hy hw ?_
  intro p e s m args below meth c s₁ B hml hv
  obtain ⟨rfl, hsz0, hP, ⟨hK, hN⟩, hD0⟩ := hv
  have hr := B.returns
  have hlocks := B.notSynchronized
  have hts := atoms_spec (ws := ws) B.pre
  have hown : s.vm.findClass y.cls = some m.cls := findClass_of_methodNamed B.named
  subst hsz0
  have hA : ∀ q : Nat, s.heap.size ≤ q → va_A W0 s.heap.size q := fun q h => Or.inr h
  have hl := lv_entry av (n := maxL) hsz
  rw [lg_entry_eq]
  refine body p e s m av.toArray below meth c (va_A W0 s.heap.size) _ _ B.exec B.bytes hts hown hml hK hN hA hP (hD0.self (sz := s.heap.size)) va_S.rf hl ?_
  intro H locs k n pc ls' W1' e2 hP1 hD1 hS1 hk hn hdg
  subst e2
  refine W.widen hk hn ?_
  exact W.vret B.exec B.bytes hr (fun t ht hW => ⟨⟨(), rfl, trivial, by rw [ht]; exact hP1, hD1⟩, hS1.F ht⟩) hS1.2.2 hdg hlocks
theorem CL.mk {r : Int64} (hy : plainName y.cls = true) (hw : ws = Cond.code y cc maxL (some .long) :: ws') (hsz : (lg_sl av).length ≤ maxL)
    (body : ∀ (p : Program) (e : Env) (s : State) (m : MethodId) (args : Array Value) (below : List Frame) (meth : Method) (c : Code) (A : Nat → Prop) (Q : State → Prop) (ls : Array Slot), p.tables.exec = Jvm.exec → c.code = cc → (∀ w ∈ ws, w.before args s = true) → s.vm.findClass y.cls = some m.cls → c.maxLocals = maxL → va_K D vwCl [(cI, .int)] s → NW s → (∀ q, s.heap.size ≤ q → A q) → va_P D vwCl W0 s.heap → va_D A W0 → va_S A s.heap s.heap [] → lv_has ls maxL (lv_args 0 av) →
      (∀ (H : Heap) (locs : List Loc) (k n pc : Nat) (ls' : Array Slot) (r' : Int64) (W1' : va_W), r' = r → W1' = W1 → va_P D vwCl W1' H → va_D A W1' → va_S A s.heap H locs → k ≤ rm.cells → n ≤ rm.slots → decode cc pc = .ok (.lreturn, 1) → W p l e rm s m args below meth c H locs k n Q (F0 m pc ls' [.long r'])) →
      W p l e rm s m args below meth c s.heap [] 0 0 Q (F0 m 0 ls [])) : CL l y ws rm D cI av W0 r W1 := by
  intro sz
  refine Met.ofW (cc := cc) (maxL := maxL) (ret := some .long) hy hw ?_
  intro p e s m args below meth c s₁ B hml hv
  obtain ⟨rfl, hsz0, hP, ⟨hK, hN⟩, hD0⟩ := hv
  have hr := B.returns
  have hlocks := B.notSynchronized
  have hts := atoms_spec (ws := ws) B.pre
  have hown : s.vm.findClass y.cls = some m.cls := findClass_of_methodNamed B.named
  subst hsz0
  have hA : ∀ q : Nat, s.heap.size ≤ q → va_A W0 s.heap.size q := fun q h => Or.inr h
  have hl := lv_entry av (n := maxL) hsz
  rw [lg_entry_eq]
  refine body p e s m av.toArray below meth c (va_A W0 s.heap.size) _ _ B.exec B.bytes hts hown hml hK hN hA hP (hD0.self (sz := s.heap.size)) va_S.rf hl ?_
  intro H locs k n pc ls' r' W1' e1 e2 hP1 hD1 hS1 hk hn hdg
  subst e1; subst e2
  refine W.widen hk hn ?_
  exact W.lret B.exec B.bytes hr (fun t ht hW => ⟨⟨r', (), rfl, rfl, by rw [ht]; exact hP1, hD1⟩, hS1.F ht⟩) hS1.2.2 hdg hlocks
end XMK
end
