section
-- ===== PART A: goes FIRST, ahead of the names: the tables' words, and 'selects' of the private methods out of them =====
/-- a private method of a class that the tables say can be made, by its rows of tables_1 -/
def lw_okq (q : MethodName × Nat) : Prop := (q.1.cls ≠ "java/lang/invoke/MethodHandle" ∧ q.1.cls ≠ "java/lang/invoke/VarHandle") ∧ Cond.instantiable q.1.cls q.2 ∈ tables_1 ∧ Cond.privateMethod q.1 ∈ tables_1 ∧ Cond.instanceMethod q.1 ∈ tables_1
theorem lw_p0 : lw_okq (⟨"java/lang/Throwable", "fillInStackTrace", "(I)Ljava/lang/Throwable;"⟩, 6) := ⟨⟨by decide +kernel, by decide +kernel⟩, List.mem_of_getElem? (i := 137) (by decide +kernel), List.mem_of_getElem? (i := 135) (by decide +kernel), List.mem_of_getElem? (i := 136) (by decide +kernel)⟩
theorem lw_p1 : lw_okq (⟨"PileMoves", "pileOf", "(I)LPileMoves$Pile;"⟩, 4) := ⟨⟨by decide +kernel, by decide +kernel⟩, List.mem_of_getElem? (i := 15) (by decide +kernel), List.mem_of_getElem? (i := 242) (by decide +kernel), List.mem_of_getElem? (i := 243) (by decide +kernel)⟩
theorem lw_p2 : lw_okq (⟨"PileMoves$State", "find", "(LPileMoves$Pile;IZ)Z"⟩, 4) := ⟨⟨by decide +kernel, by decide +kernel⟩, List.mem_of_getElem? (i := 25) (by decide +kernel), List.mem_of_getElem? (i := 284) (by decide +kernel), List.mem_of_getElem? (i := 285) (by decide +kernel)⟩
theorem lw_p3 : lw_okq (⟨"PileMoves", "checkGroupNotEmpty", "()V"⟩, 4) := ⟨⟨by decide +kernel, by decide +kernel⟩, List.mem_of_getElem? (i := 15) (by decide +kernel), List.mem_of_getElem? (i := 352) (by decide +kernel), List.mem_of_getElem? (i := 353) (by decide +kernel)⟩
theorem lw_p4 : lw_okq (⟨"PileMoves", "groupSettlement", "(I)I"⟩, 4) := ⟨⟨by decide +kernel, by decide +kernel⟩, List.mem_of_getElem? (i := 15) (by decide +kernel), List.mem_of_getElem? (i := 357) (by decide +kernel), List.mem_of_getElem? (i := 358) (by decide +kernel)⟩
theorem lw_p5 : lw_okq (⟨"PileMoves", "groupLoad", "(I)J"⟩, 4) := ⟨⟨by decide +kernel, by decide +kernel⟩, List.mem_of_getElem? (i := 15) (by decide +kernel), List.mem_of_getElem? (i := 361) (by decide +kernel), List.mem_of_getElem? (i := 362) (by decide +kernel)⟩
theorem lw_p6 : lw_okq (⟨"PileMoves$Blow", "gatherPushes", "(LPileMoves$Pile;)V"⟩, 6) := ⟨⟨by decide +kernel, by decide +kernel⟩, List.mem_of_getElem? (i := 47) (by decide +kernel), List.mem_of_getElem? (i := 389) (by decide +kernel), List.mem_of_getElem? (i := 390) (by decide +kernel)⟩
theorem lw_p7 : lw_okq (⟨"PileMoves$Blow", "press", "(IIJ)V"⟩, 6) := ⟨⟨by decide +kernel, by decide +kernel⟩, List.mem_of_getElem? (i := 47) (by decide +kernel), List.mem_of_getElem? (i := 400) (by decide +kernel), List.mem_of_getElem? (i := 401) (by decide +kernel)⟩
theorem lw_p8 : lw_okq (⟨"PileMoves$Blow", "move", "(II)V"⟩, 6) := ⟨⟨by decide +kernel, by decide +kernel⟩, List.mem_of_getElem? (i := 47) (by decide +kernel), List.mem_of_getElem? (i := 406) (by decide +kernel), List.mem_of_getElem? (i := 407) (by decide +kernel)⟩
theorem lw_p9 : lw_okq (⟨"PileMovesModel", "isPiece", "(II)Z"⟩, 19) := ⟨⟨by decide +kernel, by decide +kernel⟩, List.mem_of_getElem? (i := 444) (by decide +kernel), List.mem_of_getElem? (i := 529) (by decide +kernel), List.mem_of_getElem? (i := 530) (by decide +kernel)⟩
theorem lw_p10 : lw_okq (⟨"PileMovesModel", "isPile", "(I)Z"⟩, 19) := ⟨⟨by decide +kernel, by decide +kernel⟩, List.mem_of_getElem? (i := 444) (by decide +kernel), List.mem_of_getElem? (i := 533) (by decide +kernel), List.mem_of_getElem? (i := 534) (by decide +kernel)⟩
theorem lw_p11 : lw_okq (⟨"PileMovesModel", "stands", "(IJ)Z"⟩, 19) := ⟨⟨by decide +kernel, by decide +kernel⟩, List.mem_of_getElem? (i := 444) (by decide +kernel), List.mem_of_getElem? (i := 551) (by decide +kernel), List.mem_of_getElem? (i := 552) (by decide +kernel)⟩
theorem lw_p12 : lw_okq (⟨"PileMovesModel", "greatest", "(IJZ)J"⟩, 19) := ⟨⟨by decide +kernel, by decide +kernel⟩, List.mem_of_getElem? (i := 444) (by decide +kernel), List.mem_of_getElem? (i := 555) (by decide +kernel), List.mem_of_getElem? (i := 556) (by decide +kernel)⟩
theorem lw_p13 : lw_okq (⟨"PileMovesModel", "isWithin", "(IJJZ)Z"⟩, 19) := ⟨⟨by decide +kernel, by decide +kernel⟩, List.mem_of_getElem? (i := 444) (by decide +kernel), List.mem_of_getElem? (i := 560) (by decide +kernel), List.mem_of_getElem? (i := 561) (by decide +kernel)⟩
theorem lw_p14 : lw_okq (⟨"PileMovesModel", "march", "(IJ)J"⟩, 19) := ⟨⟨by decide +kernel, by decide +kernel⟩, List.mem_of_getElem? (i := 444) (by decide +kernel), List.mem_of_getElem? (i := 564) (by decide +kernel), List.mem_of_getElem? (i := 565) (by decide +kernel)⟩
theorem lw_p15 : lw_okq (⟨"PileMovesModel", "hasState", "(IJ)Z"⟩, 19) := ⟨⟨by decide +kernel, by decide +kernel⟩, List.mem_of_getElem? (i := 444) (by decide +kernel), List.mem_of_getElem? (i := 585) (by decide +kernel), List.mem_of_getElem? (i := 586) (by decide +kernel)⟩
def lw_privs_1 : List (MethodName × Nat) := [(⟨"java/lang/Throwable", "fillInStackTrace", "(I)Ljava/lang/Throwable;"⟩, 6), (⟨"PileMoves", "pileOf", "(I)LPileMoves$Pile;"⟩, 4), (⟨"PileMoves$State", "find", "(LPileMoves$Pile;IZ)Z"⟩, 4), (⟨"PileMoves", "checkGroupNotEmpty", "()V"⟩, 4), (⟨"PileMoves", "groupSettlement", "(I)I"⟩, 4), (⟨"PileMoves", "groupLoad", "(I)J"⟩, 4), (⟨"PileMoves$Blow", "gatherPushes", "(LPileMoves$Pile;)V"⟩, 6), (⟨"PileMoves$Blow", "press", "(IIJ)V"⟩, 6), (⟨"PileMoves$Blow", "move", "(II)V"⟩, 6), (⟨"PileMovesModel", "isPiece", "(II)Z"⟩, 19), (⟨"PileMovesModel", "isPile", "(I)Z"⟩, 19), (⟨"PileMovesModel", "stands", "(IJ)Z"⟩, 19), (⟨"PileMovesModel", "greatest", "(IJZ)J"⟩, 19), (⟨"PileMovesModel", "isWithin", "(IJJZ)Z"⟩, 19), (⟨"PileMovesModel", "march", "(IJ)J"⟩, 19), (⟨"PileMovesModel", "hasState", "(IJ)Z"⟩, 19)]
theorem lw_r1 : ∀ q ∈ lw_privs_1, lw_okq q := List.forall_mem_cons.mpr ⟨lw_p0, List.forall_mem_cons.mpr ⟨lw_p1, List.forall_mem_cons.mpr ⟨lw_p2, List.forall_mem_cons.mpr ⟨lw_p3, List.forall_mem_cons.mpr ⟨lw_p4, List.forall_mem_cons.mpr ⟨lw_p5, List.forall_mem_cons.mpr ⟨lw_p6, List.forall_mem_cons.mpr ⟨lw_p7, List.forall_mem_cons.mpr ⟨lw_p8, List.forall_mem_cons.mpr ⟨lw_p9, List.forall_mem_cons.mpr ⟨lw_p10, List.forall_mem_cons.mpr ⟨lw_p11, List.forall_mem_cons.mpr ⟨lw_p12, List.forall_mem_cons.mpr ⟨lw_p13, List.forall_mem_cons.mpr ⟨lw_p14, List.forall_mem_cons.mpr ⟨lw_p15, fun _ h => absurd h List.not_mem_nil⟩⟩⟩⟩⟩⟩⟩⟩⟩⟩⟩⟩⟩⟩⟩⟩
theorem lw_p16 : lw_okq (⟨"PileMovesModel", "loadAt", "(IJ)J"⟩, 19) := ⟨⟨by decide +kernel, by decide +kernel⟩, List.mem_of_getElem? (i := 444) (by decide +kernel), List.mem_of_getElem? (i := 589) (by decide +kernel), List.mem_of_getElem? (i := 590) (by decide +kernel)⟩
theorem lw_p17 : lw_okq (⟨"PileMovesModel", "isEmpty", "()Z"⟩, 19) := ⟨⟨by decide +kernel, by decide +kernel⟩, List.mem_of_getElem? (i := 444) (by decide +kernel), List.mem_of_getElem? (i := 611) (by decide +kernel), List.mem_of_getElem? (i := 612) (by decide +kernel)⟩
theorem lw_p18 : lw_okq (⟨"PileMovesModel", "settles", "(J)I"⟩, 19) := ⟨⟨by decide +kernel, by decide +kernel⟩, List.mem_of_getElem? (i := 444) (by decide +kernel), List.mem_of_getElem? (i := 615) (by decide +kernel), List.mem_of_getElem? (i := 616) (by decide +kernel)⟩
theorem lw_p19 : lw_okq (⟨"PileMovesModel", "loads", "(J)J"⟩, 19) := ⟨⟨by decide +kernel, by decide +kernel⟩, List.mem_of_getElem? (i := 444) (by decide +kernel), List.mem_of_getElem? (i := 619) (by decide +kernel), List.mem_of_getElem? (i := 620) (by decide +kernel)⟩
theorem lw_p20 : lw_okq (⟨"PileMovesModel", "round", "(IIJ)V"⟩, 19) := ⟨⟨by decide +kernel, by decide +kernel⟩, List.mem_of_getElem? (i := 444) (by decide +kernel), List.mem_of_getElem? (i := 631) (by decide +kernel), List.mem_of_getElem? (i := 632) (by decide +kernel)⟩
def lw_privs_2 : List (MethodName × Nat) := [(⟨"PileMovesModel", "loadAt", "(IJ)J"⟩, 19), (⟨"PileMovesModel", "isEmpty", "()Z"⟩, 19), (⟨"PileMovesModel", "settles", "(J)I"⟩, 19), (⟨"PileMovesModel", "loads", "(J)J"⟩, 19), (⟨"PileMovesModel", "round", "(IIJ)V"⟩, 19)]
theorem lw_r2 : ∀ q ∈ lw_privs_2, lw_okq q := List.forall_mem_cons.mpr ⟨lw_p16, List.forall_mem_cons.mpr ⟨lw_p17, List.forall_mem_cons.mpr ⟨lw_p18, List.forall_mem_cons.mpr ⟨lw_p19, List.forall_mem_cons.mpr ⟨lw_p20, fun _ h => absurd h List.not_mem_nil⟩⟩⟩⟩⟩
def lw_privs : List (MethodName × Nat) := lw_privs_1 ++ (lw_privs_2)
def lw_tbl : List Cond := k2_sels lw_privs ++ tables_1
theorem lw_privs_ok : ∀ q ∈ lw_privs, lw_okq q := by
  show ∀ q ∈ lw_privs_1 ++ (lw_privs_2), lw_okq q
  exact List.forall_mem_append.mpr ⟨lw_r1, lw_r2⟩
-- ===== end of PART A =====
/-! ===== BEGIN words of one list among another's, by their places ===== -/
theorem goodIn_r {big : List Cond} (ws : List Cond) (ps : List Nat) (hp : ws = ps.filterMap (fun i => big[i]?)) (h : ws.all goodWord = true) : GoodIn big ws := by
  intro w hw
  have h1 := List.all_eq_true.mp h w hw
  rw [hp] at hw
  obtain ⟨i, -, hi⟩ := List.mem_filterMap.mp hw
  have hm : w ∈ big := by first | exact List.mem_of_getElem? hi | exact List.getElem?_mem hi
  exact ⟨hm, good_of_word h1⟩
theorem goodIn_app {big a b : List Cond} (ha : GoodIn big a) (hb : GoodIn big b) : GoodIn big (a ++ b) := fun w h => (List.mem_append.mp h).elim (ha w) (hb w)
theorem goodIn_ca {big a b : List Cond} {c : Cond} (ha : GoodIn big (c :: a)) (hb : GoodIn big b) : GoodIn big (c :: (a ++ b)) := fun w h => (List.mem_cons.mp h).elim (fun e => ha w (List.mem_cons.mpr (Or.inl e))) (fun h => (List.mem_append.mp h).elim (fun h => ha w (List.mem_cons.mpr (Or.inr h))) (hb w))
theorem goodIn_sub {big ws : List Cond} (hm : ∀ w ∈ ws, w ∈ big) (h : ws.all goodWord = true) : GoodIn big ws := fun w hw => ⟨hm w hw, good_of_word (List.all_eq_true.mp h w hw)⟩
/-! ===== END ===== -/

/-! ===== BEGIN exceptions that leave a method, and their catching by the caller (launches without stack traces) ===== -/
section VXA
/-! The laws vx_back, vx_callV, vx_callS, vx_callSW, vx_throw0, vx_throwS follow proofs of the library, with one case more: JvmDerived/Free/Laws.lean (Back.of_free), Shelf42/LK1.lean (callV, callS), Shelf/KitTraced.lean (throwNew0V, throwNewS). -/
/-- where a method has thrown q: the class by its name, the cell, what was written, the world -/
def vx_T (XC : String → State → State → Prop) (st : State) (q : Addr) (t : State) (mc ms : Nat) (free : Addr → Prop) : Prop :=
  ∃ (E : String) (ce : Cell) (L : List Loc), XC E st t ∧ t.heap[q]? = some ce ∧ ce.vm = .none ∧ st.vm.findClass E = some ce.cls ∧ st.WarmedH t.vm ∧ st.sameButNew ({ t with vm := st.vm } : State) L mc ms ∧ ∀ z ∈ L, free z.base
def vx_Q (Qc : Array Value → State → Outcome → State → Prop) (XC : String → State → State → Prop) (mc ms : Nat) (free : Addr → Prop) : Array Value → State → Outcome → State → Prop := fun a st o t =>
  (Qc a st o t ∧ ∃ L, FrameEnd st o t L mc ms ∧ ∀ q ∈ L, free q.base) ∨ ∃ q, o = .threw q ∧ vx_T XC st q t mc ms free
/-- a callee that returns or throws -/
def vx_Met (l : Launch) (y : MethodName) (ws : List Cond) (rm : Room) (Pc : Array Value → State → Prop) (Qc : Array Value → State → Outcome → State → Prop) (XC : String → State → State → Prop) (mc ms : Nat) (free : Addr → Prop) : Prop :=
  MetFree l y (headSpec ws rm) Pc (fun _ _ _ _ _ => True) (vx_Q Qc XC mc ms free)
def vx_Post (XC : String → State → State → Prop) (mc ms : Nat) (free : Addr → Prop) : Pt → Array Value → Addr → Pt → Prop := fun A a q B =>
  ∃ (g : JFrame) (mk : MethodId) (t : State) (L : List Loc) (E : String) (ce : Cell), B.U.heap = t.heap ∧ B.U.vm = t.vm ∧ XC E (A.U.calling g mk a) t ∧ t.heap[q]? = some ce ∧ ce.vm = .none ∧ A.U.vm.findClass E = some ce.cls ∧ B.locs = A.locs ++ L ∧ (∀ z ∈ L, free z.base) ∧ B.cells = A.cells + mc ∧ B.slots = A.slots + ms
def vx_Back (l : Launch) (R : Room) (p : Program) (e : Env) (below : List Frame) (s : State) (sargs : Array Value) (y : MethodName) (len W9 : Nat)
    (Pre : Pt → Array Value → Prop) (Post : Pt → Array Value → Option Value → Pt → Prop) (PostX : Pt → Array Value → Addr → Pt → Prop) : Prop :=
  ∀ (m : MethodId) (meth : Method) (c : Code) (A : Pt) (g : JFrame) (ig : Instr) (mk : MethodId) (a : Array Value),
    Stand p l e R s m sargs below meth c A.U A.locs A.cells A.slots → g.method = m → g.locals.size = c.maxLocals → decode c.code g.pc = .ok (ig, len) →
    2 * g.monitorRoom + (g.stack.map fun v => v.category).sum ≤ W9 → A.U.methodNamed? y = some mk → Pre A a →
    (∃ (v : Option Value) (B : Pt), Stand p l e R s m sargs below meth c B.U B.locs B.cells B.slots ∧ Post A a v B ∧
      Steps p.tables e below (doInvoke e (A.U.setTop g) [] mk a).1 (B.U.setTop { g with pc := g.pc + len, stack := v.toList ++ g.stack })) ∨
    (∃ (q : Addr) (B : Pt), Stand p l e R s m sargs below meth c B.U B.locs B.cells B.slots ∧ PostX A a q B ∧
      Steps p.tables e below (doInvoke e (A.U.setTop g) [] mk a).1 ((B.U.setTop g).pushFrame (.throwing q)))
section Payer
variable {l : Launch} {R : Room} {p : Program} {e : Env} {below : List Frame} {s : State} {sargs : Array Value} {y : MethodName} {len W9 : Nat}
theorem vx_back {ws : List Cond} {rm : Room} {Pc : Array Value → State → Prop} {Qc : Array Value → State → Outcome → State → Prop} {XC : String → State → State → Prop} {mc ms : Nat} {free : Addr → Prop} {bytes : ByteArray} {maxL : Nat} {ret : Option FieldType}
    (hM : vx_Met l y ws rm Pc Qc XC mc ms free) (hblind : FrameBlind Pc) (hrc : rm.cells = mc) (hrs : rm.slots = ms)
    (hframes : rm.frames + 1 ≤ R.frames) (hlocals : W9 + (maxL + 11) + rm.locals ≤ R.locals)
    (hws : ∀ w ∈ ws, ∀ a' U, s.WarmedH U.vm → w.before a' U = true) (hcode : Cond.code y bytes maxL ret ∈ ws) (hinit : ∀ a' U, s.WarmedH U.vm → (Cond.initialized y.cls).before a' U = true) :
    vx_Back l R p e below s sargs y len W9 (PreOf R mc ms Pc) (PostOf Qc mc ms free) (vx_Post XC mc ms free) := by
  intro m meth c A g ig mk a X hg hsize hdg hW hn hp
  have h1 : (headSpec ws rm).pre.before a A.U = true := atoms_intro fun w hw => hws w hw _ _ X.warmed
  have h2 : (Cond.code y bytes maxL ret).before a A.U = true := hws _ hcode _ _ X.warmed
  have h3 : (Cond.initialized y.cls).before a A.U = true := hinit _ _ X.warmed
  have h4 : A.cells + (headSpec ws rm).room.cells ≤ R.cells := by rw [show (headSpec ws rm).room.cells = mc from hrc]; exact hp.1
  have h5 : A.slots + (headSpec ws rm).room.slots ≤ R.slots := by rw [show (headSpec ws rm).room.slots = ms from hrs]; exact hp.2.1
  have hPc : Pc a (A.U.calling g mk a) := hblind _ _ _ _ hp.2.2
  obtain ⟨U, Ls, c0, s0⟩ := A
  dsimp only [Pt.U, Pt.locs, Pt.cells, Pt.slots] at h1 h2 h3 h4 h5 X hn hPc ⊢
  obtain ⟨methY, cY, hmY, hcY, -, hlY, -, -, -, -⟩ := Cond.code_spec hn h2
  obtain ⟨kY, hkY, -⟩ := className_of_methodNamed hn
  have hinitY : kY.init = .initialized := Cond.initialized_spec (findClass_of_methodNamed hn) hkY h3
  have h : At U g.method c below := by rw [hg]; exact X.here
  have hlocals9 : W9 + (maxL + 11) + (headSpec ws rm).room.locals ≤ R.locals := hlocals
  have happ : (headSpec ws rm).appliesLoose y e.platform (U.calling g mk a) = true :=
    Spec.appliesLoose_calling (g := g) h hdg hn hkY hinitY
      (X.room_calling (g := g) (R' := (headSpec ws rm).room) hsize hmY hcY hframes (by rw [hlY]; omega) h4 h5) h1
  obtain ⟨mid, hmid⟩ := h.above
  have hfr : (U.setTop g).frames = (.java g :: mid) ++ below := by rw [State.frames_setTop' g h.top, hmid]; rfl
  obtain ⟨o, s₂, hsteps, -, hend, hq⟩ := Steps.callFree hM p X.admits X.cas X.clock (acts := []) hfr happ hPc trivial
  have hq' : vx_Q Qc XC mc ms free a (U.calling g mk a) o s₂ := hq
  rw [State.frames_setTop' g h.top] at hend
  obtain ⟨g₀, hg0⟩ := Option.isSome_iff_exists.mp h.top
  obtain ⟨r, hr⟩ := State.topJava?_eq_some.mp hg0
  have hr' : (({ U with heap := s₂.heap, slotsUsed := s₂.slotsUsed } : State).setVm s₂.vm).frames = .java g₀ :: r := hr
  rcases hq' with ⟨hqc, L, hfe, hL⟩ | ⟨q, rfl, E, ce, L, hx, hce, hcv, hcl, hW₂, hsm, hL⟩
  · obtain ⟨⟨v, rfl⟩, hW₂, e2, q2, q3, q4, q5, q6⟩ := id hfe
    have e3 : s₂ = ({ (U.calling g mk a).setFrames s₂.frames with heap := s₂.heap, slotsUsed := s₂.slotsUsed } : State).setVm s₂.vm := by
      have : s₂ = ({ s₂ with vm := (U.calling g mk a).vm } : State).setVm s₂.vm := rfl
      rw [e2] at this
      exact this
    obtain ⟨c₂, i₂, len₂, hc₂, hd₂, hf₂⟩ := hend
    have hW' : U.WarmedH s₂.vm := hW₂
    have hcc : c₂ = c := by
      have h1 : s₂.code? g.method = U.code? g.method := by
        rw [State.code?_eq, State.code?_eq, hW'.alike.method?]
      exact Option.some.inj (hc₂.symm.trans (h1.trans h.code))
    subst hcc
    have hlen : len₂ = len := by rw [hdg] at hd₂; cases hd₂; rfl
    subst hlen
    have hs₂ : s₂ = (({ U with heap := s₂.heap, slotsUsed := s₂.slotsUsed } : State).setVm s₂.vm).setTop { g with pc := g.pc + len₂, stack := v.toList ++ g.stack } := by
      refine e3.trans ?_
      rw [hf₂, State.calling_eq h.top, State.setFrames_setFrames, State.setTop_of_frames _ hr', hr]
      rfl
    have hsame : U.sameButNew ({ U with heap := s₂.heap, slotsUsed := s₂.slotsUsed } : State) L mc ms := by
      refine ⟨?_, q2, q3, q4, q5, q6⟩
      obtain ⟨t, ht, -⟩ := State.frames_cons hr
      show ({ U with heap := s₂.heap, slotsUsed := s₂.slotsUsed } : State) = { U.setFrames U.frames with heap := s₂.heap, slotsUsed := s₂.slotsUsed }
      rw [State.setFrames_self ht]
    subst hg
    refine Or.inl ⟨v, ⟨(({ U with heap := s₂.heap, slotsUsed := s₂.slotsUsed } : State).setVm s₂.vm), Ls ++ L, c0 + mc, s0 + ms⟩,
      ⟨X.admits, X.cas, X.clock, X.frames, X.room, X.hears, X.method, X.code, (X.here.setHeapUsed s₂.heap s₂.slotsUsed).setVm hW'.alike, X.tail, State.WarmedH.trans X.warmed hW', X.limits, X.bytes, X.same.trans (hsame.setVm s.vm)⟩,
      ⟨g, mk, s₂, L, rfl, rfl, hqc, rfl, hL, rfl, rfl⟩, ?_⟩
    show Steps p.tables e below _ ((({ U with heap := s₂.heap, slotsUsed := s₂.slotsUsed } : State).setVm s₂.vm).setTop { g with pc := g.pc + len₂, stack := v.toList ++ g.stack })
    rw [← hs₂]
    exact hsteps
  · obtain ⟨e2, q2, q3, q4, q5, q6⟩ := id hsm
    have e3 : s₂ = ({ (U.calling g mk a).setFrames s₂.frames with heap := s₂.heap, slotsUsed := s₂.slotsUsed } : State).setVm s₂.vm := by
      have : s₂ = ({ s₂ with vm := (U.calling g mk a).vm } : State).setVm s₂.vm := rfl
      rw [e2] at this
      exact this
    have hf₂ : s₂.frames = .throwing q :: .java g :: U.frames.tail := hend
    have hW' : U.WarmedH s₂.vm := hW₂
    have hs₂ : s₂ = ((({ U with heap := s₂.heap, slotsUsed := s₂.slotsUsed } : State).setVm s₂.vm).setTop g).pushFrame (.throwing q) := by
      refine e3.trans ?_
      rw [hf₂, State.calling_eq h.top, State.setFrames_setFrames, State.pushFrame, State.frames_setTop _ hr', State.setTop_of_frames _ hr', State.setFrames_setFrames, hr]
      rfl
    have hsame : U.sameButNew ({ U with heap := s₂.heap, slotsUsed := s₂.slotsUsed } : State) L mc ms := by
      refine ⟨?_, q2, q3, q4, q5, q6⟩
      obtain ⟨t, ht, -⟩ := State.frames_cons hr
      show ({ U with heap := s₂.heap, slotsUsed := s₂.slotsUsed } : State) = { U.setFrames U.frames with heap := s₂.heap, slotsUsed := s₂.slotsUsed }
      rw [State.setFrames_self ht]
    subst hg
    refine Or.inr ⟨q, ⟨(({ U with heap := s₂.heap, slotsUsed := s₂.slotsUsed } : State).setVm s₂.vm), Ls ++ L, c0 + mc, s0 + ms⟩,
      ⟨X.admits, X.cas, X.clock, X.frames, X.room, X.hears, X.method, X.code, (X.here.setHeapUsed s₂.heap s₂.slotsUsed).setVm hW'.alike, X.tail, State.WarmedH.trans X.warmed hW', X.limits, X.bytes, X.same.trans (hsame.setVm s.vm)⟩,
      ⟨g, mk, s₂, L, E, ce, rfl, rfl, hx, hce, hcv, hcl, rfl, hL, rfl, rfl⟩, ?_⟩
    show Steps p.tables e below _ (((({ U with heap := s₂.heap, slotsUsed := s₂.slotsUsed } : State).setVm s₂.vm).setTop g).pushFrame (.throwing q))
    rw [← hs₂]
    exact hsteps
end Payer
section Calls
variable {p : Program} {l : Launch} {e : Env} {R : Room} {s : State} {m : MethodId} {args : Array Value} {below : List Frame} {meth : Method} {c : Code} {T : State} {locs : List Loc} {cells slots : Nat}
theorem vx_callV (X : Stand p l e R s m args below meth c T locs cells slots) (hexec : p.tables.exec = Jvm.exec) {own C : String} {index : Nat} {y : MethodName} {bytes : ByteArray} {maxL : Nat} {ret : Option FieldType}
    (hown : s.vm.findClass own = some m.cls) (hlink : (Cond.methodLink own index y).before args s = true) (hinst : (Cond.instanceMethod y).before args s = true) (hsel : (Cond.selects C y y).before args s = true)
    (hcode : (Cond.code y bytes maxL ret).before args s = true) (hy : y.cls ≠ "java/lang/invoke/MethodHandle" ∧ y.cls ≠ "java/lang/invoke/VarHandle")
    {W9 : Nat} {Pre : Pt → Array Value → Prop} {Post : Pt → Array Value → Option Value → Pt → Prop} {PostX : Pt → Array Value → Addr → Pt → Prop} (hK : vx_Back l R p e below s args y 3 W9 Pre Post PostX)
    {b : Addr} {cellB : Cell} (hcell : T.heap[b]? = some cellB) (hobj : cellB.vm.isStatics = false) (hcls : s.vm.findClass C = some cellB.cls)
    {g : JFrame} (hg : g.method = m) (hsize : g.locals.size = c.maxLocals) {argsL rest : List Value} (hlen : ∀ sig, parseMethodDescriptor y.desc = some sig → argsL.length = sig.parameters.length)
    (hstack : g.stack = argsL.reverse ++ .ref b :: rest) (hW : 2 * g.monitorRoom + (rest.map fun v => v.category).sum ≤ W9) (hdg : decode c.code g.pc = .ok (.invokevirtual index, 3))
    (hpre : ∀ vm₁, s.WarmedH vm₁ → Pre ⟨T.setVm vm₁, locs, cells, slots⟩ (Value.ref b :: argsL).toArray) :
    (∃ (v : Option Value) (vm₁ : Vm) (B : Pt), s.WarmedH vm₁ ∧ Stand p l e R s m args below meth c B.U B.locs B.cells B.slots ∧ Post ⟨T.setVm vm₁, locs, cells, slots⟩ (Value.ref b :: argsL).toArray v B ∧
      ∀ target, Steps p.tables e below (B.U.setTop { g with pc := g.pc + 3, stack := v.toList ++ rest }) target → Steps p.tables e below (T.setTop g) target) ∨
    (∃ (q : Addr) (vm₁ : Vm) (B : Pt), s.WarmedH vm₁ ∧ Stand p l e R s m args below meth c B.U B.locs B.cells B.slots ∧ PostX ⟨T.setVm vm₁, locs, cells, slots⟩ (Value.ref b :: argsL).toArray q B ∧
      Steps p.tables e below (T.setTop g) ((B.U.setTop { g with stack := rest }).pushFrame (.throwing q))) := by
  obtain ⟨mk, methM, hnamed, hmethM, hstM, habM⟩ := Cond.instanceMethod_spec hinst
  obtain ⟨methM', cM, hmethM', -, -, -, -, -, -, hsigM⟩ := Cond.code_spec hnamed hcode
  cases hmethM.symm.trans hmethM'
  obtain ⟨c2, r2, m2, q1, q2, q3, q4, kP, hkP, hkPi⟩ := Cond.selects_spec hsel
  cases hcls.symm.trans q1
  cases (State.methodFound?_of_named hnamed hy).symm.trans q2
  cases hnamed.symm.trans q3
  have hselP : selectMethod e.platform s.vm cellB.cls mk = .method mk := by rw [Launch.admits_selectMethod X.admits]; exact q4
  obtain ⟨vm₁, X₁, hstep₁⟩ := X.invokevirtual hexec hown hlink hnamed hmethM hstM hkP hkPi hy (a := b) (cell := cellB) hcell
    (fun z h => by rw [h] at hobj; cases hobj) hselP hmethM habM hkP hkPi (g := g) hg (argsL := argsL) (rest := rest) (hlen _ hsigM) hstack hdg
  rcases hK m meth c ⟨T.setVm vm₁, locs, cells, slots⟩ { g with stack := rest } (.invokevirtual index) mk (Value.ref b :: argsL).toArray X₁ hg hsize hdg hW (X₁.named hnamed) (hpre vm₁ X₁.warmed) with ⟨v, B, X', hpost, hsteps⟩ | ⟨q, B, X', hpost, hsteps⟩
  · exact Or.inl ⟨v, vm₁, B, X₁.warmed, X', hpost, fun target h => hstep₁ _ fun acts => by rw [doInvoke_state]; exact hsteps.trans h⟩
  · exact Or.inr ⟨q, vm₁, B, X₁.warmed, X', hpost, hstep₁ _ fun acts => by rw [doInvoke_state]; exact hsteps⟩
theorem vx_callS (X : Stand p l e R s m args below meth c T locs cells slots) (hexec : p.tables.exec = Jvm.exec) {own : String} {index : Nat} {y : MethodName} {bytes : ByteArray} {maxL : Nat} {ret : Option FieldType}
    (hown : s.vm.findClass own = some m.cls) (hlink : (Cond.methodLink own index y).before args s = true) (hstat : (Cond.static y).before args s = true) (hinit : (Cond.initialized y.cls).before args s = true)
    (hcode : (Cond.code y bytes maxL ret).before args s = true) (hy : y.cls ≠ "java/lang/invoke/MethodHandle" ∧ y.cls ≠ "java/lang/invoke/VarHandle")
    {W9 : Nat} {Pre : Pt → Array Value → Prop} {Post : Pt → Array Value → Option Value → Pt → Prop} {PostX : Pt → Array Value → Addr → Pt → Prop} (hK : vx_Back l R p e below s args y 3 W9 Pre Post PostX)
    {g : JFrame} (hg : g.method = m) (hsize : g.locals.size = c.maxLocals) {argsL rest : List Value} (hlen : ∀ sig, parseMethodDescriptor y.desc = some sig → argsL.length = sig.parameters.length)
    (hstack : g.stack = argsL.reverse ++ rest) (hW : 2 * g.monitorRoom + (rest.map fun v => v.category).sum ≤ W9) (hdg : decode c.code g.pc = .ok (.invokestatic index, 3))
    (hpre : ∀ vm₁, s.WarmedH vm₁ → Pre ⟨T.setVm vm₁, locs, cells, slots⟩ argsL.toArray) :
    (∃ (v : Option Value) (vm₁ : Vm) (B : Pt), s.WarmedH vm₁ ∧ Stand p l e R s m args below meth c B.U B.locs B.cells B.slots ∧ Post ⟨T.setVm vm₁, locs, cells, slots⟩ argsL.toArray v B ∧
      ∀ target, Steps p.tables e below (B.U.setTop { g with pc := g.pc + 3, stack := v.toList ++ rest }) target → Steps p.tables e below (T.setTop g) target) ∨
    (∃ (q : Addr) (vm₁ : Vm) (B : Pt), s.WarmedH vm₁ ∧ Stand p l e R s m args below meth c B.U B.locs B.cells B.slots ∧ PostX ⟨T.setVm vm₁, locs, cells, slots⟩ argsL.toArray q B ∧
      Steps p.tables e below (T.setTop g) ((B.U.setTop { g with stack := rest }).pushFrame (.throwing q))) := by
  obtain ⟨mk, hnamed⟩ := Cond.code_named hcode
  obtain ⟨methM, cM, hmethM, -, -, -, -, -, -, hsigM⟩ := Cond.code_spec hnamed hcode
  have hstatic : methM.isStatic = true := Cond.static_spec hnamed hmethM hstat
  obtain ⟨kP, hkP, -⟩ := className_of_methodNamed hnamed
  have hinitP : kP.init = .initialized := Cond.initialized_spec (findClass_of_methodNamed hnamed) hkP hinit
  obtain ⟨vm₁, X₁, hstep₁⟩ := X.invokestatic hexec hown hlink hnamed hmethM hstatic hkP hinitP hy (g := g) hg (argsL := argsL) (rest := rest) (hlen _ hsigM) hstack hdg
  rcases hK m meth c ⟨T.setVm vm₁, locs, cells, slots⟩ { g with stack := rest } (.invokestatic index) mk argsL.toArray X₁ hg hsize hdg hW (X₁.named hnamed) (hpre vm₁ X₁.warmed) with ⟨v, B, X', hpost, hsteps⟩ | ⟨q, B, X', hpost, hsteps⟩
  · exact Or.inl ⟨v, vm₁, B, X₁.warmed, X', hpost, fun target h => hstep₁ _ fun acts => by rw [doInvoke_state]; exact hsteps.trans h⟩
  · exact Or.inr ⟨q, vm₁, B, X₁.warmed, X', hpost, hstep₁ _ fun acts => by rw [doInvoke_state]; exact hsteps⟩
end Calls
theorem vx_cls {s : State} {T : State} {vm₁ : Vm} {E : String} {k : ClassId} (hW : s.WarmedH vm₁) (h : (T.setVm vm₁).vm.findClass E = some k) : s.vm.findClass E = some k := by
  have h1 : vm₁.findClass E = some k := h
  rw [hW.alike.findClass] at h1
  exact h1
/-- the method's frame g, with q thrown over it -/
def vx_W (p : Program) (l : Launch) (e : Env) (R : Room) (s : State) (m : MethodId) (args : Array Value) (below : List Frame) (meth : Method) (c : Code) (H : Heap) (locs : List Loc) (cells slots : Nat) (Q : State → Prop) (g : JFrame) (q : Addr) : Prop :=
  ∀ T : State, T.heap = H → Stand p l e R s m args below meth c T locs cells slots → ∃ t, Steps p.tables e below ((T.setTop g).pushFrame (.throwing q)) t ∧ Q t
def vx_Run (p : Program) (l : Launch) (e : Env) (R : Room) (s : State) (m : MethodId) (args : Array Value) (below : List Frame) (meth : Method) (c : Code) (H : Heap) (locs : List Loc) (cells slots mc ms : Nat) (g : JFrame) (rest : List Value) (Qa : State → Outcome → State → Prop) (XC : String → State → State → Prop) (free : Addr → Prop) : Prop :=
  ∀ T : State, T.heap = H → Stand p l e R s m args below meth c T locs cells slots →
    (∃ (v : Option Value) (st₀ t T' : State) (L : List Loc), st₀.heap = H ∧ Stand p l e R s m args below meth c T' (locs ++ L) (cells + mc) (slots + ms) ∧ (∀ q ∈ L, free q.base) ∧ T'.heap = t.heap ∧ T'.vm = t.vm ∧ Qa st₀ (.returned v) t ∧
      Goes p e below T g T' { g with pc := g.pc + 3, stack := v.toList ++ rest }) ∨
    (∃ (q : Addr) (st₀ t T' : State) (L : List Loc) (E : String) (ce : Cell), st₀.heap = H ∧ Stand p l e R s m args below meth c T' (locs ++ L) (cells + mc) (slots + ms) ∧ (∀ z ∈ L, free z.base) ∧ T'.heap = t.heap ∧ T'.vm = t.vm ∧ XC E st₀ t ∧ t.heap[q]? = some ce ∧ ce.vm = .none ∧ s.vm.findClass E = some ce.cls ∧
      Steps p.tables e below (T.setTop g) ((T'.setTop { g with stack := rest }).pushFrame (.throwing q)))
def vx_X {S : Type} (px : S → Prop) (B : String → S → State → Prop) (A : Nat → Prop) : String → State → State → Prop := fun E st t => ∃ u : S, px u ∧ B E u t ∧ va_F A st t
section Runs
variable {p : Program} {l : Launch} {e : Env} {R : Room} {s : State} {m : MethodId} {args : Array Value} {below : List Frame} {meth : Method} {c : Code} {H : Heap} {locs : List Loc} {cells slots : Nat}
variable {y : MethodName} {bytes cc : ByteArray} {maxL nL mc ms n index : Nat} {ret : Option FieldType} {ws : List Cond} {rm : Room} {Pc : Array Value → State → Prop} {Qc : Array Value → State → Outcome → State → Prop} {XC : String → State → State → Prop} {free : Addr → Prop} {Ts : List Cond} {own C : String} {b : Addr} {As rest : List Value} {g : JFrame}
theorem vx_callBack (cb : CallB R s args own index y bytes maxL ret ws rm mc ms n) (hM : vx_Met l y ws rm Pc Qc XC mc ms free) (hbl : FrameBlind Pc) : vx_Back l R p e below s args y 3 8 (PreOf R mc ms Pc) (PostOf Qc mc ms free) (vx_Post XC mc ms free) := by
  obtain ⟨hrc, hrs, hfr, hlo, hws, hcw, -, hini, -⟩ := cb
  exact vx_back (bytes := bytes) (maxL := maxL) (ret := ret) hM hbl hrc hrs hfr hlo hws hcw (fun a' U hW => word_at hW (Or.inl (by first | rfl | simp [Cond.onTables, Cond.keeps, Cond.steady])) hini)
theorem vx_runV (S : CallFix p m c cc nL s args Ts own) (hM : vx_Met l y ws rm Pc Qc XC mc ms free) (cw : CallW R s args own C index y bytes maxL ret ws rm mc ms n) (hp : PreV s H C b Pc As)
    (hg : g.method = m) (hn : As.length = n) (hsize : g.locals.size = nL) (hstack : g.stack = As.reverse ++ .ref b :: rest) (hW : 2 * g.monitorRoom + (rest.map fun v => v.category).sum ≤ 8) (hdg : decode cc g.pc = .ok (.invokevirtual index, 3)) (hf : cells + mc ≤ R.cells ∧ slots + ms ≤ R.slots) :
    vx_Run p l e R s m args below meth c H locs cells slots mc ms g rest (Qc (Value.ref b :: As).toArray) XC free := by
  have hK : vx_Back l R p e below s args y 3 8 (PreOf R mc ms Pc) (PostOf Qc mc ms free) (vx_Post XC mc ms free) := vx_callBack cw.1 hM hp.1
  obtain ⟨⟨-, -, -, -, -, -, hcode, -, hy, hlen, hl⟩, hin, hse⟩ := cw
  obtain ⟨hx, hb, hml, ho, -⟩ := S
  obtain ⟨-, ⟨cellB, hcB, hoB, hclB⟩, hPc⟩ := hp
  intro T hT X
  rcases vx_callV X hx (C := C) (bytes := bytes) (maxL := maxL) (ret := ret) ho hl hin hse hcode hy hK (by rw [hT]; exact hcB) hoB hclB hg (hsize.trans hml.symm) (argsL := As) (rest := rest) (fun sig h => hn.trans (hlen sig h)) hstack hW (by rw [hb]; exact hdg)
    (fun vm₁ hW₁ => ⟨hf.1, hf.2, hPc (T.setVm vm₁) hT hW₁⟩) with ⟨v, vm₁, ⟨U', l2, c2, s2⟩, hW₁, X', ⟨g', mk, t, L, e1, e2, hq, h1, hL, h2, h3⟩, st⟩ | ⟨q, vm₁, ⟨U', l2, c2, s2⟩, hW₁, X', ⟨g', mk, t, L, E, ce, e1, e2, hq, hce, hcv, hcl, h1, hL, h2, h3⟩, st⟩
  · dsimp only [Pt.U, Pt.locs, Pt.cells, Pt.slots] at X' e1 e2 h1 h2 h3 st
    subst h1; subst h2; subst h3
    exact Or.inl ⟨v, (T.setVm vm₁).calling g' mk (Value.ref b :: As).toArray, t, U', L, hT, X', hL, e1, e2, hq, st⟩
  · dsimp only [Pt.U, Pt.locs, Pt.cells, Pt.slots] at X' e1 e2 h1 h2 h3 st hcl
    subst h1; subst h2; subst h3
    exact Or.inr ⟨q, (T.setVm vm₁).calling g' mk (Value.ref b :: As).toArray, t, U', L, E, ce, hT, X', hL, e1, e2, hq, hce, hcv, vx_cls hW₁ hcl, st⟩
theorem vx_runS (S : CallFix p m c cc nL s args Ts own) (hM : vx_Met l y ws rm Pc Qc XC mc ms free) (cw : CallB R s args own index y bytes maxL ret ws rm mc ms n ∧ (Cond.static y).before args s = true) (hp : PreS s H Pc As)
    (hg : g.method = m) (hn : As.length = n) (hsize : g.locals.size = nL) (hstack : g.stack = As.reverse ++ rest) (hW : 2 * g.monitorRoom + (rest.map fun v => v.category).sum ≤ 8) (hdg : decode cc g.pc = .ok (.invokestatic index, 3)) (hf : cells + mc ≤ R.cells ∧ slots + ms ≤ R.slots) :
    vx_Run p l e R s m args below meth c H locs cells slots mc ms g rest (Qc As.toArray) XC free := by
  have hK : vx_Back l R p e below s args y 3 8 (PreOf R mc ms Pc) (PostOf Qc mc ms free) (vx_Post XC mc ms free) := vx_callBack cw.1 hM hp.1
  obtain ⟨⟨-, -, -, -, -, -, hcode, hini, hy, hlen, hl⟩, hstt⟩ := cw
  obtain ⟨hx, hb, hml, ho, -⟩ := S
  intro T hT X
  rcases vx_callS X hx (bytes := bytes) (maxL := maxL) (ret := ret) ho hl hstt hini hcode hy hK hg (hsize.trans hml.symm) (argsL := As) (rest := rest) (fun sig h => hn.trans (hlen sig h)) hstack hW (by rw [hb]; exact hdg)
    (fun vm₁ hW₁ => ⟨hf.1, hf.2, hp.2 (T.setVm vm₁) hT hW₁⟩) with ⟨v, vm₁, ⟨U', l2, c2, s2⟩, hW₁, X', ⟨g', mk, t, L, e1, e2, hq, h1, hL, h2, h3⟩, st⟩ | ⟨q, vm₁, ⟨U', l2, c2, s2⟩, hW₁, X', ⟨g', mk, t, L, E, ce, e1, e2, hq, hce, hcv, hcl, h1, hL, h2, h3⟩, st⟩
  · dsimp only [Pt.U, Pt.locs, Pt.cells, Pt.slots] at X' e1 e2 h1 h2 h3 st
    subst h1; subst h2; subst h3
    exact Or.inl ⟨v, (T.setVm vm₁).calling g' mk As.toArray, t, U', L, hT, X', hL, e1, e2, hq, st⟩
  · dsimp only [Pt.U, Pt.locs, Pt.cells, Pt.slots] at X' e1 e2 h1 h2 h3 st hcl
    subst h1; subst h2; subst h3
    exact Or.inr ⟨q, (T.setVm vm₁).calling g' mk As.toArray, t, U', L, E, ce, hT, X', hL, e1, e2, hq, hce, hcv, vx_cls hW₁ hcl, st⟩
end Runs
section Rows
variable {p : Program} {l : Launch} {e : Env} {R : Room} {s : State} {m : MethodId} {args : Array Value} {below : List Frame} {meth : Method} {c : Code} {H : Heap} {locs : List Loc} {cells slots : Nat} {Q : State → Prop}
variable {mc ms : Nat} {free : Addr → Prop} {A0 A1 : Nat → Prop} {H0 : Heap} {a : Array Value} {pc : Nat} {ls : Array Slot} {st0 rest : List Value}
theorem vx_keep {st₀ t T' : State} {L : List Loc} (h0 : st₀.heap = H) (e1 : T'.heap = t.heap) (hS : va_S A0 H0 H locs) (hA : ∀ q, q < H.size → A1 q → A0 q) (hf : ∀ q, free q → A0 q) (hL : ∀ q ∈ L, free q.base) (hF : va_F A1 st₀ t) :
    H.size ≤ T'.heap.size ∧ (∀ q : Nat, q < H.size → ¬ A1 q → T'.heap[q]? = H[q]?) ∧ va_S A0 H0 T'.heap (locs ++ L) := by
  obtain ⟨hz, hk⟩ := hF
  rw [h0] at hz hk
  exact ⟨by rw [e1]; exact hz, fun q h1 h2 => by rw [e1]; exact hk q h1 h2,
    ⟨Nat.le_trans hS.1 (by rw [e1]; exact hz), fun q h1 h2 => by rw [e1, hk q (Nat.lt_of_lt_of_le h1 hS.1) (fun z => h2 (hA q (Nat.lt_of_lt_of_le h1 hS.1) z))]; exact hS.2.1 q h1 h2, fun q hq => by
      rcases List.mem_append.mp hq with h | h
      · exact hS.2.2 q h
      · exact hf _ (hL q h)⟩⟩
theorem vx_calli {S SX : Type} {post : Int32 → S → Prop} {px : SX → Prop} {B : S → State → Prop} {BX : String → SX → State → Prop} {AX : Nat → Prop} (hr : vx_Run p l e R s m args below meth c H locs cells slots mc ms (F0 m pc ls st0) rest (va_Qi post B A1 a) (vx_X px BX AX) free) (hS : va_S A0 H0 H locs) (hA : ∀ q, q < H.size → A1 q → A0 q) (hf : ∀ q, free q → A0 q) (hAX : ∀ q, q < H.size → AX q → A0 q)
    (kx : ∀ (E : String) (ce : Cell) (q9 : Addr) (u : SX) (t : State) (H1 : Heap) (locs1 : List Loc), t.heap = H1 → s.vm.Alike t.vm → px u → BX E u t → H.size ≤ H1.size → (∀ q : Nat, q < H.size → ¬ AX q → H1[q]? = H[q]?) → va_S A0 H0 H1 locs1 → H1[q9]? = some ce → ce.vm = .none → s.vm.findClass E = some ce.cls → vx_W p l e R s m args below meth c H1 locs1 (cells + mc) (slots + ms) Q (F0 m pc ls rest) q9)
    (kk : ∀ (r : Int32) (u : S) (t : State) (H1 : Heap) (locs1 : List Loc), t.heap = H1 → s.vm.Alike t.vm → post r u → B u t → H.size ≤ H1.size → (∀ q : Nat, q < H.size → ¬ A1 q → H1[q]? = H[q]?) → va_S A0 H0 H1 locs1 → W p l e R s m args below meth c H1 locs1 (cells + mc) (slots + ms) Q (F0 m (pc + 3) ls (.int r :: rest))) : W p l e R s m args below meth c H locs cells slots Q (F0 m pc ls st0) := by
  intro T hT X
  rcases hr T hT X with ⟨v, st₀, t, T', L, h0, X', hL, e1, e2, ⟨⟨r, u, hv, hp, hb⟩, hF⟩, st⟩ | ⟨q, st₀, t, T', L, E, ce, h0, X', hL, e1, e2, ⟨u, hp, hb, hF⟩, hce, hcv, hcl, st⟩
  · cases hv
    obtain ⟨k1, k2, k3⟩ := vx_keep h0 e1 hS hA hf hL hF
    obtain ⟨t2, a1, b1⟩ := kk r u t T'.heap (locs ++ L) e1.symm (by rw [← e2]; exact X'.warmed.alike) hp hb k1 k2 k3 T' rfl X'
    exact ⟨t2, st t2 a1, b1⟩
  · obtain ⟨k1, k2, k3⟩ := vx_keep h0 e1 hS hAX hf hL hF
    obtain ⟨t2, a1, b1⟩ := kx E ce q u t T'.heap (locs ++ L) e1.symm (by rw [← e2]; exact X'.warmed.alike) hp hb k1 k2 k3 (by rw [e1]; exact hce) hcv hcl T' rfl X'
    exact ⟨t2, st.trans a1, b1⟩
theorem vx_calll {S SX : Type} {post : Int64 → S → Prop} {px : SX → Prop} {B : S → State → Prop} {BX : String → SX → State → Prop} {AX : Nat → Prop} (hr : vx_Run p l e R s m args below meth c H locs cells slots mc ms (F0 m pc ls st0) rest (va_Ql post B A1 a) (vx_X px BX AX) free) (hS : va_S A0 H0 H locs) (hA : ∀ q, q < H.size → A1 q → A0 q) (hf : ∀ q, free q → A0 q) (hAX : ∀ q, q < H.size → AX q → A0 q)
    (kx : ∀ (E : String) (ce : Cell) (q9 : Addr) (u : SX) (t : State) (H1 : Heap) (locs1 : List Loc), t.heap = H1 → s.vm.Alike t.vm → px u → BX E u t → H.size ≤ H1.size → (∀ q : Nat, q < H.size → ¬ AX q → H1[q]? = H[q]?) → va_S A0 H0 H1 locs1 → H1[q9]? = some ce → ce.vm = .none → s.vm.findClass E = some ce.cls → vx_W p l e R s m args below meth c H1 locs1 (cells + mc) (slots + ms) Q (F0 m pc ls rest) q9)
    (kk : ∀ (r : Int64) (u : S) (t : State) (H1 : Heap) (locs1 : List Loc), t.heap = H1 → s.vm.Alike t.vm → post r u → B u t → H.size ≤ H1.size → (∀ q : Nat, q < H.size → ¬ A1 q → H1[q]? = H[q]?) → va_S A0 H0 H1 locs1 → W p l e R s m args below meth c H1 locs1 (cells + mc) (slots + ms) Q (F0 m (pc + 3) ls (.long r :: rest))) : W p l e R s m args below meth c H locs cells slots Q (F0 m pc ls st0) := by
  intro T hT X
  rcases hr T hT X with ⟨v, st₀, t, T', L, h0, X', hL, e1, e2, ⟨⟨r, u, hv, hp, hb⟩, hF⟩, st⟩ | ⟨q, st₀, t, T', L, E, ce, h0, X', hL, e1, e2, ⟨u, hp, hb, hF⟩, hce, hcv, hcl, st⟩
  · cases hv
    obtain ⟨k1, k2, k3⟩ := vx_keep h0 e1 hS hA hf hL hF
    obtain ⟨t2, a1, b1⟩ := kk r u t T'.heap (locs ++ L) e1.symm (by rw [← e2]; exact X'.warmed.alike) hp hb k1 k2 k3 T' rfl X'
    exact ⟨t2, st t2 a1, b1⟩
  · obtain ⟨k1, k2, k3⟩ := vx_keep h0 e1 hS hAX hf hL hF
    obtain ⟨t2, a1, b1⟩ := kx E ce q u t T'.heap (locs ++ L) e1.symm (by rw [← e2]; exact X'.warmed.alike) hp hb k1 k2 k3 (by rw [e1]; exact hce) hcv hcl T' rfl X'
    exact ⟨t2, st.trans a1, b1⟩
theorem vx_callf {S SX : Type} {post : UInt32 → S → Prop} {px : SX → Prop} {B : S → State → Prop} {BX : String → SX → State → Prop} {AX : Nat → Prop} (hr : vx_Run p l e R s m args below meth c H locs cells slots mc ms (F0 m pc ls st0) rest (va_Qf post B A1 a) (vx_X px BX AX) free) (hS : va_S A0 H0 H locs) (hA : ∀ q, q < H.size → A1 q → A0 q) (hf : ∀ q, free q → A0 q) (hAX : ∀ q, q < H.size → AX q → A0 q)
    (kx : ∀ (E : String) (ce : Cell) (q9 : Addr) (u : SX) (t : State) (H1 : Heap) (locs1 : List Loc), t.heap = H1 → s.vm.Alike t.vm → px u → BX E u t → H.size ≤ H1.size → (∀ q : Nat, q < H.size → ¬ AX q → H1[q]? = H[q]?) → va_S A0 H0 H1 locs1 → H1[q9]? = some ce → ce.vm = .none → s.vm.findClass E = some ce.cls → vx_W p l e R s m args below meth c H1 locs1 (cells + mc) (slots + ms) Q (F0 m pc ls rest) q9)
    (kk : ∀ (r : UInt32) (u : S) (t : State) (H1 : Heap) (locs1 : List Loc), t.heap = H1 → s.vm.Alike t.vm → post r u → B u t → H.size ≤ H1.size → (∀ q : Nat, q < H.size → ¬ A1 q → H1[q]? = H[q]?) → va_S A0 H0 H1 locs1 → W p l e R s m args below meth c H1 locs1 (cells + mc) (slots + ms) Q (F0 m (pc + 3) ls (.float r :: rest))) : W p l e R s m args below meth c H locs cells slots Q (F0 m pc ls st0) := by
  intro T hT X
  rcases hr T hT X with ⟨v, st₀, t, T', L, h0, X', hL, e1, e2, ⟨⟨r, u, hv, hp, hb⟩, hF⟩, st⟩ | ⟨q, st₀, t, T', L, E, ce, h0, X', hL, e1, e2, ⟨u, hp, hb, hF⟩, hce, hcv, hcl, st⟩
  · cases hv
    obtain ⟨k1, k2, k3⟩ := vx_keep h0 e1 hS hA hf hL hF
    obtain ⟨t2, a1, b1⟩ := kk r u t T'.heap (locs ++ L) e1.symm (by rw [← e2]; exact X'.warmed.alike) hp hb k1 k2 k3 T' rfl X'
    exact ⟨t2, st t2 a1, b1⟩
  · obtain ⟨k1, k2, k3⟩ := vx_keep h0 e1 hS hAX hf hL hF
    obtain ⟨t2, a1, b1⟩ := kx E ce q u t T'.heap (locs ++ L) e1.symm (by rw [← e2]; exact X'.warmed.alike) hp hb k1 k2 k3 (by rw [e1]; exact hce) hcv hcl T' rfl X'
    exact ⟨t2, st.trans a1, b1⟩
theorem vx_calld {S SX : Type} {post : UInt64 → S → Prop} {px : SX → Prop} {B : S → State → Prop} {BX : String → SX → State → Prop} {AX : Nat → Prop} (hr : vx_Run p l e R s m args below meth c H locs cells slots mc ms (F0 m pc ls st0) rest (va_Qd post B A1 a) (vx_X px BX AX) free) (hS : va_S A0 H0 H locs) (hA : ∀ q, q < H.size → A1 q → A0 q) (hf : ∀ q, free q → A0 q) (hAX : ∀ q, q < H.size → AX q → A0 q)
    (kx : ∀ (E : String) (ce : Cell) (q9 : Addr) (u : SX) (t : State) (H1 : Heap) (locs1 : List Loc), t.heap = H1 → s.vm.Alike t.vm → px u → BX E u t → H.size ≤ H1.size → (∀ q : Nat, q < H.size → ¬ AX q → H1[q]? = H[q]?) → va_S A0 H0 H1 locs1 → H1[q9]? = some ce → ce.vm = .none → s.vm.findClass E = some ce.cls → vx_W p l e R s m args below meth c H1 locs1 (cells + mc) (slots + ms) Q (F0 m pc ls rest) q9)
    (kk : ∀ (r : UInt64) (u : S) (t : State) (H1 : Heap) (locs1 : List Loc), t.heap = H1 → s.vm.Alike t.vm → post r u → B u t → H.size ≤ H1.size → (∀ q : Nat, q < H.size → ¬ A1 q → H1[q]? = H[q]?) → va_S A0 H0 H1 locs1 → W p l e R s m args below meth c H1 locs1 (cells + mc) (slots + ms) Q (F0 m (pc + 3) ls (.double r :: rest))) : W p l e R s m args below meth c H locs cells slots Q (F0 m pc ls st0) := by
  intro T hT X
  rcases hr T hT X with ⟨v, st₀, t, T', L, h0, X', hL, e1, e2, ⟨⟨r, u, hv, hp, hb⟩, hF⟩, st⟩ | ⟨q, st₀, t, T', L, E, ce, h0, X', hL, e1, e2, ⟨u, hp, hb, hF⟩, hce, hcv, hcl, st⟩
  · cases hv
    obtain ⟨k1, k2, k3⟩ := vx_keep h0 e1 hS hA hf hL hF
    obtain ⟨t2, a1, b1⟩ := kk r u t T'.heap (locs ++ L) e1.symm (by rw [← e2]; exact X'.warmed.alike) hp hb k1 k2 k3 T' rfl X'
    exact ⟨t2, st t2 a1, b1⟩
  · obtain ⟨k1, k2, k3⟩ := vx_keep h0 e1 hS hAX hf hL hF
    obtain ⟨t2, a1, b1⟩ := kx E ce q u t T'.heap (locs ++ L) e1.symm (by rw [← e2]; exact X'.warmed.alike) hp hb k1 k2 k3 (by rw [e1]; exact hce) hcv hcl T' rfl X'
    exact ⟨t2, st.trans a1, b1⟩
theorem vx_callv {S SX : Type} {post : S → Prop} {px : SX → Prop} {B : S → State → Prop} {BX : String → SX → State → Prop} {AX : Nat → Prop} (hr : vx_Run p l e R s m args below meth c H locs cells slots mc ms (F0 m pc ls st0) rest (va_Qv post B A1 a) (vx_X px BX AX) free) (hS : va_S A0 H0 H locs) (hA : ∀ q, q < H.size → A1 q → A0 q) (hf : ∀ q, free q → A0 q) (hAX : ∀ q, q < H.size → AX q → A0 q)
    (kx : ∀ (E : String) (ce : Cell) (q9 : Addr) (u : SX) (t : State) (H1 : Heap) (locs1 : List Loc), t.heap = H1 → s.vm.Alike t.vm → px u → BX E u t → H.size ≤ H1.size → (∀ q : Nat, q < H.size → ¬ AX q → H1[q]? = H[q]?) → va_S A0 H0 H1 locs1 → H1[q9]? = some ce → ce.vm = .none → s.vm.findClass E = some ce.cls → vx_W p l e R s m args below meth c H1 locs1 (cells + mc) (slots + ms) Q (F0 m pc ls rest) q9)
    (kk : ∀ (u : S) (t : State) (H1 : Heap) (locs1 : List Loc), t.heap = H1 → s.vm.Alike t.vm → post u → B u t → H.size ≤ H1.size → (∀ q : Nat, q < H.size → ¬ A1 q → H1[q]? = H[q]?) → va_S A0 H0 H1 locs1 → W p l e R s m args below meth c H1 locs1 (cells + mc) (slots + ms) Q (F0 m (pc + 3) ls (rest))) : W p l e R s m args below meth c H locs cells slots Q (F0 m pc ls st0) := by
  intro T hT X
  rcases hr T hT X with ⟨v, st₀, t, T', L, h0, X', hL, e1, e2, ⟨⟨u, hv, hp, hb⟩, hF⟩, st⟩ | ⟨q, st₀, t, T', L, E, ce, h0, X', hL, e1, e2, ⟨u, hp, hb, hF⟩, hce, hcv, hcl, st⟩
  · cases hv
    obtain ⟨k1, k2, k3⟩ := vx_keep h0 e1 hS hA hf hL hF
    obtain ⟨t2, a1, b1⟩ := kk u t T'.heap (locs ++ L) e1.symm (by rw [← e2]; exact X'.warmed.alike) hp hb k1 k2 k3 T' rfl X'
    exact ⟨t2, st t2 a1, b1⟩
  · obtain ⟨k1, k2, k3⟩ := vx_keep h0 e1 hS hAX hf hL hF
    obtain ⟨t2, a1, b1⟩ := kx E ce q u t T'.heap (locs ++ L) e1.symm (by rw [← e2]; exact X'.warmed.alike) hp hb k1 k2 k3 (by rw [e1]; exact hce) hcv hcl T' rfl X'
    exact ⟨t2, st.trans a1, b1⟩
/-- caught by the row x of this method's table; the rows ahead don't take it -/
theorem vx_catch {own name : String} {E : String} {ce : Cell} {q : Addr} (hown : s.vm.findClass own = some m.cls) (pre : List ExceptionTableEntry) (x : ExceptionTableEntry) (suf : List ExceptionTableEntry) (hsplit : c.exceptionTable.toList = pre ++ x :: suf)
    (hpass : ∀ z ∈ pre, covers z pc = false ∨ (z.catchType ≠ 0 ∧ ∃ nm : String, (Cond.classLink own z.catchType nm).before args s = true ∧ va_Nc E nm s)) (hx : covers x pc = true) (h0 : x.catchType ≠ 0)
    (hlink : (Cond.classLink own x.catchType name).before args s = true) (hcast : (Cond.castable E name).before args s = true) (hcell : H[q]? = some ce) (hv : ce.vm = .none) (hcl : s.vm.findClass E = some ce.cls)
    (kk : W p l e R s m args below meth c H locs cells slots Q (F0 m x.handlerPc ls [.ref q])) : vx_W p l e R s m args below meth c H locs cells slots Q (F0 m pc ls rest) q := by
  intro T hT X
  have hpl : e.platform.magicAccessors = ({} : Platform).magicAccessors := by rw [X.admits.platform]
  obtain ⟨c3, c4, hc3, hc4, hasg⟩ := Cond.castable_spec hcast
  cases Option.some.inj (hc3.symm.trans hcl)
  obtain ⟨c5, hc5, hcl5⟩ := Cond.classLink_spec hown hlink e.platform hpl
  cases Option.some.inj (hc4.symm.trans hc5)
  obtain ⟨vm', X', st⟩ := X.thenCaughtThrough q (g := F0 m pc ls rest) rfl (Steps.refl _) (by rw [hT]; exact hcell) (by rw [hv]; rfl) (by obtain ⟨k9, h9, -⟩ := Vm.findClass_spec hcl; exact ⟨k9, h9⟩) pre x suf hsplit
    (fun z hz => by
      rcases hpass z hz with h | ⟨hz0, nm, hl1, hn1⟩
      · exact Or.inl h
      · obtain ⟨c6, hc6, hcl6⟩ := Cond.classLink_spec hown hl1 e.platform hpl
        obtain ⟨a8, b8, h1, h2, h3⟩ := hn1
        cases Option.some.inj (h1.symm.trans hcl)
        cases Option.some.inj (h2.symm.trans hc6)
        exact Or.inr ⟨hz0, _, hcl6, h3⟩) hx (Or.inr ⟨h0, c4, hcl5, hasg⟩)
  obtain ⟨t, a1, b1⟩ := kk (T.setVm vm') hT X'
  exact ⟨t, st.trans a1, b1⟩
end Rows
section Ends
variable {p : Program} {l : Launch} {e : Env} {R : Room} {s : State} {m : MethodId} {args : Array Value} {below : List Frame} {meth : Method} {c : Code} {H : Heap} {locs : List Loc} {cells slots : Nat} {Q : State → Prop}
variable {mc ms : Nat} {free : Addr → Prop} {A0 A1 : Nat → Prop} {H0 : Heap} {a : Array Value} {ls : Array Slot} {st0 rest : List Value}
variable {Qc : Array Value → State → Outcome → State → Prop} {XC : String → State → State → Prop}
/-- what a body that may throw owes at its end -/
def vx_MQ (below : List Frame) (Qc : Array Value → State → Outcome → State → Prop) (XC : String → State → State → Prop) (a : Array Value) (s : State) (mc ms : Nat) (free : Addr → Prop) : State → Prop := fun t =>
  ∃ o, t.status = .running ∧ Ended t below o ∧ vx_Q Qc XC mc ms free a s o t
theorem vx_ret {g : JFrame} {mc ms : Nat} (k : W p l e R s m args below meth c H locs cells slots (MQ below Qc args s mc ms free) g) : W p l e R s m args below meth c H locs cells slots (vx_MQ below Qc XC args s mc ms free) g := by
  intro T hT X
  obtain ⟨t, a1, o, b1, b2, b3, b4⟩ := k T hT X
  exact ⟨t, a1, o, b1, b2, Or.inl ⟨b3, b4⟩⟩
/-- not caught here: it goes on to the caller -/
theorem vx_widen {g : JFrame} {q : Addr} {k n : Nat} (h1 : cells ≤ k) (h2 : slots ≤ n) (kk : vx_W p l e R s m args below meth c H locs k n Q g q) : vx_W p l e R s m args below meth c H locs cells slots Q g q := fun T hT X => kk T hT (stand_widen X h1 h2)
theorem vx_out {pc : Nat} {E : String} {ce : Cell} {q : Addr} {mc ms : Nat} (hout : ∀ x ∈ c.exceptionTable.toList, covers x pc = false) (hlocks : meth.locks = false) (hcell : H[q]? = some ce) (hv : ce.vm = .none) (hcl : s.vm.findClass E = some ce.cls)
    (hx : ∀ t : State, t.heap = H → s.vm.Alike t.vm → XC E s t) (hf : ∀ z ∈ locs, free z.base) (hc : cells ≤ mc) (hs : slots ≤ ms) :
    vx_W p l e R s m args below meth c H locs cells slots (vx_MQ below Qc XC args s mc ms free) (F0 m pc ls rest) q := by
  intro T hT X
  obtain ⟨st1, hrun, hend, hW, hsm⟩ := X.leaveThrown q (g := F0 m pc ls rest) rfl rfl rfl hout hlocks
  have hcell9 : (T.setFrames (.throwing q :: below)).heap[q]? = some ce := by
    show T.heap[q]? = some ce
    rw [hT]; exact hcell
  exact ⟨_, st1, .threw q, hrun, hend, Or.inr ⟨q, rfl, E, ce, locs, hx _ hT hW.alike, hcell9, hv, hcl, hW, hsm.mono hc hs, hf⟩⟩
theorem vx_frame {U : State} {k n : Nat} (h : s.sameButNew ({ U with vm := s.vm } : State) locs k n) : s.heap.size ≤ U.heap.size ∧ ∀ q : Nat, q < s.heap.size → (∀ z ∈ locs, z.base ≠ q) → U.heap[q]? = s.heap[q]? := by
  obtain ⟨-, h2, -, -, -, h6⟩ := h
  refine ⟨h2, fun q hq hz => ?_⟩
  obtain ⟨c9, e1, e2, e3, e4⟩ := h6 q _ (Array.getElem?_eq_getElem hq)
  have hs : c9.slots = (s.heap[q]).slots := Array.ext_getElem? fun i => e4 i fun hm => hz _ hm rfl
  have h9 : c9 = s.heap[q] := by
    rw [hs] at e2
    exact e2
  have e5 : U.heap[q]? = some c9 := e1
  rw [e5, h9, Array.getElem?_eq_getElem hq]
/-- the words of a throw but the four that speak of the heap -/
def vx_no (w : Cond) : Bool := decide (w ≠ .isRef (.static Bundle.tN "UNASSIGNED_STACK" Bundle.steD)) && decide (w ≠ .isRef (.static Bundle.tN "SUPPRESSED_SENTINEL" Bundle.listD)) && decide (w ≠ .laysStatic Bundle.tN "UNASSIGNED_STACK" Bundle.steD) && decide (w ≠ .laysStatic Bundle.tN "SUPPRESSED_SENTINEL" Bundle.listD)
def vx_at0 (own : String) (ic : Nat) (X : String) (names : List String) : List Cond := (Bundle.ownAtoms0 own ic X names).filter vx_no
def vx_atS (own : String) (ic : Nat) (X : String) (names : List String) : List Cond := (Bundle.ownAtoms own ic X names).filter vx_no
/-- a word that the tables alone decide, or a good one -/
def vx_ot (w : Cond) : Bool := w.onTables || goodWord w
theorem vx_ot_at {args a' : Array Value} {s U : State} {w : Cond} (hW : s.WarmedH U.vm) (hvm : s.vm = U.vm) (hg : vx_ot w = true) (h : w.before args s = true) : w.before a' U = true := by
  simp only [vx_ot, Bool.or_eq_true] at hg
  rcases hg with hg | hg
  · exact va_tabs hg hvm h
  · exact word_at hW (good_of_word hg) h
/-- a list's words: the good ones out of the method's own list, the others by premises of their own -/
theorem vx_hat {args : Array Value} {s : State} {L B : List Cond} (h1 : ∀ w ∈ L.filter goodWord, w.before args s = true) (h2 : ∀ w ∈ L.filter (fun w => !goodWord w), w ∈ B) (h3 : ∀ w ∈ B, w.before args s = true) : ∀ w ∈ L, w.before args s = true := by
  intro w hw
  by_cases g : goodWord w = true
  · exact h1 w (List.mem_filter.mpr ⟨hw, g⟩)
  · refine h3 w (h2 w (List.mem_filter.mpr ⟨hw, ?_⟩))
    show (!goodWord w) = true
    cases hgw : goodWord w
    · rfl
    · exact absurd hgw g
theorem vx_c {args : Array Value} {s : State} {w : Cond} {B : List Cond} (h : w.before args s = true) (t : ∀ w ∈ B, w.before args s = true) : ∀ w' ∈ w :: B, w'.before args s = true := fun w' h' => (List.mem_cons.mp h').elim (fun e => by rw [e]; exact h) (t w')
theorem vx_n {args : Array Value} {s : State} : ∀ w ∈ ([] : List Cond), w.before args s = true := fun _ h => nomatch h
theorem vx_own {args : Array Value} {s : State} {L : List Cond} (h1 : ∀ w ∈ L.filter vx_no, w.before args s = true)
    (hU : (Cond.isRef (.static Bundle.tN "UNASSIGNED_STACK" Bundle.steD)).before args s = true) (hN : (Cond.isRef (.static Bundle.tN "SUPPRESSED_SENTINEL" Bundle.listD)).before args s = true)
    (lU : (Cond.laysStatic Bundle.tN "UNASSIGNED_STACK" Bundle.steD).before args s = true) (lN : (Cond.laysStatic Bundle.tN "SUPPRESSED_SENTINEL" Bundle.listD).before args s = true) : ∀ w ∈ L, w.before args s = true := by
  intro w hw
  by_cases e1 : w = .isRef (.static Bundle.tN "UNASSIGNED_STACK" Bundle.steD)
  · rw [e1]; exact hU
  · by_cases e2 : w = .isRef (.static Bundle.tN "SUPPRESSED_SENTINEL" Bundle.listD)
    · rw [e2]; exact hN
    · by_cases e3 : w = .laysStatic Bundle.tN "UNASSIGNED_STACK" Bundle.steD
      · rw [e3]; exact lU
      · by_cases e4 : w = .laysStatic Bundle.tN "SUPPRESSED_SENTINEL" Bundle.listD
        · rw [e4]; exact lN
        · exact h1 w (List.mem_filter.mpr ⟨hw, by unfold vx_no; rw [decide_eq_true e1, decide_eq_true e2, decide_eq_true e3, decide_eq_true e4]; rfl⟩)
/-- where a static field lies, its class's statics cell in H -/
def vx_L (C n d : String) (A : Nat → Prop) (U : State) (H : Heap) : Prop := ∃ (c : ClassId) (k : Class) (i : Nat) (f : Field) (a : Nat) (cell : Cell), U.vm.findClass C = some c ∧ U.fieldFound? C n d = some (c, k, i, f) ∧ f.isStatic = true ∧ k.statics = some a ∧ H[a]? = some cell ∧ cell.vm.isStatics = true ∧ cell.cls = c ∧ f.slot < cell.slots.size ∧ k.staticTypes[f.slot]? = some f.type ∧ ¬ A a
theorem vx_L.moved {C n d : String} {A : Nat → Prop} {u U : State} {H : Heap} (hvm : u.vm.Alike U.vm) (h : vx_L C n d A u H) : vx_L C n d A U H := by
  obtain ⟨c, k, i, f, a, cell, h1, h2, h3, h4, h5, h6, h7, h8, h9, h10⟩ := h
  obtain ⟨k', hi', he⟩ := State.fieldFound?_setVm hvm h2
  exact ⟨c, k', i, f, a, cell, by rw [hvm.findClass]; exact h1, hi', h3, by rw [he]; exact h4, h5, h6, h7, h8, by rw [he]; exact h9, h10⟩
theorem vx_L.kept {C n d : String} {A : Nat → Prop} {U : State} {H H1 : Heap} (h : vx_L C n d A U H) (hq : ∀ a : Nat, a < H.size → ¬ A a → H1[a]? = H[a]?) : vx_L C n d A U H1 := by
  obtain ⟨c, k, i, f, a, cell, h1, h2, h3, h4, h5, h6, h7, h8, h9, h10⟩ := h
  exact ⟨c, k, i, f, a, cell, h1, h2, h3, h4, by rw [hq a (Array.getElem?_eq_some_iff.mp h5).1 h10]; exact h5, h6, h7, h8, h9, h10⟩
theorem vx_L.narrow {C n d : String} {A B : Nat → Prop} {U : State} {H : Heap} (h : vx_L C n d A U H) (hAB : ∀ q, B q → A q) : vx_L C n d B U H := by
  obtain ⟨c, k, i, f, a, cell, h1, h2, h3, h4, h5, h6, h7, h8, h9, h10⟩ := h
  exact ⟨c, k, i, f, a, cell, h1, h2, h3, h4, h5, h6, h7, h8, h9, fun z => h10 (hAB _ z)⟩
theorem vx_L.word {C n d : String} {A : Nat → Prop} {s : State} {args : Array Value} (h : vx_L C n d A s s.heap) : (Cond.laysStatic C n d).before args s = true := by
  obtain ⟨c, k, i, f, a, cell, h1, h2, h3, h4, h5, h6, h7, h8, h9, -⟩ := h
  show (Cond.laysStatic C n d).holds args s none s [] = true
  exact Cond.laysStatic_of h1 h2 h3 h4 h5 h6 h7 h8 h9
/-- .. and what it holds: null or some reference -/
def vx_Zq (C n d : String) (A : Nat → Prop) (U : State) (H : Heap) : Prop := va_Zq C n d A U H ∧ vx_L C n d A U H
theorem vx_Zq.moved {C n d : String} {A : Nat → Prop} {u U : State} {H : Heap} (hvm : u.vm.Alike U.vm) (h : vx_Zq C n d A u H) : vx_Zq C n d A U H := ⟨va_Zq.moved hvm h.1, vx_L.moved hvm h.2⟩
theorem vx_Zq.kept {C n d : String} {A : Nat → Prop} {U : State} {H H1 : Heap} (h : vx_Zq C n d A U H) (hq : ∀ a : Nat, a < H.size → ¬ A a → H1[a]? = H[a]?) : vx_Zq C n d A U H1 := ⟨va_Zq.kept h.1 hq, vx_L.kept h.2 hq⟩
theorem vx_Zq.narrow {C n d : String} {A B : Nat → Prop} {U : State} {H : Heap} (h : vx_Zq C n d A U H) (hAB : ∀ q, B q → A q) : vx_Zq C n d B U H := ⟨va_Zq.narrow h.1 hAB, vx_L.narrow h.2 hAB⟩
theorem vx_Zqof {args : Array Value} {s : State} {C n d : String} {A : Nat → Prop} (hl : (Cond.laysStatic C n d).before args s = true) (hini : (Cond.initialized C).before args s = true) (h : (Cond.isRef (.static C n d)).before args s = true) (hA : ∀ a : Nat, a < s.heap.size → ¬ A a) : vx_Zq C n d A s s.heap := by
  refine ⟨va_Zqof hl hini h hA, ?_⟩
  obtain ⟨c, k, i, f, a, cell, h1, h2, h3, h4, h5, h6, h7, h8, h9⟩ := Cond.laysStatic_spec hl
  exact ⟨c, k, i, f, a, cell, h1, h2, h3, h4, h5, h6, h7, h8, h9, hA a (Array.getElem?_eq_some_iff.mp h5).1⟩
theorem vx_isRef {C n d : String} {v : Value} {A : Nat → Prop} {s : State} {args : Array Value} (h : va_Z C n d v A s s.heap) (hv : v.isRef = true) : (Cond.isRef (.static C n d)).before args s = true := by
  obtain ⟨cf, kf, fi, f, a, cell, h1, h2, h3, h4, h5, h6, h7, -⟩ := h
  have he : (Term.static C n d).eval args s none [] s = some v := by
    simp [Term.eval, State.fieldNamed?, h1, h2, h4, h5, h6, h7]
  simp only [Cond.before, Cond.holds, Cond.value, he]
  cases v <;> simp_all [Value.isRef]
theorem vx_isRefq {C n d : String} {A : Nat → Prop} {s : State} {args : Array Value} (h : va_Zq C n d A s s.heap) : (Cond.isRef (.static C n d)).before args s = true := by
  rcases h with h | ⟨t, h⟩
  · exact vx_isRef h rfl
  · exact vx_isRef h rfl
/-- the same frame, seen from here: as if the method were called anew in this heap -/
theorem vx_rebase {T : State} (X : Stand p l e R s m args below meth c T locs cells slots) {R' : Room} (hf : R'.frames ≤ R.frames) (hl : R'.locals ≤ R.locals) (hc : cells + R'.cells ≤ R.cells) (hs : slots + R'.slots ≤ R.slots) :
    Stand p l e R' ((T.setVm s.vm).setFrames (.invoking m args :: below)) m args below meth c T [] 0 0 := by
  have htop : (T.setVm s.vm).topJava?.isSome := X.here.top
  have hF : ((T.setVm s.vm).setFrames (.invoking m args :: below)).frames = .invoking m args :: below := State.frames_setFrames _ (State.cur_lt_of_top htop)
  obtain ⟨g₀, hg0⟩ := Option.isSome_iff_exists.mp htop
  obtain ⟨r, hr⟩ := State.topJava?_eq_some.mp hg0
  have hl9 : e.platform.stackLimits (T.setVm s.vm).me = e.platform.stackLimits s.me := X.limits
  have hb9 : (T.setVm s.vm).me.stackBytes = s.me.stackBytes := X.bytes
  refine ⟨X.admits, X.cas, X.clock, hF, ?_, X.hears, X.method, X.code, X.here, X.tail, X.warmed, ?_, ?_, ?_⟩
  · have h := X.room
    have hU : ((T.setVm s.vm).setFrames (.invoking m args :: below)).localsInUse = s.localsInUse := by
      rw [State.localsInUse_invoking hF (meth := meth) (c := c) X.method X.code, State.localsInUse_invoking X.frames X.method X.code]
    simp only [State.hasRoom, Bool.and_eq_true, decide_eq_true_eq] at h ⊢
    obtain ⟨⟨⟨⟨h1, h2, h3, h4, h5, h6⟩, h7⟩, h8⟩, h9⟩ := h
    rw [X.frames, List.length_cons] at h2 h3
    have q1 := X.heapSize
    have q2 := X.used
    simp only [hF, hU, List.length_cons, State.stackLimits_setFrames, State.stackBytes_setFrames, hl9, hb9]
    refine ⟨⟨⟨⟨by omega, by omega, by omega, by omega, by omega, h6⟩, ?_⟩, ?_⟩, X.book⟩
    · show T.heap.size + R'.cells ≤ e.platform.maxCells
      omega
    · show T.slotsUsed + R'.slots ≤ e.platform.maxSlots
      omega
  · rw [State.stackLimits_setFrames]; rfl
  · rw [State.stackBytes_setFrames]; rfl
  · refine ⟨?_, Nat.le_refl _, Nat.le_refl _, ?_, ?_, fun a c9 h9 => ⟨c9, h9, rfl, rfl, fun _ _ => rfl⟩⟩
    · obtain ⟨t, ht, -⟩ := State.frames_cons hr
      show T.setVm s.vm = { ((T.setVm s.vm).setFrames (.invoking m args :: below)).setFrames (T.setVm s.vm).frames with heap := T.heap, slotsUsed := T.slotsUsed }
      rw [State.setFrames_setFrames, State.setFrames_self ht]
      rfl
    · show T.slotsUsed = T.slotsUsed + ((T.heap.toList.drop T.heap.size).map (·.slots.size)).sum
      rw [List.drop_eq_nil_of_le (Nat.le_of_eq Array.length_toList)]
      rfl
    · show ((T.heap.toList.drop T.heap.size).map (·.slots.size)).sum ≤ 0
      rw [List.drop_eq_nil_of_le (Nat.le_of_eq Array.length_toList)]
      exact Nat.le_refl _
/-- 'throw new E()': new; dup; invokespecial; athrow -/
theorem vx_throw0 {cc : ByteArray} {pc : Nat} (hexec : p.tables.exec = Jvm.exec) (hb : c.code = cc) (hl : l.stackTraces = false) {own cls : String} {names : List String} {ik ic mc ms : Nat} {A : Nat → Prop}
    (hown : s.vm.findClass own = some m.cls) (hcls : Bundle.fit cls = true) (hnames : ∀ n ∈ names, Bundle.fit n = true)
    (hk : (Cond.classLink own ik cls).before args s = true) (hini : (Cond.initialized cls).before args s = true) (hat : ∀ w ∈ vx_at0 own ic cls names, w.before args s = true)
    (hgood : ∀ w ∈ Cond.classLink own ik cls :: Cond.initialized cls :: vx_at0 own ic cls names, vx_ot w = true)
    (hU : vx_Zq Bundle.tN "UNASSIGNED_STACK" Bundle.steD A s s.heap) (hN : vx_Zq Bundle.tN "SUPPRESSED_SENTINEL" Bundle.listD A s s.heap) (hS : va_S A s.heap H locs) (hsize : ls.size = c.maxLocals)
    (d0 : decode cc pc = .ok (.new ik, 3)) (d3 : decode cc (pc + 3) = .ok (.dup, 1)) (d4 : decode cc (pc + 4) = .ok (.invokespecial ic, 3)) (d7 : decode cc (pc + 7) = .ok (.athrow, 1))
    (hout : ∀ x ∈ c.exceptionTable.toList, covers x (pc + 7) = false)
    (hRframes : names.length + 3 < R.frames) (hRlocals : (rest.map fun v => v.category).sum + (13 * (names.length + 1) + 42) ≤ R.locals) (hRcells : cells + 1 ≤ R.cells) (hRslots : slots + 6 ≤ R.slots) (hlocks : meth.locks = false)
    (hx : ∀ t : State, s.vm.Alike t.vm → H.size ≤ t.heap.size → (∀ q : Nat, q < H.size → t.heap[q]? = H[q]?) → XC cls s t)
    (hf : ∀ z ∈ locs, free z.base) (hc : cells + 1 ≤ mc) (hs : slots + 6 ≤ ms) :
    W p l e R s m args below meth c H locs cells slots (vx_MQ below Qc XC args s mc ms free) (F0 m pc ls rest) := by
  intro T hT X
  have htr : e.platform.stackTraces = false := (show e.platform.stackTraces = l.stackTraces by rw [X.admits.platform]).trans hl
  have Y := vx_rebase X (R' := { frames := R.frames, locals := R.locals, cells := 1, slots := 6 }) (Nat.le_refl _) (Nat.le_refl _) hRcells hRslots
  obtain ⟨s', hA⟩ : ∃ z, z = (T.setVm s.vm).setFrames (.invoking m args :: below) := ⟨_, rfl⟩
  rw [← hA] at Y
  have hvm : s'.vm = s.vm := by rw [hA]; rfl
  have hhp : s'.heap = H := by rw [hA]; exact hT
  have hW0 : s.WarmedH s'.vm := by rw [hvm]; exact State.WarmedH.refl s
  have hat' : ∀ w ∈ vx_at0 own ic cls names, w.before args s' = true := fun w hw => vx_ot_at hW0 hvm.symm (hgood w (List.mem_cons_of_mem _ (List.mem_cons_of_mem _ hw))) (hat w hw)
  have hk' : (Cond.classLink own ik cls).before args s' = true := vx_ot_at hW0 hvm.symm (hgood _ List.mem_cons_self) hk
  have hini' : (Cond.initialized cls).before args s' = true := vx_ot_at hW0 hvm.symm (hgood _ (List.mem_cons_of_mem _ List.mem_cons_self)) hini
  have hU' : vx_Zq Bundle.tN "UNASSIGNED_STACK" Bundle.steD A s' s'.heap := by rw [hhp]; exact vx_Zq.moved hW0.alike (hU.kept hS.2.1)
  have hN' : vx_Zq Bundle.tN "SUPPRESSED_SENTINEL" Bundle.listD A s' s'.heap := by rw [hhp]; exact vx_Zq.moved hW0.alike (hN.kept hS.2.1)
  have h : ∀ w ∈ Bundle.ownAtoms0 own ic cls names, w.before args s' = true := vx_own hat' (vx_isRefq hU'.1) (vx_isRefq hN'.1) hU'.2.word hN'.2.word
  have hown' : s'.vm.findClass own = some m.cls := by rw [hvm]; exact hown
  have hins : (Cond.instantiable cls 6).before args s' = true := h _ (by simp [Bundle.ownAtoms0])
  obtain ⟨vm₁, cX, kX, hfX, hkX, -, -, X₁, st1⟩ := Y.newCold hexec (own := own) (C := cls) (index := ik) (n := 6) hown' hk' hins hini'
    (g := F0 m pc ls rest) rfl (by rw [hb]; exact d0) (Nat.le_refl _) (Nat.le_refl _)
  generalize hT1 : (T.setVm vm₁).pushCell { cls := cX, slots := kX.instanceTypes.map defaultValue, vm := .none } = T1 at X₁ st1
  have hcat : (Value.ref T.heap.size).category = 1 := rfl
  have hcellA : T1.heap[T.heap.size]? = some (freshCell cX kX) := by rw [← hT1]; exact State.heap_pushCell_size _ _
  have d3' : decode c.code (pc + 3) = .ok (.dup, 1) := by rw [hb]; exact d3
  obtain ⟨U, hsteps, hrun, hend, hW, hsame, ce, hce, hO⟩ := X₁.ctorThrow0 hexec htr (own := own) (cls := cls) (names := names) (ic := ic) hown' hcls hnames h (fun x hx => nomatch hx) hfX hkX hcellA (by rw [hhp, hT]; exact Nat.le_refl _)
    (g := { method := m, pc := pc + 4, locals := ls, stack := .ref T.heap.size :: .ref T.heap.size :: rest, locked := none }) rfl hsize rfl rfl (rest := rest) rfl
    (by rw [hb]; exact d4) (by rw [hb]; exact d7) hout hRframes (by simp only [List.map_cons, List.sum_cons, hcat]; omega) hlocks
  obtain ⟨f1, f2⟩ := vx_frame hsame
  rw [hhp] at f1 f2
  have hWs : s.WarmedH U.vm := State.WarmedH.trans hW0 hW
  have hcl : s.vm.findClass cls = some ce.cls := by
    have h9 := hO.cls
    rw [hvm] at h9
    exact h9
  have hall : s.sameButNew ({ U with vm := s.vm } : State) locs mc ms := by
    subst hA
    obtain ⟨e1, e2⟩ := hsame
    rw [State.setFrames_setFrames] at e1
    have h2 : (T.setVm s.vm).sameButNew ({ U with vm := s.vm } : State) [] (0 + 1) (0 + 6) := ⟨e1, e2⟩
    have h3 := X.same.trans h2
    rw [List.append_nil] at h3
    exact h3.mono hc hs
  refine ⟨U, ?_, .threw T.heap.size, hrun, hend, Or.inr ⟨T.heap.size, rfl, cls, ce, locs, hx U hWs.alike f1 (fun q hq => f2 q hq (fun z hz => nomatch hz)), hce, hO.vm, hcl, hWs, hall, hf⟩⟩
  refine st1 _ ?_
  show Steps p.tables e below (T1.setTop { method := m, pc := pc + 3, locals := ls, stack := .ref T.heap.size :: rest, locked := none }) _
  jvm_step X₁.here [X₁.here.top, hexec, d3', Value.category]
  exact hsteps
/-- 'throw new E("text")': new; dup; ldc; invokespecial; athrow -/
theorem vx_throwS {cc : ByteArray} {pc : Nat} (hexec : p.tables.exec = Jvm.exec) (hb : c.code = cc) (hl : l.stackTraces = false) {own cls text : String} {names : List String} {ik is ic mc ms sa : Nat} {A : Nat → Prop}
    (hown : s.vm.findClass own = some m.cls) (hcls : Bundle.fit cls = true) (hnames : ∀ n ∈ names, Bundle.fit n = true)
    (hk : (Cond.classLink own ik cls).before args s = true) (hini : (Cond.initialized cls).before args s = true) (hstr : vk_R own is text sa s) (hat : ∀ w ∈ vx_atS own ic cls names, w.before args s = true)
    (hgood : ∀ w ∈ Cond.classLink own ik cls :: Cond.initialized cls :: vx_atS own ic cls names, vx_ot w = true)
    (hU : vx_Zq Bundle.tN "UNASSIGNED_STACK" Bundle.steD A s s.heap) (hN : vx_Zq Bundle.tN "SUPPRESSED_SENTINEL" Bundle.listD A s s.heap) (hS : va_S A s.heap H locs) (hsize : ls.size = c.maxLocals)
    (d0 : decode cc pc = .ok (.new ik, 3)) (d3 : decode cc (pc + 3) = .ok (.dup, 1)) (d4 : decode cc (pc + 4) = .ok (.ldc is, 2)) (d6 : decode cc (pc + 6) = .ok (.invokespecial ic, 3)) (d9 : decode cc (pc + 9) = .ok (.athrow, 1))
    (hout : ∀ x ∈ c.exceptionTable.toList, covers x (pc + 9) = false)
    (hRframes : names.length + 3 < R.frames) (hRlocals : (rest.map fun v => v.category).sum + (13 * (names.length + 1) + 43) ≤ R.locals) (hRcells : cells + 1 ≤ R.cells) (hRslots : slots + 6 ≤ R.slots) (hlocks : meth.locks = false)
    (hx : ∀ t : State, s.vm.Alike t.vm → H.size ≤ t.heap.size → (∀ q : Nat, q < H.size → t.heap[q]? = H[q]?) → XC cls s t)
    (hf : ∀ z ∈ locs, free z.base) (hc : cells + 1 ≤ mc) (hs : slots + 6 ≤ ms) :
    W p l e R s m args below meth c H locs cells slots (vx_MQ below Qc XC args s mc ms free) (F0 m pc ls rest) := by
  intro T hT X
  have htr : e.platform.stackTraces = false := (show e.platform.stackTraces = l.stackTraces by rw [X.admits.platform]).trans hl
  have Y := vx_rebase X (R' := { frames := R.frames, locals := R.locals, cells := 1, slots := 6 }) (Nat.le_refl _) (Nat.le_refl _) hRcells hRslots
  obtain ⟨s', hA⟩ : ∃ z, z = (T.setVm s.vm).setFrames (.invoking m args :: below) := ⟨_, rfl⟩
  rw [← hA] at Y
  have hvm : s'.vm = s.vm := by rw [hA]; rfl
  have hhp : s'.heap = H := by rw [hA]; exact hT
  have hW0 : s.WarmedH s'.vm := by rw [hvm]; exact State.WarmedH.refl s
  have hat' : ∀ w ∈ vx_atS own ic cls names, w.before args s' = true := fun w hw => vx_ot_at hW0 hvm.symm (hgood w (List.mem_cons_of_mem _ (List.mem_cons_of_mem _ hw))) (hat w hw)
  have hk' : (Cond.classLink own ik cls).before args s' = true := vx_ot_at hW0 hvm.symm (hgood _ List.mem_cons_self) hk
  have hini' : (Cond.initialized cls).before args s' = true := vx_ot_at hW0 hvm.symm (hgood _ (List.mem_cons_of_mem _ List.mem_cons_self)) hini
  have hU' : vx_Zq Bundle.tN "UNASSIGNED_STACK" Bundle.steD A s' s'.heap := by rw [hhp]; exact vx_Zq.moved hW0.alike (hU.kept hS.2.1)
  have hN' : vx_Zq Bundle.tN "SUPPRESSED_SENTINEL" Bundle.listD A s' s'.heap := by rw [hhp]; exact vx_Zq.moved hW0.alike (hN.kept hS.2.1)
  have h : ∀ w ∈ Bundle.ownAtoms own ic cls names, w.before args s' = true := vx_own hat' (vx_isRefq hU'.1) (vx_isRefq hN'.1) hU'.2.word hN'.2.word
  have hown' : s'.vm.findClass own = some m.cls := by rw [hvm]; exact hown
  have hins : (Cond.instantiable cls 6).before args s' = true := h _ (by simp [Bundle.ownAtoms])
  obtain ⟨vm₁, cX, kX, hfX, hkX, -, -, X₁, st1⟩ := Y.newCold hexec (own := own) (C := cls) (index := ik) (n := 6) hown' hk' hins hini'
    (g := F0 m pc ls rest) rfl (by rw [hb]; exact d0) (Nat.le_refl _) (Nat.le_refl _)
  generalize hT1 : (T.setVm vm₁).pushCell { cls := cX, slots := kX.instanceTypes.map defaultValue, vm := .none } = T1 at X₁ st1
  have hcat : (Value.ref T.heap.size).category = 1 := rfl
  have hcellA : T1.heap[T.heap.size]? = some (freshCell cX kX) := by rw [← hT1]; exact State.heap_pushCell_size _ _
  have d3' : decode c.code (pc + 3) = .ok (.dup, 1) := by rw [hb]; exact d3
  have d4' : decode c.code (pc + 4) = .ok (.ldc is, 2) := by rw [hb]; exact d4
  have hstr' : vk_R own is text sa s' := vk_R.warm hW0 hstr
  obtain ⟨U, hsteps, hrun, hend, hW, hsame, ce, hce, hO⟩ := X₁.ctorThrowS hexec htr (own := own) (cls := cls) (names := names) (ic := ic) hown' hcls hnames h (fun x hx => nomatch hx) hfX hkX hcellA (by rw [hhp, hT]; exact Nat.le_refl _) (msg := .ref sa) rfl
    (g := { method := m, pc := pc + 6, locals := ls, stack := .ref sa :: .ref T.heap.size :: .ref T.heap.size :: rest, locked := none }) rfl hsize rfl rfl (rest := rest) rfl
    (by rw [hb]; exact d6) (by rw [hb]; exact d9) hout hRframes (by simp only [List.map_cons, List.sum_cons, hcat]; omega) hlocks
  obtain ⟨f1, f2⟩ := vx_frame hsame
  rw [hhp] at f1 f2
  have hWs : s.WarmedH U.vm := State.WarmedH.trans hW0 hW
  have hcl : s.vm.findClass cls = some ce.cls := by
    have h9 := hO.cls
    rw [hvm] at h9
    exact h9
  have hall : s.sameButNew ({ U with vm := s.vm } : State) locs mc ms := by
    subst hA
    obtain ⟨e1, e2⟩ := hsame
    rw [State.setFrames_setFrames] at e1
    have h2 : (T.setVm s.vm).sameButNew ({ U with vm := s.vm } : State) [] (0 + 1) (0 + 6) := ⟨e1, e2⟩
    have h3 := X.same.trans h2
    rw [List.append_nil] at h3
    exact h3.mono hc hs
  refine ⟨U, ?_, .threw T.heap.size, hrun, hend, Or.inr ⟨T.heap.size, rfl, cls, ce, locs, hx U hWs.alike f1 (fun q hq => f2 q hq (fun z hz => nomatch hz)), hce, hO.vm, hcl, hWs, hall, hf⟩⟩
  refine st1 _ ?_
  show Steps p.tables e below (T1.setTop { method := m, pc := pc + 3, locals := ls, stack := .ref T.heap.size :: rest, locked := none }) _
  jvm_step X₁.here [X₁.here.top, hexec, d3', Value.category]
  exact X₁.ldcString hexec (own := own) (text := text) (index := is) (a := sa) hown' hstr'.1 hstr'.2
    (g := { method := m, pc := pc + 4, locals := ls, stack := .ref T.heap.size :: .ref T.heap.size :: rest, locked := none }) rfl d4' _ hsteps
/-- 'throw new E("text")', the text by a wide index -/
theorem vx_throwSW {cc : ByteArray} {pc : Nat} (hexec : p.tables.exec = Jvm.exec) (hb : c.code = cc) (hl : l.stackTraces = false) {own cls text : String} {names : List String} {ik is ic mc ms sa : Nat} {A : Nat → Prop}
    (hown : s.vm.findClass own = some m.cls) (hcls : Bundle.fit cls = true) (hnames : ∀ n ∈ names, Bundle.fit n = true)
    (hk : (Cond.classLink own ik cls).before args s = true) (hini : (Cond.initialized cls).before args s = true) (hstr : vk_R own is text sa s) (hat : ∀ w ∈ vx_atS own ic cls names, w.before args s = true)
    (hgood : ∀ w ∈ Cond.classLink own ik cls :: Cond.initialized cls :: vx_atS own ic cls names, vx_ot w = true)
    (hU : vx_Zq Bundle.tN "UNASSIGNED_STACK" Bundle.steD A s s.heap) (hN : vx_Zq Bundle.tN "SUPPRESSED_SENTINEL" Bundle.listD A s s.heap) (hS : va_S A s.heap H locs) (hsize : ls.size = c.maxLocals)
    (d0 : decode cc pc = .ok (.new ik, 3)) (d3 : decode cc (pc + 3) = .ok (.dup, 1)) (d4 : decode cc (pc + 4) = .ok (.ldc_w is, 3)) (d7 : decode cc (pc + 7) = .ok (.invokespecial ic, 3)) (d10 : decode cc (pc + 10) = .ok (.athrow, 1))
    (hout : ∀ x ∈ c.exceptionTable.toList, covers x (pc + 10) = false)
    (hRframes : names.length + 3 < R.frames) (hRlocals : (rest.map fun v => v.category).sum + (13 * (names.length + 1) + 43) ≤ R.locals) (hRcells : cells + 1 ≤ R.cells) (hRslots : slots + 6 ≤ R.slots) (hlocks : meth.locks = false)
    (hx : ∀ t : State, s.vm.Alike t.vm → H.size ≤ t.heap.size → (∀ q : Nat, q < H.size → t.heap[q]? = H[q]?) → XC cls s t)
    (hf : ∀ z ∈ locs, free z.base) (hc : cells + 1 ≤ mc) (hs : slots + 6 ≤ ms) :
    W p l e R s m args below meth c H locs cells slots (vx_MQ below Qc XC args s mc ms free) (F0 m pc ls rest) := by
  intro T hT X
  have htr : e.platform.stackTraces = false := (show e.platform.stackTraces = l.stackTraces by rw [X.admits.platform]).trans hl
  have Y := vx_rebase X (R' := { frames := R.frames, locals := R.locals, cells := 1, slots := 6 }) (Nat.le_refl _) (Nat.le_refl _) hRcells hRslots
  obtain ⟨s', hA⟩ : ∃ z, z = (T.setVm s.vm).setFrames (.invoking m args :: below) := ⟨_, rfl⟩
  rw [← hA] at Y
  have hvm : s'.vm = s.vm := by rw [hA]; rfl
  have hhp : s'.heap = H := by rw [hA]; exact hT
  have hW0 : s.WarmedH s'.vm := by rw [hvm]; exact State.WarmedH.refl s
  have hat' : ∀ w ∈ vx_atS own ic cls names, w.before args s' = true := fun w hw => vx_ot_at hW0 hvm.symm (hgood w (List.mem_cons_of_mem _ (List.mem_cons_of_mem _ hw))) (hat w hw)
  have hk' : (Cond.classLink own ik cls).before args s' = true := vx_ot_at hW0 hvm.symm (hgood _ List.mem_cons_self) hk
  have hini' : (Cond.initialized cls).before args s' = true := vx_ot_at hW0 hvm.symm (hgood _ (List.mem_cons_of_mem _ List.mem_cons_self)) hini
  have hU' : vx_Zq Bundle.tN "UNASSIGNED_STACK" Bundle.steD A s' s'.heap := by rw [hhp]; exact vx_Zq.moved hW0.alike (hU.kept hS.2.1)
  have hN' : vx_Zq Bundle.tN "SUPPRESSED_SENTINEL" Bundle.listD A s' s'.heap := by rw [hhp]; exact vx_Zq.moved hW0.alike (hN.kept hS.2.1)
  have h : ∀ w ∈ Bundle.ownAtoms own ic cls names, w.before args s' = true := vx_own hat' (vx_isRefq hU'.1) (vx_isRefq hN'.1) hU'.2.word hN'.2.word
  have hown' : s'.vm.findClass own = some m.cls := by rw [hvm]; exact hown
  have hins : (Cond.instantiable cls 6).before args s' = true := h _ (by simp [Bundle.ownAtoms])
  obtain ⟨vm₁, cX, kX, hfX, hkX, -, -, X₁, st1⟩ := Y.newCold hexec (own := own) (C := cls) (index := ik) (n := 6) hown' hk' hins hini'
    (g := F0 m pc ls rest) rfl (by rw [hb]; exact d0) (Nat.le_refl _) (Nat.le_refl _)
  generalize hT1 : (T.setVm vm₁).pushCell { cls := cX, slots := kX.instanceTypes.map defaultValue, vm := .none } = T1 at X₁ st1
  have hcat : (Value.ref T.heap.size).category = 1 := rfl
  have hcellA : T1.heap[T.heap.size]? = some (freshCell cX kX) := by rw [← hT1]; exact State.heap_pushCell_size _ _
  have d3' : decode c.code (pc + 3) = .ok (.dup, 1) := by rw [hb]; exact d3
  have d4' : decode c.code (pc + 4) = .ok (.ldc_w is, 3) := by rw [hb]; exact d4
  have hstr' : vk_R own is text sa s' := vk_R.warm hW0 hstr
  obtain ⟨U, hsteps, hrun, hend, hW, hsame, ce, hce, hO⟩ := X₁.ctorThrowS hexec htr (own := own) (cls := cls) (names := names) (ic := ic) hown' hcls hnames h (fun x hx => nomatch hx) hfX hkX hcellA (by rw [hhp, hT]; exact Nat.le_refl _) (msg := .ref sa) rfl
    (g := { method := m, pc := pc + 7, locals := ls, stack := .ref sa :: .ref T.heap.size :: .ref T.heap.size :: rest, locked := none }) rfl hsize rfl rfl (rest := rest) rfl
    (by rw [hb]; exact d7) (by rw [hb]; exact d10) hout hRframes (by simp only [List.map_cons, List.sum_cons, hcat]; omega) hlocks
  obtain ⟨f1, f2⟩ := vx_frame hsame
  rw [hhp] at f1 f2
  have hWs : s.WarmedH U.vm := State.WarmedH.trans hW0 hW
  have hcl : s.vm.findClass cls = some ce.cls := by
    have h9 := hO.cls
    rw [hvm] at h9
    exact h9
  have hall : s.sameButNew ({ U with vm := s.vm } : State) locs mc ms := by
    subst hA
    obtain ⟨e1, e2⟩ := hsame
    rw [State.setFrames_setFrames] at e1
    have h2 : (T.setVm s.vm).sameButNew ({ U with vm := s.vm } : State) [] (0 + 1) (0 + 6) := ⟨e1, e2⟩
    have h3 := X.same.trans h2
    rw [List.append_nil] at h3
    exact h3.mono hc hs
  refine ⟨U, ?_, .threw T.heap.size, hrun, hend, Or.inr ⟨T.heap.size, rfl, cls, ce, locs, hx U hWs.alike f1 (fun q hq => f2 q hq (fun z hz => nomatch hz)), hce, hO.vm, hcl, hWs, hall, hf⟩⟩
  refine st1 _ ?_
  show Steps p.tables e below (T1.setTop { method := m, pc := pc + 3, locals := ls, stack := .ref T.heap.size :: rest, locked := none }) _
  jvm_step X₁.here [X₁.here.top, hexec, d3', Value.category]
  exact X₁.ldcStringW hexec (own := own) (text := text) (index := is) (a := sa) hown' hstr'.1 hstr'.2
    (g := { method := m, pc := pc + 4, locals := ls, stack := .ref T.heap.size :: .ref T.heap.size :: rest, locked := none }) rfl d4' _ hsteps
end Ends
section Bodies
variable {l : Launch}
theorem vx_ofW {y : MethodName} {ws ws' : List Cond} {rm : Room} {Pc : Array Value → State → Prop} {Qc : Array Value → State → Outcome → State → Prop} {XC : String → State → State → Prop} {mc ms : Nat} {free : Addr → Prop} {cc : ByteArray} {maxL : Nat} {ret : Option FieldType}
    (hy : plainName y.cls = true) (hw : ws = Cond.code y cc maxL ret :: ws')
    (body : ∀ p e s m args below meth c s₁, BodyLoose p l y (headSpec ws rm) cc maxL ret e s m args below meth c s₁ → c.maxLocals = maxL → (∀ x ∈ c.exceptionTable.toList, False) → Pc args s →
      W p l e (headSpec ws rm).room s m args below meth c s.heap [] 0 0 (vx_MQ below Qc XC args s mc ms free) (entryFrame m args maxL)) : vx_Met l y ws rm Pc Qc XC mc ms free := by
  refine MetFree.of_bodyS (code := cc) (maxLocals := maxL) (ret := ret) hy ?_ ?_
  · intro args s m h hn
    obtain ⟨meth, c, h1, h2, h3, h4, h5, h6, -, -⟩ := Cond.code_spec hn (atoms_spec (ws := ws) h _ (by rw [hw]; exact List.mem_cons_self))
    exact ⟨meth, c, h1, h2, h3, h4, h5, h6⟩
  · intro p e s m args below meth c s₁ B hml hP _
    have hh0 : s₁.heap = s.heap := by rw [B.state]; rfl
    have ht : ∀ x ∈ c.exceptionTable.toList, False := by
      obtain ⟨meth9, c9, h1, h2, -, -, -, -, h7, -⟩ := Cond.code_spec B.named (atoms_spec (ws := ws) B.pre _ (by rw [hw]; exact List.mem_cons_self))
      cases Option.some.inj (h1.symm.trans B.method)
      cases Option.some.inj (h2.symm.trans (Stand.of_body B).code)
      intro x hx
      rw [Array.isEmpty_iff.mp h7] at hx
      cases hx
    obtain ⟨t, a1, o, b1, b2, b3⟩ := body p e s m args below meth c s₁ B hml ht hP s₁ hh0 (Stand.of_body B)
    exact ⟨t, o, a1, b1, b2, b3⟩
/-- the table of a body with handlers -/
theorem vx_table {p : Program} {x y : MethodName} {S : Spec} {cc bytes : ByteArray} {maxL maxL' : Nat} {ret ret' : Option FieldType} {e : Env} {s s₁ : State} {m : MethodId} {args : Array Value} {below : List Frame} {meth : Method} {c : Code} {hh : List (Nat × Nat × Nat × Nat)}
    (B : BodyLoose p l y S cc maxL ret e s m args below meth c s₁) (h : (Cond.codeWith y bytes maxL' ret' hh).before args s = true) : c.exceptionTable.toList = tableOf hh := by
  obtain ⟨m9, meth9, c9, hn9, h1, h2, -, -, h6, -⟩ := Cond.codeWith_spec h
  cases Option.some.inj (hn9.symm.trans B.named)
  cases Option.some.inj (h1.symm.trans B.method)
  cases Option.some.inj (h2.symm.trans (Stand.of_body B).code)
  rw [← h6, table_eq]
end Bodies
end VXA
/-! ===== END ===== -/
/-! ===== BEGIN a static call of a method with an exception table ===== -/
section VXS
variable {p : Program} {l : Launch} {e : Env} {R : Room} {s : State} {m : MethodId} {args : Array Value} {below : List Frame} {meth : Method} {c : Code} {T : State} {H : Heap} {locs : List Loc} {cells slots : Nat}
abbrev vx_CSW (R : Room) (s : State) (args : Array Value) (own : String) (index : Nat) (y : MethodName) (bytes : ByteArray) (maxL : Nat) (ret : Option FieldType) (hh : List (Nat × Nat × Nat × Nat)) (ws : List Cond) (rm : Room) (mc ms n : Nat) : Prop :=
  (rm.cells = mc ∧ rm.slots = ms ∧ rm.frames + 1 ≤ R.frames ∧ 8 + (maxL + 11) + rm.locals ≤ R.locals ∧ (∀ w ∈ ws, ∀ (a' : Array Value) (U : State), s.WarmedH U.vm → w.before a' U = true) ∧ Cond.codeWith y bytes maxL ret hh ∈ ws) ∧
  (Cond.codeWith y bytes maxL ret hh).before args s = true ∧ (Cond.initialized y.cls).before args s = true ∧ (y.cls ≠ "java/lang/invoke/MethodHandle" ∧ y.cls ≠ "java/lang/invoke/VarHandle") ∧
  (∀ sig, parseMethodDescriptor y.desc = some sig → n = sig.parameters.length) ∧ (Cond.methodLink own index y).before args s = true ∧ (Cond.static y).before args s = true
theorem vx_cwSW {own : String} {index maxL mc ms : Nat} {y : MethodName} {bytes : ByteArray} {ret : Option FieldType} {hh : List (Nat × Nat × Nat × Nat)} {Ts ws ws' : List Cond} {rm : Room} (n : Nat) (ht : ∀ w ∈ Ts, w.before args s = true) (hT : GoodIn Ts (va_wsS own index y ws)) (hw : ws = Cond.codeWith y bytes maxL ret hh :: ws') (hrc : rm.cells = mc) (hrs : rm.slots = ms)
    (hd : y.cls ≠ "java/lang/invoke/MethodHandle" ∧ y.cls ≠ "java/lang/invoke/VarHandle" ∧ (parseMethodDescriptor y.desc).map (fun d => d.parameters.length) = some n) (hR : rm.frames + 1 ≤ R.frames ∧ 8 + (maxL + 11) + rm.locals ≤ R.locals) :
    vx_CSW R s args own index y bytes maxL ret hh ws rm mc ms n := by
  have ok : ∀ w ∈ va_wsS own index y ws, w.before args s = true := fun w h => ht w (hT w h).1
  have hG : GoodIn Ts ws := fun w h => hT w (by unfold va_wsS; exact List.mem_append_right _ h)
  have hc : Cond.codeWith y bytes maxL ret hh ∈ ws := by rw [hw]; exact List.mem_cons_self
  refine ⟨⟨hrc, hrs, hR.1, hR.2, pay_in ht hG, hc⟩, ht _ (hG _ hc).1, ok _ (by simp [va_wsS]), ⟨hd.1, hd.2.1⟩, fun sig h => ?_, ok _ (by simp [va_wsS]), ok _ (by simp [va_wsS])⟩
  have h2 := hd.2.2
  rw [h] at h2
  exact (Option.some.inj h2).symm
theorem vx_callSW (X : Stand p l e R s m args below meth c T locs cells slots) (hexec : p.tables.exec = Jvm.exec) {own : String} {index : Nat} {y : MethodName} {bytes : ByteArray} {maxL : Nat} {ret : Option FieldType} {hh : List (Nat × Nat × Nat × Nat)}
    (hown : s.vm.findClass own = some m.cls) (hlink : (Cond.methodLink own index y).before args s = true) (hstat : (Cond.static y).before args s = true) (hinit : (Cond.initialized y.cls).before args s = true)
    (hcode : (Cond.codeWith y bytes maxL ret hh).before args s = true) (hy : y.cls ≠ "java/lang/invoke/MethodHandle" ∧ y.cls ≠ "java/lang/invoke/VarHandle")
    {W9 : Nat} {Pre : Pt → Array Value → Prop} {Post : Pt → Array Value → Option Value → Pt → Prop} (hK : Back l R p e below s args y 3 W9 Pre Post)
    {g : JFrame} (hg : g.method = m) (hsize : g.locals.size = c.maxLocals) {argsL rest : List Value} (hlen : ∀ sig, parseMethodDescriptor y.desc = some sig → argsL.length = sig.parameters.length)
    (hstack : g.stack = argsL.reverse ++ rest) (hW : 2 * g.monitorRoom + (rest.map fun v => v.category).sum ≤ W9) (hdg : decode c.code g.pc = .ok (.invokestatic index, 3))
    (hpre : ∀ vm₁, s.WarmedH vm₁ → Pre ⟨T.setVm vm₁, locs, cells, slots⟩ argsL.toArray) :
    ∃ (v : Option Value) (vm₁ : Vm) (B : Pt), s.WarmedH vm₁ ∧ Stand p l e R s m args below meth c B.U B.locs B.cells B.slots ∧ Post ⟨T.setVm vm₁, locs, cells, slots⟩ argsL.toArray v B ∧
      ∀ target, Steps p.tables e below (B.U.setTop { g with pc := g.pc + 3, stack := v.toList ++ rest }) target → Steps p.tables e below (T.setTop g) target := by
  obtain ⟨mk, methM, cM, hnamed, hmethM, -, -, -, -, -, -, hsigM⟩ := Cond.codeWith_spec hcode
  have hstatic : methM.isStatic = true := Cond.static_spec hnamed hmethM hstat
  obtain ⟨kP, hkP, -⟩ := className_of_methodNamed hnamed
  have hinitP : kP.init = .initialized := Cond.initialized_spec (findClass_of_methodNamed hnamed) hkP hinit
  obtain ⟨vm₁, X₁, hstep₁⟩ := X.invokestatic hexec hown hlink hnamed hmethM hstatic hkP hinitP hy (g := g) hg (argsL := argsL) (rest := rest) (hlen _ hsigM) hstack hdg
  obtain ⟨v, B, X', hpost, hsteps⟩ := hK m meth c ⟨T.setVm vm₁, locs, cells, slots⟩ { g with stack := rest } (.invokestatic index) mk argsL.toArray X₁ hg hsize hdg hW (X₁.named hnamed) (hpre vm₁ X₁.warmed)
  exact ⟨v, vm₁, B, X₁.warmed, X', hpost, fun target h => hstep₁ _ fun acts => by rw [doInvoke_state]; exact hsteps.trans h⟩
theorem vx_runSW {y : MethodName} {bytes cc : ByteArray} {maxL nL mc ms n index : Nat} {ret : Option FieldType} {hh : List (Nat × Nat × Nat × Nat)} {ws : List Cond} {rm : Room} {Pc : Array Value → State → Prop} {Qc : Array Value → State → Outcome → State → Prop} {free : Addr → Prop} {Ts : List Cond} {own : String} {As rest : List Value} {g : JFrame}
    (S : CallFix p m c cc nL s args Ts own) (hM : Met l y ws rm Pc Qc mc ms free) (cw : vx_CSW R s args own index y bytes maxL ret hh ws rm mc ms n) (hp : PreS s H Pc As)
    (hg : g.method = m) (hn : As.length = n) (hsize : g.locals.size = nL) (hstack : g.stack = As.reverse ++ rest) (hW : 2 * g.monitorRoom + (rest.map fun v => v.category).sum ≤ 8) (hdg : decode cc g.pc = .ok (.invokestatic index, 3)) (hf : cells + mc ≤ R.cells ∧ slots + ms ≤ R.slots) :
    va_Run p l e R s m args below meth c H locs cells slots mc ms g rest (Qc As.toArray) (free) := by
  obtain ⟨⟨hrc, hrs, hfr, hlo, hws, hcw⟩, hcode, hini, hy, hlen, hl, hstt⟩ := cw
  have hK : Back l R p e below s args y 3 8 (PreOf R mc ms Pc) (PostOf Qc mc ms free) := va_backW (hh := hh) (bytes := bytes) (maxL := maxL) (ret := ret) hM hp.1 hrc hrs hfr hlo hws hcw (fun a' U hW => word_at hW (Or.inl (by first | rfl | simp [Cond.onTables, Cond.keeps, Cond.steady])) hini)
  obtain ⟨hx, hb, hml, ho, -⟩ := S
  intro T hT X
  obtain ⟨v, vm₁, ⟨U', l2, c2, s2⟩, hW₁, X', ⟨g', mk, t, L, e1, e2, hq, h1, hL, h2, h3⟩, st⟩ := vx_callSW X hx (hh := hh) (bytes := bytes) (maxL := maxL) (ret := ret) ho hl hstt hini hcode hy hK hg (hsize.trans hml.symm) (argsL := As) (rest := rest) (fun sig h => hn.trans (hlen sig h)) hstack hW (by rw [hb]; exact hdg)
    (fun vm₁ hW₁ => ⟨hf.1, hf.2, hp.2 (T.setVm vm₁) hT hW₁⟩)
  dsimp only [Pt.U, Pt.locs, Pt.cells, Pt.slots] at X' e1 e2 h1 h2 h3 st
  subst h1; subst h2; subst h3
  exact ⟨v, (T.setVm vm₁).calling g' mk As.toArray, t, U', L, hT, X', hL, e1, e2, hq, st⟩
/-- not caught here, past rows that name other classes: it goes on to the caller -/
theorem vx_outP {p : Program} {l : Launch} {e : Env} {R : Room} {s : State} {m : MethodId} {args : Array Value} {below : List Frame} {meth : Method} {c : Code} {H : Heap} {locs : List Loc} {cells slots : Nat} {free : Addr → Prop} {ls : Array Slot} {rest : List Value} {Qc : Array Value → State → Outcome → State → Prop} {XC : String → State → State → Prop}
    {pc : Nat} {own E : String} {ce : Cell} {q : Addr} {mc ms : Nat} (hown : s.vm.findClass own = some m.cls) (hlocks : meth.locks = false)
    (hpass : ∀ z ∈ c.exceptionTable.toList, covers z pc = false ∨ (z.catchType ≠ 0 ∧ ∃ nm : String, (Cond.classLink own z.catchType nm).before args s = true ∧ va_Nc E nm s)) (hcell : H[q]? = some ce) (hv : ce.vm = .none) (hcl : s.vm.findClass E = some ce.cls)
    (hx : ∀ t : State, t.heap = H → s.vm.Alike t.vm → XC E s t) (hf : ∀ z ∈ locs, free z.base) (hc : cells ≤ mc) (hs : slots ≤ ms) :
    vx_W p l e R s m args below meth c H locs cells slots (vx_MQ below Qc XC args s mc ms free) (F0 m pc ls rest) q := by
  intro T hT X
  have hpl : e.platform.magicAccessors = ({} : Platform).magicAccessors := by rw [X.admits.platform]
  obtain ⟨vm', hW', X', st⟩ := X.outThrough hlocks q (g := F0 m pc ls rest) rfl rfl rfl (cell := ce) (by rw [hT]; exact hcell) (by rw [hv]; rfl)
    (by obtain ⟨k9, h9, -⟩ := Vm.findClass_spec hcl; exact ⟨k9, h9⟩) (fun z hz => by
      rcases hpass z hz with h | ⟨hz0, nm, hl1, hn1⟩
      · exact Or.inl h
      · obtain ⟨c6, hc6, hcl6⟩ := Cond.classLink_spec hown hl1 e.platform hpl
        obtain ⟨a8, b8, h1, h2, h3⟩ := hn1
        cases Option.some.inj (h1.symm.trans hcl)
        cases Option.some.inj (h2.symm.trans hc6)
        exact Or.inr ⟨hz0, _, hcl6, h3⟩)
  obtain ⟨g₀, hfr⟩ := X'.frames_eq
  have hcell9 : ((T.setVm vm').setFrames (.throwing q :: below)).heap[q]? = some ce := by
    show T.heap[q]? = some ce
    rw [hT]; exact hcell
  have hend : Ended ((T.setVm vm').setFrames (.throwing q :: below)) below (.threw q) := State.frames_setFrames _ (State.cur_lt_of_frames hfr)
  refine ⟨(T.setVm vm').setFrames (.throwing q :: below), ?_, .threw q, X'.here.running, hend, Or.inr ⟨q, rfl, E, ce, locs, hx _ hT (X'.ends _).1.alike, hcell9, hv, hcl, (X'.ends _).1, (X'.ends _).2.mono hc hs, hf⟩⟩
  rw [X.pushThrowing_eq]
  exact st
/-- a thing of a world lies in the heap -/
theorem vx_lt {D : va_G} {cl : List vw_C} {ws : va_W} {H1 : Heap} (h : va_P D cl ws H1) {k : Nat} {q : Nat × va_E} (hk : ws[k]? = some q) : q.1 < H1.size := (h k q hk).lt
end VXS
/-! ===== END ===== -/
/-! ===== BEGIN methods with a table of their own: called by a name, returning or throwing ===== -/
section VXH
/-! vx_backW, vx_callVX, vx_callSX, vx_callVW, vx_runVW, vx_runVX, vx_runSX, vx_ofWH follow the same proofs as their sisters above (Free/Laws.lean, Shelf42/LK1.lean); vx_outP calls Shelf42/NT130.lean (outThrough). -/
section
variable {l : Launch} {R : Room} {p : Program} {e : Env} {below : List Frame} {s : State} {sargs : Array Value} {y : MethodName} {len W9 : Nat}
theorem vx_backW {ws : List Cond} {rm : Room} {Pc : Array Value → State → Prop} {Qc : Array Value → State → Outcome → State → Prop} {XC : String → State → State → Prop} {mc ms : Nat} {free : Addr → Prop} {bytes : ByteArray} {maxL : Nat} {ret : Option FieldType} {hh : List (Nat × Nat × Nat × Nat)}
    (hM : vx_Met l y ws rm Pc Qc XC mc ms free) (hblind : FrameBlind Pc) (hrc : rm.cells = mc) (hrs : rm.slots = ms)
    (hframes : rm.frames + 1 ≤ R.frames) (hlocals : W9 + (maxL + 11) + rm.locals ≤ R.locals)
    (hws : ∀ w ∈ ws, ∀ a' U, s.WarmedH U.vm → w.before a' U = true) (hcode : Cond.codeWith y bytes maxL ret hh ∈ ws) (hinit : ∀ a' U, s.WarmedH U.vm → (Cond.initialized y.cls).before a' U = true) :
    vx_Back l R p e below s sargs y len W9 (PreOf R mc ms Pc) (PostOf Qc mc ms free) (vx_Post XC mc ms free) := by
  intro m meth c A g ig mk a X hg hsize hdg hW hn hp
  have h1 : (headSpec ws rm).pre.before a A.U = true := atoms_intro fun w hw => hws w hw _ _ X.warmed
  have h2 : (Cond.codeWith y bytes maxL ret hh).before a A.U = true := hws _ hcode _ _ X.warmed
  have h3 : (Cond.initialized y.cls).before a A.U = true := hinit _ _ X.warmed
  have h4 : A.cells + (headSpec ws rm).room.cells ≤ R.cells := by rw [show (headSpec ws rm).room.cells = mc from hrc]; exact hp.1
  have h5 : A.slots + (headSpec ws rm).room.slots ≤ R.slots := by rw [show (headSpec ws rm).room.slots = ms from hrs]; exact hp.2.1
  have hPc : Pc a (A.U.calling g mk a) := hblind _ _ _ _ hp.2.2
  obtain ⟨U, Ls, c0, s0⟩ := A
  dsimp only [Pt.U, Pt.locs, Pt.cells, Pt.slots] at h1 h2 h3 h4 h5 X hn hPc ⊢
  obtain ⟨m9, methY, cY, hn9, hmY, hcY, -, hlY, -⟩ := Cond.codeWith_spec h2
  cases Option.some.inj (hn9.symm.trans hn)
  obtain ⟨kY, hkY, -⟩ := className_of_methodNamed hn
  have hinitY : kY.init = .initialized := Cond.initialized_spec (findClass_of_methodNamed hn) hkY h3
  have h : At U g.method c below := by rw [hg]; exact X.here
  have hlocals9 : W9 + (maxL + 11) + (headSpec ws rm).room.locals ≤ R.locals := hlocals
  have happ : (headSpec ws rm).appliesLoose y e.platform (U.calling g mk a) = true :=
    Spec.appliesLoose_calling (g := g) h hdg hn hkY hinitY
      (X.room_calling (g := g) (R' := (headSpec ws rm).room) hsize hmY hcY hframes (by rw [hlY]; omega) h4 h5) h1
  obtain ⟨mid, hmid⟩ := h.above
  have hfr : (U.setTop g).frames = (.java g :: mid) ++ below := by rw [State.frames_setTop' g h.top, hmid]; rfl
  obtain ⟨o, s₂, hsteps, -, hend, hq⟩ := Steps.callFree hM p X.admits X.cas X.clock (acts := []) hfr happ hPc trivial
  have hq' : vx_Q Qc XC mc ms free a (U.calling g mk a) o s₂ := hq
  rw [State.frames_setTop' g h.top] at hend
  obtain ⟨g₀, hg0⟩ := Option.isSome_iff_exists.mp h.top
  obtain ⟨r, hr⟩ := State.topJava?_eq_some.mp hg0
  have hr' : (({ U with heap := s₂.heap, slotsUsed := s₂.slotsUsed } : State).setVm s₂.vm).frames = .java g₀ :: r := hr
  rcases hq' with ⟨hqc, L, hfe, hL⟩ | ⟨q, rfl, E, ce, L, hx, hce, hcv, hcl, hW₂, hsm, hL⟩
  · obtain ⟨⟨v, rfl⟩, hW₂, e2, q2, q3, q4, q5, q6⟩ := id hfe
    have e3 : s₂ = ({ (U.calling g mk a).setFrames s₂.frames with heap := s₂.heap, slotsUsed := s₂.slotsUsed } : State).setVm s₂.vm := by
      have : s₂ = ({ s₂ with vm := (U.calling g mk a).vm } : State).setVm s₂.vm := rfl
      rw [e2] at this
      exact this
    obtain ⟨c₂, i₂, len₂, hc₂, hd₂, hf₂⟩ := hend
    have hW' : U.WarmedH s₂.vm := hW₂
    have hcc : c₂ = c := by
      have h1 : s₂.code? g.method = U.code? g.method := by
        rw [State.code?_eq, State.code?_eq, hW'.alike.method?]
      exact Option.some.inj (hc₂.symm.trans (h1.trans h.code))
    subst hcc
    have hlen : len₂ = len := by rw [hdg] at hd₂; cases hd₂; rfl
    subst hlen
    have hs₂ : s₂ = (({ U with heap := s₂.heap, slotsUsed := s₂.slotsUsed } : State).setVm s₂.vm).setTop { g with pc := g.pc + len₂, stack := v.toList ++ g.stack } := by
      refine e3.trans ?_
      rw [hf₂, State.calling_eq h.top, State.setFrames_setFrames, State.setTop_of_frames _ hr', hr]
      rfl
    have hsame : U.sameButNew ({ U with heap := s₂.heap, slotsUsed := s₂.slotsUsed } : State) L mc ms := by
      refine ⟨?_, q2, q3, q4, q5, q6⟩
      obtain ⟨t, ht, -⟩ := State.frames_cons hr
      show ({ U with heap := s₂.heap, slotsUsed := s₂.slotsUsed } : State) = { U.setFrames U.frames with heap := s₂.heap, slotsUsed := s₂.slotsUsed }
      rw [State.setFrames_self ht]
    subst hg
    refine Or.inl ⟨v, ⟨(({ U with heap := s₂.heap, slotsUsed := s₂.slotsUsed } : State).setVm s₂.vm), Ls ++ L, c0 + mc, s0 + ms⟩,
      ⟨X.admits, X.cas, X.clock, X.frames, X.room, X.hears, X.method, X.code, (X.here.setHeapUsed s₂.heap s₂.slotsUsed).setVm hW'.alike, X.tail, State.WarmedH.trans X.warmed hW', X.limits, X.bytes, X.same.trans (hsame.setVm s.vm)⟩,
      ⟨g, mk, s₂, L, rfl, rfl, hqc, rfl, hL, rfl, rfl⟩, ?_⟩
    show Steps p.tables e below _ ((({ U with heap := s₂.heap, slotsUsed := s₂.slotsUsed } : State).setVm s₂.vm).setTop { g with pc := g.pc + len₂, stack := v.toList ++ g.stack })
    rw [← hs₂]
    exact hsteps
  · obtain ⟨e2, q2, q3, q4, q5, q6⟩ := id hsm
    have e3 : s₂ = ({ (U.calling g mk a).setFrames s₂.frames with heap := s₂.heap, slotsUsed := s₂.slotsUsed } : State).setVm s₂.vm := by
      have : s₂ = ({ s₂ with vm := (U.calling g mk a).vm } : State).setVm s₂.vm := rfl
      rw [e2] at this
      exact this
    have hf₂ : s₂.frames = .throwing q :: .java g :: U.frames.tail := hend
    have hW' : U.WarmedH s₂.vm := hW₂
    have hs₂ : s₂ = ((({ U with heap := s₂.heap, slotsUsed := s₂.slotsUsed } : State).setVm s₂.vm).setTop g).pushFrame (.throwing q) := by
      refine e3.trans ?_
      rw [hf₂, State.calling_eq h.top, State.setFrames_setFrames, State.pushFrame, State.frames_setTop _ hr', State.setTop_of_frames _ hr', State.setFrames_setFrames, hr]
      rfl
    have hsame : U.sameButNew ({ U with heap := s₂.heap, slotsUsed := s₂.slotsUsed } : State) L mc ms := by
      refine ⟨?_, q2, q3, q4, q5, q6⟩
      obtain ⟨t, ht, -⟩ := State.frames_cons hr
      show ({ U with heap := s₂.heap, slotsUsed := s₂.slotsUsed } : State) = { U.setFrames U.frames with heap := s₂.heap, slotsUsed := s₂.slotsUsed }
      rw [State.setFrames_self ht]
    subst hg
    refine Or.inr ⟨q, ⟨(({ U with heap := s₂.heap, slotsUsed := s₂.slotsUsed } : State).setVm s₂.vm), Ls ++ L, c0 + mc, s0 + ms⟩,
      ⟨X.admits, X.cas, X.clock, X.frames, X.room, X.hears, X.method, X.code, (X.here.setHeapUsed s₂.heap s₂.slotsUsed).setVm hW'.alike, X.tail, State.WarmedH.trans X.warmed hW', X.limits, X.bytes, X.same.trans (hsame.setVm s.vm)⟩,
      ⟨g, mk, s₂, L, E, ce, rfl, rfl, hx, hce, hcv, hcl, rfl, hL, rfl, rfl⟩, ?_⟩
    show Steps p.tables e below _ (((({ U with heap := s₂.heap, slotsUsed := s₂.slotsUsed } : State).setVm s₂.vm).setTop g).pushFrame (.throwing q))
    rw [← hs₂]
    exact hsteps
end
variable {p : Program} {l : Launch} {e : Env} {R : Room} {s : State} {m : MethodId} {args : Array Value} {below : List Frame} {meth : Method} {c : Code} {T : State} {H : Heap} {locs : List Loc} {cells slots : Nat}
theorem vx_callVX (X : Stand p l e R s m args below meth c T locs cells slots) (hexec : p.tables.exec = Jvm.exec) {own C : String} {index : Nat} {y : MethodName} {bytes : ByteArray} {maxL : Nat} {ret : Option FieldType} {hh : List (Nat × Nat × Nat × Nat)}
    (hown : s.vm.findClass own = some m.cls) (hlink : (Cond.methodLink own index y).before args s = true) (hinst : (Cond.instanceMethod y).before args s = true) (hsel : (Cond.selects C y y).before args s = true)
    (hcode : (Cond.codeWith y bytes maxL ret hh).before args s = true) (hy : y.cls ≠ "java/lang/invoke/MethodHandle" ∧ y.cls ≠ "java/lang/invoke/VarHandle")
    {W9 : Nat} {Pre : Pt → Array Value → Prop} {Post : Pt → Array Value → Option Value → Pt → Prop} {PostX : Pt → Array Value → Addr → Pt → Prop} (hK : vx_Back l R p e below s args y 3 W9 Pre Post PostX)
    {b : Addr} {cellB : Cell} (hcell : T.heap[b]? = some cellB) (hobj : cellB.vm.isStatics = false) (hcls : s.vm.findClass C = some cellB.cls)
    {g : JFrame} (hg : g.method = m) (hsize : g.locals.size = c.maxLocals) {argsL rest : List Value} (hlen : ∀ sig, parseMethodDescriptor y.desc = some sig → argsL.length = sig.parameters.length)
    (hstack : g.stack = argsL.reverse ++ .ref b :: rest) (hW : 2 * g.monitorRoom + (rest.map fun v => v.category).sum ≤ W9) (hdg : decode c.code g.pc = .ok (.invokevirtual index, 3))
    (hpre : ∀ vm₁, s.WarmedH vm₁ → Pre ⟨T.setVm vm₁, locs, cells, slots⟩ (Value.ref b :: argsL).toArray) :
    (∃ (v : Option Value) (vm₁ : Vm) (B : Pt), s.WarmedH vm₁ ∧ Stand p l e R s m args below meth c B.U B.locs B.cells B.slots ∧ Post ⟨T.setVm vm₁, locs, cells, slots⟩ (Value.ref b :: argsL).toArray v B ∧
      ∀ target, Steps p.tables e below (B.U.setTop { g with pc := g.pc + 3, stack := v.toList ++ rest }) target → Steps p.tables e below (T.setTop g) target) ∨
    (∃ (q : Addr) (vm₁ : Vm) (B : Pt), s.WarmedH vm₁ ∧ Stand p l e R s m args below meth c B.U B.locs B.cells B.slots ∧ PostX ⟨T.setVm vm₁, locs, cells, slots⟩ (Value.ref b :: argsL).toArray q B ∧
      Steps p.tables e below (T.setTop g) ((B.U.setTop { g with stack := rest }).pushFrame (.throwing q))) := by
  obtain ⟨mk, methM, hnamed, hmethM, hstM, habM⟩ := Cond.instanceMethod_spec hinst
  obtain ⟨m8, methM', cM, hn8, hmethM', -, -, -, -, -, -, hsigM⟩ := Cond.codeWith_spec hcode
  cases Option.some.inj (hn8.symm.trans hnamed)
  cases hmethM.symm.trans hmethM'
  obtain ⟨c2, r2, m2, q1, q2, q3, q4, kP, hkP, hkPi⟩ := Cond.selects_spec hsel
  cases hcls.symm.trans q1
  cases (State.methodFound?_of_named hnamed hy).symm.trans q2
  cases hnamed.symm.trans q3
  have hselP : selectMethod e.platform s.vm cellB.cls mk = .method mk := by rw [Launch.admits_selectMethod X.admits]; exact q4
  obtain ⟨vm₁, X₁, hstep₁⟩ := X.invokevirtual hexec hown hlink hnamed hmethM hstM hkP hkPi hy (a := b) (cell := cellB) hcell
    (fun z h => by rw [h] at hobj; cases hobj) hselP hmethM habM hkP hkPi (g := g) hg (argsL := argsL) (rest := rest) (hlen _ hsigM) hstack hdg
  rcases hK m meth c ⟨T.setVm vm₁, locs, cells, slots⟩ { g with stack := rest } (.invokevirtual index) mk (Value.ref b :: argsL).toArray X₁ hg hsize hdg hW (X₁.named hnamed) (hpre vm₁ X₁.warmed) with ⟨v, B, X', hpost, hsteps⟩ | ⟨q, B, X', hpost, hsteps⟩
  · exact Or.inl ⟨v, vm₁, B, X₁.warmed, X', hpost, fun target h => hstep₁ _ fun acts => by rw [doInvoke_state]; exact hsteps.trans h⟩
  · exact Or.inr ⟨q, vm₁, B, X₁.warmed, X', hpost, hstep₁ _ fun acts => by rw [doInvoke_state]; exact hsteps⟩
theorem vx_callSX (X : Stand p l e R s m args below meth c T locs cells slots) (hexec : p.tables.exec = Jvm.exec) {own : String} {index : Nat} {y : MethodName} {bytes : ByteArray} {maxL : Nat} {ret : Option FieldType} {hh : List (Nat × Nat × Nat × Nat)}
    (hown : s.vm.findClass own = some m.cls) (hlink : (Cond.methodLink own index y).before args s = true) (hstat : (Cond.static y).before args s = true) (hinit : (Cond.initialized y.cls).before args s = true)
    (hcode : (Cond.codeWith y bytes maxL ret hh).before args s = true) (hy : y.cls ≠ "java/lang/invoke/MethodHandle" ∧ y.cls ≠ "java/lang/invoke/VarHandle")
    {W9 : Nat} {Pre : Pt → Array Value → Prop} {Post : Pt → Array Value → Option Value → Pt → Prop} {PostX : Pt → Array Value → Addr → Pt → Prop} (hK : vx_Back l R p e below s args y 3 W9 Pre Post PostX)
    {g : JFrame} (hg : g.method = m) (hsize : g.locals.size = c.maxLocals) {argsL rest : List Value} (hlen : ∀ sig, parseMethodDescriptor y.desc = some sig → argsL.length = sig.parameters.length)
    (hstack : g.stack = argsL.reverse ++ rest) (hW : 2 * g.monitorRoom + (rest.map fun v => v.category).sum ≤ W9) (hdg : decode c.code g.pc = .ok (.invokestatic index, 3))
    (hpre : ∀ vm₁, s.WarmedH vm₁ → Pre ⟨T.setVm vm₁, locs, cells, slots⟩ argsL.toArray) :
    (∃ (v : Option Value) (vm₁ : Vm) (B : Pt), s.WarmedH vm₁ ∧ Stand p l e R s m args below meth c B.U B.locs B.cells B.slots ∧ Post ⟨T.setVm vm₁, locs, cells, slots⟩ argsL.toArray v B ∧
      ∀ target, Steps p.tables e below (B.U.setTop { g with pc := g.pc + 3, stack := v.toList ++ rest }) target → Steps p.tables e below (T.setTop g) target) ∨
    (∃ (q : Addr) (vm₁ : Vm) (B : Pt), s.WarmedH vm₁ ∧ Stand p l e R s m args below meth c B.U B.locs B.cells B.slots ∧ PostX ⟨T.setVm vm₁, locs, cells, slots⟩ argsL.toArray q B ∧
      Steps p.tables e below (T.setTop g) ((B.U.setTop { g with stack := rest }).pushFrame (.throwing q))) := by
  obtain ⟨mk, methM, cM, hnamed, hmethM, -, -, -, -, -, -, hsigM⟩ := Cond.codeWith_spec hcode
  have hstatic : methM.isStatic = true := Cond.static_spec hnamed hmethM hstat
  obtain ⟨kP, hkP, -⟩ := className_of_methodNamed hnamed
  have hinitP : kP.init = .initialized := Cond.initialized_spec (findClass_of_methodNamed hnamed) hkP hinit
  obtain ⟨vm₁, X₁, hstep₁⟩ := X.invokestatic hexec hown hlink hnamed hmethM hstatic hkP hinitP hy (g := g) hg (argsL := argsL) (rest := rest) (hlen _ hsigM) hstack hdg
  rcases hK m meth c ⟨T.setVm vm₁, locs, cells, slots⟩ { g with stack := rest } (.invokestatic index) mk argsL.toArray X₁ hg hsize hdg hW (X₁.named hnamed) (hpre vm₁ X₁.warmed) with ⟨v, B, X', hpost, hsteps⟩ | ⟨q, B, X', hpost, hsteps⟩
  · exact Or.inl ⟨v, vm₁, B, X₁.warmed, X', hpost, fun target h => hstep₁ _ fun acts => by rw [doInvoke_state]; exact hsteps.trans h⟩
  · exact Or.inr ⟨q, vm₁, B, X₁.warmed, X', hpost, hstep₁ _ fun acts => by rw [doInvoke_state]; exact hsteps⟩
theorem vx_callVW (X : Stand p l e R s m args below meth c T locs cells slots) (hexec : p.tables.exec = Jvm.exec) {own C : String} {index : Nat} {y : MethodName} {bytes : ByteArray} {maxL : Nat} {ret : Option FieldType} {hh : List (Nat × Nat × Nat × Nat)}
    (hown : s.vm.findClass own = some m.cls) (hlink : (Cond.methodLink own index y).before args s = true) (hinst : (Cond.instanceMethod y).before args s = true) (hsel : (Cond.selects C y y).before args s = true)
    (hcode : (Cond.codeWith y bytes maxL ret hh).before args s = true) (hy : y.cls ≠ "java/lang/invoke/MethodHandle" ∧ y.cls ≠ "java/lang/invoke/VarHandle")
    {W9 : Nat} {Pre : Pt → Array Value → Prop} {Post : Pt → Array Value → Option Value → Pt → Prop} (hK : Back l R p e below s args y 3 W9 Pre Post)
    {b : Addr} {cellB : Cell} (hcell : T.heap[b]? = some cellB) (hobj : cellB.vm.isStatics = false) (hcls : s.vm.findClass C = some cellB.cls)
    {g : JFrame} (hg : g.method = m) (hsize : g.locals.size = c.maxLocals) {argsL rest : List Value} (hlen : ∀ sig, parseMethodDescriptor y.desc = some sig → argsL.length = sig.parameters.length)
    (hstack : g.stack = argsL.reverse ++ .ref b :: rest) (hW : 2 * g.monitorRoom + (rest.map fun v => v.category).sum ≤ W9) (hdg : decode c.code g.pc = .ok (.invokevirtual index, 3))
    (hpre : ∀ vm₁, s.WarmedH vm₁ → Pre ⟨T.setVm vm₁, locs, cells, slots⟩ (Value.ref b :: argsL).toArray) :
    ∃ (v : Option Value) (vm₁ : Vm) (B : Pt), s.WarmedH vm₁ ∧ Stand p l e R s m args below meth c B.U B.locs B.cells B.slots ∧ Post ⟨T.setVm vm₁, locs, cells, slots⟩ (Value.ref b :: argsL).toArray v B ∧
      ∀ target, Steps p.tables e below (B.U.setTop { g with pc := g.pc + 3, stack := v.toList ++ rest }) target → Steps p.tables e below (T.setTop g) target := by
  obtain ⟨mk, methM, hnamed, hmethM, hstM, habM⟩ := Cond.instanceMethod_spec hinst
  obtain ⟨m8, methM', cM, hn8, hmethM', -, -, -, -, -, -, hsigM⟩ := Cond.codeWith_spec hcode
  cases Option.some.inj (hn8.symm.trans hnamed)
  cases hmethM.symm.trans hmethM'
  obtain ⟨c2, r2, m2, q1, q2, q3, q4, kP, hkP, hkPi⟩ := Cond.selects_spec hsel
  cases hcls.symm.trans q1
  cases (State.methodFound?_of_named hnamed hy).symm.trans q2
  cases hnamed.symm.trans q3
  have hselP : selectMethod e.platform s.vm cellB.cls mk = .method mk := by rw [Launch.admits_selectMethod X.admits]; exact q4
  obtain ⟨vm₁, X₁, hstep₁⟩ := X.invokevirtual hexec hown hlink hnamed hmethM hstM hkP hkPi hy (a := b) (cell := cellB) hcell
    (fun z h => by rw [h] at hobj; cases hobj) hselP hmethM habM hkP hkPi (g := g) hg (argsL := argsL) (rest := rest) (hlen _ hsigM) hstack hdg
  obtain ⟨v, B, X', hpost, hsteps⟩ := hK m meth c ⟨T.setVm vm₁, locs, cells, slots⟩ { g with stack := rest } (.invokevirtual index) mk (Value.ref b :: argsL).toArray X₁ hg hsize hdg hW (X₁.named hnamed) (hpre vm₁ X₁.warmed)
  exact ⟨v, vm₁, B, X₁.warmed, X', hpost, fun target h => hstep₁ _ fun acts => by rw [doInvoke_state]; exact hsteps.trans h⟩
abbrev vx_CVW (R : Room) (s : State) (args : Array Value) (own C : String) (index : Nat) (y : MethodName) (bytes : ByteArray) (maxL : Nat) (ret : Option FieldType) (hh : List (Nat × Nat × Nat × Nat)) (ws : List Cond) (rm : Room) (mc ms n : Nat) : Prop :=
  (rm.cells = mc ∧ rm.slots = ms ∧ rm.frames + 1 ≤ R.frames ∧ 8 + (maxL + 11) + rm.locals ≤ R.locals ∧ (∀ w ∈ ws, ∀ (a' : Array Value) (U : State), s.WarmedH U.vm → w.before a' U = true) ∧ Cond.codeWith y bytes maxL ret hh ∈ ws) ∧
  (Cond.codeWith y bytes maxL ret hh).before args s = true ∧ (Cond.initialized y.cls).before args s = true ∧ (y.cls ≠ "java/lang/invoke/MethodHandle" ∧ y.cls ≠ "java/lang/invoke/VarHandle") ∧
  (∀ sig, parseMethodDescriptor y.desc = some sig → n = sig.parameters.length) ∧ (Cond.methodLink own index y).before args s = true ∧ (Cond.instanceMethod y).before args s = true ∧ (Cond.selects C y y).before args s = true
theorem vx_cwVW {own C : String} {index maxL mc ms : Nat} {y : MethodName} {bytes : ByteArray} {ret : Option FieldType} {hh : List (Nat × Nat × Nat × Nat)} {Ts ws ws' : List Cond} {rm : Room} (n : Nat) (ht : ∀ w ∈ Ts, w.before args s = true) (hT : GoodIn Ts (wsV own index C y ws)) (hw : ws = Cond.codeWith y bytes maxL ret hh :: ws') (hrc : rm.cells = mc) (hrs : rm.slots = ms)
    (hd : y.cls = C ∧ y.cls ≠ "java/lang/invoke/MethodHandle" ∧ y.cls ≠ "java/lang/invoke/VarHandle" ∧ (parseMethodDescriptor y.desc).map (fun d => d.parameters.length) = some n) (hR : rm.frames + 1 ≤ R.frames ∧ 8 + (maxL + 11) + rm.locals ≤ R.locals) :
    vx_CVW R s args own C index y bytes maxL ret hh ws rm mc ms n := by
  obtain ⟨hC, hd⟩ := hd
  subst hC
  have ok : ∀ w ∈ wsV own index y.cls y ws, w.before args s = true := fun w h => ht w (hT w h).1
  have hG : GoodIn Ts ws := fun w h => hT w (by unfold wsV; exact List.mem_append_right _ h)
  have hc : Cond.codeWith y bytes maxL ret hh ∈ ws := by rw [hw]; exact List.mem_cons_self
  refine ⟨⟨hrc, hrs, hR.1, hR.2, pay_in ht hG, hc⟩, ht _ (hG _ hc).1, ok _ (by simp [wsV]), ⟨hd.1, hd.2.1⟩, fun sig h => ?_, ok _ (by simp [wsV]), ok _ (by simp [wsV]), ok _ (by simp [wsV])⟩
  have h2 := hd.2.2
  rw [h] at h2
  exact (Option.some.inj h2).symm
theorem vx_runVW {y : MethodName} {bytes cc : ByteArray} {maxL nL mc ms n index : Nat} {ret : Option FieldType} {hh : List (Nat × Nat × Nat × Nat)} {ws : List Cond} {rm : Room} {Pc : Array Value → State → Prop} {Qc : Array Value → State → Outcome → State → Prop} {free : Addr → Prop} {Ts : List Cond} {own C : String} {b : Addr} {As rest : List Value} {g : JFrame}
    (S : CallFix p m c cc nL s args Ts own) (hM : Met l y ws rm Pc Qc mc ms free) (cw : vx_CVW R s args own C index y bytes maxL ret hh ws rm mc ms n) (hp : PreV s H C b Pc As)
    (hg : g.method = m) (hn : As.length = n) (hsize : g.locals.size = nL) (hstack : g.stack = As.reverse ++ .ref b :: rest) (hW : 2 * g.monitorRoom + (rest.map fun v => v.category).sum ≤ 8) (hdg : decode cc g.pc = .ok (.invokevirtual index, 3)) (hf : cells + mc ≤ R.cells ∧ slots + ms ≤ R.slots) :
    va_Run p l e R s m args below meth c H locs cells slots mc ms g rest (Qc (Value.ref b :: As).toArray) free := by
  obtain ⟨⟨hrc, hrs, hfr, hlo, hws, hcw⟩, hcode, hini, hy, hlen, hl, hin, hse⟩ := cw
  have hK : Back l R p e below s args y 3 8 (PreOf R mc ms Pc) (PostOf Qc mc ms free) := va_backW (hh := hh) (bytes := bytes) (maxL := maxL) (ret := ret) hM hp.1 hrc hrs hfr hlo hws hcw (fun a' U hW => word_at hW (Or.inl (by first | rfl | simp [Cond.onTables, Cond.keeps, Cond.steady])) hini)
  obtain ⟨hx, hb, hml, ho, -⟩ := S
  obtain ⟨-, ⟨cellB, hcB, hoB, hclB⟩, hPc⟩ := hp
  intro T hT X
  obtain ⟨v, vm₁, ⟨U', l2, c2, s2⟩, hW₁, X', ⟨g', mk, t, L, e1, e2, hq, h1, hL, h2, h3⟩, st⟩ := vx_callVW X hx (C := C) (hh := hh) (bytes := bytes) (maxL := maxL) (ret := ret) ho hl hin hse hcode hy hK (by rw [hT]; exact hcB) hoB hclB hg (hsize.trans hml.symm) (argsL := As) (rest := rest) (fun sig h => hn.trans (hlen sig h)) hstack hW (by rw [hb]; exact hdg)
    (fun vm₁ hW₁ => ⟨hf.1, hf.2, hPc (T.setVm vm₁) hT hW₁⟩)
  dsimp only [Pt.U, Pt.locs, Pt.cells, Pt.slots] at X' e1 e2 h1 h2 h3 st
  subst h1; subst h2; subst h3
  exact ⟨v, (T.setVm vm₁).calling g' mk (Value.ref b :: As).toArray, t, U', L, hT, X', hL, e1, e2, hq, st⟩
section
variable {y : MethodName} {bytes cc : ByteArray} {maxL nL mc ms n index : Nat} {ret : Option FieldType} {ws : List Cond} {rm : Room} {Pc : Array Value → State → Prop} {Qc : Array Value → State → Outcome → State → Prop} {XC : String → State → State → Prop} {free : Addr → Prop} {Ts : List Cond} {own C : String} {b : Addr} {As rest : List Value} {g : JFrame}
theorem vx_runVX {hh : List (Nat × Nat × Nat × Nat)} (S : CallFix p m c cc nL s args Ts own) (hM : vx_Met l y ws rm Pc Qc XC mc ms free) (cw : vx_CVW R s args own C index y bytes maxL ret hh ws rm mc ms n) (hp : PreV s H C b Pc As)
    (hg : g.method = m) (hn : As.length = n) (hsize : g.locals.size = nL) (hstack : g.stack = As.reverse ++ .ref b :: rest) (hW : 2 * g.monitorRoom + (rest.map fun v => v.category).sum ≤ 8) (hdg : decode cc g.pc = .ok (.invokevirtual index, 3)) (hf : cells + mc ≤ R.cells ∧ slots + ms ≤ R.slots) :
    vx_Run p l e R s m args below meth c H locs cells slots mc ms g rest (Qc (Value.ref b :: As).toArray) XC free := by
  obtain ⟨⟨hrc, hrs, hfr, hlo, hws, hcw⟩, hcode, hini, hy, hlen, hl, hin, hse⟩ := cw
  have hK : vx_Back l R p e below s args y 3 8 (PreOf R mc ms Pc) (PostOf Qc mc ms free) (vx_Post XC mc ms free) := vx_backW (hh := hh) (bytes := bytes) (maxL := maxL) (ret := ret) hM hp.1 hrc hrs hfr hlo hws hcw (fun a' U hW => word_at hW (Or.inl (by first | rfl | simp [Cond.onTables, Cond.keeps, Cond.steady])) hini)
  obtain ⟨hx, hb, hml, ho, -⟩ := S
  obtain ⟨-, ⟨cellB, hcB, hoB, hclB⟩, hPc⟩ := hp
  intro T hT X
  rcases vx_callVX X hx (C := C) (hh := hh) (bytes := bytes) (maxL := maxL) (ret := ret) ho hl hin hse hcode hy hK (by rw [hT]; exact hcB) hoB hclB hg (hsize.trans hml.symm) (argsL := As) (rest := rest) (fun sig h => hn.trans (hlen sig h)) hstack hW (by rw [hb]; exact hdg)
    (fun vm₁ hW₁ => ⟨hf.1, hf.2, hPc (T.setVm vm₁) hT hW₁⟩) with ⟨v, vm₁, ⟨U', l2, c2, s2⟩, hW₁, X', ⟨g', mk, t, L, e1, e2, hq, h1, hL, h2, h3⟩, st⟩ | ⟨q, vm₁, ⟨U', l2, c2, s2⟩, hW₁, X', ⟨g', mk, t, L, E, ce, e1, e2, hq, hce, hcv, hcl, h1, hL, h2, h3⟩, st⟩
  · dsimp only [Pt.U, Pt.locs, Pt.cells, Pt.slots] at X' e1 e2 h1 h2 h3 st
    subst h1; subst h2; subst h3
    exact Or.inl ⟨v, (T.setVm vm₁).calling g' mk (Value.ref b :: As).toArray, t, U', L, hT, X', hL, e1, e2, hq, st⟩
  · dsimp only [Pt.U, Pt.locs, Pt.cells, Pt.slots] at X' e1 e2 h1 h2 h3 st hcl
    subst h1; subst h2; subst h3
    exact Or.inr ⟨q, (T.setVm vm₁).calling g' mk (Value.ref b :: As).toArray, t, U', L, E, ce, hT, X', hL, e1, e2, hq, hce, hcv, vx_cls hW₁ hcl, st⟩
theorem vx_runSX {hh : List (Nat × Nat × Nat × Nat)} (S : CallFix p m c cc nL s args Ts own) (hM : vx_Met l y ws rm Pc Qc XC mc ms free) (cw : vx_CSW R s args own index y bytes maxL ret hh ws rm mc ms n) (hp : PreS s H Pc As)
    (hg : g.method = m) (hn : As.length = n) (hsize : g.locals.size = nL) (hstack : g.stack = As.reverse ++ rest) (hW : 2 * g.monitorRoom + (rest.map fun v => v.category).sum ≤ 8) (hdg : decode cc g.pc = .ok (.invokestatic index, 3)) (hf : cells + mc ≤ R.cells ∧ slots + ms ≤ R.slots) :
    vx_Run p l e R s m args below meth c H locs cells slots mc ms g rest (Qc As.toArray) XC free := by
  obtain ⟨⟨hrc, hrs, hfr, hlo, hws, hcw⟩, hcode, hini, hy, hlen, hl, hstt⟩ := cw
  have hK : vx_Back l R p e below s args y 3 8 (PreOf R mc ms Pc) (PostOf Qc mc ms free) (vx_Post XC mc ms free) := vx_backW (hh := hh) (bytes := bytes) (maxL := maxL) (ret := ret) hM hp.1 hrc hrs hfr hlo hws hcw (fun a' U hW => word_at hW (Or.inl (by first | rfl | simp [Cond.onTables, Cond.keeps, Cond.steady])) hini)
  obtain ⟨hx, hb, hml, ho, -⟩ := S
  intro T hT X
  rcases vx_callSX X hx (hh := hh) (bytes := bytes) (maxL := maxL) (ret := ret) ho hl hstt hini hcode hy hK hg (hsize.trans hml.symm) (argsL := As) (rest := rest) (fun sig h => hn.trans (hlen sig h)) hstack hW (by rw [hb]; exact hdg)
    (fun vm₁ hW₁ => ⟨hf.1, hf.2, hp.2 (T.setVm vm₁) hT hW₁⟩) with ⟨v, vm₁, ⟨U', l2, c2, s2⟩, hW₁, X', ⟨g', mk, t, L, e1, e2, hq, h1, hL, h2, h3⟩, st⟩ | ⟨q, vm₁, ⟨U', l2, c2, s2⟩, hW₁, X', ⟨g', mk, t, L, E, ce, e1, e2, hq, hce, hcv, hcl, h1, hL, h2, h3⟩, st⟩
  · dsimp only [Pt.U, Pt.locs, Pt.cells, Pt.slots] at X' e1 e2 h1 h2 h3 st
    subst h1; subst h2; subst h3
    exact Or.inl ⟨v, (T.setVm vm₁).calling g' mk As.toArray, t, U', L, hT, X', hL, e1, e2, hq, st⟩
  · dsimp only [Pt.U, Pt.locs, Pt.cells, Pt.slots] at X' e1 e2 h1 h2 h3 st hcl
    subst h1; subst h2; subst h3
    exact Or.inr ⟨q, (T.setVm vm₁).calling g' mk As.toArray, t, U', L, E, ce, hT, X', hL, e1, e2, hq, hce, hcv, vx_cls hW₁ hcl, st⟩
end
end VXH
theorem vx_ofWH {l : Launch} {y : MethodName} {ws ws' : List Cond} {rm : Room} {Pc : Array Value → State → Prop} {Qc : Array Value → State → Outcome → State → Prop} {XC : String → State → State → Prop} {mc ms : Nat} {free : Addr → Prop} {cc : ByteArray} {maxL : Nat} {ret : Option FieldType} {hh : List (Nat × Nat × Nat × Nat)}
    (hy : plainName y.cls = true) (hw : ws = Cond.codeWith y cc maxL ret hh :: ws')
    (body : ∀ p e s m args below meth c s₁, BodyLoose p l y (headSpec ws rm) cc maxL ret e s m args below meth c s₁ → c.maxLocals = maxL → Pc args s →
      W p l e (headSpec ws rm).room s m args below meth c s.heap [] 0 0 (vx_MQ below Qc XC args s mc ms free) (entryFrame m args maxL)) : vx_Met l y ws rm Pc Qc XC mc ms free := by
  refine MetFree.of_bodyS (code := cc) (maxLocals := maxL) (ret := ret) hy ?_ ?_
  · intro args s m h hn
    obtain ⟨m9, meth, c, hn9, h1, h2, h3, h4, -, h5, h6, -⟩ := Cond.codeWith_spec (atoms_spec (ws := ws) h _ (by rw [hw]; exact List.mem_cons_self))
    cases hn.symm.trans hn9
    exact ⟨meth, c, h1, h2, h3, h4, h5, h6⟩
  · intro p e s m args below meth c s₁ B hml hP _
    have hh0 : s₁.heap = s.heap := by rw [B.state]; rfl
    obtain ⟨t, a1, o, b1, b2, b3⟩ := body p e s m args below meth c s₁ B hml hP s₁ hh0 (Stand.of_body B)
    exact ⟨t, o, a1, b1, b2, b3⟩
/-! ===== END ===== -/
end
section
/-! ===== BEGIN printed: names, fields, word lists, decode rows ===== -/
def RX0 : String := "PileMoves$Blow"
def TX0 : u_T := fun k => match k with
  | 0 => ("PileMoves$Blow", "pieces", "I", false)
  | 1 => ("PileMoves$Blow", "deepest", "I", false)
  | 2 => ("PileMoves$Blow", "places", "[I", true)
  | 3 => ("PileMoves$Blow", "speeds", "[I", true)
  | 4 => ("PileMoves$Blow", "pushes", "[J", true)
  | _ => ("PileMoves$Blow", "waves", "[I", true)
def tyX0 : Nat → FieldType := fun k => match k with
  | 0 => .int
  | 1 => .int
  | 2 => .array .int
  | 3 => .array .int
  | 4 => .array .long
  | _ => .array .int
abbrev wsX00 : List Cond := u_ws RX0 TX0 6
theorem nmX0 : ∀ a, a < 6 → ∀ b, b < 6 → a ≠ b → (TX0 a).2.1 ≠ (TX0 b).2.1 := by decide +kernel
theorem tyX0_ok : ∀ k, k < 6 → parseFieldDescriptor (TX0 k).2.2.1 = some (tyX0 k) := by decide +kernel
abbrev cX0_init : ByteArray := prog_2_method_1_code
def yX0_init : MethodName := ⟨RX0, "<init>", "()V"⟩
abbrev cX0_happened : ByteArray := prog_2_method_2_code
def yX0_happened : MethodName := ⟨RX0, "happened", "()Z"⟩
abbrev cX0_behindRound : ByteArray := prog_2_method_3_code
def yX0_behindRound : MethodName := ⟨RX0, "behindRound", "(II)I"⟩
abbrev cX0_settled : ByteArray := prog_2_method_4_code
def yX0_settled : MethodName := ⟨RX0, "settled", "(LPileMoves$Pile;)I"⟩
abbrev cX0_strike : ByteArray := prog_2_method_5_code
def yX0_strike : MethodName := ⟨RX0, "strike", "(LPileMoves$Pile;II)V"⟩
abbrev cX0_gatherPushes : ByteArray := prog_2_method_6_code
def yX0_gatherPushes : MethodName := ⟨RX0, "gatherPushes", "(LPileMoves$Pile;)V"⟩
abbrev cX0_press : ByteArray := prog_2_method_7_code
def yX0_press : MethodName := ⟨RX0, "press", "(IIJ)V"⟩
abbrev cX0_move : ByteArray := prog_2_method_8_code
def yX0_move : MethodName := ⟨RX0, "move", "(II)V"⟩
def RX1 : String := "PileMoves$Pile"
def TX1 : u_T := fun k => match k with
  | 0 => ("PileMoves$Pile", "spring", "I", true)
  | 1 => ("PileMoves$Pile", "mass", "I", true)
  | 2 => ("PileMoves$Pile", "cost", "I", true)
  | 3 => ("PileMoves$Pile", "stiff", "[I", true)
  | 4 => ("PileMoves$Pile", "most", "[I", true)
  | 5 => ("PileMoves$Pile", "sunk", "[I", true)
  | 6 => ("PileMoves$Pile", "tipStiff", "I", false)
  | 7 => ("PileMoves$Pile", "tipMost", "I", false)
  | _ => ("PileMoves$Pile", "joined", "Z", false)
def tyX1 : Nat → FieldType := fun k => match k with
  | 0 => .int
  | 1 => .int
  | 2 => .int
  | 3 => .array .int
  | 4 => .array .int
  | 5 => .array .int
  | 6 => .int
  | 7 => .int
  | _ => .boolean
abbrev wsX10 : List Cond := u_ws RX1 TX1 9
theorem nmX1 : ∀ a, a < 9 → ∀ b, b < 9 → a ≠ b → (TX1 a).2.1 ≠ (TX1 b).2.1 := by decide +kernel
theorem tyX1_ok : ∀ k, k < 9 → parseFieldDescriptor (TX1 k).2.2.1 = some (tyX1 k) := by decide +kernel
abbrev cX1_init : ByteArray := prog_3_method_1_code
def yX1_init : MethodName := ⟨RX1, "<init>", "(IIII)V"⟩
abbrev cX1_pieces : ByteArray := prog_3_method_2_code
def yX1_pieces : MethodName := ⟨RX1, "pieces", "()I"⟩
abbrev cX1_quake : ByteArray := prog_3_method_3_code
def yX1_quake : MethodName := ⟨RX1, "quake", "()J"⟩
def RX2 : String := "PileMoves$State"
def TX2 : u_T := fun k => match k with
  | 0 => ("PileMoves$State", "last", "I", false)
  | 1 => ("PileMoves$State", "place", "I", false)
  | 2 => ("PileMoves$State", "groundForce", "I", false)
  | _ => ("PileMoves$State", "forceAbove", "I", false)
def tyX2 : Nat → FieldType := fun k => match k with
  | 0 => .int
  | 1 => .int
  | 2 => .int
  | _ => .int
abbrev wsX20 : List Cond := u_ws RX2 TX2 4
theorem nmX2 : ∀ a, a < 4 → ∀ b, b < 4 → a ≠ b → (TX2 a).2.1 ≠ (TX2 b).2.1 := by decide +kernel
theorem tyX2_ok : ∀ k, k < 4 → parseFieldDescriptor (TX2 k).2.2.1 = some (tyX2 k) := by decide +kernel
abbrev cX2_init : ByteArray := prog_4_method_1_code
def yX2_init : MethodName := ⟨RX2, "<init>", "()V"⟩
abbrev cX2_findUnder : ByteArray := prog_4_method_2_code
def yX2_findUnder : MethodName := ⟨RX2, "findUnder", "(LPileMoves$Pile;I)Z"⟩
abbrev cX2_findAt : ByteArray := prog_4_method_3_code
def yX2_findAt : MethodName := ⟨RX2, "findAt", "(LPileMoves$Pile;I)Z"⟩
abbrev cX2_climb : ByteArray := prog_4_method_4_code
def yX2_climb : MethodName := ⟨RX2, "climb", "(LPileMoves$Pile;I)V"⟩
abbrev cX2_find : ByteArray := prog_4_method_5_code
def yX2_find : MethodName := ⟨RX2, "find", "(LPileMoves$Pile;IZ)Z"⟩
def RX3 : String := "PileMoves"
def TX3 : u_T := fun k => match k with
  | 0 => ("PileMoves", "piles", "[LPileMoves$Pile;", true)
  | 1 => ("PileMoves", "state", "LPileMoves$State;", true)
  | 2 => ("PileMoves", "latestBlow", "LPileMoves$Blow;", true)
  | _ => ("PileMoves", "pileCount", "I", false)
def tyX3 : Nat → FieldType := fun k => match k with
  | 0 => .array (.object "PileMoves$Pile")
  | 1 => .object "PileMoves$State"
  | 2 => .object "PileMoves$Blow"
  | _ => .int
abbrev wsX30 : List Cond := u_ws RX3 TX3 4
theorem nmX3 : ∀ a, a < 4 → ∀ b, b < 4 → a ≠ b → (TX3 a).2.1 ≠ (TX3 b).2.1 := by decide +kernel
theorem tyX3_ok : ∀ k, k < 4 → parseFieldDescriptor (TX3 k).2.2.1 = some (tyX3 k) := by decide +kernel
abbrev cX3_init : ByteArray := prog_1_method_1_code
def yX3_init : MethodName := ⟨RX3, "<init>", "()V"⟩
abbrev cX3_pile : ByteArray := prog_1_method_2_code
def yX3_pile : MethodName := ⟨RX3, "pile", "(IIII)I"⟩
abbrev cX3_ground : ByteArray := prog_1_method_3_code
def yX3_ground : MethodName := ⟨RX3, "ground", "(IIII)V"⟩
abbrev cX3_sinks : ByteArray := prog_1_method_4_code
def yX3_sinks : MethodName := ⟨RX3, "sinks", "(III)I"⟩
abbrev cX3_tip : ByteArray := prog_1_method_5_code
def yX3_tip : MethodName := ⟨RX3, "tip", "(III)V"⟩
abbrev cX3_under : ByteArray := prog_1_method_6_code
def yX3_under : MethodName := ⟨RX3, "under", "(II)I"⟩
abbrev cX3_piece : ByteArray := prog_1_method_7_code
def yX3_piece : MethodName := ⟨RX3, "piece", "(IIII)I"⟩
abbrev cX3_load : ByteArray := prog_1_method_8_code
def yX3_load : MethodName := ⟨RX3, "load", "(II)I"⟩
abbrev cX3_hold : ByteArray := prog_1_method_9_code
def yX3_hold : MethodName := ⟨RX3, "hold", "(I)I"⟩
abbrev cX3_cheapest : ByteArray := prog_1_method_10_code
def yX3_cheapest : MethodName := ⟨RX3, "cheapest", "(II)I"⟩
abbrev cX3_join : ByteArray := prog_1_method_11_code
def yX3_join : MethodName := ⟨RX3, "join", "(IZ)Z"⟩
abbrev cX3_group : ByteArray := prog_1_method_12_code
def yX3_group : MethodName := ⟨RX3, "group", "(I)I"⟩
abbrev cX3_share : ByteArray := prog_1_method_13_code
def yX3_share : MethodName := ⟨RX3, "share", "(II)I"⟩
abbrev cX3_blow : ByteArray := prog_1_method_14_code
def yX3_blow : MethodName := ⟨RX3, "blow", "(III)I"⟩
abbrev cX3_wave : ByteArray := prog_1_method_15_code
def yX3_wave : MethodName := ⟨RX3, "wave", "(II)I"⟩
abbrev cX3_checkWithin : ByteArray := prog_1_method_16_code
def yX3_checkWithin : MethodName := ⟨RX3, "checkWithin", "(III)V"⟩
abbrev cX3_checkLoad : ByteArray := prog_1_method_17_code
def yX3_checkLoad : MethodName := ⟨RX3, "checkLoad", "(I)V"⟩
abbrev cX3_checkPiece : ByteArray := prog_1_method_18_code
def yX3_checkPiece : MethodName := ⟨RX3, "checkPiece", "(LPileMoves$Pile;I)V"⟩
abbrev cX3_pileOf : ByteArray := prog_1_method_19_code
def yX3_pileOf : MethodName := ⟨RX3, "pileOf", "(I)LPileMoves$Pile;"⟩
abbrev cX3_checkGroupNotEmpty : ByteArray := prog_1_method_20_code
def yX3_checkGroupNotEmpty : MethodName := ⟨RX3, "checkGroupNotEmpty", "()V"⟩
abbrev cX3_groupSettlement : ByteArray := prog_1_method_21_code
def yX3_groupSettlement : MethodName := ⟨RX3, "groupSettlement", "(I)I"⟩
abbrev cX3_groupLoad : ByteArray := prog_1_method_22_code
def yX3_groupLoad : MethodName := ⟨RX3, "groupLoad", "(I)J"⟩
abbrev cX3_clamp : ByteArray := prog_1_method_23_code
def yX3_clamp : MethodName := ⟨RX3, "clamp", "(JII)I"⟩
def RX4 : String := "PileMovesModel"
def TX4 : u_T := fun k => match k with
  | 0 => ("PileMovesModel", "code", "I", false)
  | 1 => ("PileMovesModel", "piles", "I", false)
  | 2 => ("PileMovesModel", "many", "[I", true)
  | 3 => ("PileMovesModel", "springs", "[J", true)
  | 4 => ("PileMovesModel", "masses", "[J", true)
  | 5 => ("PileMovesModel", "costs", "[I", true)
  | 6 => ("PileMovesModel", "stiff", "[J", true)
  | 7 => ("PileMovesModel", "most", "[J", true)
  | 8 => ("PileMovesModel", "sinks", "[J", true)
  | 9 => ("PileMovesModel", "tipStiff", "[J", true)
  | 10 => ("PileMovesModel", "tipMost", "[J", true)
  | 11 => ("PileMovesModel", "isIn", "[Z", true)
  | 12 => ("PileMovesModel", "places", "[J", true)
  | 13 => ("PileMovesModel", "grounds", "[J", true)
  | 14 => ("PileMovesModel", "above", "[J", true)
  | 15 => ("PileMovesModel", "waves", "[J", true)
  | 16 => ("PileMovesModel", "blown", "I", false)
  | 17 => ("PileMovesModel", "at", "[J", true)
  | _ => ("PileMovesModel", "speeds", "[J", true)
def tyX4 : Nat → FieldType := fun k => match k with
  | 0 => .int
  | 1 => .int
  | 2 => .array .int
  | 3 => .array .long
  | 4 => .array .long
  | 5 => .array .int
  | 6 => .array .long
  | 7 => .array .long
  | 8 => .array .long
  | 9 => .array .long
  | 10 => .array .long
  | 11 => .array .boolean
  | 12 => .array .long
  | 13 => .array .long
  | 14 => .array .long
  | 15 => .array .long
  | 16 => .int
  | 17 => .array .long
  | _ => .array .long
abbrev wsX40 : List Cond := u_ws RX4 TX4 19
theorem nmX4 : ∀ a, a < 19 → ∀ b, b < 19 → a ≠ b → (TX4 a).2.1 ≠ (TX4 b).2.1 := by decide +kernel
theorem tyX4_ok : ∀ k, k < 19 → parseFieldDescriptor (TX4 k).2.2.1 = some (tyX4 k) := by decide +kernel
abbrev cX4_init : ByteArray := prog_6_method_1_code
def yX4_init : MethodName := ⟨RX4, "<init>", "()V"⟩
abbrev cX4_thrown : ByteArray := prog_6_method_2_code
def yX4_thrown : MethodName := ⟨RX4, "thrown", "()I"⟩
abbrev cX4_in : ByteArray := prog_6_method_3_code
def yX4_in : MethodName := ⟨RX4, "in", "(JJJ)Z"⟩
abbrev cX4_cut : ByteArray := prog_6_method_4_code
def yX4_cut : MethodName := ⟨RX4, "cut", "(JJJ)J"⟩
abbrev cX4_down : ByteArray := prog_6_method_5_code
def yX4_down : MethodName := ⟨RX4, "down", "(JJ)J"⟩
abbrev cX4_isPile : ByteArray := prog_6_method_6_code
def yX4_isPile : MethodName := ⟨RX4, "isPile", "(I)Z"⟩
abbrev cX4_isPiece : ByteArray := prog_6_method_7_code
def yX4_isPiece : MethodName := ⟨RX4, "isPiece", "(II)Z"⟩
abbrev cX4_pile : ByteArray := prog_6_method_8_code
def yX4_pile : MethodName := ⟨RX4, "pile", "(IIII)I"⟩
abbrev cX4_ground : ByteArray := prog_6_method_9_code
def yX4_ground : MethodName := ⟨RX4, "ground", "(IIII)V"⟩
abbrev cX4_sinks : ByteArray := prog_6_method_10_code
def yX4_sinks : MethodName := ⟨RX4, "sinks", "(III)I"⟩
abbrev cX4_tip : ByteArray := prog_6_method_11_code
def yX4_tip : MethodName := ⟨RX4, "tip", "(III)V"⟩
abbrev cX4_march : ByteArray := prog_6_method_12_code
def yX4_march : MethodName := ⟨RX4, "march", "(IJ)J"⟩
abbrev cX4_isWithin : ByteArray := prog_6_method_13_code
def yX4_isWithin : MethodName := ⟨RX4, "isWithin", "(IJJZ)Z"⟩
abbrev cX4_greatest : ByteArray := prog_6_method_14_code
def yX4_greatest : MethodName := ⟨RX4, "greatest", "(IJZ)J"⟩
abbrev cX4_stands : ByteArray := prog_6_method_15_code
def yX4_stands : MethodName := ⟨RX4, "stands", "(IJ)Z"⟩
abbrev cX4_under : ByteArray := prog_6_method_16_code
def yX4_under : MethodName := ⟨RX4, "under", "(II)I"⟩
abbrev cX4_piece : ByteArray := prog_6_method_17_code
def yX4_piece : MethodName := ⟨RX4, "piece", "(IIII)I"⟩
abbrev cX4_hasState : ByteArray := prog_6_method_18_code
def yX4_hasState : MethodName := ⟨RX4, "hasState", "(IJ)Z"⟩
abbrev cX4_loadAt : ByteArray := prog_6_method_19_code
def yX4_loadAt : MethodName := ⟨RX4, "loadAt", "(IJ)J"⟩
abbrev cX4_load : ByteArray := prog_6_method_20_code
def yX4_load : MethodName := ⟨RX4, "load", "(II)I"⟩
abbrev cX4_hold : ByteArray := prog_6_method_21_code
def yX4_hold : MethodName := ⟨RX4, "hold", "(I)I"⟩
abbrev cX4_cheapest : ByteArray := prog_6_method_22_code
def yX4_cheapest : MethodName := ⟨RX4, "cheapest", "(II)I"⟩
abbrev cX4_join : ByteArray := prog_6_method_23_code
def yX4_join : MethodName := ⟨RX4, "join", "(IZ)Z"⟩
abbrev cX4_isEmpty : ByteArray := prog_6_method_24_code
def yX4_isEmpty : MethodName := ⟨RX4, "isEmpty", "()Z"⟩
abbrev cX4_loads : ByteArray := prog_6_method_25_code
def yX4_loads : MethodName := ⟨RX4, "loads", "(J)J"⟩
abbrev cX4_settles : ByteArray := prog_6_method_26_code
def yX4_settles : MethodName := ⟨RX4, "settles", "(J)I"⟩
abbrev cX4_group : ByteArray := prog_6_method_27_code
def yX4_group : MethodName := ⟨RX4, "group", "(I)I"⟩
abbrev cX4_share : ByteArray := prog_6_method_28_code
def yX4_share : MethodName := ⟨RX4, "share", "(II)I"⟩
abbrev cX4_round : ByteArray := prog_6_method_29_code
def yX4_round : MethodName := ⟨RX4, "round", "(IIJ)V"⟩
abbrev cX4_blow : ByteArray := prog_6_method_30_code
def yX4_blow : MethodName := ⟨RX4, "blow", "(III)I"⟩
abbrev cX4_wave : ByteArray := prog_6_method_31_code
def yX4_wave : MethodName := ⟨RX4, "wave", "(II)I"⟩
def RJx145de : String := "java/io/Serializable"
def TJx145de : u_T := fun k => match k with
  | _ => ("", "", "", false)
def tyJx145de : Nat → FieldType := fun k => match k with
  | _ => .int
abbrev wsJx145de0 : List Cond := u_ws RJx145de TJx145de 0
theorem nmJx145de : ∀ a, a < 0 → ∀ b, b < 0 → a ≠ b → (TJx145de a).2.1 ≠ (TJx145de b).2.1 := by decide +kernel
theorem tyJx145de_ok : ∀ k, k < 0 → parseFieldDescriptor (TJx145de k).2.2.1 = some (tyJx145de k) := by decide +kernel
def RJ9 : String := "java/lang/Math"
def TJ9 : u_T := fun k => match k with
  | _ => ("", "", "", false)
def tyJ9 : Nat → FieldType := fun k => match k with
  | _ => .int
abbrev wsJ90 : List Cond := u_ws RJ9 TJ9 0
theorem nmJ9 : ∀ a, a < 0 → ∀ b, b < 0 → a ≠ b → (TJ9 a).2.1 ≠ (TJ9 b).2.1 := by decide +kernel
theorem tyJ9_ok : ∀ k, k < 0 → parseFieldDescriptor (TJ9 k).2.2.1 = some (tyJ9 k) := by decide +kernel
abbrev cJ9_floorDiv_7cf53 : ByteArray := prog_10_method_47_code
def yJ9_floorDiv_7cf53 : MethodName := ⟨RJ9, "floorDiv", "(II)I"⟩
abbrev cJ9_max_7cf53 : ByteArray := prog_10_method_65_code
def yJ9_max_7cf53 : MethodName := ⟨RJ9, "max", "(II)I"⟩
abbrev cJ9_max_f86c9 : ByteArray := prog_10_method_66_code
def yJ9_max_f86c9 : MethodName := ⟨RJ9, "max", "(JJ)J"⟩
def RJ0 : String := "java/lang/String"
def TJ0 : u_T := fun k => match k with
  | _ => ("", "", "", false)
def tyJ0 : Nat → FieldType := fun k => match k with
  | _ => .int
abbrev wsJ00 : List Cond := u_ws RJ0 TJ0 0
theorem nmJ0 : ∀ a, a < 0 → ∀ b, b < 0 → a ≠ b → (TJ0 a).2.1 ≠ (TJ0 b).2.1 := by decide +kernel
theorem tyJ0_ok : ∀ k, k < 0 → parseFieldDescriptor (TJ0 k).2.2.1 = some (tyJ0 k) := by decide +kernel
def RJ10 : String := "java/lang/System"
def TJ10 : u_T := fun k => match k with
  | _ => ("", "", "", false)
def tyJ10 : Nat → FieldType := fun k => match k with
  | _ => .int
abbrev wsJ100 : List Cond := u_ws RJ10 TJ10 0
theorem nmJ10 : ∀ a, a < 0 → ∀ b, b < 0 → a ≠ b → (TJ10 a).2.1 ≠ (TJ10 b).2.1 := by decide +kernel
theorem tyJ10_ok : ∀ k, k < 0 → parseFieldDescriptor (TJ10 k).2.2.1 = some (tyJ10 k) := by decide +kernel
def RJ7 : String := "java/util/Arrays"
def TJ7 : u_T := fun k => match k with
  | _ => ("", "", "", false)
def tyJ7 : Nat → FieldType := fun k => match k with
  | _ => .int
abbrev wsJ70 : List Cond := u_ws RJ7 TJ7 0
theorem nmJ7 : ∀ a, a < 0 → ∀ b, b < 0 → a ≠ b → (TJ7 a).2.1 ≠ (TJ7 b).2.1 := by decide +kernel
theorem tyJ7_ok : ∀ k, k < 0 → parseFieldDescriptor (TJ7 k).2.2.1 = some (tyJ7 k) := by decide +kernel
abbrev cJ7_fill_d0a16 : ByteArray := prog_15_method_101_code
def yJ7_fill_d0a16 : MethodName := ⟨RJ7, "fill", "([JJ)V"⟩
abbrev cJ7_fill_53178 : ByteArray := prog_15_method_103_code
def yJ7_fill_53178 : MethodName := ⟨RJ7, "fill", "([II)V"⟩
def RL : String := "PileMovesLaw"
abbrev cL_pile : ByteArray := method_3_code
def yL_pile : MethodName := ⟨RL, "pile", "(LPileMoves;IIII[J)I"⟩
abbrev cL_ground : ByteArray := method_4_code
def yL_ground : MethodName := ⟨RL, "ground", "(LPileMoves;IIII)I"⟩
abbrev cL_sinks : ByteArray := method_5_code
def yL_sinks : MethodName := ⟨RL, "sinks", "(LPileMoves;III[J)I"⟩
abbrev cL_tip : ByteArray := method_6_code
def yL_tip : MethodName := ⟨RL, "tip", "(LPileMoves;III)I"⟩
abbrev cL_under : ByteArray := method_7_code
def yL_under : MethodName := ⟨RL, "under", "(LPileMoves;II[J)I"⟩
abbrev cL_piece : ByteArray := method_8_code
def yL_piece : MethodName := ⟨RL, "piece", "(LPileMoves;IIII[J)I"⟩
abbrev cL_load : ByteArray := method_9_code
def yL_load : MethodName := ⟨RL, "load", "(LPileMoves;II[J)I"⟩
abbrev cL_hold : ByteArray := method_10_code
def yL_hold : MethodName := ⟨RL, "hold", "(LPileMoves;I[J)I"⟩
abbrev cL_cheapest : ByteArray := method_11_code
def yL_cheapest : MethodName := ⟨RL, "cheapest", "(LPileMoves;II[J)I"⟩
abbrev cL_join : ByteArray := method_12_code
def yL_join : MethodName := ⟨RL, "join", "(LPileMoves;IZ[J)I"⟩
abbrev cL_group : ByteArray := method_13_code
def yL_group : MethodName := ⟨RL, "group", "(LPileMoves;I[J)I"⟩
abbrev cL_share : ByteArray := method_14_code
def yL_share : MethodName := ⟨RL, "share", "(LPileMoves;II[J)I"⟩
abbrev cL_blow : ByteArray := method_15_code
def yL_blow : MethodName := ⟨RL, "blow", "(LPileMoves;III[J)I"⟩
abbrev cL_wave : ByteArray := method_16_code
def yL_wave : MethodName := ⟨RL, "wave", "(LPileMoves;II[J)I"⟩
abbrev cL_law : ByteArray := code
def yL_law : MethodName := ⟨RL, "law", "([I)Z"⟩
def wsX0_init : List Cond := .code yX0_init cX0_init 1 none :: ([.methodLink RX0 3 objectInit, .instanceMethod objectInit, .code objectInit ⟨#[0xb1]⟩ 1 none, .arrayClass .int, .fieldLink RX0 11 "PileMoves$Blow" "places" "[I", .fieldLink RX0 15 "PileMoves$Blow" "speeds" "[I", .arrayClass .long, .fieldLink RX0 18 "PileMoves$Blow" "pushes" "[J", .fieldLink RX0 22 "PileMoves$Blow" "waves" "[I"] ++ wsX00)
def wsX0_happened : List Cond := .code yX0_happened cX0_happened 1 (some .boolean) :: ([.fieldLink RX0 25 "PileMoves$Blow" "pieces" "I"] ++ wsX00)
def wsX0_behindRound : List Cond := .code yX0_behindRound cX0_behindRound 4 (some .int) :: ([.fieldLink RX0 22 "PileMoves$Blow" "waves" "[I", .constant RX0 29 (-1000000)] ++ wsX00)
def wsX1_quake : List Cond := .code yX1_quake cX1_quake 1 (some .long) :: ([.fieldLink RX1 29 "PileMoves$Pile" "tipStiff" "I", .constantLong RX1 32 (1000), .fieldLink RX1 34 "PileMoves$Pile" "tipMost" "I"] ++ wsX10)
def wsX0_settled : List Cond := .code yX0_settled cX0_settled 2 (some .int) :: ([.fieldLink RX0 30 "PileMoves$Blow" "deepest" "I", .methodLink RX0 39 Lib.MathLoose.max_long.x, .static Lib.MathLoose.max_long.x, .initialized "java/lang/Math", .code Lib.MathLoose.max_long.x Lib.MathLoose.max_long.code 4 (some .long), .methodLink RX0 33 yX1_quake, .instanceMethod yX1_quake, .selects RX1 yX1_quake yX1_quake, .initialized RX1, .code yX1_quake cX1_quake 1 (some .long), .fieldLink RX1 29 "PileMoves$Pile" "tipStiff" "I", .constantLong RX1 32 (1000), .fieldLink RX1 34 "PileMoves$Pile" "tipMost" "I"] ++ wsX00 ++ wsX10)
def wsX1_pieces : List Cond := .code yX1_pieces cX1_pieces 1 (some .int) :: ([.fieldLink RX1 19 "PileMoves$Pile" "stiff" "[I"] ++ wsX10)
def wsJ7_fill_53178 : List Cond := .code yJ7_fill_53178 cJ7_fill_53178 4 none :: ([])
def wsJ7_fill_d0a16 : List Cond := .code yJ7_fill_d0a16 cJ7_fill_d0a16 5 none :: ([])
def wsX0_press : List Cond := .code yX0_press cX0_press 5 none :: ([.fieldLink RX0 18 "PileMoves$Blow" "pushes" "[J"] ++ wsX00)
def wsX3_clamp : List Cond := .code yX3_clamp cX3_clamp 4 (some .int) :: ([])
def wsX0_gatherPushes_r1 : List Cond := [Cond.fieldLink RX0 18 "PileMoves$Blow" "pushes" "[J", Cond.fieldLink RX0 25 "PileMoves$Blow" "pieces" "I", Cond.constantLong RX0 77 (10), Cond.fieldLink RX0 11 "PileMoves$Blow" "places" "[I", Cond.methodLink RX0 39 Lib.MathLoose.max_long.x, Cond.static Lib.MathLoose.max_long.x, Cond.initialized "java/lang/Math", Cond.code Lib.MathLoose.max_long.x Lib.MathLoose.max_long.code 4 (some .long), Cond.fieldLink RX0 83 "PileMoves$Pile" "spring" "I", Cond.constantLong RX0 86 (1000), Cond.fieldLink RX0 88 "PileMoves$Pile" "stiff" "[I", Cond.fieldLink RX0 91 "PileMoves$Pile" "most" "[I", Cond.fieldLink RX0 98 "PileMoves$Pile" "tipStiff" "I", Cond.fieldLink RX0 101 "PileMoves$Pile" "tipMost" "I", Cond.methodLink RX0 74 yJ7_fill_d0a16, Cond.static yJ7_fill_d0a16, Cond.initialized RJ7, Cond.code yJ7_fill_d0a16 cJ7_fill_d0a16 5 none, Cond.methodLink RX0 79 yX0_press, Cond.instanceMethod yX0_press, Cond.selects RX0 yX0_press yX0_press, Cond.initialized RX0, Cond.code yX0_press cX0_press 5 none, Cond.static yX3_clamp]
def wsX0_gatherPushes_r2 : List Cond := [Cond.initialized RX3, Cond.code yX3_clamp cX3_clamp 4 (some .int)]
def wsX0_gatherPushes : List Cond := .code yX0_gatherPushes cX0_gatherPushes 3 none :: ((wsX0_gatherPushes_r1 ++ wsX0_gatherPushes_r2) ++ wsX00 ++ wsX10)
def wsX0_move : List Cond := .code yX0_move cX0_move 5 none :: ([.constantLong RX0 86 (1000), .fieldLink RX0 18 "PileMoves$Blow" "pushes" "[J", .fieldLink RX0 15 "PileMoves$Blow" "speeds" "[I", .constant RX0 104 (-1000000000), .constant RX0 105 (1000000000), .fieldLink RX0 11 "PileMoves$Blow" "places" "[I", .static yX3_clamp, .initialized RX3, .code yX3_clamp cX3_clamp 4 (some .int)] ++ wsX00)
def wsX0_strike_r1 : List Cond := [Cond.fieldLink RX0 25 "PileMoves$Blow" "pieces" "I", Cond.fieldLink RX0 30 "PileMoves$Blow" "deepest" "I", Cond.fieldLink RX0 11 "PileMoves$Blow" "places" "[I", Cond.fieldLink RX0 15 "PileMoves$Blow" "speeds" "[I", Cond.fieldLink RX0 58 "PileMoves$Pile" "mass" "I", Cond.methodLink RX0 65 Lib.Math.max.name, Cond.static Lib.Math.max.name, Cond.initialized "java/lang/Math", Cond.code Lib.Math.max.name Lib.Math.max.code 2 (some .int), Cond.fieldLink RX0 22 "PileMoves$Blow" "waves" "[I", Cond.methodLink RX0 68 arraycopyName, Cond.native arraycopyName, Cond.static arraycopyName, Cond.initialized "java/lang/System", Cond.methodLink RX0 45 yX1_pieces, Cond.instanceMethod yX1_pieces, Cond.selects RX1 yX1_pieces yX1_pieces, Cond.initialized RX1, Cond.code yX1_pieces cX1_pieces 1 (some .int), Cond.fieldLink RX1 19 "PileMoves$Pile" "stiff" "[I", Cond.methodLink RX0 48 yJ7_fill_53178, Cond.static yJ7_fill_53178, Cond.initialized RJ7, Cond.code yJ7_fill_53178 cJ7_fill_53178 4 none]
def wsX0_strike_r2 : List Cond := [Cond.methodLink RX0 54 yX0_gatherPushes, Cond.instanceMethod yX0_gatherPushes, Cond.selects RX0 yX0_gatherPushes yX0_gatherPushes, Cond.initialized RX0, Cond.code yX0_gatherPushes cX0_gatherPushes 3 none, Cond.fieldLink RX0 18 "PileMoves$Blow" "pushes" "[J", Cond.constantLong RX0 77 (10), Cond.methodLink RX0 39 Lib.MathLoose.max_long.x, Cond.static Lib.MathLoose.max_long.x, Cond.code Lib.MathLoose.max_long.x Lib.MathLoose.max_long.code 4 (some .long), Cond.fieldLink RX0 83 "PileMoves$Pile" "spring" "I", Cond.constantLong RX0 86 (1000), Cond.fieldLink RX0 88 "PileMoves$Pile" "stiff" "[I", Cond.fieldLink RX0 91 "PileMoves$Pile" "most" "[I", Cond.fieldLink RX0 98 "PileMoves$Pile" "tipStiff" "I", Cond.fieldLink RX0 101 "PileMoves$Pile" "tipMost" "I", Cond.methodLink RX0 74 yJ7_fill_d0a16, Cond.static yJ7_fill_d0a16, Cond.code yJ7_fill_d0a16 cJ7_fill_d0a16 5 none, Cond.methodLink RX0 79 yX0_press, Cond.instanceMethod yX0_press, Cond.selects RX0 yX0_press yX0_press, Cond.code yX0_press cX0_press 5 none, Cond.static yX3_clamp]
def wsX0_strike_r3 : List Cond := [Cond.initialized RX3, Cond.code yX3_clamp cX3_clamp 4 (some .int), Cond.methodLink RX0 61 yX0_move, Cond.instanceMethod yX0_move, Cond.selects RX0 yX0_move yX0_move, Cond.code yX0_move cX0_move 5 none, Cond.constant RX0 104 (-1000000000), Cond.constant RX0 105 (1000000000)]
def wsX0_strike : List Cond := .code yX0_strike cX0_strike 7 none :: ((wsX0_strike_r1 ++ (wsX0_strike_r2 ++ wsX0_strike_r3)) ++ wsX00 ++ wsX10)
def wsX1_init : List Cond := .code yX1_init cX1_init 5 none :: ([.methodLink RX1 1 objectInit, .instanceMethod objectInit, .code objectInit ⟨#[0xb1]⟩ 1 none, .fieldLink RX1 7 "PileMoves$Pile" "spring" "I", .fieldLink RX1 13 "PileMoves$Pile" "mass" "I", .fieldLink RX1 16 "PileMoves$Pile" "cost" "I", .arrayClass .int, .fieldLink RX1 19 "PileMoves$Pile" "stiff" "[I", .fieldLink RX1 23 "PileMoves$Pile" "most" "[I", .fieldLink RX1 26 "PileMoves$Pile" "sunk" "[I"] ++ wsX10)
def wsX2_init : List Cond := .code yX2_init cX2_init 1 none :: ([.methodLink RX2 3 objectInit, .instanceMethod objectInit, .code objectInit ⟨#[0xb1]⟩ 1 none])
def wsJ9_floorDiv_7cf53 : List Cond := .code yJ9_floorDiv_7cf53 cJ9_floorDiv_7cf53 3 (some .int) :: ([])
def wsX2_climb : List Cond := .code yX2_climb cX2_climb 7 none :: ([.fieldLink RX2 15 "PileMoves$State" "last" "I", .fieldLink RX2 26 "PileMoves$State" "place" "I", .fieldLink RX2 29 "PileMoves$Pile" "tipStiff" "I", .fieldLink RX2 32 "PileMoves$Pile" "tipMost" "I", .fieldLink RX2 39 "PileMoves$State" "forceAbove" "I", .fieldLink RX2 42 "PileMoves$Pile" "spring" "I", .fieldLink RX2 51 "PileMoves$Pile" "stiff" "[I", .fieldLink RX2 55 "PileMoves$Pile" "sunk" "[I", .fieldLink RX2 58 "PileMoves$Pile" "most" "[I", .fieldLink RX2 61 "PileMoves$State" "groundForce" "I", .methodLink RX2 20 yX1_pieces, .instanceMethod yX1_pieces, .selects RX1 yX1_pieces yX1_pieces, .initialized RX1, .code yX1_pieces cX1_pieces 1 (some .int), .fieldLink RX1 19 "PileMoves$Pile" "stiff" "[I", .static yX3_clamp, .initialized RX3, .code yX3_clamp cX3_clamp 4 (some .int), .methodLink RX2 45 yJ9_floorDiv_7cf53, .static yJ9_floorDiv_7cf53, .initialized RJ9, .code yJ9_floorDiv_7cf53 cJ9_floorDiv_7cf53 3 (some .int)] ++ wsX20 ++ wsX10)
def wsX2_find_r1 : List Cond := [Cond.constant RX2 64 (-100001), Cond.constant RX2 65 (131072), Cond.fieldLink RX2 15 "PileMoves$State" "last" "I", Cond.constant RX2 19 (100000), Cond.fieldLink RX2 39 "PileMoves$State" "forceAbove" "I", Cond.fieldLink RX2 26 "PileMoves$State" "place" "I", Cond.constant RX2 70 (-100000), Cond.methodLink RX2 66 yX2_climb, Cond.instanceMethod yX2_climb, Cond.selects RX2 yX2_climb yX2_climb, Cond.initialized RX2, Cond.code yX2_climb cX2_climb 7 none, Cond.fieldLink RX2 29 "PileMoves$Pile" "tipStiff" "I", Cond.fieldLink RX2 32 "PileMoves$Pile" "tipMost" "I", Cond.fieldLink RX2 42 "PileMoves$Pile" "spring" "I", Cond.fieldLink RX2 51 "PileMoves$Pile" "stiff" "[I", Cond.fieldLink RX2 55 "PileMoves$Pile" "sunk" "[I", Cond.fieldLink RX2 58 "PileMoves$Pile" "most" "[I", Cond.fieldLink RX2 61 "PileMoves$State" "groundForce" "I", Cond.methodLink RX2 20 yX1_pieces, Cond.instanceMethod yX1_pieces, Cond.selects RX1 yX1_pieces yX1_pieces, Cond.initialized RX1, Cond.code yX1_pieces cX1_pieces 1 (some .int)]
def wsX2_find_r2 : List Cond := [Cond.fieldLink RX1 19 "PileMoves$Pile" "stiff" "[I", Cond.static yX3_clamp, Cond.initialized RX3, Cond.code yX3_clamp cX3_clamp 4 (some .int), Cond.methodLink RX2 45 yJ9_floorDiv_7cf53, Cond.static yJ9_floorDiv_7cf53, Cond.initialized RJ9, Cond.code yJ9_floorDiv_7cf53 cJ9_floorDiv_7cf53 3 (some .int)]
def wsX2_find : List Cond := .code yX2_find cX2_find 6 (some .boolean) :: ((wsX2_find_r1 ++ wsX2_find_r2) ++ wsX20 ++ wsX10)
def wsX2_findUnder_r1 : List Cond := [Cond.fieldLink RX2 15 "PileMoves$State" "last" "I", Cond.constant RX2 19 (100000), Cond.methodLink RX2 9 yX2_find, Cond.instanceMethod yX2_find, Cond.selects RX2 yX2_find yX2_find, Cond.initialized RX2, Cond.code yX2_find cX2_find 6 (some .boolean), Cond.constant RX2 64 (-100001), Cond.constant RX2 65 (131072), Cond.fieldLink RX2 39 "PileMoves$State" "forceAbove" "I", Cond.fieldLink RX2 26 "PileMoves$State" "place" "I", Cond.constant RX2 70 (-100000), Cond.methodLink RX2 66 yX2_climb, Cond.instanceMethod yX2_climb, Cond.selects RX2 yX2_climb yX2_climb, Cond.code yX2_climb cX2_climb 7 none, Cond.fieldLink RX2 29 "PileMoves$Pile" "tipStiff" "I", Cond.fieldLink RX2 32 "PileMoves$Pile" "tipMost" "I", Cond.fieldLink RX2 42 "PileMoves$Pile" "spring" "I", Cond.fieldLink RX2 51 "PileMoves$Pile" "stiff" "[I", Cond.fieldLink RX2 55 "PileMoves$Pile" "sunk" "[I", Cond.fieldLink RX2 58 "PileMoves$Pile" "most" "[I", Cond.fieldLink RX2 61 "PileMoves$State" "groundForce" "I", Cond.methodLink RX2 20 yX1_pieces]
def wsX2_findUnder_r2 : List Cond := [Cond.instanceMethod yX1_pieces, Cond.selects RX1 yX1_pieces yX1_pieces, Cond.initialized RX1, Cond.code yX1_pieces cX1_pieces 1 (some .int), Cond.fieldLink RX1 19 "PileMoves$Pile" "stiff" "[I", Cond.static yX3_clamp, Cond.initialized RX3, Cond.code yX3_clamp cX3_clamp 4 (some .int), Cond.methodLink RX2 45 yJ9_floorDiv_7cf53, Cond.static yJ9_floorDiv_7cf53, Cond.initialized RJ9, Cond.code yJ9_floorDiv_7cf53 cJ9_floorDiv_7cf53 3 (some .int)]
def wsX2_findUnder : List Cond := .code yX2_findUnder cX2_findUnder 3 (some .boolean) :: ((wsX2_findUnder_r1 ++ wsX2_findUnder_r2) ++ wsX20 ++ wsX10)
def wsX2_findAt_r1 : List Cond := [Cond.methodLink RX2 9 yX2_find, Cond.instanceMethod yX2_find, Cond.selects RX2 yX2_find yX2_find, Cond.initialized RX2, Cond.code yX2_find cX2_find 6 (some .boolean), Cond.constant RX2 64 (-100001), Cond.constant RX2 65 (131072), Cond.fieldLink RX2 15 "PileMoves$State" "last" "I", Cond.constant RX2 19 (100000), Cond.fieldLink RX2 39 "PileMoves$State" "forceAbove" "I", Cond.fieldLink RX2 26 "PileMoves$State" "place" "I", Cond.constant RX2 70 (-100000), Cond.methodLink RX2 66 yX2_climb, Cond.instanceMethod yX2_climb, Cond.selects RX2 yX2_climb yX2_climb, Cond.code yX2_climb cX2_climb 7 none, Cond.fieldLink RX2 29 "PileMoves$Pile" "tipStiff" "I", Cond.fieldLink RX2 32 "PileMoves$Pile" "tipMost" "I", Cond.fieldLink RX2 42 "PileMoves$Pile" "spring" "I", Cond.fieldLink RX2 51 "PileMoves$Pile" "stiff" "[I", Cond.fieldLink RX2 55 "PileMoves$Pile" "sunk" "[I", Cond.fieldLink RX2 58 "PileMoves$Pile" "most" "[I", Cond.fieldLink RX2 61 "PileMoves$State" "groundForce" "I", Cond.methodLink RX2 20 yX1_pieces]
def wsX2_findAt_r2 : List Cond := [Cond.instanceMethod yX1_pieces, Cond.selects RX1 yX1_pieces yX1_pieces, Cond.initialized RX1, Cond.code yX1_pieces cX1_pieces 1 (some .int), Cond.fieldLink RX1 19 "PileMoves$Pile" "stiff" "[I", Cond.static yX3_clamp, Cond.initialized RX3, Cond.code yX3_clamp cX3_clamp 4 (some .int), Cond.methodLink RX2 45 yJ9_floorDiv_7cf53, Cond.static yJ9_floorDiv_7cf53, Cond.initialized RJ9, Cond.code yJ9_floorDiv_7cf53 cJ9_floorDiv_7cf53 3 (some .int)]
def wsX2_findAt : List Cond := .code yX2_findAt cX2_findAt 3 (some .boolean) :: ((wsX2_findAt_r1 ++ wsX2_findAt_r2) ++ wsX20 ++ wsX10)
def wsX3_init_r1 : List Cond := [Cond.methodLink RX3 1 objectInit, Cond.instanceMethod objectInit, Cond.code objectInit ⟨#[0xb1]⟩ 1 none, Cond.classLink RX3 9 RX1, Cond.fieldLink RX3 11 "PileMoves" "piles" "[LPileMoves$Pile;", Cond.classLink RX3 15 RX2, Cond.instantiable RX2 4, Cond.initialized RX2, Cond.fieldLink RX3 18 "PileMoves" "state" "LPileMoves$State;", Cond.classLink RX3 22 RX0, Cond.instantiable RX0 6, Cond.initialized RX0, Cond.fieldLink RX3 25 "PileMoves" "latestBlow" "LPileMoves$Blow;", Cond.fieldLink RX3 29 "PileMoves" "pileCount" "I", Cond.instanceMethod yX2_init, Cond.code yX2_init cX2_init 1 none, Cond.methodLink RX2 3 objectInit, Cond.methodLink RX3 24 yX0_init, Cond.instanceMethod yX0_init, Cond.code yX0_init cX0_init 1 none, Cond.methodLink RX0 3 objectInit, Cond.arrayClass .int, Cond.fieldLink RX0 11 "PileMoves$Blow" "places" "[I", Cond.fieldLink RX0 15 "PileMoves$Blow" "speeds" "[I"]
def wsX3_init_r2 : List Cond := [Cond.arrayClass .long, Cond.fieldLink RX0 18 "PileMoves$Blow" "pushes" "[J", Cond.fieldLink RX0 22 "PileMoves$Blow" "waves" "[I"]
def wsX3_init : List Cond := .code yX3_init cX3_init 1 none :: ((wsX3_init_r1 ++ wsX3_init_r2) ++ wsX30 ++ wsX20 ++ wsX00)
def wsX3_checkWithin : List Cond := .code yX3_checkWithin cX3_checkWithin 3 none :: ([.classLink RX3 112 "java/lang/IllegalArgumentException", .initialized "java/lang/IllegalArgumentException"] ++ (vx_atS RX3 116 "java/lang/IllegalArgumentException" ["java/lang/RuntimeException", "java/lang/Exception"]).filter goodWord)
def wsX3_pile_r1 : List Cond := [Cond.classLink RX3 38 "java/lang/IllegalStateException", Cond.initialized "java/lang/IllegalStateException", Cond.constant RX3 37 (100000), Cond.fieldLink RX3 29 "PileMoves" "pileCount" "I", Cond.fieldLink RX3 11 "PileMoves" "piles" "[LPileMoves$Pile;", Cond.classLink RX3 9 RX1, Cond.instantiable RX1 9, Cond.initialized RX1, Cond.methodLink RX3 33 yX3_checkWithin, Cond.static yX3_checkWithin, Cond.initialized RX3, Cond.code yX3_checkWithin cX3_checkWithin 3 none, Cond.classLink RX3 112 "java/lang/IllegalArgumentException", Cond.initialized "java/lang/IllegalArgumentException", Cond.methodLink RX3 45 yX1_init, Cond.instanceMethod yX1_init, Cond.code yX1_init cX1_init 5 none, Cond.methodLink RX1 1 objectInit, Cond.instanceMethod objectInit, Cond.code objectInit ⟨#[0xb1]⟩ 1 none, Cond.fieldLink RX1 7 "PileMoves$Pile" "spring" "I", Cond.fieldLink RX1 13 "PileMoves$Pile" "mass" "I", Cond.fieldLink RX1 16 "PileMoves$Pile" "cost" "I", Cond.arrayClass .int]
def wsX3_pile_r2 : List Cond := [Cond.fieldLink RX1 19 "PileMoves$Pile" "stiff" "[I", Cond.fieldLink RX1 23 "PileMoves$Pile" "most" "[I", Cond.fieldLink RX1 26 "PileMoves$Pile" "sunk" "[I"]
def wsX3_pile : List Cond := .code yX3_pile cX3_pile 6 (some .int) :: ((wsX3_pile_r1 ++ wsX3_pile_r2) ++ wsX30 ++ wsX10 ++ (vx_atS RX3 42 "java/lang/IllegalStateException" ["java/lang/RuntimeException", "java/lang/Exception"]).filter goodWord ++ (vx_atS RX3 116 "java/lang/IllegalArgumentException" ["java/lang/RuntimeException", "java/lang/Exception"]).filter goodWord)
def wsX3_pileOf : List Cond := .code yX3_pileOf cX3_pileOf 2 (some (.object "PileMoves$Pile")) :: ([.classLink RX3 112 "java/lang/IllegalArgumentException", .initialized "java/lang/IllegalArgumentException", .fieldLink RX3 11 "PileMoves" "piles" "[LPileMoves$Pile;"] ++ wsX30 ++ (vx_atS RX3 116 "java/lang/IllegalArgumentException" ["java/lang/RuntimeException", "java/lang/Exception"]).filter goodWord)
def wsX3_checkPiece : List Cond := .code yX3_checkPiece cX3_checkPiece 2 none :: ([.methodLink RX3 141 yX1_pieces, .instanceMethod yX1_pieces, .selects RX1 yX1_pieces yX1_pieces, .initialized RX1, .code yX1_pieces cX1_pieces 1 (some .int), .fieldLink RX1 19 "PileMoves$Pile" "stiff" "[I", .methodLink RX3 33 yX3_checkWithin, .static yX3_checkWithin, .initialized RX3, .code yX3_checkWithin cX3_checkWithin 3 none, .classLink RX3 112 "java/lang/IllegalArgumentException", .initialized "java/lang/IllegalArgumentException"] ++ wsX10 ++ (vx_atS RX3 116 "java/lang/IllegalArgumentException" ["java/lang/RuntimeException", "java/lang/Exception"]).filter goodWord)
def wsX3_ground : List Cond := .code yX3_ground cX3_ground 6 none :: ([.constant RX3 37 (100000), .fieldLink RX3 56 "PileMoves$Pile" "stiff" "[I", .fieldLink RX3 60 "PileMoves$Pile" "most" "[I", .methodLink RX3 48 yX3_pileOf, .instanceMethod yX3_pileOf, .selects RX3 yX3_pileOf yX3_pileOf, .initialized RX3, .code yX3_pileOf cX3_pileOf 2 (some (.object "PileMoves$Pile")), .classLink RX3 112 "java/lang/IllegalArgumentException", .initialized "java/lang/IllegalArgumentException", .fieldLink RX3 11 "PileMoves" "piles" "[LPileMoves$Pile;", .methodLink RX3 52 yX3_checkPiece, .static yX3_checkPiece, .code yX3_checkPiece cX3_checkPiece 2 none, .methodLink RX3 141 yX1_pieces, .instanceMethod yX1_pieces, .selects RX1 yX1_pieces yX1_pieces, .initialized RX1, .code yX1_pieces cX1_pieces 1 (some .int), .fieldLink RX1 19 "PileMoves$Pile" "stiff" "[I", .methodLink RX3 33 yX3_checkWithin, .static yX3_checkWithin, .code yX3_checkWithin cX3_checkWithin 3 none] ++ wsX10 ++ wsX30 ++ (vx_atS RX3 116 "java/lang/IllegalArgumentException" ["java/lang/RuntimeException", "java/lang/Exception"]).filter goodWord)
def wsX3_sinks : List Cond := .code yX3_sinks cX3_sinks 6 (some .int) :: ([.fieldLink RX3 63 "PileMoves$Pile" "sunk" "[I", .methodLink RX3 48 yX3_pileOf, .instanceMethod yX3_pileOf, .selects RX3 yX3_pileOf yX3_pileOf, .initialized RX3, .code yX3_pileOf cX3_pileOf 2 (some (.object "PileMoves$Pile")), .classLink RX3 112 "java/lang/IllegalArgumentException", .initialized "java/lang/IllegalArgumentException", .fieldLink RX3 11 "PileMoves" "piles" "[LPileMoves$Pile;", .methodLink RX3 52 yX3_checkPiece, .static yX3_checkPiece, .code yX3_checkPiece cX3_checkPiece 2 none, .methodLink RX3 141 yX1_pieces, .instanceMethod yX1_pieces, .selects RX1 yX1_pieces yX1_pieces, .initialized RX1, .code yX1_pieces cX1_pieces 1 (some .int), .fieldLink RX1 19 "PileMoves$Pile" "stiff" "[I", .methodLink RX3 33 yX3_checkWithin, .static yX3_checkWithin, .code yX3_checkWithin cX3_checkWithin 3 none] ++ wsX10 ++ wsX30 ++ (vx_atS RX3 116 "java/lang/IllegalArgumentException" ["java/lang/RuntimeException", "java/lang/Exception"]).filter goodWord)
def wsX3_tip : List Cond := .code yX3_tip cX3_tip 5 none :: ([.constant RX3 66 (1000000), .fieldLink RX3 67 "PileMoves$Pile" "tipStiff" "I", .fieldLink RX3 70 "PileMoves$Pile" "tipMost" "I", .methodLink RX3 48 yX3_pileOf, .instanceMethod yX3_pileOf, .selects RX3 yX3_pileOf yX3_pileOf, .initialized RX3, .code yX3_pileOf cX3_pileOf 2 (some (.object "PileMoves$Pile")), .classLink RX3 112 "java/lang/IllegalArgumentException", .initialized "java/lang/IllegalArgumentException", .fieldLink RX3 11 "PileMoves" "piles" "[LPileMoves$Pile;", .methodLink RX3 33 yX3_checkWithin, .static yX3_checkWithin, .code yX3_checkWithin cX3_checkWithin 3 none] ++ wsX10 ++ wsX30 ++ (vx_atS RX3 116 "java/lang/IllegalArgumentException" ["java/lang/RuntimeException", "java/lang/Exception"]).filter goodWord)
def wsX3_checkLoad : List Cond := .code yX3_checkLoad cX3_checkLoad 1 none :: ([.constant RX3 140 (10000000), .methodLink RX3 33 yX3_checkWithin, .static yX3_checkWithin, .initialized RX3, .code yX3_checkWithin cX3_checkWithin 3 none, .classLink RX3 112 "java/lang/IllegalArgumentException", .initialized "java/lang/IllegalArgumentException"] ++ (vx_atS RX3 116 "java/lang/IllegalArgumentException" ["java/lang/RuntimeException", "java/lang/Exception"]).filter goodWord)
def wsX3_under_r1 : List Cond := [Cond.fieldLink RX3 18 "PileMoves" "state" "LPileMoves$State;", Cond.fieldLink RX3 81 "PileMoves$State" "place" "I", Cond.constant RX3 84 (-1000000), Cond.methodLink RX3 48 yX3_pileOf, Cond.instanceMethod yX3_pileOf, Cond.selects RX3 yX3_pileOf yX3_pileOf, Cond.initialized RX3, Cond.code yX3_pileOf cX3_pileOf 2 (some (.object "PileMoves$Pile")), Cond.classLink RX3 112 "java/lang/IllegalArgumentException", Cond.initialized "java/lang/IllegalArgumentException", Cond.fieldLink RX3 11 "PileMoves" "piles" "[LPileMoves$Pile;", Cond.methodLink RX3 73 yX3_checkLoad, Cond.static yX3_checkLoad, Cond.code yX3_checkLoad cX3_checkLoad 1 none, Cond.constant RX3 140 (10000000), Cond.methodLink RX3 33 yX3_checkWithin, Cond.static yX3_checkWithin, Cond.code yX3_checkWithin cX3_checkWithin 3 none, Cond.methodLink RX3 77 yX2_findUnder, Cond.instanceMethod yX2_findUnder, Cond.selects RX2 yX2_findUnder yX2_findUnder, Cond.initialized RX2, Cond.code yX2_findUnder cX2_findUnder 3 (some .boolean), Cond.fieldLink RX2 15 "PileMoves$State" "last" "I"]
def wsX3_under_r2 : List Cond := [Cond.constant RX2 19 (100000), Cond.methodLink RX2 9 yX2_find, Cond.instanceMethod yX2_find, Cond.selects RX2 yX2_find yX2_find, Cond.code yX2_find cX2_find 6 (some .boolean), Cond.constant RX2 64 (-100001), Cond.constant RX2 65 (131072), Cond.fieldLink RX2 39 "PileMoves$State" "forceAbove" "I", Cond.fieldLink RX2 26 "PileMoves$State" "place" "I", Cond.constant RX2 70 (-100000), Cond.methodLink RX2 66 yX2_climb, Cond.instanceMethod yX2_climb, Cond.selects RX2 yX2_climb yX2_climb, Cond.code yX2_climb cX2_climb 7 none, Cond.fieldLink RX2 29 "PileMoves$Pile" "tipStiff" "I", Cond.fieldLink RX2 32 "PileMoves$Pile" "tipMost" "I", Cond.fieldLink RX2 42 "PileMoves$Pile" "spring" "I", Cond.fieldLink RX2 51 "PileMoves$Pile" "stiff" "[I", Cond.fieldLink RX2 55 "PileMoves$Pile" "sunk" "[I", Cond.fieldLink RX2 58 "PileMoves$Pile" "most" "[I", Cond.fieldLink RX2 61 "PileMoves$State" "groundForce" "I", Cond.methodLink RX2 20 yX1_pieces, Cond.instanceMethod yX1_pieces, Cond.selects RX1 yX1_pieces yX1_pieces]
def wsX3_under_r3 : List Cond := [Cond.initialized RX1, Cond.code yX1_pieces cX1_pieces 1 (some .int), Cond.fieldLink RX1 19 "PileMoves$Pile" "stiff" "[I", Cond.static yX3_clamp, Cond.code yX3_clamp cX3_clamp 4 (some .int), Cond.methodLink RX2 45 yJ9_floorDiv_7cf53, Cond.static yJ9_floorDiv_7cf53, Cond.initialized RJ9, Cond.code yJ9_floorDiv_7cf53 cJ9_floorDiv_7cf53 3 (some .int)]
def wsX3_under : List Cond := .code yX3_under cX3_under 4 (some .int) :: ((wsX3_under_r1 ++ (wsX3_under_r2 ++ wsX3_under_r3)) ++ wsX30 ++ wsX20 ++ wsX10 ++ (vx_atS RX3 116 "java/lang/IllegalArgumentException" ["java/lang/RuntimeException", "java/lang/Exception"]).filter goodWord)
def wsX3_piece_r1 : List Cond := [Cond.fieldLink RX3 18 "PileMoves" "state" "LPileMoves$State;", Cond.constant RX3 84 (-1000000), Cond.fieldLink RX3 81 "PileMoves$State" "place" "I", Cond.fieldLink RX3 88 "PileMoves$State" "groundForce" "I", Cond.fieldLink RX3 91 "PileMoves$State" "forceAbove" "I", Cond.methodLink RX3 48 yX3_pileOf, Cond.instanceMethod yX3_pileOf, Cond.selects RX3 yX3_pileOf yX3_pileOf, Cond.initialized RX3, Cond.code yX3_pileOf cX3_pileOf 2 (some (.object "PileMoves$Pile")), Cond.classLink RX3 112 "java/lang/IllegalArgumentException", Cond.initialized "java/lang/IllegalArgumentException", Cond.fieldLink RX3 11 "PileMoves" "piles" "[LPileMoves$Pile;", Cond.methodLink RX3 73 yX3_checkLoad, Cond.static yX3_checkLoad, Cond.code yX3_checkLoad cX3_checkLoad 1 none, Cond.constant RX3 140 (10000000), Cond.methodLink RX3 33 yX3_checkWithin, Cond.static yX3_checkWithin, Cond.code yX3_checkWithin cX3_checkWithin 3 none, Cond.methodLink RX3 52 yX3_checkPiece, Cond.static yX3_checkPiece, Cond.code yX3_checkPiece cX3_checkPiece 2 none, Cond.methodLink RX3 141 yX1_pieces]
def wsX3_piece_r2 : List Cond := [Cond.instanceMethod yX1_pieces, Cond.selects RX1 yX1_pieces yX1_pieces, Cond.initialized RX1, Cond.code yX1_pieces cX1_pieces 1 (some .int), Cond.fieldLink RX1 19 "PileMoves$Pile" "stiff" "[I", Cond.methodLink RX3 77 yX2_findUnder, Cond.instanceMethod yX2_findUnder, Cond.selects RX2 yX2_findUnder yX2_findUnder, Cond.initialized RX2, Cond.code yX2_findUnder cX2_findUnder 3 (some .boolean), Cond.fieldLink RX2 15 "PileMoves$State" "last" "I", Cond.constant RX2 19 (100000), Cond.methodLink RX2 9 yX2_find, Cond.instanceMethod yX2_find, Cond.selects RX2 yX2_find yX2_find, Cond.code yX2_find cX2_find 6 (some .boolean), Cond.constant RX2 64 (-100001), Cond.constant RX2 65 (131072), Cond.fieldLink RX2 39 "PileMoves$State" "forceAbove" "I", Cond.fieldLink RX2 26 "PileMoves$State" "place" "I", Cond.constant RX2 70 (-100000), Cond.methodLink RX2 66 yX2_climb, Cond.instanceMethod yX2_climb, Cond.selects RX2 yX2_climb yX2_climb]
def wsX3_piece_r3 : List Cond := [Cond.code yX2_climb cX2_climb 7 none, Cond.fieldLink RX2 29 "PileMoves$Pile" "tipStiff" "I", Cond.fieldLink RX2 32 "PileMoves$Pile" "tipMost" "I", Cond.fieldLink RX2 42 "PileMoves$Pile" "spring" "I", Cond.fieldLink RX2 51 "PileMoves$Pile" "stiff" "[I", Cond.fieldLink RX2 55 "PileMoves$Pile" "sunk" "[I", Cond.fieldLink RX2 58 "PileMoves$Pile" "most" "[I", Cond.fieldLink RX2 61 "PileMoves$State" "groundForce" "I", Cond.methodLink RX2 20 yX1_pieces, Cond.static yX3_clamp, Cond.code yX3_clamp cX3_clamp 4 (some .int), Cond.methodLink RX2 45 yJ9_floorDiv_7cf53, Cond.static yJ9_floorDiv_7cf53, Cond.initialized RJ9, Cond.code yJ9_floorDiv_7cf53 cJ9_floorDiv_7cf53 3 (some .int), Cond.methodLink RX3 85 yX2_climb]
def wsX3_piece : List Cond := .code yX3_piece cX3_piece 6 (some .int) :: ((wsX3_piece_r1 ++ (wsX3_piece_r2 ++ wsX3_piece_r3)) ++ wsX30 ++ wsX20 ++ wsX10 ++ (vx_atS RX3 116 "java/lang/IllegalArgumentException" ["java/lang/RuntimeException", "java/lang/Exception"]).filter goodWord)
def wsX3_load_r1 : List Cond := [Cond.constant RX3 94 (-100000), Cond.constant RX3 37 (100000), Cond.fieldLink RX3 18 "PileMoves" "state" "LPileMoves$State;", Cond.fieldLink RX3 91 "PileMoves$State" "forceAbove" "I", Cond.constant RX3 84 (-1000000), Cond.methodLink RX3 48 yX3_pileOf, Cond.instanceMethod yX3_pileOf, Cond.selects RX3 yX3_pileOf yX3_pileOf, Cond.initialized RX3, Cond.code yX3_pileOf cX3_pileOf 2 (some (.object "PileMoves$Pile")), Cond.classLink RX3 112 "java/lang/IllegalArgumentException", Cond.initialized "java/lang/IllegalArgumentException", Cond.fieldLink RX3 11 "PileMoves" "piles" "[LPileMoves$Pile;", Cond.methodLink RX3 33 yX3_checkWithin, Cond.static yX3_checkWithin, Cond.code yX3_checkWithin cX3_checkWithin 3 none, Cond.methodLink RX3 95 yX2_findAt, Cond.instanceMethod yX2_findAt, Cond.selects RX2 yX2_findAt yX2_findAt, Cond.initialized RX2, Cond.code yX2_findAt cX2_findAt 3 (some .boolean), Cond.methodLink RX2 9 yX2_find, Cond.instanceMethod yX2_find, Cond.selects RX2 yX2_find yX2_find]
def wsX3_load_r2 : List Cond := [Cond.code yX2_find cX2_find 6 (some .boolean), Cond.constant RX2 64 (-100001), Cond.constant RX2 65 (131072), Cond.fieldLink RX2 15 "PileMoves$State" "last" "I", Cond.constant RX2 19 (100000), Cond.fieldLink RX2 39 "PileMoves$State" "forceAbove" "I", Cond.fieldLink RX2 26 "PileMoves$State" "place" "I", Cond.constant RX2 70 (-100000), Cond.methodLink RX2 66 yX2_climb, Cond.instanceMethod yX2_climb, Cond.selects RX2 yX2_climb yX2_climb, Cond.code yX2_climb cX2_climb 7 none, Cond.fieldLink RX2 29 "PileMoves$Pile" "tipStiff" "I", Cond.fieldLink RX2 32 "PileMoves$Pile" "tipMost" "I", Cond.fieldLink RX2 42 "PileMoves$Pile" "spring" "I", Cond.fieldLink RX2 51 "PileMoves$Pile" "stiff" "[I", Cond.fieldLink RX2 55 "PileMoves$Pile" "sunk" "[I", Cond.fieldLink RX2 58 "PileMoves$Pile" "most" "[I", Cond.fieldLink RX2 61 "PileMoves$State" "groundForce" "I", Cond.methodLink RX2 20 yX1_pieces, Cond.instanceMethod yX1_pieces, Cond.selects RX1 yX1_pieces yX1_pieces, Cond.initialized RX1, Cond.code yX1_pieces cX1_pieces 1 (some .int)]
def wsX3_load_r3 : List Cond := [Cond.fieldLink RX1 19 "PileMoves$Pile" "stiff" "[I", Cond.static yX3_clamp, Cond.code yX3_clamp cX3_clamp 4 (some .int), Cond.methodLink RX2 45 yJ9_floorDiv_7cf53, Cond.static yJ9_floorDiv_7cf53, Cond.initialized RJ9, Cond.code yJ9_floorDiv_7cf53 cJ9_floorDiv_7cf53 3 (some .int)]
def wsX3_load : List Cond := .code yX3_load cX3_load 4 (some .int) :: ((wsX3_load_r1 ++ (wsX3_load_r2 ++ wsX3_load_r3)) ++ wsX30 ++ wsX20 ++ wsX10 ++ (vx_atS RX3 116 "java/lang/IllegalArgumentException" ["java/lang/RuntimeException", "java/lang/Exception"]).filter goodWord)
def wsX3_hold : List Cond := .code yX3_hold cX3_hold 8 (some .int) :: ([.fieldLink RX3 60 "PileMoves$Pile" "most" "[I", .methodLink RX3 48 yX3_pileOf, .instanceMethod yX3_pileOf, .selects RX3 yX3_pileOf yX3_pileOf, .initialized RX3, .code yX3_pileOf cX3_pileOf 2 (some (.object "PileMoves$Pile")), .classLink RX3 112 "java/lang/IllegalArgumentException", .initialized "java/lang/IllegalArgumentException", .fieldLink RX3 11 "PileMoves" "piles" "[LPileMoves$Pile;"] ++ wsX10 ++ wsX30 ++ (vx_atS RX3 116 "java/lang/IllegalArgumentException" ["java/lang/RuntimeException", "java/lang/Exception"]).filter goodWord)
def wsX3_cheapest_r1 : List Cond := [Cond.constant RX3 37 (100000), Cond.constant RX3 84 (-1000000), Cond.fieldLink RX3 11 "PileMoves" "piles" "[LPileMoves$Pile;", Cond.fieldLink RX3 98 "PileMoves$Pile" "cost" "I", Cond.fieldLink RX3 18 "PileMoves" "state" "LPileMoves$State;", Cond.fieldLink RX3 81 "PileMoves$State" "place" "I", Cond.methodLink RX3 73 yX3_checkLoad, Cond.static yX3_checkLoad, Cond.initialized RX3, Cond.code yX3_checkLoad cX3_checkLoad 1 none, Cond.constant RX3 140 (10000000), Cond.methodLink RX3 33 yX3_checkWithin, Cond.static yX3_checkWithin, Cond.code yX3_checkWithin cX3_checkWithin 3 none, Cond.classLink RX3 112 "java/lang/IllegalArgumentException", Cond.initialized "java/lang/IllegalArgumentException", Cond.methodLink RX3 77 yX2_findUnder, Cond.instanceMethod yX2_findUnder, Cond.selects RX2 yX2_findUnder yX2_findUnder, Cond.initialized RX2, Cond.code yX2_findUnder cX2_findUnder 3 (some .boolean), Cond.fieldLink RX2 15 "PileMoves$State" "last" "I", Cond.constant RX2 19 (100000), Cond.methodLink RX2 9 yX2_find]
def wsX3_cheapest_r2 : List Cond := [Cond.instanceMethod yX2_find, Cond.selects RX2 yX2_find yX2_find, Cond.code yX2_find cX2_find 6 (some .boolean), Cond.constant RX2 64 (-100001), Cond.constant RX2 65 (131072), Cond.fieldLink RX2 39 "PileMoves$State" "forceAbove" "I", Cond.fieldLink RX2 26 "PileMoves$State" "place" "I", Cond.constant RX2 70 (-100000), Cond.methodLink RX2 66 yX2_climb, Cond.instanceMethod yX2_climb, Cond.selects RX2 yX2_climb yX2_climb, Cond.code yX2_climb cX2_climb 7 none, Cond.fieldLink RX2 29 "PileMoves$Pile" "tipStiff" "I", Cond.fieldLink RX2 32 "PileMoves$Pile" "tipMost" "I", Cond.fieldLink RX2 42 "PileMoves$Pile" "spring" "I", Cond.fieldLink RX2 51 "PileMoves$Pile" "stiff" "[I", Cond.fieldLink RX2 55 "PileMoves$Pile" "sunk" "[I", Cond.fieldLink RX2 58 "PileMoves$Pile" "most" "[I", Cond.fieldLink RX2 61 "PileMoves$State" "groundForce" "I", Cond.methodLink RX2 20 yX1_pieces, Cond.instanceMethod yX1_pieces, Cond.selects RX1 yX1_pieces yX1_pieces, Cond.initialized RX1, Cond.code yX1_pieces cX1_pieces 1 (some .int)]
def wsX3_cheapest_r3 : List Cond := [Cond.fieldLink RX1 19 "PileMoves$Pile" "stiff" "[I", Cond.static yX3_clamp, Cond.code yX3_clamp cX3_clamp 4 (some .int), Cond.methodLink RX2 45 yJ9_floorDiv_7cf53, Cond.static yJ9_floorDiv_7cf53, Cond.initialized RJ9, Cond.code yJ9_floorDiv_7cf53 cJ9_floorDiv_7cf53 3 (some .int)]
def wsX3_cheapest : List Cond := .code yX3_cheapest cX3_cheapest 7 (some .int) :: ((wsX3_cheapest_r1 ++ (wsX3_cheapest_r2 ++ wsX3_cheapest_r3)) ++ wsX30 ++ wsX10 ++ wsX20 ++ (vx_atS RX3 116 "java/lang/IllegalArgumentException" ["java/lang/RuntimeException", "java/lang/Exception"]).filter goodWord)
def wsX3_join : List Cond := .code yX3_join cX3_join 5 (some .boolean) :: ([.fieldLink RX3 101 "PileMoves$Pile" "joined" "Z", .methodLink RX3 48 yX3_pileOf, .instanceMethod yX3_pileOf, .selects RX3 yX3_pileOf yX3_pileOf, .initialized RX3, .code yX3_pileOf cX3_pileOf 2 (some (.object "PileMoves$Pile")), .classLink RX3 112 "java/lang/IllegalArgumentException", .initialized "java/lang/IllegalArgumentException", .fieldLink RX3 11 "PileMoves" "piles" "[LPileMoves$Pile;"] ++ wsX10 ++ wsX30 ++ (vx_atS RX3 116 "java/lang/IllegalArgumentException" ["java/lang/RuntimeException", "java/lang/Exception"]).filter goodWord)
def wsX3_checkGroupNotEmpty : List Cond := .code yX3_checkGroupNotEmpty cX3_checkGroupNotEmpty 5 none :: ([.classLink RX3 38 "java/lang/IllegalStateException", .initialized "java/lang/IllegalStateException", .fieldLink RX3 11 "PileMoves" "piles" "[LPileMoves$Pile;", .fieldLink RX3 101 "PileMoves$Pile" "joined" "Z"] ++ wsX30 ++ wsX10 ++ (vx_atS RX3 42 "java/lang/IllegalStateException" ["java/lang/RuntimeException", "java/lang/Exception"]).filter goodWord)
def wsX3_groupLoad_r1 : List Cond := [Cond.fieldLink RX3 11 "PileMoves" "piles" "[LPileMoves$Pile;", Cond.fieldLink RX3 101 "PileMoves$Pile" "joined" "Z", Cond.fieldLink RX3 18 "PileMoves" "state" "LPileMoves$State;", Cond.constantLong RX3 152 (1000000000000), Cond.fieldLink RX3 91 "PileMoves$State" "forceAbove" "I", Cond.methodLink RX3 95 yX2_findAt, Cond.instanceMethod yX2_findAt, Cond.selects RX2 yX2_findAt yX2_findAt, Cond.initialized RX2, Cond.code yX2_findAt cX2_findAt 3 (some .boolean), Cond.methodLink RX2 9 yX2_find, Cond.instanceMethod yX2_find, Cond.selects RX2 yX2_find yX2_find, Cond.code yX2_find cX2_find 6 (some .boolean), Cond.constant RX2 64 (-100001), Cond.constant RX2 65 (131072), Cond.fieldLink RX2 15 "PileMoves$State" "last" "I", Cond.constant RX2 19 (100000), Cond.fieldLink RX2 39 "PileMoves$State" "forceAbove" "I", Cond.fieldLink RX2 26 "PileMoves$State" "place" "I", Cond.constant RX2 70 (-100000), Cond.methodLink RX2 66 yX2_climb, Cond.instanceMethod yX2_climb, Cond.selects RX2 yX2_climb yX2_climb]
def wsX3_groupLoad_r2 : List Cond := [Cond.code yX2_climb cX2_climb 7 none, Cond.fieldLink RX2 29 "PileMoves$Pile" "tipStiff" "I", Cond.fieldLink RX2 32 "PileMoves$Pile" "tipMost" "I", Cond.fieldLink RX2 42 "PileMoves$Pile" "spring" "I", Cond.fieldLink RX2 51 "PileMoves$Pile" "stiff" "[I", Cond.fieldLink RX2 55 "PileMoves$Pile" "sunk" "[I", Cond.fieldLink RX2 58 "PileMoves$Pile" "most" "[I", Cond.fieldLink RX2 61 "PileMoves$State" "groundForce" "I", Cond.methodLink RX2 20 yX1_pieces, Cond.instanceMethod yX1_pieces, Cond.selects RX1 yX1_pieces yX1_pieces, Cond.initialized RX1, Cond.code yX1_pieces cX1_pieces 1 (some .int), Cond.fieldLink RX1 19 "PileMoves$Pile" "stiff" "[I", Cond.static yX3_clamp, Cond.initialized RX3, Cond.code yX3_clamp cX3_clamp 4 (some .int), Cond.methodLink RX2 45 yJ9_floorDiv_7cf53, Cond.static yJ9_floorDiv_7cf53, Cond.initialized RJ9, Cond.code yJ9_floorDiv_7cf53 cJ9_floorDiv_7cf53 3 (some .int)]
def wsX3_groupLoad : List Cond := .code yX3_groupLoad cX3_groupLoad 8 (some .long) :: ((wsX3_groupLoad_r1 ++ wsX3_groupLoad_r2) ++ wsX30 ++ wsX10 ++ wsX20)
def wsX3_groupSettlement_r1 : List Cond := [Cond.constant RX3 84 (-1000000), Cond.methodLink RX3 148 yX3_groupLoad, Cond.instanceMethod yX3_groupLoad, Cond.selects RX3 yX3_groupLoad yX3_groupLoad, Cond.initialized RX3, Cond.code yX3_groupLoad cX3_groupLoad 8 (some .long), Cond.fieldLink RX3 11 "PileMoves" "piles" "[LPileMoves$Pile;", Cond.fieldLink RX3 101 "PileMoves$Pile" "joined" "Z", Cond.fieldLink RX3 18 "PileMoves" "state" "LPileMoves$State;", Cond.constantLong RX3 152 (1000000000000), Cond.fieldLink RX3 91 "PileMoves$State" "forceAbove" "I", Cond.methodLink RX3 95 yX2_findAt, Cond.instanceMethod yX2_findAt, Cond.selects RX2 yX2_findAt yX2_findAt, Cond.initialized RX2, Cond.code yX2_findAt cX2_findAt 3 (some .boolean), Cond.methodLink RX2 9 yX2_find, Cond.instanceMethod yX2_find, Cond.selects RX2 yX2_find yX2_find, Cond.code yX2_find cX2_find 6 (some .boolean), Cond.constant RX2 64 (-100001), Cond.constant RX2 65 (131072), Cond.fieldLink RX2 15 "PileMoves$State" "last" "I", Cond.constant RX2 19 (100000)]
def wsX3_groupSettlement_r2 : List Cond := [Cond.fieldLink RX2 39 "PileMoves$State" "forceAbove" "I", Cond.fieldLink RX2 26 "PileMoves$State" "place" "I", Cond.constant RX2 70 (-100000), Cond.methodLink RX2 66 yX2_climb, Cond.instanceMethod yX2_climb, Cond.selects RX2 yX2_climb yX2_climb, Cond.code yX2_climb cX2_climb 7 none, Cond.fieldLink RX2 29 "PileMoves$Pile" "tipStiff" "I", Cond.fieldLink RX2 32 "PileMoves$Pile" "tipMost" "I", Cond.fieldLink RX2 42 "PileMoves$Pile" "spring" "I", Cond.fieldLink RX2 51 "PileMoves$Pile" "stiff" "[I", Cond.fieldLink RX2 55 "PileMoves$Pile" "sunk" "[I", Cond.fieldLink RX2 58 "PileMoves$Pile" "most" "[I", Cond.fieldLink RX2 61 "PileMoves$State" "groundForce" "I", Cond.methodLink RX2 20 yX1_pieces, Cond.instanceMethod yX1_pieces, Cond.selects RX1 yX1_pieces yX1_pieces, Cond.initialized RX1, Cond.code yX1_pieces cX1_pieces 1 (some .int), Cond.fieldLink RX1 19 "PileMoves$Pile" "stiff" "[I", Cond.static yX3_clamp, Cond.code yX3_clamp cX3_clamp 4 (some .int), Cond.methodLink RX2 45 yJ9_floorDiv_7cf53, Cond.static yJ9_floorDiv_7cf53]
def wsX3_groupSettlement_r3 : List Cond := [Cond.initialized RJ9, Cond.code yJ9_floorDiv_7cf53 cJ9_floorDiv_7cf53 3 (some .int)]
def wsX3_groupSettlement : List Cond := .code yX3_groupSettlement cX3_groupSettlement 5 (some .int) :: ((wsX3_groupSettlement_r1 ++ (wsX3_groupSettlement_r2 ++ wsX3_groupSettlement_r3)) ++ wsX30 ++ wsX10 ++ wsX20)
def wsX3_group_r1 : List Cond := [Cond.methodLink RX3 73 yX3_checkLoad, Cond.static yX3_checkLoad, Cond.initialized RX3, Cond.code yX3_checkLoad cX3_checkLoad 1 none, Cond.constant RX3 140 (10000000), Cond.methodLink RX3 33 yX3_checkWithin, Cond.static yX3_checkWithin, Cond.code yX3_checkWithin cX3_checkWithin 3 none, Cond.classLink RX3 112 "java/lang/IllegalArgumentException", Cond.initialized "java/lang/IllegalArgumentException", Cond.methodLink RX3 105 yX3_checkGroupNotEmpty, Cond.instanceMethod yX3_checkGroupNotEmpty, Cond.selects RX3 yX3_checkGroupNotEmpty yX3_checkGroupNotEmpty, Cond.code yX3_checkGroupNotEmpty cX3_checkGroupNotEmpty 5 none, Cond.classLink RX3 38 "java/lang/IllegalStateException", Cond.initialized "java/lang/IllegalStateException", Cond.fieldLink RX3 11 "PileMoves" "piles" "[LPileMoves$Pile;", Cond.fieldLink RX3 101 "PileMoves$Pile" "joined" "Z", Cond.methodLink RX3 108 yX3_groupSettlement, Cond.instanceMethod yX3_groupSettlement, Cond.selects RX3 yX3_groupSettlement yX3_groupSettlement, Cond.code yX3_groupSettlement cX3_groupSettlement 5 (some .int), Cond.constant RX3 84 (-1000000), Cond.methodLink RX3 148 yX3_groupLoad]
def wsX3_group_r2 : List Cond := [Cond.instanceMethod yX3_groupLoad, Cond.selects RX3 yX3_groupLoad yX3_groupLoad, Cond.code yX3_groupLoad cX3_groupLoad 8 (some .long), Cond.fieldLink RX3 18 "PileMoves" "state" "LPileMoves$State;", Cond.constantLong RX3 152 (1000000000000), Cond.fieldLink RX3 91 "PileMoves$State" "forceAbove" "I", Cond.methodLink RX3 95 yX2_findAt, Cond.instanceMethod yX2_findAt, Cond.selects RX2 yX2_findAt yX2_findAt, Cond.initialized RX2, Cond.code yX2_findAt cX2_findAt 3 (some .boolean), Cond.methodLink RX2 9 yX2_find, Cond.instanceMethod yX2_find, Cond.selects RX2 yX2_find yX2_find, Cond.code yX2_find cX2_find 6 (some .boolean), Cond.constant RX2 64 (-100001), Cond.constant RX2 65 (131072), Cond.fieldLink RX2 15 "PileMoves$State" "last" "I", Cond.constant RX2 19 (100000), Cond.fieldLink RX2 39 "PileMoves$State" "forceAbove" "I", Cond.fieldLink RX2 26 "PileMoves$State" "place" "I", Cond.constant RX2 70 (-100000), Cond.methodLink RX2 66 yX2_climb, Cond.instanceMethod yX2_climb]
def wsX3_group_r3 : List Cond := [Cond.selects RX2 yX2_climb yX2_climb, Cond.code yX2_climb cX2_climb 7 none, Cond.fieldLink RX2 29 "PileMoves$Pile" "tipStiff" "I", Cond.fieldLink RX2 32 "PileMoves$Pile" "tipMost" "I", Cond.fieldLink RX2 42 "PileMoves$Pile" "spring" "I", Cond.fieldLink RX2 51 "PileMoves$Pile" "stiff" "[I", Cond.fieldLink RX2 55 "PileMoves$Pile" "sunk" "[I", Cond.fieldLink RX2 58 "PileMoves$Pile" "most" "[I", Cond.fieldLink RX2 61 "PileMoves$State" "groundForce" "I", Cond.methodLink RX2 20 yX1_pieces, Cond.instanceMethod yX1_pieces, Cond.selects RX1 yX1_pieces yX1_pieces, Cond.initialized RX1, Cond.code yX1_pieces cX1_pieces 1 (some .int), Cond.fieldLink RX1 19 "PileMoves$Pile" "stiff" "[I", Cond.static yX3_clamp, Cond.code yX3_clamp cX3_clamp 4 (some .int), Cond.methodLink RX2 45 yJ9_floorDiv_7cf53, Cond.static yJ9_floorDiv_7cf53, Cond.initialized RJ9, Cond.code yJ9_floorDiv_7cf53 cJ9_floorDiv_7cf53 3 (some .int)]
def wsX3_group : List Cond := .code yX3_group cX3_group 2 (some .int) :: ((wsX3_group_r1 ++ (wsX3_group_r2 ++ wsX3_group_r3)) ++ wsX30 ++ wsX10 ++ wsX20 ++ (vx_atS RX3 116 "java/lang/IllegalArgumentException" ["java/lang/RuntimeException", "java/lang/Exception"]).filter goodWord ++ (vx_atS RX3 42 "java/lang/IllegalStateException" ["java/lang/RuntimeException", "java/lang/Exception"]).filter goodWord)
def wsX3_share_r1 : List Cond := [Cond.classLink RX3 112 "java/lang/IllegalArgumentException", Cond.initialized "java/lang/IllegalArgumentException", Cond.fieldLink RX3 101 "PileMoves$Pile" "joined" "Z", Cond.constant RX3 84 (-1000000), Cond.fieldLink RX3 18 "PileMoves" "state" "LPileMoves$State;", Cond.fieldLink RX3 91 "PileMoves$State" "forceAbove" "I", Cond.methodLink RX3 73 yX3_checkLoad, Cond.static yX3_checkLoad, Cond.initialized RX3, Cond.code yX3_checkLoad cX3_checkLoad 1 none, Cond.constant RX3 140 (10000000), Cond.methodLink RX3 33 yX3_checkWithin, Cond.static yX3_checkWithin, Cond.code yX3_checkWithin cX3_checkWithin 3 none, Cond.methodLink RX3 48 yX3_pileOf, Cond.instanceMethod yX3_pileOf, Cond.selects RX3 yX3_pileOf yX3_pileOf, Cond.code yX3_pileOf cX3_pileOf 2 (some (.object "PileMoves$Pile")), Cond.fieldLink RX3 11 "PileMoves" "piles" "[LPileMoves$Pile;", Cond.methodLink RX3 105 yX3_checkGroupNotEmpty, Cond.instanceMethod yX3_checkGroupNotEmpty, Cond.selects RX3 yX3_checkGroupNotEmpty yX3_checkGroupNotEmpty, Cond.code yX3_checkGroupNotEmpty cX3_checkGroupNotEmpty 5 none, Cond.classLink RX3 38 "java/lang/IllegalStateException"]
def wsX3_share_r2 : List Cond := [Cond.initialized "java/lang/IllegalStateException", Cond.methodLink RX3 108 yX3_groupSettlement, Cond.instanceMethod yX3_groupSettlement, Cond.selects RX3 yX3_groupSettlement yX3_groupSettlement, Cond.code yX3_groupSettlement cX3_groupSettlement 5 (some .int), Cond.methodLink RX3 148 yX3_groupLoad, Cond.instanceMethod yX3_groupLoad, Cond.selects RX3 yX3_groupLoad yX3_groupLoad, Cond.code yX3_groupLoad cX3_groupLoad 8 (some .long), Cond.constantLong RX3 152 (1000000000000), Cond.methodLink RX3 95 yX2_findAt, Cond.instanceMethod yX2_findAt, Cond.selects RX2 yX2_findAt yX2_findAt, Cond.initialized RX2, Cond.code yX2_findAt cX2_findAt 3 (some .boolean), Cond.methodLink RX2 9 yX2_find, Cond.instanceMethod yX2_find, Cond.selects RX2 yX2_find yX2_find, Cond.code yX2_find cX2_find 6 (some .boolean), Cond.constant RX2 64 (-100001), Cond.constant RX2 65 (131072), Cond.fieldLink RX2 15 "PileMoves$State" "last" "I", Cond.constant RX2 19 (100000), Cond.fieldLink RX2 39 "PileMoves$State" "forceAbove" "I"]
def wsX3_share_r3 : List Cond := [Cond.fieldLink RX2 26 "PileMoves$State" "place" "I", Cond.constant RX2 70 (-100000), Cond.methodLink RX2 66 yX2_climb, Cond.instanceMethod yX2_climb, Cond.selects RX2 yX2_climb yX2_climb, Cond.code yX2_climb cX2_climb 7 none, Cond.fieldLink RX2 29 "PileMoves$Pile" "tipStiff" "I", Cond.fieldLink RX2 32 "PileMoves$Pile" "tipMost" "I", Cond.fieldLink RX2 42 "PileMoves$Pile" "spring" "I", Cond.fieldLink RX2 51 "PileMoves$Pile" "stiff" "[I", Cond.fieldLink RX2 55 "PileMoves$Pile" "sunk" "[I", Cond.fieldLink RX2 58 "PileMoves$Pile" "most" "[I", Cond.fieldLink RX2 61 "PileMoves$State" "groundForce" "I", Cond.methodLink RX2 20 yX1_pieces, Cond.instanceMethod yX1_pieces, Cond.selects RX1 yX1_pieces yX1_pieces, Cond.initialized RX1, Cond.code yX1_pieces cX1_pieces 1 (some .int), Cond.fieldLink RX1 19 "PileMoves$Pile" "stiff" "[I", Cond.static yX3_clamp, Cond.code yX3_clamp cX3_clamp 4 (some .int), Cond.methodLink RX2 45 yJ9_floorDiv_7cf53, Cond.static yJ9_floorDiv_7cf53, Cond.initialized RJ9]
def wsX3_share_r4 : List Cond := [Cond.code yJ9_floorDiv_7cf53 cJ9_floorDiv_7cf53 3 (some .int)]
def wsX3_share : List Cond := .code yX3_share cX3_share 5 (some .int) :: ((wsX3_share_r1 ++ (wsX3_share_r2 ++ (wsX3_share_r3 ++ wsX3_share_r4))) ++ wsX10 ++ wsX30 ++ wsX20 ++ (vx_atS RX3 116 "java/lang/IllegalArgumentException" ["java/lang/RuntimeException", "java/lang/Exception"]).filter goodWord ++ (vx_atS RX3 42 "java/lang/IllegalStateException" ["java/lang/RuntimeException", "java/lang/Exception"]).filter goodWord)
def wsX3_blow_r1 : List Cond := [Cond.fieldLink RX3 25 "PileMoves" "latestBlow" "LPileMoves$Blow;", Cond.methodLink RX3 48 yX3_pileOf, Cond.instanceMethod yX3_pileOf, Cond.selects RX3 yX3_pileOf yX3_pileOf, Cond.initialized RX3, Cond.code yX3_pileOf cX3_pileOf 2 (some (.object "PileMoves$Pile")), Cond.classLink RX3 112 "java/lang/IllegalArgumentException", Cond.initialized "java/lang/IllegalArgumentException", Cond.fieldLink RX3 11 "PileMoves" "piles" "[LPileMoves$Pile;", Cond.methodLink RX3 33 yX3_checkWithin, Cond.static yX3_checkWithin, Cond.code yX3_checkWithin cX3_checkWithin 3 none, Cond.methodLink RX3 117 yX0_strike, Cond.instanceMethod yX0_strike, Cond.selects RX0 yX0_strike yX0_strike, Cond.initialized RX0, Cond.code yX0_strike cX0_strike 7 none, Cond.fieldLink RX0 25 "PileMoves$Blow" "pieces" "I", Cond.fieldLink RX0 30 "PileMoves$Blow" "deepest" "I", Cond.fieldLink RX0 11 "PileMoves$Blow" "places" "[I", Cond.fieldLink RX0 15 "PileMoves$Blow" "speeds" "[I", Cond.fieldLink RX0 58 "PileMoves$Pile" "mass" "I", Cond.methodLink RX0 65 Lib.Math.max.name, Cond.static Lib.Math.max.name]
def wsX3_blow_r2 : List Cond := [Cond.initialized "java/lang/Math", Cond.code Lib.Math.max.name Lib.Math.max.code 2 (some .int), Cond.fieldLink RX0 22 "PileMoves$Blow" "waves" "[I", Cond.methodLink RX0 68 arraycopyName, Cond.native arraycopyName, Cond.static arraycopyName, Cond.initialized "java/lang/System", Cond.methodLink RX0 45 yX1_pieces, Cond.instanceMethod yX1_pieces, Cond.selects RX1 yX1_pieces yX1_pieces, Cond.initialized RX1, Cond.code yX1_pieces cX1_pieces 1 (some .int), Cond.fieldLink RX1 19 "PileMoves$Pile" "stiff" "[I", Cond.methodLink RX0 48 yJ7_fill_53178, Cond.static yJ7_fill_53178, Cond.initialized RJ7, Cond.code yJ7_fill_53178 cJ7_fill_53178 4 none, Cond.methodLink RX0 54 yX0_gatherPushes, Cond.instanceMethod yX0_gatherPushes, Cond.selects RX0 yX0_gatherPushes yX0_gatherPushes, Cond.code yX0_gatherPushes cX0_gatherPushes 3 none, Cond.fieldLink RX0 18 "PileMoves$Blow" "pushes" "[J", Cond.constantLong RX0 77 (10), Cond.methodLink RX0 39 Lib.MathLoose.max_long.x]
def wsX3_blow_r3 : List Cond := [Cond.static Lib.MathLoose.max_long.x, Cond.code Lib.MathLoose.max_long.x Lib.MathLoose.max_long.code 4 (some .long), Cond.fieldLink RX0 83 "PileMoves$Pile" "spring" "I", Cond.constantLong RX0 86 (1000), Cond.fieldLink RX0 88 "PileMoves$Pile" "stiff" "[I", Cond.fieldLink RX0 91 "PileMoves$Pile" "most" "[I", Cond.fieldLink RX0 98 "PileMoves$Pile" "tipStiff" "I", Cond.fieldLink RX0 101 "PileMoves$Pile" "tipMost" "I", Cond.methodLink RX0 74 yJ7_fill_d0a16, Cond.static yJ7_fill_d0a16, Cond.code yJ7_fill_d0a16 cJ7_fill_d0a16 5 none, Cond.methodLink RX0 79 yX0_press, Cond.instanceMethod yX0_press, Cond.selects RX0 yX0_press yX0_press, Cond.code yX0_press cX0_press 5 none, Cond.static yX3_clamp, Cond.code yX3_clamp cX3_clamp 4 (some .int), Cond.methodLink RX0 61 yX0_move, Cond.instanceMethod yX0_move, Cond.selects RX0 yX0_move yX0_move, Cond.code yX0_move cX0_move 5 none, Cond.constant RX0 104 (-1000000000), Cond.constant RX0 105 (1000000000), Cond.methodLink RX3 121 yX0_settled]
def wsX3_blow_r4 : List Cond := [Cond.instanceMethod yX0_settled, Cond.selects RX0 yX0_settled yX0_settled, Cond.code yX0_settled cX0_settled 2 (some .int), Cond.methodLink RX0 33 yX1_quake, Cond.instanceMethod yX1_quake, Cond.selects RX1 yX1_quake yX1_quake, Cond.code yX1_quake cX1_quake 1 (some .long), Cond.fieldLink RX1 29 "PileMoves$Pile" "tipStiff" "I", Cond.constantLong RX1 32 (1000), Cond.fieldLink RX1 34 "PileMoves$Pile" "tipMost" "I"]
def wsX3_blow : List Cond := .code yX3_blow cX3_blow 5 (some .int) :: ((wsX3_blow_r1 ++ (wsX3_blow_r2 ++ (wsX3_blow_r3 ++ wsX3_blow_r4))) ++ wsX30 ++ wsX00 ++ wsX10 ++ (vx_atS RX3 116 "java/lang/IllegalArgumentException" ["java/lang/RuntimeException", "java/lang/Exception"]).filter goodWord)
def wsX3_wave : List Cond := .code yX3_wave cX3_wave 3 (some .int) :: ([.classLink RX3 38 "java/lang/IllegalStateException", .initialized "java/lang/IllegalStateException", .fieldLink RX3 25 "PileMoves" "latestBlow" "LPileMoves$Blow;", .fieldLink RX3 131 "PileMoves$Blow" "pieces" "I", .methodLink RX3 125 yX0_happened, .instanceMethod yX0_happened, .selects RX0 yX0_happened yX0_happened, .initialized RX0, .code yX0_happened cX0_happened 1 (some .boolean), .fieldLink RX0 25 "PileMoves$Blow" "pieces" "I", .methodLink RX3 33 yX3_checkWithin, .static yX3_checkWithin, .initialized RX3, .code yX3_checkWithin cX3_checkWithin 3 none, .classLink RX3 112 "java/lang/IllegalArgumentException", .initialized "java/lang/IllegalArgumentException", .methodLink RX3 134 yX0_behindRound, .instanceMethod yX0_behindRound, .selects RX0 yX0_behindRound yX0_behindRound, .code yX0_behindRound cX0_behindRound 4 (some .int), .fieldLink RX0 22 "PileMoves$Blow" "waves" "[I", .constant RX0 29 (-1000000)] ++ wsX30 ++ wsX00 ++ (vx_atS RX3 42 "java/lang/IllegalStateException" ["java/lang/RuntimeException", "java/lang/Exception"]).filter goodWord ++ (vx_atS RX3 116 "java/lang/IllegalArgumentException" ["java/lang/RuntimeException", "java/lang/Exception"]).filter goodWord)
def wsX4_init : List Cond := .code yX4_init cX4_init 1 none :: ([.methodLink RX4 1 objectInit, .instanceMethod objectInit, .code objectInit ⟨#[0xb1]⟩ 1 none, .arrayClass .int, .fieldLink RX4 7 "PileMovesModel" "many" "[I", .arrayClass .long, .fieldLink RX4 13 "PileMovesModel" "springs" "[J", .fieldLink RX4 17 "PileMovesModel" "masses" "[J", .fieldLink RX4 20 "PileMovesModel" "costs" "[I", .fieldLink RX4 23 "PileMovesModel" "stiff" "[J", .fieldLink RX4 26 "PileMovesModel" "most" "[J", .fieldLink RX4 29 "PileMovesModel" "sinks" "[J", .fieldLink RX4 32 "PileMovesModel" "tipStiff" "[J", .fieldLink RX4 35 "PileMovesModel" "tipMost" "[J", .arrayClass .boolean, .fieldLink RX4 38 "PileMovesModel" "isIn" "[Z", .fieldLink RX4 42 "PileMovesModel" "places" "[J", .fieldLink RX4 45 "PileMovesModel" "grounds" "[J", .fieldLink RX4 48 "PileMovesModel" "above" "[J", .fieldLink RX4 51 "PileMovesModel" "waves" "[J", .constant RX4 54 (-1000000), .fieldLink RX4 55 "PileMovesModel" "blown" "I", .fieldLink RX4 59 "PileMovesModel" "at" "[J", .fieldLink RX4 62 "PileMovesModel" "speeds" "[J"] ++ wsX40)
def wsX4_thrown : List Cond := .code yX4_thrown cX4_thrown 1 (some .int) :: ([.fieldLink RX4 65 "PileMovesModel" "code" "I"] ++ wsX40)
def wsX4_in : List Cond := .code yX4_in cX4_in 6 (some .boolean) :: ([])
def wsX4_cut : List Cond := .code yX4_cut cX4_cut 6 (some .long) :: ([])
def wsX4_down : List Cond := .code yX4_down cX4_down 4 (some .long) :: ([])
def wsX4_isPile : List Cond := .code yX4_isPile cX4_isPile 2 (some .boolean) :: ([.fieldLink RX4 68 "PileMovesModel" "piles" "I", .methodLink RX4 71 yX4_in, .static yX4_in, .initialized RX4, .code yX4_in cX4_in 6 (some .boolean)] ++ wsX40)
def wsX4_isPiece : List Cond := .code yX4_isPiece cX4_isPiece 3 (some .boolean) :: ([.fieldLink RX4 7 "PileMovesModel" "many" "[I", .methodLink RX4 75 yX4_isPile, .instanceMethod yX4_isPile, .selects RX4 yX4_isPile yX4_isPile, .initialized RX4, .code yX4_isPile cX4_isPile 2 (some .boolean), .fieldLink RX4 68 "PileMovesModel" "piles" "I", .methodLink RX4 71 yX4_in, .static yX4_in, .code yX4_in cX4_in 6 (some .boolean)] ++ wsX40)
def wsX4_pile : List Cond := .code yX4_pile cX4_pile 5 (some .int) :: ([.constantLong RX4 79 (12), .constantLong RX4 81 (10000), .constantLong RX4 83 (1000), .constantLong RX4 85 (100000), .fieldLink RX4 68 "PileMovesModel" "piles" "I", .fieldLink RX4 65 "PileMovesModel" "code" "I", .fieldLink RX4 7 "PileMovesModel" "many" "[I", .fieldLink RX4 13 "PileMovesModel" "springs" "[J", .fieldLink RX4 17 "PileMovesModel" "masses" "[J", .fieldLink RX4 20 "PileMovesModel" "costs" "[I", .methodLink RX4 71 yX4_in, .static yX4_in, .initialized RX4, .code yX4_in cX4_in 6 (some .boolean)] ++ wsX40)
def wsX4_ground : List Cond := .code yX4_ground cX4_ground 5 none :: ([.constantLong RX4 83 (1000), .constantLong RX4 85 (100000), .fieldLink RX4 65 "PileMovesModel" "code" "I", .fieldLink RX4 23 "PileMovesModel" "stiff" "[J", .fieldLink RX4 26 "PileMovesModel" "most" "[J", .methodLink RX4 87 yX4_isPiece, .instanceMethod yX4_isPiece, .selects RX4 yX4_isPiece yX4_isPiece, .initialized RX4, .code yX4_isPiece cX4_isPiece 3 (some .boolean), .fieldLink RX4 7 "PileMovesModel" "many" "[I", .methodLink RX4 75 yX4_isPile, .instanceMethod yX4_isPile, .selects RX4 yX4_isPile yX4_isPile, .code yX4_isPile cX4_isPile 2 (some .boolean), .fieldLink RX4 68 "PileMovesModel" "piles" "I", .methodLink RX4 71 yX4_in, .static yX4_in, .code yX4_in cX4_in 6 (some .boolean)] ++ wsX40)
def wsX4_sinks : List Cond := .code yX4_sinks cX4_sinks 6 (some .int) :: ([.constantLong RX4 81 (10000), .fieldLink RX4 65 "PileMovesModel" "code" "I", .fieldLink RX4 29 "PileMovesModel" "sinks" "[J", .methodLink RX4 87 yX4_isPiece, .instanceMethod yX4_isPiece, .selects RX4 yX4_isPiece yX4_isPiece, .initialized RX4, .code yX4_isPiece cX4_isPiece 3 (some .boolean), .fieldLink RX4 7 "PileMovesModel" "many" "[I", .methodLink RX4 75 yX4_isPile, .instanceMethod yX4_isPile, .selects RX4 yX4_isPile yX4_isPile, .code yX4_isPile cX4_isPile 2 (some .boolean), .fieldLink RX4 68 "PileMovesModel" "piles" "I", .methodLink RX4 71 yX4_in, .static yX4_in, .code yX4_in cX4_in 6 (some .boolean)] ++ wsX40)
def wsX4_tip : List Cond := .code yX4_tip cX4_tip 4 none :: ([.constantLong RX4 83 (1000), .constantLong RX4 91 (1000000), .fieldLink RX4 65 "PileMovesModel" "code" "I", .fieldLink RX4 32 "PileMovesModel" "tipStiff" "[J", .fieldLink RX4 35 "PileMovesModel" "tipMost" "[J", .methodLink RX4 75 yX4_isPile, .instanceMethod yX4_isPile, .selects RX4 yX4_isPile yX4_isPile, .initialized RX4, .code yX4_isPile cX4_isPile 2 (some .boolean), .fieldLink RX4 68 "PileMovesModel" "piles" "I", .methodLink RX4 71 yX4_in, .static yX4_in, .code yX4_in cX4_in 6 (some .boolean)] ++ wsX40)
def wsX4_march : List Cond := .code yX4_march cX4_march 11 (some .long) :: ([.fieldLink RX4 7 "PileMovesModel" "many" "[I", .fieldLink RX4 32 "PileMovesModel" "tipStiff" "[J", .fieldLink RX4 35 "PileMovesModel" "tipMost" "[J", .fieldLink RX4 42 "PileMovesModel" "places" "[J", .fieldLink RX4 45 "PileMovesModel" "grounds" "[J", .fieldLink RX4 23 "PileMovesModel" "stiff" "[J", .fieldLink RX4 29 "PileMovesModel" "sinks" "[J", .fieldLink RX4 26 "PileMovesModel" "most" "[J", .fieldLink RX4 48 "PileMovesModel" "above" "[J", .fieldLink RX4 13 "PileMovesModel" "springs" "[J", .methodLink RX4 93 yX4_cut, .static yX4_cut, .initialized RX4, .code yX4_cut cX4_cut 6 (some .long), .methodLink RX4 97 yX4_down, .static yX4_down, .code yX4_down cX4_down 4 (some .long)] ++ wsX40)
def wsX4_isWithin : List Cond := .code yX4_isWithin cX4_isWithin 9 (some .boolean) :: ([.fieldLink RX4 42 "PileMovesModel" "places" "[J", .methodLink RX4 101 yX4_march, .instanceMethod yX4_march, .selects RX4 yX4_march yX4_march, .initialized RX4, .code yX4_march cX4_march 11 (some .long), .fieldLink RX4 7 "PileMovesModel" "many" "[I", .fieldLink RX4 32 "PileMovesModel" "tipStiff" "[J", .fieldLink RX4 35 "PileMovesModel" "tipMost" "[J", .fieldLink RX4 45 "PileMovesModel" "grounds" "[J", .fieldLink RX4 23 "PileMovesModel" "stiff" "[J", .fieldLink RX4 29 "PileMovesModel" "sinks" "[J", .fieldLink RX4 26 "PileMovesModel" "most" "[J", .fieldLink RX4 48 "PileMovesModel" "above" "[J", .fieldLink RX4 13 "PileMovesModel" "springs" "[J", .methodLink RX4 93 yX4_cut, .static yX4_cut, .code yX4_cut cX4_cut 6 (some .long), .methodLink RX4 97 yX4_down, .static yX4_down, .code yX4_down cX4_down 4 (some .long)] ++ wsX40)
def wsX4_greatest_r1 : List Cond := [Cond.constantLong RX4 105 (-100000), Cond.constantLong RX4 111 (-100001), Cond.constantLong RX4 113 (131072), Cond.constantLong RX4 85 (100000), Cond.constantLong RX4 115 (2), Cond.methodLink RX4 107 yX4_isWithin, Cond.instanceMethod yX4_isWithin, Cond.selects RX4 yX4_isWithin yX4_isWithin, Cond.initialized RX4, Cond.code yX4_isWithin cX4_isWithin 9 (some .boolean), Cond.fieldLink RX4 42 "PileMovesModel" "places" "[J", Cond.methodLink RX4 101 yX4_march, Cond.instanceMethod yX4_march, Cond.selects RX4 yX4_march yX4_march, Cond.code yX4_march cX4_march 11 (some .long), Cond.fieldLink RX4 7 "PileMovesModel" "many" "[I", Cond.fieldLink RX4 32 "PileMovesModel" "tipStiff" "[J", Cond.fieldLink RX4 35 "PileMovesModel" "tipMost" "[J", Cond.fieldLink RX4 45 "PileMovesModel" "grounds" "[J", Cond.fieldLink RX4 23 "PileMovesModel" "stiff" "[J", Cond.fieldLink RX4 29 "PileMovesModel" "sinks" "[J", Cond.fieldLink RX4 26 "PileMovesModel" "most" "[J", Cond.fieldLink RX4 48 "PileMovesModel" "above" "[J", Cond.fieldLink RX4 13 "PileMovesModel" "springs" "[J"]
def wsX4_greatest_r2 : List Cond := [Cond.methodLink RX4 93 yX4_cut, Cond.static yX4_cut, Cond.code yX4_cut cX4_cut 6 (some .long), Cond.methodLink RX4 97 yX4_down, Cond.static yX4_down, Cond.code yX4_down cX4_down 4 (some .long)]
def wsX4_greatest : List Cond := .code yX4_greatest cX4_greatest 10 (some .long) :: ((wsX4_greatest_r1 ++ wsX4_greatest_r2) ++ wsX40)
def wsX4_stands_r1 : List Cond := [Cond.constantLong RX4 105 (-100000), Cond.constantLong RX4 85 (100000), Cond.methodLink RX4 117 yX4_greatest, Cond.instanceMethod yX4_greatest, Cond.selects RX4 yX4_greatest yX4_greatest, Cond.initialized RX4, Cond.code yX4_greatest cX4_greatest 10 (some .long), Cond.constantLong RX4 111 (-100001), Cond.constantLong RX4 113 (131072), Cond.constantLong RX4 115 (2), Cond.methodLink RX4 107 yX4_isWithin, Cond.instanceMethod yX4_isWithin, Cond.selects RX4 yX4_isWithin yX4_isWithin, Cond.code yX4_isWithin cX4_isWithin 9 (some .boolean), Cond.fieldLink RX4 42 "PileMovesModel" "places" "[J", Cond.methodLink RX4 101 yX4_march, Cond.instanceMethod yX4_march, Cond.selects RX4 yX4_march yX4_march, Cond.code yX4_march cX4_march 11 (some .long), Cond.fieldLink RX4 7 "PileMovesModel" "many" "[I", Cond.fieldLink RX4 32 "PileMovesModel" "tipStiff" "[J", Cond.fieldLink RX4 35 "PileMovesModel" "tipMost" "[J", Cond.fieldLink RX4 45 "PileMovesModel" "grounds" "[J", Cond.fieldLink RX4 23 "PileMovesModel" "stiff" "[J"]
def wsX4_stands_r2 : List Cond := [Cond.fieldLink RX4 29 "PileMovesModel" "sinks" "[J", Cond.fieldLink RX4 26 "PileMovesModel" "most" "[J", Cond.fieldLink RX4 48 "PileMovesModel" "above" "[J", Cond.fieldLink RX4 13 "PileMovesModel" "springs" "[J", Cond.methodLink RX4 93 yX4_cut, Cond.static yX4_cut, Cond.code yX4_cut cX4_cut 6 (some .long), Cond.methodLink RX4 97 yX4_down, Cond.static yX4_down, Cond.code yX4_down cX4_down 4 (some .long)]
def wsX4_stands : List Cond := .code yX4_stands cX4_stands 6 (some .boolean) :: ((wsX4_stands_r1 ++ wsX4_stands_r2) ++ wsX40)
def wsX4_under_r1 : List Cond := [Cond.constantLong RX4 121 (10000000), Cond.fieldLink RX4 65 "PileMovesModel" "code" "I", Cond.fieldLink RX4 42 "PileMovesModel" "places" "[J", Cond.constant RX4 54 (-1000000), Cond.methodLink RX4 75 yX4_isPile, Cond.instanceMethod yX4_isPile, Cond.selects RX4 yX4_isPile yX4_isPile, Cond.initialized RX4, Cond.code yX4_isPile cX4_isPile 2 (some .boolean), Cond.fieldLink RX4 68 "PileMovesModel" "piles" "I", Cond.methodLink RX4 71 yX4_in, Cond.static yX4_in, Cond.code yX4_in cX4_in 6 (some .boolean), Cond.methodLink RX4 123 yX4_stands, Cond.instanceMethod yX4_stands, Cond.selects RX4 yX4_stands yX4_stands, Cond.code yX4_stands cX4_stands 6 (some .boolean), Cond.constantLong RX4 105 (-100000), Cond.constantLong RX4 85 (100000), Cond.methodLink RX4 117 yX4_greatest, Cond.instanceMethod yX4_greatest, Cond.selects RX4 yX4_greatest yX4_greatest, Cond.code yX4_greatest cX4_greatest 10 (some .long), Cond.constantLong RX4 111 (-100001)]
def wsX4_under_r2 : List Cond := [Cond.constantLong RX4 113 (131072), Cond.constantLong RX4 115 (2), Cond.methodLink RX4 107 yX4_isWithin, Cond.instanceMethod yX4_isWithin, Cond.selects RX4 yX4_isWithin yX4_isWithin, Cond.code yX4_isWithin cX4_isWithin 9 (some .boolean), Cond.methodLink RX4 101 yX4_march, Cond.instanceMethod yX4_march, Cond.selects RX4 yX4_march yX4_march, Cond.code yX4_march cX4_march 11 (some .long), Cond.fieldLink RX4 7 "PileMovesModel" "many" "[I", Cond.fieldLink RX4 32 "PileMovesModel" "tipStiff" "[J", Cond.fieldLink RX4 35 "PileMovesModel" "tipMost" "[J", Cond.fieldLink RX4 45 "PileMovesModel" "grounds" "[J", Cond.fieldLink RX4 23 "PileMovesModel" "stiff" "[J", Cond.fieldLink RX4 29 "PileMovesModel" "sinks" "[J", Cond.fieldLink RX4 26 "PileMovesModel" "most" "[J", Cond.fieldLink RX4 48 "PileMovesModel" "above" "[J", Cond.fieldLink RX4 13 "PileMovesModel" "springs" "[J", Cond.methodLink RX4 93 yX4_cut, Cond.static yX4_cut, Cond.code yX4_cut cX4_cut 6 (some .long), Cond.methodLink RX4 97 yX4_down, Cond.static yX4_down]
def wsX4_under_r3 : List Cond := [Cond.code yX4_down cX4_down 4 (some .long)]
def wsX4_under : List Cond := .code yX4_under cX4_under 3 (some .int) :: ((wsX4_under_r1 ++ (wsX4_under_r2 ++ wsX4_under_r3)) ++ wsX40)
def wsX4_piece_r1 : List Cond := [Cond.constantLong RX4 121 (10000000), Cond.constantLong RX4 115 (2), Cond.fieldLink RX4 65 "PileMovesModel" "code" "I", Cond.constant RX4 54 (-1000000), Cond.fieldLink RX4 42 "PileMovesModel" "places" "[J", Cond.fieldLink RX4 45 "PileMovesModel" "grounds" "[J", Cond.fieldLink RX4 48 "PileMovesModel" "above" "[J", Cond.methodLink RX4 87 yX4_isPiece, Cond.instanceMethod yX4_isPiece, Cond.selects RX4 yX4_isPiece yX4_isPiece, Cond.initialized RX4, Cond.code yX4_isPiece cX4_isPiece 3 (some .boolean), Cond.fieldLink RX4 7 "PileMovesModel" "many" "[I", Cond.methodLink RX4 75 yX4_isPile, Cond.instanceMethod yX4_isPile, Cond.selects RX4 yX4_isPile yX4_isPile, Cond.code yX4_isPile cX4_isPile 2 (some .boolean), Cond.fieldLink RX4 68 "PileMovesModel" "piles" "I", Cond.methodLink RX4 71 yX4_in, Cond.static yX4_in, Cond.code yX4_in cX4_in 6 (some .boolean), Cond.methodLink RX4 123 yX4_stands, Cond.instanceMethod yX4_stands, Cond.selects RX4 yX4_stands yX4_stands]
def wsX4_piece_r2 : List Cond := [Cond.code yX4_stands cX4_stands 6 (some .boolean), Cond.constantLong RX4 105 (-100000), Cond.constantLong RX4 85 (100000), Cond.methodLink RX4 117 yX4_greatest, Cond.instanceMethod yX4_greatest, Cond.selects RX4 yX4_greatest yX4_greatest, Cond.code yX4_greatest cX4_greatest 10 (some .long), Cond.constantLong RX4 111 (-100001), Cond.constantLong RX4 113 (131072), Cond.methodLink RX4 107 yX4_isWithin, Cond.instanceMethod yX4_isWithin, Cond.selects RX4 yX4_isWithin yX4_isWithin, Cond.code yX4_isWithin cX4_isWithin 9 (some .boolean), Cond.methodLink RX4 101 yX4_march, Cond.instanceMethod yX4_march, Cond.selects RX4 yX4_march yX4_march, Cond.code yX4_march cX4_march 11 (some .long), Cond.fieldLink RX4 32 "PileMovesModel" "tipStiff" "[J", Cond.fieldLink RX4 35 "PileMovesModel" "tipMost" "[J", Cond.fieldLink RX4 23 "PileMovesModel" "stiff" "[J", Cond.fieldLink RX4 29 "PileMovesModel" "sinks" "[J", Cond.fieldLink RX4 26 "PileMovesModel" "most" "[J", Cond.fieldLink RX4 13 "PileMovesModel" "springs" "[J", Cond.methodLink RX4 93 yX4_cut]
def wsX4_piece_r3 : List Cond := [Cond.static yX4_cut, Cond.code yX4_cut cX4_cut 6 (some .long), Cond.methodLink RX4 97 yX4_down, Cond.static yX4_down, Cond.code yX4_down cX4_down 4 (some .long)]
def wsX4_piece : List Cond := .code yX4_piece cX4_piece 5 (some .int) :: ((wsX4_piece_r1 ++ (wsX4_piece_r2 ++ wsX4_piece_r3)) ++ wsX40)
def wsX4_hasState_r1 : List Cond := [Cond.constantLong RX4 105 (-100000), Cond.methodLink RX4 117 yX4_greatest, Cond.instanceMethod yX4_greatest, Cond.selects RX4 yX4_greatest yX4_greatest, Cond.initialized RX4, Cond.code yX4_greatest cX4_greatest 10 (some .long), Cond.constantLong RX4 111 (-100001), Cond.constantLong RX4 113 (131072), Cond.constantLong RX4 85 (100000), Cond.constantLong RX4 115 (2), Cond.methodLink RX4 107 yX4_isWithin, Cond.instanceMethod yX4_isWithin, Cond.selects RX4 yX4_isWithin yX4_isWithin, Cond.code yX4_isWithin cX4_isWithin 9 (some .boolean), Cond.fieldLink RX4 42 "PileMovesModel" "places" "[J", Cond.methodLink RX4 101 yX4_march, Cond.instanceMethod yX4_march, Cond.selects RX4 yX4_march yX4_march, Cond.code yX4_march cX4_march 11 (some .long), Cond.fieldLink RX4 7 "PileMovesModel" "many" "[I", Cond.fieldLink RX4 32 "PileMovesModel" "tipStiff" "[J", Cond.fieldLink RX4 35 "PileMovesModel" "tipMost" "[J", Cond.fieldLink RX4 45 "PileMovesModel" "grounds" "[J", Cond.fieldLink RX4 23 "PileMovesModel" "stiff" "[J"]
def wsX4_hasState_r2 : List Cond := [Cond.fieldLink RX4 29 "PileMovesModel" "sinks" "[J", Cond.fieldLink RX4 26 "PileMovesModel" "most" "[J", Cond.fieldLink RX4 48 "PileMovesModel" "above" "[J", Cond.fieldLink RX4 13 "PileMovesModel" "springs" "[J", Cond.methodLink RX4 93 yX4_cut, Cond.static yX4_cut, Cond.code yX4_cut cX4_cut 6 (some .long), Cond.methodLink RX4 97 yX4_down, Cond.static yX4_down, Cond.code yX4_down cX4_down 4 (some .long)]
def wsX4_hasState : List Cond := .code yX4_hasState cX4_hasState 4 (some .boolean) :: ((wsX4_hasState_r1 ++ wsX4_hasState_r2) ++ wsX40)
def wsX4_loadAt_r1 : List Cond := [Cond.methodLink RX4 117 yX4_greatest, Cond.instanceMethod yX4_greatest, Cond.selects RX4 yX4_greatest yX4_greatest, Cond.initialized RX4, Cond.code yX4_greatest cX4_greatest 10 (some .long), Cond.constantLong RX4 105 (-100000), Cond.constantLong RX4 111 (-100001), Cond.constantLong RX4 113 (131072), Cond.constantLong RX4 85 (100000), Cond.constantLong RX4 115 (2), Cond.methodLink RX4 107 yX4_isWithin, Cond.instanceMethod yX4_isWithin, Cond.selects RX4 yX4_isWithin yX4_isWithin, Cond.code yX4_isWithin cX4_isWithin 9 (some .boolean), Cond.fieldLink RX4 42 "PileMovesModel" "places" "[J", Cond.methodLink RX4 101 yX4_march, Cond.instanceMethod yX4_march, Cond.selects RX4 yX4_march yX4_march, Cond.code yX4_march cX4_march 11 (some .long), Cond.fieldLink RX4 7 "PileMovesModel" "many" "[I", Cond.fieldLink RX4 32 "PileMovesModel" "tipStiff" "[J", Cond.fieldLink RX4 35 "PileMovesModel" "tipMost" "[J", Cond.fieldLink RX4 45 "PileMovesModel" "grounds" "[J", Cond.fieldLink RX4 23 "PileMovesModel" "stiff" "[J"]
def wsX4_loadAt_r2 : List Cond := [Cond.fieldLink RX4 29 "PileMovesModel" "sinks" "[J", Cond.fieldLink RX4 26 "PileMovesModel" "most" "[J", Cond.fieldLink RX4 48 "PileMovesModel" "above" "[J", Cond.fieldLink RX4 13 "PileMovesModel" "springs" "[J", Cond.methodLink RX4 93 yX4_cut, Cond.static yX4_cut, Cond.code yX4_cut cX4_cut 6 (some .long), Cond.methodLink RX4 97 yX4_down, Cond.static yX4_down, Cond.code yX4_down cX4_down 4 (some .long)]
def wsX4_loadAt : List Cond := .code yX4_loadAt cX4_loadAt 4 (some .long) :: ((wsX4_loadAt_r1 ++ wsX4_loadAt_r2) ++ wsX40)
def wsX4_load_r1 : List Cond := [Cond.constantLong RX4 105 (-100000), Cond.constantLong RX4 85 (100000), Cond.fieldLink RX4 65 "PileMovesModel" "code" "I", Cond.constant RX4 54 (-1000000), Cond.methodLink RX4 75 yX4_isPile, Cond.instanceMethod yX4_isPile, Cond.selects RX4 yX4_isPile yX4_isPile, Cond.initialized RX4, Cond.code yX4_isPile cX4_isPile 2 (some .boolean), Cond.fieldLink RX4 68 "PileMovesModel" "piles" "I", Cond.methodLink RX4 71 yX4_in, Cond.static yX4_in, Cond.code yX4_in cX4_in 6 (some .boolean), Cond.methodLink RX4 127 yX4_hasState, Cond.instanceMethod yX4_hasState, Cond.selects RX4 yX4_hasState yX4_hasState, Cond.code yX4_hasState cX4_hasState 4 (some .boolean), Cond.methodLink RX4 117 yX4_greatest, Cond.instanceMethod yX4_greatest, Cond.selects RX4 yX4_greatest yX4_greatest, Cond.code yX4_greatest cX4_greatest 10 (some .long), Cond.constantLong RX4 111 (-100001), Cond.constantLong RX4 113 (131072), Cond.constantLong RX4 115 (2)]
def wsX4_load_r2 : List Cond := [Cond.methodLink RX4 107 yX4_isWithin, Cond.instanceMethod yX4_isWithin, Cond.selects RX4 yX4_isWithin yX4_isWithin, Cond.code yX4_isWithin cX4_isWithin 9 (some .boolean), Cond.fieldLink RX4 42 "PileMovesModel" "places" "[J", Cond.methodLink RX4 101 yX4_march, Cond.instanceMethod yX4_march, Cond.selects RX4 yX4_march yX4_march, Cond.code yX4_march cX4_march 11 (some .long), Cond.fieldLink RX4 7 "PileMovesModel" "many" "[I", Cond.fieldLink RX4 32 "PileMovesModel" "tipStiff" "[J", Cond.fieldLink RX4 35 "PileMovesModel" "tipMost" "[J", Cond.fieldLink RX4 45 "PileMovesModel" "grounds" "[J", Cond.fieldLink RX4 23 "PileMovesModel" "stiff" "[J", Cond.fieldLink RX4 29 "PileMovesModel" "sinks" "[J", Cond.fieldLink RX4 26 "PileMovesModel" "most" "[J", Cond.fieldLink RX4 48 "PileMovesModel" "above" "[J", Cond.fieldLink RX4 13 "PileMovesModel" "springs" "[J", Cond.methodLink RX4 93 yX4_cut, Cond.static yX4_cut, Cond.code yX4_cut cX4_cut 6 (some .long), Cond.methodLink RX4 97 yX4_down, Cond.static yX4_down, Cond.code yX4_down cX4_down 4 (some .long)]
def wsX4_load_r3 : List Cond := [Cond.methodLink RX4 130 yX4_loadAt, Cond.instanceMethod yX4_loadAt, Cond.selects RX4 yX4_loadAt yX4_loadAt, Cond.code yX4_loadAt cX4_loadAt 4 (some .long)]
def wsX4_load : List Cond := .code yX4_load cX4_load 3 (some .int) :: ((wsX4_load_r1 ++ (wsX4_load_r2 ++ wsX4_load_r3)) ++ wsX40)
def wsX4_hold : List Cond := .code yX4_hold cX4_hold 5 (some .int) :: ([.fieldLink RX4 65 "PileMovesModel" "code" "I", .fieldLink RX4 7 "PileMovesModel" "many" "[I", .fieldLink RX4 26 "PileMovesModel" "most" "[J", .constantLong RX4 133 (7), .constantLong RX4 135 (10), .methodLink RX4 75 yX4_isPile, .instanceMethod yX4_isPile, .selects RX4 yX4_isPile yX4_isPile, .initialized RX4, .code yX4_isPile cX4_isPile 2 (some .boolean), .fieldLink RX4 68 "PileMovesModel" "piles" "I", .methodLink RX4 71 yX4_in, .static yX4_in, .code yX4_in cX4_in 6 (some .boolean)] ++ wsX40)
def wsX4_cheapest_r1 : List Cond := [Cond.constantLong RX4 121 (10000000), Cond.constantLong RX4 85 (100000), Cond.fieldLink RX4 65 "PileMovesModel" "code" "I", Cond.constant RX4 54 (-1000000), Cond.fieldLink RX4 68 "PileMovesModel" "piles" "I", Cond.fieldLink RX4 42 "PileMovesModel" "places" "[J", Cond.fieldLink RX4 20 "PileMovesModel" "costs" "[I", Cond.methodLink RX4 71 yX4_in, Cond.static yX4_in, Cond.initialized RX4, Cond.code yX4_in cX4_in 6 (some .boolean), Cond.methodLink RX4 123 yX4_stands, Cond.instanceMethod yX4_stands, Cond.selects RX4 yX4_stands yX4_stands, Cond.code yX4_stands cX4_stands 6 (some .boolean), Cond.constantLong RX4 105 (-100000), Cond.methodLink RX4 117 yX4_greatest, Cond.instanceMethod yX4_greatest, Cond.selects RX4 yX4_greatest yX4_greatest, Cond.code yX4_greatest cX4_greatest 10 (some .long), Cond.constantLong RX4 111 (-100001), Cond.constantLong RX4 113 (131072), Cond.constantLong RX4 115 (2), Cond.methodLink RX4 107 yX4_isWithin]
def wsX4_cheapest_r2 : List Cond := [Cond.instanceMethod yX4_isWithin, Cond.selects RX4 yX4_isWithin yX4_isWithin, Cond.code yX4_isWithin cX4_isWithin 9 (some .boolean), Cond.methodLink RX4 101 yX4_march, Cond.instanceMethod yX4_march, Cond.selects RX4 yX4_march yX4_march, Cond.code yX4_march cX4_march 11 (some .long), Cond.fieldLink RX4 7 "PileMovesModel" "many" "[I", Cond.fieldLink RX4 32 "PileMovesModel" "tipStiff" "[J", Cond.fieldLink RX4 35 "PileMovesModel" "tipMost" "[J", Cond.fieldLink RX4 45 "PileMovesModel" "grounds" "[J", Cond.fieldLink RX4 23 "PileMovesModel" "stiff" "[J", Cond.fieldLink RX4 29 "PileMovesModel" "sinks" "[J", Cond.fieldLink RX4 26 "PileMovesModel" "most" "[J", Cond.fieldLink RX4 48 "PileMovesModel" "above" "[J", Cond.fieldLink RX4 13 "PileMovesModel" "springs" "[J", Cond.methodLink RX4 93 yX4_cut, Cond.static yX4_cut, Cond.code yX4_cut cX4_cut 6 (some .long), Cond.methodLink RX4 97 yX4_down, Cond.static yX4_down, Cond.code yX4_down cX4_down 4 (some .long)]
def wsX4_cheapest : List Cond := .code yX4_cheapest cX4_cheapest 6 (some .int) :: ((wsX4_cheapest_r1 ++ wsX4_cheapest_r2) ++ wsX40)
def wsX4_join : List Cond := .code yX4_join cX4_join 4 (some .boolean) :: ([.fieldLink RX4 65 "PileMovesModel" "code" "I", .fieldLink RX4 38 "PileMovesModel" "isIn" "[Z", .methodLink RX4 75 yX4_isPile, .instanceMethod yX4_isPile, .selects RX4 yX4_isPile yX4_isPile, .initialized RX4, .code yX4_isPile cX4_isPile 2 (some .boolean), .fieldLink RX4 68 "PileMovesModel" "piles" "I", .methodLink RX4 71 yX4_in, .static yX4_in, .code yX4_in cX4_in 6 (some .boolean)] ++ wsX40)
def wsX4_isEmpty : List Cond := .code yX4_isEmpty cX4_isEmpty 3 (some .boolean) :: ([.fieldLink RX4 68 "PileMovesModel" "piles" "I", .fieldLink RX4 38 "PileMovesModel" "isIn" "[Z"] ++ wsX40)
def wsX4_loads_r1 : List Cond := [Cond.fieldLink RX4 68 "PileMovesModel" "piles" "I", Cond.fieldLink RX4 38 "PileMovesModel" "isIn" "[Z", Cond.methodLink RX4 130 yX4_loadAt, Cond.instanceMethod yX4_loadAt, Cond.selects RX4 yX4_loadAt yX4_loadAt, Cond.initialized RX4, Cond.code yX4_loadAt cX4_loadAt 4 (some .long), Cond.methodLink RX4 117 yX4_greatest, Cond.instanceMethod yX4_greatest, Cond.selects RX4 yX4_greatest yX4_greatest, Cond.code yX4_greatest cX4_greatest 10 (some .long), Cond.constantLong RX4 105 (-100000), Cond.constantLong RX4 111 (-100001), Cond.constantLong RX4 113 (131072), Cond.constantLong RX4 85 (100000), Cond.constantLong RX4 115 (2), Cond.methodLink RX4 107 yX4_isWithin, Cond.instanceMethod yX4_isWithin, Cond.selects RX4 yX4_isWithin yX4_isWithin, Cond.code yX4_isWithin cX4_isWithin 9 (some .boolean), Cond.fieldLink RX4 42 "PileMovesModel" "places" "[J", Cond.methodLink RX4 101 yX4_march, Cond.instanceMethod yX4_march, Cond.selects RX4 yX4_march yX4_march]
def wsX4_loads_r2 : List Cond := [Cond.code yX4_march cX4_march 11 (some .long), Cond.fieldLink RX4 7 "PileMovesModel" "many" "[I", Cond.fieldLink RX4 32 "PileMovesModel" "tipStiff" "[J", Cond.fieldLink RX4 35 "PileMovesModel" "tipMost" "[J", Cond.fieldLink RX4 45 "PileMovesModel" "grounds" "[J", Cond.fieldLink RX4 23 "PileMovesModel" "stiff" "[J", Cond.fieldLink RX4 29 "PileMovesModel" "sinks" "[J", Cond.fieldLink RX4 26 "PileMovesModel" "most" "[J", Cond.fieldLink RX4 48 "PileMovesModel" "above" "[J", Cond.fieldLink RX4 13 "PileMovesModel" "springs" "[J", Cond.methodLink RX4 93 yX4_cut, Cond.static yX4_cut, Cond.code yX4_cut cX4_cut 6 (some .long), Cond.methodLink RX4 97 yX4_down, Cond.static yX4_down, Cond.code yX4_down cX4_down 4 (some .long)]
def wsX4_loads : List Cond := .code yX4_loads cX4_loads 6 (some .long) :: ((wsX4_loads_r1 ++ wsX4_loads_r2) ++ wsX40)
def wsX4_settles_r1 : List Cond := [Cond.fieldLink RX4 68 "PileMovesModel" "piles" "I", Cond.fieldLink RX4 38 "PileMovesModel" "isIn" "[Z", Cond.constant RX4 54 (-1000000), Cond.constantLong RX4 81 (10000), Cond.methodLink RX4 127 yX4_hasState, Cond.instanceMethod yX4_hasState, Cond.selects RX4 yX4_hasState yX4_hasState, Cond.initialized RX4, Cond.code yX4_hasState cX4_hasState 4 (some .boolean), Cond.constantLong RX4 105 (-100000), Cond.methodLink RX4 117 yX4_greatest, Cond.instanceMethod yX4_greatest, Cond.selects RX4 yX4_greatest yX4_greatest, Cond.code yX4_greatest cX4_greatest 10 (some .long), Cond.constantLong RX4 111 (-100001), Cond.constantLong RX4 113 (131072), Cond.constantLong RX4 85 (100000), Cond.constantLong RX4 115 (2), Cond.methodLink RX4 107 yX4_isWithin, Cond.instanceMethod yX4_isWithin, Cond.selects RX4 yX4_isWithin yX4_isWithin, Cond.code yX4_isWithin cX4_isWithin 9 (some .boolean), Cond.fieldLink RX4 42 "PileMovesModel" "places" "[J", Cond.methodLink RX4 101 yX4_march]
def wsX4_settles_r2 : List Cond := [Cond.instanceMethod yX4_march, Cond.selects RX4 yX4_march yX4_march, Cond.code yX4_march cX4_march 11 (some .long), Cond.fieldLink RX4 7 "PileMovesModel" "many" "[I", Cond.fieldLink RX4 32 "PileMovesModel" "tipStiff" "[J", Cond.fieldLink RX4 35 "PileMovesModel" "tipMost" "[J", Cond.fieldLink RX4 45 "PileMovesModel" "grounds" "[J", Cond.fieldLink RX4 23 "PileMovesModel" "stiff" "[J", Cond.fieldLink RX4 29 "PileMovesModel" "sinks" "[J", Cond.fieldLink RX4 26 "PileMovesModel" "most" "[J", Cond.fieldLink RX4 48 "PileMovesModel" "above" "[J", Cond.fieldLink RX4 13 "PileMovesModel" "springs" "[J", Cond.methodLink RX4 93 yX4_cut, Cond.static yX4_cut, Cond.code yX4_cut cX4_cut 6 (some .long), Cond.methodLink RX4 97 yX4_down, Cond.static yX4_down, Cond.code yX4_down cX4_down 4 (some .long), Cond.methodLink RX4 137 yX4_loads, Cond.instanceMethod yX4_loads, Cond.selects RX4 yX4_loads yX4_loads, Cond.code yX4_loads cX4_loads 6 (some .long), Cond.methodLink RX4 130 yX4_loadAt, Cond.instanceMethod yX4_loadAt]
def wsX4_settles_r3 : List Cond := [Cond.selects RX4 yX4_loadAt yX4_loadAt, Cond.code yX4_loadAt cX4_loadAt 4 (some .long)]
def wsX4_settles : List Cond := .code yX4_settles cX4_settles 6 (some .int) :: ((wsX4_settles_r1 ++ (wsX4_settles_r2 ++ wsX4_settles_r3)) ++ wsX40)
def wsX4_group_r1 : List Cond := [Cond.constantLong RX4 121 (10000000), Cond.fieldLink RX4 65 "PileMovesModel" "code" "I", Cond.methodLink RX4 71 yX4_in, Cond.static yX4_in, Cond.initialized RX4, Cond.code yX4_in cX4_in 6 (some .boolean), Cond.methodLink RX4 141 yX4_isEmpty, Cond.instanceMethod yX4_isEmpty, Cond.selects RX4 yX4_isEmpty yX4_isEmpty, Cond.code yX4_isEmpty cX4_isEmpty 3 (some .boolean), Cond.fieldLink RX4 68 "PileMovesModel" "piles" "I", Cond.fieldLink RX4 38 "PileMovesModel" "isIn" "[Z", Cond.methodLink RX4 145 yX4_settles, Cond.instanceMethod yX4_settles, Cond.selects RX4 yX4_settles yX4_settles, Cond.code yX4_settles cX4_settles 6 (some .int), Cond.constant RX4 54 (-1000000), Cond.constantLong RX4 81 (10000), Cond.methodLink RX4 127 yX4_hasState, Cond.instanceMethod yX4_hasState, Cond.selects RX4 yX4_hasState yX4_hasState, Cond.code yX4_hasState cX4_hasState 4 (some .boolean), Cond.constantLong RX4 105 (-100000), Cond.methodLink RX4 117 yX4_greatest]
def wsX4_group_r2 : List Cond := [Cond.instanceMethod yX4_greatest, Cond.selects RX4 yX4_greatest yX4_greatest, Cond.code yX4_greatest cX4_greatest 10 (some .long), Cond.constantLong RX4 111 (-100001), Cond.constantLong RX4 113 (131072), Cond.constantLong RX4 85 (100000), Cond.constantLong RX4 115 (2), Cond.methodLink RX4 107 yX4_isWithin, Cond.instanceMethod yX4_isWithin, Cond.selects RX4 yX4_isWithin yX4_isWithin, Cond.code yX4_isWithin cX4_isWithin 9 (some .boolean), Cond.fieldLink RX4 42 "PileMovesModel" "places" "[J", Cond.methodLink RX4 101 yX4_march, Cond.instanceMethod yX4_march, Cond.selects RX4 yX4_march yX4_march, Cond.code yX4_march cX4_march 11 (some .long), Cond.fieldLink RX4 7 "PileMovesModel" "many" "[I", Cond.fieldLink RX4 32 "PileMovesModel" "tipStiff" "[J", Cond.fieldLink RX4 35 "PileMovesModel" "tipMost" "[J", Cond.fieldLink RX4 45 "PileMovesModel" "grounds" "[J", Cond.fieldLink RX4 23 "PileMovesModel" "stiff" "[J", Cond.fieldLink RX4 29 "PileMovesModel" "sinks" "[J", Cond.fieldLink RX4 26 "PileMovesModel" "most" "[J", Cond.fieldLink RX4 48 "PileMovesModel" "above" "[J"]
def wsX4_group_r3 : List Cond := [Cond.fieldLink RX4 13 "PileMovesModel" "springs" "[J", Cond.methodLink RX4 93 yX4_cut, Cond.static yX4_cut, Cond.code yX4_cut cX4_cut 6 (some .long), Cond.methodLink RX4 97 yX4_down, Cond.static yX4_down, Cond.code yX4_down cX4_down 4 (some .long), Cond.methodLink RX4 137 yX4_loads, Cond.instanceMethod yX4_loads, Cond.selects RX4 yX4_loads yX4_loads, Cond.code yX4_loads cX4_loads 6 (some .long), Cond.methodLink RX4 130 yX4_loadAt, Cond.instanceMethod yX4_loadAt, Cond.selects RX4 yX4_loadAt yX4_loadAt, Cond.code yX4_loadAt cX4_loadAt 4 (some .long)]
def wsX4_group : List Cond := .code yX4_group cX4_group 2 (some .int) :: ((wsX4_group_r1 ++ (wsX4_group_r2 ++ wsX4_group_r3)) ++ wsX40)
def wsX4_share_r1 : List Cond := [Cond.constantLong RX4 121 (10000000), Cond.fieldLink RX4 38 "PileMovesModel" "isIn" "[Z", Cond.fieldLink RX4 65 "PileMovesModel" "code" "I", Cond.constant RX4 54 (-1000000), Cond.methodLink RX4 71 yX4_in, Cond.static yX4_in, Cond.initialized RX4, Cond.code yX4_in cX4_in 6 (some .boolean), Cond.methodLink RX4 75 yX4_isPile, Cond.instanceMethod yX4_isPile, Cond.selects RX4 yX4_isPile yX4_isPile, Cond.code yX4_isPile cX4_isPile 2 (some .boolean), Cond.fieldLink RX4 68 "PileMovesModel" "piles" "I", Cond.methodLink RX4 141 yX4_isEmpty, Cond.instanceMethod yX4_isEmpty, Cond.selects RX4 yX4_isEmpty yX4_isEmpty, Cond.code yX4_isEmpty cX4_isEmpty 3 (some .boolean), Cond.methodLink RX4 145 yX4_settles, Cond.instanceMethod yX4_settles, Cond.selects RX4 yX4_settles yX4_settles, Cond.code yX4_settles cX4_settles 6 (some .int), Cond.constantLong RX4 81 (10000), Cond.methodLink RX4 127 yX4_hasState, Cond.instanceMethod yX4_hasState]
def wsX4_share_r2 : List Cond := [Cond.selects RX4 yX4_hasState yX4_hasState, Cond.code yX4_hasState cX4_hasState 4 (some .boolean), Cond.constantLong RX4 105 (-100000), Cond.methodLink RX4 117 yX4_greatest, Cond.instanceMethod yX4_greatest, Cond.selects RX4 yX4_greatest yX4_greatest, Cond.code yX4_greatest cX4_greatest 10 (some .long), Cond.constantLong RX4 111 (-100001), Cond.constantLong RX4 113 (131072), Cond.constantLong RX4 85 (100000), Cond.constantLong RX4 115 (2), Cond.methodLink RX4 107 yX4_isWithin, Cond.instanceMethod yX4_isWithin, Cond.selects RX4 yX4_isWithin yX4_isWithin, Cond.code yX4_isWithin cX4_isWithin 9 (some .boolean), Cond.fieldLink RX4 42 "PileMovesModel" "places" "[J", Cond.methodLink RX4 101 yX4_march, Cond.instanceMethod yX4_march, Cond.selects RX4 yX4_march yX4_march, Cond.code yX4_march cX4_march 11 (some .long), Cond.fieldLink RX4 7 "PileMovesModel" "many" "[I", Cond.fieldLink RX4 32 "PileMovesModel" "tipStiff" "[J", Cond.fieldLink RX4 35 "PileMovesModel" "tipMost" "[J", Cond.fieldLink RX4 45 "PileMovesModel" "grounds" "[J"]
def wsX4_share_r3 : List Cond := [Cond.fieldLink RX4 23 "PileMovesModel" "stiff" "[J", Cond.fieldLink RX4 29 "PileMovesModel" "sinks" "[J", Cond.fieldLink RX4 26 "PileMovesModel" "most" "[J", Cond.fieldLink RX4 48 "PileMovesModel" "above" "[J", Cond.fieldLink RX4 13 "PileMovesModel" "springs" "[J", Cond.methodLink RX4 93 yX4_cut, Cond.static yX4_cut, Cond.code yX4_cut cX4_cut 6 (some .long), Cond.methodLink RX4 97 yX4_down, Cond.static yX4_down, Cond.code yX4_down cX4_down 4 (some .long), Cond.methodLink RX4 137 yX4_loads, Cond.instanceMethod yX4_loads, Cond.selects RX4 yX4_loads yX4_loads, Cond.code yX4_loads cX4_loads 6 (some .long), Cond.methodLink RX4 130 yX4_loadAt, Cond.instanceMethod yX4_loadAt, Cond.selects RX4 yX4_loadAt yX4_loadAt, Cond.code yX4_loadAt cX4_loadAt 4 (some .long)]
def wsX4_share : List Cond := .code yX4_share cX4_share 4 (some .int) :: ((wsX4_share_r1 ++ (wsX4_share_r2 ++ wsX4_share_r3)) ++ wsX40)
def wsX4_round : List Cond := .code yX4_round cX4_round 16 none :: ([.fieldLink RX4 7 "PileMovesModel" "many" "[I", .constantLong RX4 135 (10), .fieldLink RX4 59 "PileMovesModel" "at" "[J", .fieldLink RX4 62 "PileMovesModel" "speeds" "[J", .constantLong RX4 149 (-1000), .constantLong RX4 151 (-1000000000), .constantLong RX4 153 (1000000000), .fieldLink RX4 23 "PileMovesModel" "stiff" "[J", .constantLong RX4 83 (1000), .fieldLink RX4 26 "PileMovesModel" "most" "[J", .fieldLink RX4 13 "PileMovesModel" "springs" "[J", .fieldLink RX4 32 "PileMovesModel" "tipStiff" "[J", .fieldLink RX4 35 "PileMovesModel" "tipMost" "[J", .fieldLink RX4 17 "PileMovesModel" "masses" "[J", .fieldLink RX4 51 "PileMovesModel" "waves" "[J", .methodLink RX4 93 yX4_cut, .static yX4_cut, .initialized RX4, .code yX4_cut cX4_cut 6 (some .long)] ++ wsX40)
def wsX4_blow_r1 : List Cond := [Cond.constantLong RX4 81 (10000), Cond.constantLong RX4 83 (1000), Cond.fieldLink RX4 65 "PileMovesModel" "code" "I", Cond.fieldLink RX4 7 "PileMovesModel" "many" "[I", Cond.fieldLink RX4 59 "PileMovesModel" "at" "[J", Cond.fieldLink RX4 62 "PileMovesModel" "speeds" "[J", Cond.fieldLink RX4 55 "PileMovesModel" "blown" "I", Cond.fieldLink RX4 32 "PileMovesModel" "tipStiff" "[J", Cond.fieldLink RX4 35 "PileMovesModel" "tipMost" "[J", Cond.methodLink RX4 75 yX4_isPile, Cond.instanceMethod yX4_isPile, Cond.selects RX4 yX4_isPile yX4_isPile, Cond.initialized RX4, Cond.code yX4_isPile cX4_isPile 2 (some .boolean), Cond.fieldLink RX4 68 "PileMovesModel" "piles" "I", Cond.methodLink RX4 71 yX4_in, Cond.static yX4_in, Cond.code yX4_in cX4_in 6 (some .boolean), Cond.methodLink RX4 155 yX4_round, Cond.instanceMethod yX4_round, Cond.selects RX4 yX4_round yX4_round, Cond.code yX4_round cX4_round 16 none, Cond.constantLong RX4 135 (10), Cond.constantLong RX4 149 (-1000)]
def wsX4_blow_r2 : List Cond := [Cond.constantLong RX4 151 (-1000000000), Cond.constantLong RX4 153 (1000000000), Cond.fieldLink RX4 23 "PileMovesModel" "stiff" "[J", Cond.fieldLink RX4 26 "PileMovesModel" "most" "[J", Cond.fieldLink RX4 13 "PileMovesModel" "springs" "[J", Cond.fieldLink RX4 17 "PileMovesModel" "masses" "[J", Cond.fieldLink RX4 51 "PileMovesModel" "waves" "[J", Cond.methodLink RX4 93 yX4_cut, Cond.static yX4_cut, Cond.code yX4_cut cX4_cut 6 (some .long)]
def wsX4_blow : List Cond := .code yX4_blow cX4_blow 9 (some .int) :: ((wsX4_blow_r1 ++ wsX4_blow_r2) ++ wsX40)
def wsX4_wave : List Cond := .code yX4_wave cX4_wave 3 (some .int) :: ([.fieldLink RX4 55 "PileMovesModel" "blown" "I", .constant RX4 54 (-1000000), .constantLong RX4 159 (199), .fieldLink RX4 7 "PileMovesModel" "many" "[I", .fieldLink RX4 65 "PileMovesModel" "code" "I", .fieldLink RX4 51 "PileMovesModel" "waves" "[J", .methodLink RX4 71 yX4_in, .static yX4_in, .initialized RX4, .code yX4_in cX4_in 6 (some .boolean)] ++ wsX40)
def wsJ9_max_7cf53 : List Cond := .code yJ9_max_7cf53 cJ9_max_7cf53 2 (some .int) :: ([])
def wsJ9_max_f86c9 : List Cond := .code yJ9_max_f86c9 cJ9_max_f86c9 4 (some .long) :: ([])
def wsL_pile_r1 : List Cond := [Cond.classLink RL 13 "java/lang/IllegalArgumentException", Cond.classLink RL 15 "java/lang/IllegalStateException", Cond.methodLink RL 7 yX3_pile, Cond.instanceMethod yX3_pile, Cond.selects RX3 yX3_pile yX3_pile, Cond.initialized RX3, Cond.code yX3_pile cX3_pile 6 (some .int), Cond.classLink RX3 38 "java/lang/IllegalStateException", Cond.initialized "java/lang/IllegalStateException", Cond.constant RX3 37 (100000), Cond.fieldLink RX3 29 "PileMoves" "pileCount" "I", Cond.fieldLink RX3 11 "PileMoves" "piles" "[LPileMoves$Pile;", Cond.classLink RX3 9 RX1, Cond.instantiable RX1 9, Cond.initialized RX1, Cond.methodLink RX3 33 yX3_checkWithin, Cond.static yX3_checkWithin, Cond.code yX3_checkWithin cX3_checkWithin 3 none, Cond.classLink RX3 112 "java/lang/IllegalArgumentException", Cond.initialized "java/lang/IllegalArgumentException", Cond.methodLink RX3 45 yX1_init, Cond.instanceMethod yX1_init, Cond.code yX1_init cX1_init 5 none, Cond.methodLink RX1 1 objectInit]
def wsL_pile_r2 : List Cond := [Cond.instanceMethod objectInit, Cond.code objectInit ⟨#[0xb1]⟩ 1 none, Cond.fieldLink RX1 7 "PileMoves$Pile" "spring" "I", Cond.fieldLink RX1 13 "PileMoves$Pile" "mass" "I", Cond.fieldLink RX1 16 "PileMoves$Pile" "cost" "I", Cond.arrayClass .int, Cond.fieldLink RX1 19 "PileMoves$Pile" "stiff" "[I", Cond.fieldLink RX1 23 "PileMoves$Pile" "most" "[I", Cond.fieldLink RX1 26 "PileMoves$Pile" "sunk" "[I"]
def wsL_pile : List Cond := .codeWith yL_pile cL_pile 7 (some .int) [(0, 14, 17, 13), (0, 14, 21, 15)] :: ((wsL_pile_r1 ++ wsL_pile_r2) ++ wsX30 ++ wsX10 ++ (vx_atS RX3 42 "java/lang/IllegalStateException" ["java/lang/RuntimeException", "java/lang/Exception"]).filter goodWord ++ (vx_atS RX3 116 "java/lang/IllegalArgumentException" ["java/lang/RuntimeException", "java/lang/Exception"]).filter goodWord)
def wsL_ground_r1 : List Cond := [Cond.classLink RL 13 "java/lang/IllegalArgumentException", Cond.methodLink RL 17 yX3_ground, Cond.instanceMethod yX3_ground, Cond.selects RX3 yX3_ground yX3_ground, Cond.initialized RX3, Cond.code yX3_ground cX3_ground 6 none, Cond.constant RX3 37 (100000), Cond.fieldLink RX3 56 "PileMoves$Pile" "stiff" "[I", Cond.fieldLink RX3 60 "PileMoves$Pile" "most" "[I", Cond.methodLink RX3 48 yX3_pileOf, Cond.instanceMethod yX3_pileOf, Cond.selects RX3 yX3_pileOf yX3_pileOf, Cond.code yX3_pileOf cX3_pileOf 2 (some (.object "PileMoves$Pile")), Cond.classLink RX3 112 "java/lang/IllegalArgumentException", Cond.initialized "java/lang/IllegalArgumentException", Cond.fieldLink RX3 11 "PileMoves" "piles" "[LPileMoves$Pile;", Cond.methodLink RX3 52 yX3_checkPiece, Cond.static yX3_checkPiece, Cond.code yX3_checkPiece cX3_checkPiece 2 none, Cond.methodLink RX3 141 yX1_pieces, Cond.instanceMethod yX1_pieces, Cond.selects RX1 yX1_pieces yX1_pieces, Cond.initialized RX1, Cond.code yX1_pieces cX1_pieces 1 (some .int)]
def wsL_ground_r2 : List Cond := [Cond.fieldLink RX1 19 "PileMoves$Pile" "stiff" "[I", Cond.methodLink RX3 33 yX3_checkWithin, Cond.static yX3_checkWithin, Cond.code yX3_checkWithin cX3_checkWithin 3 none]
def wsL_ground : List Cond := .codeWith yL_ground cL_ground 6 (some .int) [(0, 9, 12, 13)] :: ((wsL_ground_r1 ++ wsL_ground_r2) ++ wsX10 ++ wsX30 ++ (vx_atS RX3 116 "java/lang/IllegalArgumentException" ["java/lang/RuntimeException", "java/lang/Exception"]).filter goodWord)
def wsL_sinks_r1 : List Cond := [Cond.classLink RL 13 "java/lang/IllegalArgumentException", Cond.methodLink RL 21 yX3_sinks, Cond.instanceMethod yX3_sinks, Cond.selects RX3 yX3_sinks yX3_sinks, Cond.initialized RX3, Cond.code yX3_sinks cX3_sinks 6 (some .int), Cond.fieldLink RX3 63 "PileMoves$Pile" "sunk" "[I", Cond.methodLink RX3 48 yX3_pileOf, Cond.instanceMethod yX3_pileOf, Cond.selects RX3 yX3_pileOf yX3_pileOf, Cond.code yX3_pileOf cX3_pileOf 2 (some (.object "PileMoves$Pile")), Cond.classLink RX3 112 "java/lang/IllegalArgumentException", Cond.initialized "java/lang/IllegalArgumentException", Cond.fieldLink RX3 11 "PileMoves" "piles" "[LPileMoves$Pile;", Cond.methodLink RX3 52 yX3_checkPiece, Cond.static yX3_checkPiece, Cond.code yX3_checkPiece cX3_checkPiece 2 none, Cond.methodLink RX3 141 yX1_pieces, Cond.instanceMethod yX1_pieces, Cond.selects RX1 yX1_pieces yX1_pieces, Cond.initialized RX1, Cond.code yX1_pieces cX1_pieces 1 (some .int), Cond.fieldLink RX1 19 "PileMoves$Pile" "stiff" "[I", Cond.methodLink RX3 33 yX3_checkWithin]
def wsL_sinks_r2 : List Cond := [Cond.static yX3_checkWithin, Cond.code yX3_checkWithin cX3_checkWithin 3 none]
def wsL_sinks : List Cond := .codeWith yL_sinks cL_sinks 6 (some .int) [(0, 12, 15, 13)] :: ((wsL_sinks_r1 ++ wsL_sinks_r2) ++ wsX10 ++ wsX30 ++ (vx_atS RX3 116 "java/lang/IllegalArgumentException" ["java/lang/RuntimeException", "java/lang/Exception"]).filter goodWord)
def wsL_tip : List Cond := .codeWith yL_tip cL_tip 5 (some .int) [(0, 7, 10, 13)] :: ([.classLink RL 13 "java/lang/IllegalArgumentException", .methodLink RL 25 yX3_tip, .instanceMethod yX3_tip, .selects RX3 yX3_tip yX3_tip, .initialized RX3, .code yX3_tip cX3_tip 5 none, .constant RX3 66 (1000000), .fieldLink RX3 67 "PileMoves$Pile" "tipStiff" "I", .fieldLink RX3 70 "PileMoves$Pile" "tipMost" "I", .methodLink RX3 48 yX3_pileOf, .instanceMethod yX3_pileOf, .selects RX3 yX3_pileOf yX3_pileOf, .code yX3_pileOf cX3_pileOf 2 (some (.object "PileMoves$Pile")), .classLink RX3 112 "java/lang/IllegalArgumentException", .initialized "java/lang/IllegalArgumentException", .fieldLink RX3 11 "PileMoves" "piles" "[LPileMoves$Pile;", .methodLink RX3 33 yX3_checkWithin, .static yX3_checkWithin, .code yX3_checkWithin cX3_checkWithin 3 none] ++ wsX10 ++ wsX30 ++ (vx_atS RX3 116 "java/lang/IllegalArgumentException" ["java/lang/RuntimeException", "java/lang/Exception"]).filter goodWord)
def wsL_under_r1 : List Cond := [Cond.classLink RL 13 "java/lang/IllegalArgumentException", Cond.methodLink RL 29 yX3_under, Cond.instanceMethod yX3_under, Cond.selects RX3 yX3_under yX3_under, Cond.initialized RX3, Cond.code yX3_under cX3_under 4 (some .int), Cond.fieldLink RX3 18 "PileMoves" "state" "LPileMoves$State;", Cond.fieldLink RX3 81 "PileMoves$State" "place" "I", Cond.constant RX3 84 (-1000000), Cond.methodLink RX3 48 yX3_pileOf, Cond.instanceMethod yX3_pileOf, Cond.selects RX3 yX3_pileOf yX3_pileOf, Cond.code yX3_pileOf cX3_pileOf 2 (some (.object "PileMoves$Pile")), Cond.classLink RX3 112 "java/lang/IllegalArgumentException", Cond.initialized "java/lang/IllegalArgumentException", Cond.fieldLink RX3 11 "PileMoves" "piles" "[LPileMoves$Pile;", Cond.methodLink RX3 73 yX3_checkLoad, Cond.static yX3_checkLoad, Cond.code yX3_checkLoad cX3_checkLoad 1 none, Cond.constant RX3 140 (10000000), Cond.methodLink RX3 33 yX3_checkWithin, Cond.static yX3_checkWithin, Cond.code yX3_checkWithin cX3_checkWithin 3 none, Cond.methodLink RX3 77 yX2_findUnder]
def wsL_under_r2 : List Cond := [Cond.instanceMethod yX2_findUnder, Cond.selects RX2 yX2_findUnder yX2_findUnder, Cond.initialized RX2, Cond.code yX2_findUnder cX2_findUnder 3 (some .boolean), Cond.fieldLink RX2 15 "PileMoves$State" "last" "I", Cond.constant RX2 19 (100000), Cond.methodLink RX2 9 yX2_find, Cond.instanceMethod yX2_find, Cond.selects RX2 yX2_find yX2_find, Cond.code yX2_find cX2_find 6 (some .boolean), Cond.constant RX2 64 (-100001), Cond.constant RX2 65 (131072), Cond.fieldLink RX2 39 "PileMoves$State" "forceAbove" "I", Cond.fieldLink RX2 26 "PileMoves$State" "place" "I", Cond.constant RX2 70 (-100000), Cond.methodLink RX2 66 yX2_climb, Cond.instanceMethod yX2_climb, Cond.selects RX2 yX2_climb yX2_climb, Cond.code yX2_climb cX2_climb 7 none, Cond.fieldLink RX2 29 "PileMoves$Pile" "tipStiff" "I", Cond.fieldLink RX2 32 "PileMoves$Pile" "tipMost" "I", Cond.fieldLink RX2 42 "PileMoves$Pile" "spring" "I", Cond.fieldLink RX2 51 "PileMoves$Pile" "stiff" "[I", Cond.fieldLink RX2 55 "PileMoves$Pile" "sunk" "[I"]
def wsL_under_r3 : List Cond := [Cond.fieldLink RX2 58 "PileMoves$Pile" "most" "[I", Cond.fieldLink RX2 61 "PileMoves$State" "groundForce" "I", Cond.methodLink RX2 20 yX1_pieces, Cond.instanceMethod yX1_pieces, Cond.selects RX1 yX1_pieces yX1_pieces, Cond.initialized RX1, Cond.code yX1_pieces cX1_pieces 1 (some .int), Cond.fieldLink RX1 19 "PileMoves$Pile" "stiff" "[I", Cond.static yX3_clamp, Cond.code yX3_clamp cX3_clamp 4 (some .int), Cond.methodLink RX2 45 yJ9_floorDiv_7cf53, Cond.static yJ9_floorDiv_7cf53, Cond.initialized RJ9, Cond.code yJ9_floorDiv_7cf53 cJ9_floorDiv_7cf53 3 (some .int)]
def wsL_under : List Cond := .codeWith yL_under cL_under 5 (some .int) [(0, 10, 13, 13)] :: ((wsL_under_r1 ++ (wsL_under_r2 ++ wsL_under_r3)) ++ wsX30 ++ wsX20 ++ wsX10 ++ (vx_atS RX3 116 "java/lang/IllegalArgumentException" ["java/lang/RuntimeException", "java/lang/Exception"]).filter goodWord)
def wsL_piece_r1 : List Cond := [Cond.classLink RL 13 "java/lang/IllegalArgumentException", Cond.methodLink RL 33 yX3_piece, Cond.instanceMethod yX3_piece, Cond.selects RX3 yX3_piece yX3_piece, Cond.initialized RX3, Cond.code yX3_piece cX3_piece 6 (some .int), Cond.fieldLink RX3 18 "PileMoves" "state" "LPileMoves$State;", Cond.constant RX3 84 (-1000000), Cond.fieldLink RX3 81 "PileMoves$State" "place" "I", Cond.fieldLink RX3 88 "PileMoves$State" "groundForce" "I", Cond.fieldLink RX3 91 "PileMoves$State" "forceAbove" "I", Cond.methodLink RX3 48 yX3_pileOf, Cond.instanceMethod yX3_pileOf, Cond.selects RX3 yX3_pileOf yX3_pileOf, Cond.code yX3_pileOf cX3_pileOf 2 (some (.object "PileMoves$Pile")), Cond.classLink RX3 112 "java/lang/IllegalArgumentException", Cond.initialized "java/lang/IllegalArgumentException", Cond.fieldLink RX3 11 "PileMoves" "piles" "[LPileMoves$Pile;", Cond.methodLink RX3 73 yX3_checkLoad, Cond.static yX3_checkLoad, Cond.code yX3_checkLoad cX3_checkLoad 1 none, Cond.constant RX3 140 (10000000), Cond.methodLink RX3 33 yX3_checkWithin, Cond.static yX3_checkWithin]
def wsL_piece_r2 : List Cond := [Cond.code yX3_checkWithin cX3_checkWithin 3 none, Cond.methodLink RX3 52 yX3_checkPiece, Cond.static yX3_checkPiece, Cond.code yX3_checkPiece cX3_checkPiece 2 none, Cond.methodLink RX3 141 yX1_pieces, Cond.instanceMethod yX1_pieces, Cond.selects RX1 yX1_pieces yX1_pieces, Cond.initialized RX1, Cond.code yX1_pieces cX1_pieces 1 (some .int), Cond.fieldLink RX1 19 "PileMoves$Pile" "stiff" "[I", Cond.methodLink RX3 77 yX2_findUnder, Cond.instanceMethod yX2_findUnder, Cond.selects RX2 yX2_findUnder yX2_findUnder, Cond.initialized RX2, Cond.code yX2_findUnder cX2_findUnder 3 (some .boolean), Cond.fieldLink RX2 15 "PileMoves$State" "last" "I", Cond.constant RX2 19 (100000), Cond.methodLink RX2 9 yX2_find, Cond.instanceMethod yX2_find, Cond.selects RX2 yX2_find yX2_find, Cond.code yX2_find cX2_find 6 (some .boolean), Cond.constant RX2 64 (-100001), Cond.constant RX2 65 (131072), Cond.fieldLink RX2 39 "PileMoves$State" "forceAbove" "I"]
def wsL_piece_r3 : List Cond := [Cond.fieldLink RX2 26 "PileMoves$State" "place" "I", Cond.constant RX2 70 (-100000), Cond.methodLink RX2 66 yX2_climb, Cond.instanceMethod yX2_climb, Cond.selects RX2 yX2_climb yX2_climb, Cond.code yX2_climb cX2_climb 7 none, Cond.fieldLink RX2 29 "PileMoves$Pile" "tipStiff" "I", Cond.fieldLink RX2 32 "PileMoves$Pile" "tipMost" "I", Cond.fieldLink RX2 42 "PileMoves$Pile" "spring" "I", Cond.fieldLink RX2 51 "PileMoves$Pile" "stiff" "[I", Cond.fieldLink RX2 55 "PileMoves$Pile" "sunk" "[I", Cond.fieldLink RX2 58 "PileMoves$Pile" "most" "[I", Cond.fieldLink RX2 61 "PileMoves$State" "groundForce" "I", Cond.methodLink RX2 20 yX1_pieces, Cond.static yX3_clamp, Cond.code yX3_clamp cX3_clamp 4 (some .int), Cond.methodLink RX2 45 yJ9_floorDiv_7cf53, Cond.static yJ9_floorDiv_7cf53, Cond.initialized RJ9, Cond.code yJ9_floorDiv_7cf53 cJ9_floorDiv_7cf53 3 (some .int), Cond.methodLink RX3 85 yX2_climb]
def wsL_piece : List Cond := .codeWith yL_piece cL_piece 7 (some .int) [(0, 14, 17, 13)] :: ((wsL_piece_r1 ++ (wsL_piece_r2 ++ wsL_piece_r3)) ++ wsX30 ++ wsX20 ++ wsX10 ++ (vx_atS RX3 116 "java/lang/IllegalArgumentException" ["java/lang/RuntimeException", "java/lang/Exception"]).filter goodWord)
def wsL_load_r1 : List Cond := [Cond.classLink RL 13 "java/lang/IllegalArgumentException", Cond.methodLink RL 36 yX3_load, Cond.instanceMethod yX3_load, Cond.selects RX3 yX3_load yX3_load, Cond.initialized RX3, Cond.code yX3_load cX3_load 4 (some .int), Cond.constant RX3 94 (-100000), Cond.constant RX3 37 (100000), Cond.fieldLink RX3 18 "PileMoves" "state" "LPileMoves$State;", Cond.fieldLink RX3 91 "PileMoves$State" "forceAbove" "I", Cond.constant RX3 84 (-1000000), Cond.methodLink RX3 48 yX3_pileOf, Cond.instanceMethod yX3_pileOf, Cond.selects RX3 yX3_pileOf yX3_pileOf, Cond.code yX3_pileOf cX3_pileOf 2 (some (.object "PileMoves$Pile")), Cond.classLink RX3 112 "java/lang/IllegalArgumentException", Cond.initialized "java/lang/IllegalArgumentException", Cond.fieldLink RX3 11 "PileMoves" "piles" "[LPileMoves$Pile;", Cond.methodLink RX3 33 yX3_checkWithin, Cond.static yX3_checkWithin, Cond.code yX3_checkWithin cX3_checkWithin 3 none, Cond.methodLink RX3 95 yX2_findAt, Cond.instanceMethod yX2_findAt, Cond.selects RX2 yX2_findAt yX2_findAt]
def wsL_load_r2 : List Cond := [Cond.initialized RX2, Cond.code yX2_findAt cX2_findAt 3 (some .boolean), Cond.methodLink RX2 9 yX2_find, Cond.instanceMethod yX2_find, Cond.selects RX2 yX2_find yX2_find, Cond.code yX2_find cX2_find 6 (some .boolean), Cond.constant RX2 64 (-100001), Cond.constant RX2 65 (131072), Cond.fieldLink RX2 15 "PileMoves$State" "last" "I", Cond.constant RX2 19 (100000), Cond.fieldLink RX2 39 "PileMoves$State" "forceAbove" "I", Cond.fieldLink RX2 26 "PileMoves$State" "place" "I", Cond.constant RX2 70 (-100000), Cond.methodLink RX2 66 yX2_climb, Cond.instanceMethod yX2_climb, Cond.selects RX2 yX2_climb yX2_climb, Cond.code yX2_climb cX2_climb 7 none, Cond.fieldLink RX2 29 "PileMoves$Pile" "tipStiff" "I", Cond.fieldLink RX2 32 "PileMoves$Pile" "tipMost" "I", Cond.fieldLink RX2 42 "PileMoves$Pile" "spring" "I", Cond.fieldLink RX2 51 "PileMoves$Pile" "stiff" "[I", Cond.fieldLink RX2 55 "PileMoves$Pile" "sunk" "[I", Cond.fieldLink RX2 58 "PileMoves$Pile" "most" "[I", Cond.fieldLink RX2 61 "PileMoves$State" "groundForce" "I"]
def wsL_load_r3 : List Cond := [Cond.methodLink RX2 20 yX1_pieces, Cond.instanceMethod yX1_pieces, Cond.selects RX1 yX1_pieces yX1_pieces, Cond.initialized RX1, Cond.code yX1_pieces cX1_pieces 1 (some .int), Cond.fieldLink RX1 19 "PileMoves$Pile" "stiff" "[I", Cond.static yX3_clamp, Cond.code yX3_clamp cX3_clamp 4 (some .int), Cond.methodLink RX2 45 yJ9_floorDiv_7cf53, Cond.static yJ9_floorDiv_7cf53, Cond.initialized RJ9, Cond.code yJ9_floorDiv_7cf53 cJ9_floorDiv_7cf53 3 (some .int)]
def wsL_load : List Cond := .codeWith yL_load cL_load 5 (some .int) [(0, 10, 13, 13)] :: ((wsL_load_r1 ++ (wsL_load_r2 ++ wsL_load_r3)) ++ wsX30 ++ wsX20 ++ wsX10 ++ (vx_atS RX3 116 "java/lang/IllegalArgumentException" ["java/lang/RuntimeException", "java/lang/Exception"]).filter goodWord)
def wsL_hold : List Cond := .codeWith yL_hold cL_hold 4 (some .int) [(0, 9, 12, 13)] :: ([.classLink RL 13 "java/lang/IllegalArgumentException", .methodLink RL 39 yX3_hold, .instanceMethod yX3_hold, .selects RX3 yX3_hold yX3_hold, .initialized RX3, .code yX3_hold cX3_hold 8 (some .int), .fieldLink RX3 60 "PileMoves$Pile" "most" "[I", .methodLink RX3 48 yX3_pileOf, .instanceMethod yX3_pileOf, .selects RX3 yX3_pileOf yX3_pileOf, .code yX3_pileOf cX3_pileOf 2 (some (.object "PileMoves$Pile")), .classLink RX3 112 "java/lang/IllegalArgumentException", .initialized "java/lang/IllegalArgumentException", .fieldLink RX3 11 "PileMoves" "piles" "[LPileMoves$Pile;"] ++ wsX10 ++ wsX30 ++ (vx_atS RX3 116 "java/lang/IllegalArgumentException" ["java/lang/RuntimeException", "java/lang/Exception"]).filter goodWord)
def wsL_cheapest_r1 : List Cond := [Cond.classLink RL 13 "java/lang/IllegalArgumentException", Cond.methodLink RL 43 yX3_cheapest, Cond.instanceMethod yX3_cheapest, Cond.selects RX3 yX3_cheapest yX3_cheapest, Cond.initialized RX3, Cond.code yX3_cheapest cX3_cheapest 7 (some .int), Cond.constant RX3 37 (100000), Cond.constant RX3 84 (-1000000), Cond.fieldLink RX3 11 "PileMoves" "piles" "[LPileMoves$Pile;", Cond.fieldLink RX3 98 "PileMoves$Pile" "cost" "I", Cond.fieldLink RX3 18 "PileMoves" "state" "LPileMoves$State;", Cond.fieldLink RX3 81 "PileMoves$State" "place" "I", Cond.methodLink RX3 73 yX3_checkLoad, Cond.static yX3_checkLoad, Cond.code yX3_checkLoad cX3_checkLoad 1 none, Cond.constant RX3 140 (10000000), Cond.methodLink RX3 33 yX3_checkWithin, Cond.static yX3_checkWithin, Cond.code yX3_checkWithin cX3_checkWithin 3 none, Cond.classLink RX3 112 "java/lang/IllegalArgumentException", Cond.initialized "java/lang/IllegalArgumentException", Cond.methodLink RX3 77 yX2_findUnder, Cond.instanceMethod yX2_findUnder, Cond.selects RX2 yX2_findUnder yX2_findUnder]
def wsL_cheapest_r2 : List Cond := [Cond.initialized RX2, Cond.code yX2_findUnder cX2_findUnder 3 (some .boolean), Cond.fieldLink RX2 15 "PileMoves$State" "last" "I", Cond.constant RX2 19 (100000), Cond.methodLink RX2 9 yX2_find, Cond.instanceMethod yX2_find, Cond.selects RX2 yX2_find yX2_find, Cond.code yX2_find cX2_find 6 (some .boolean), Cond.constant RX2 64 (-100001), Cond.constant RX2 65 (131072), Cond.fieldLink RX2 39 "PileMoves$State" "forceAbove" "I", Cond.fieldLink RX2 26 "PileMoves$State" "place" "I", Cond.constant RX2 70 (-100000), Cond.methodLink RX2 66 yX2_climb, Cond.instanceMethod yX2_climb, Cond.selects RX2 yX2_climb yX2_climb, Cond.code yX2_climb cX2_climb 7 none, Cond.fieldLink RX2 29 "PileMoves$Pile" "tipStiff" "I", Cond.fieldLink RX2 32 "PileMoves$Pile" "tipMost" "I", Cond.fieldLink RX2 42 "PileMoves$Pile" "spring" "I", Cond.fieldLink RX2 51 "PileMoves$Pile" "stiff" "[I", Cond.fieldLink RX2 55 "PileMoves$Pile" "sunk" "[I", Cond.fieldLink RX2 58 "PileMoves$Pile" "most" "[I", Cond.fieldLink RX2 61 "PileMoves$State" "groundForce" "I"]
def wsL_cheapest_r3 : List Cond := [Cond.methodLink RX2 20 yX1_pieces, Cond.instanceMethod yX1_pieces, Cond.selects RX1 yX1_pieces yX1_pieces, Cond.initialized RX1, Cond.code yX1_pieces cX1_pieces 1 (some .int), Cond.fieldLink RX1 19 "PileMoves$Pile" "stiff" "[I", Cond.static yX3_clamp, Cond.code yX3_clamp cX3_clamp 4 (some .int), Cond.methodLink RX2 45 yJ9_floorDiv_7cf53, Cond.static yJ9_floorDiv_7cf53, Cond.initialized RJ9, Cond.code yJ9_floorDiv_7cf53 cJ9_floorDiv_7cf53 3 (some .int)]
def wsL_cheapest : List Cond := .codeWith yL_cheapest cL_cheapest 5 (some .int) [(0, 10, 13, 13)] :: ((wsL_cheapest_r1 ++ (wsL_cheapest_r2 ++ wsL_cheapest_r3)) ++ wsX30 ++ wsX10 ++ wsX20 ++ (vx_atS RX3 116 "java/lang/IllegalArgumentException" ["java/lang/RuntimeException", "java/lang/Exception"]).filter goodWord)
def wsL_join : List Cond := .codeWith yL_join cL_join 5 (some .int) [(0, 17, 20, 13)] :: ([.classLink RL 13 "java/lang/IllegalArgumentException", .methodLink RL 46 yX3_join, .instanceMethod yX3_join, .selects RX3 yX3_join yX3_join, .initialized RX3, .code yX3_join cX3_join 5 (some .boolean), .fieldLink RX3 101 "PileMoves$Pile" "joined" "Z", .methodLink RX3 48 yX3_pileOf, .instanceMethod yX3_pileOf, .selects RX3 yX3_pileOf yX3_pileOf, .code yX3_pileOf cX3_pileOf 2 (some (.object "PileMoves$Pile")), .classLink RX3 112 "java/lang/IllegalArgumentException", .initialized "java/lang/IllegalArgumentException", .fieldLink RX3 11 "PileMoves" "piles" "[LPileMoves$Pile;"] ++ wsX10 ++ wsX30 ++ (vx_atS RX3 116 "java/lang/IllegalArgumentException" ["java/lang/RuntimeException", "java/lang/Exception"]).filter goodWord)
def wsL_group_r1 : List Cond := [Cond.classLink RL 13 "java/lang/IllegalArgumentException", Cond.classLink RL 15 "java/lang/IllegalStateException", Cond.methodLink RL 50 yX3_group, Cond.instanceMethod yX3_group, Cond.selects RX3 yX3_group yX3_group, Cond.initialized RX3, Cond.code yX3_group cX3_group 2 (some .int), Cond.methodLink RX3 73 yX3_checkLoad, Cond.static yX3_checkLoad, Cond.code yX3_checkLoad cX3_checkLoad 1 none, Cond.constant RX3 140 (10000000), Cond.methodLink RX3 33 yX3_checkWithin, Cond.static yX3_checkWithin, Cond.code yX3_checkWithin cX3_checkWithin 3 none, Cond.classLink RX3 112 "java/lang/IllegalArgumentException", Cond.initialized "java/lang/IllegalArgumentException", Cond.methodLink RX3 105 yX3_checkGroupNotEmpty, Cond.instanceMethod yX3_checkGroupNotEmpty, Cond.selects RX3 yX3_checkGroupNotEmpty yX3_checkGroupNotEmpty, Cond.code yX3_checkGroupNotEmpty cX3_checkGroupNotEmpty 5 none, Cond.classLink RX3 38 "java/lang/IllegalStateException", Cond.initialized "java/lang/IllegalStateException", Cond.fieldLink RX3 11 "PileMoves" "piles" "[LPileMoves$Pile;", Cond.fieldLink RX3 101 "PileMoves$Pile" "joined" "Z"]
def wsL_group_r2 : List Cond := [Cond.methodLink RX3 108 yX3_groupSettlement, Cond.instanceMethod yX3_groupSettlement, Cond.selects RX3 yX3_groupSettlement yX3_groupSettlement, Cond.code yX3_groupSettlement cX3_groupSettlement 5 (some .int), Cond.constant RX3 84 (-1000000), Cond.methodLink RX3 148 yX3_groupLoad, Cond.instanceMethod yX3_groupLoad, Cond.selects RX3 yX3_groupLoad yX3_groupLoad, Cond.code yX3_groupLoad cX3_groupLoad 8 (some .long), Cond.fieldLink RX3 18 "PileMoves" "state" "LPileMoves$State;", Cond.constantLong RX3 152 (1000000000000), Cond.fieldLink RX3 91 "PileMoves$State" "forceAbove" "I", Cond.methodLink RX3 95 yX2_findAt, Cond.instanceMethod yX2_findAt, Cond.selects RX2 yX2_findAt yX2_findAt, Cond.initialized RX2, Cond.code yX2_findAt cX2_findAt 3 (some .boolean), Cond.methodLink RX2 9 yX2_find, Cond.instanceMethod yX2_find, Cond.selects RX2 yX2_find yX2_find, Cond.code yX2_find cX2_find 6 (some .boolean), Cond.constant RX2 64 (-100001), Cond.constant RX2 65 (131072), Cond.fieldLink RX2 15 "PileMoves$State" "last" "I"]
def wsL_group_r3 : List Cond := [Cond.constant RX2 19 (100000), Cond.fieldLink RX2 39 "PileMoves$State" "forceAbove" "I", Cond.fieldLink RX2 26 "PileMoves$State" "place" "I", Cond.constant RX2 70 (-100000), Cond.methodLink RX2 66 yX2_climb, Cond.instanceMethod yX2_climb, Cond.selects RX2 yX2_climb yX2_climb, Cond.code yX2_climb cX2_climb 7 none, Cond.fieldLink RX2 29 "PileMoves$Pile" "tipStiff" "I", Cond.fieldLink RX2 32 "PileMoves$Pile" "tipMost" "I", Cond.fieldLink RX2 42 "PileMoves$Pile" "spring" "I", Cond.fieldLink RX2 51 "PileMoves$Pile" "stiff" "[I", Cond.fieldLink RX2 55 "PileMoves$Pile" "sunk" "[I", Cond.fieldLink RX2 58 "PileMoves$Pile" "most" "[I", Cond.fieldLink RX2 61 "PileMoves$State" "groundForce" "I", Cond.methodLink RX2 20 yX1_pieces, Cond.instanceMethod yX1_pieces, Cond.selects RX1 yX1_pieces yX1_pieces, Cond.initialized RX1, Cond.code yX1_pieces cX1_pieces 1 (some .int), Cond.fieldLink RX1 19 "PileMoves$Pile" "stiff" "[I", Cond.static yX3_clamp, Cond.code yX3_clamp cX3_clamp 4 (some .int), Cond.methodLink RX2 45 yJ9_floorDiv_7cf53]
def wsL_group_r4 : List Cond := [Cond.static yJ9_floorDiv_7cf53, Cond.initialized RJ9, Cond.code yJ9_floorDiv_7cf53 cJ9_floorDiv_7cf53 3 (some .int)]
def wsL_group : List Cond := .codeWith yL_group cL_group 4 (some .int) [(0, 9, 12, 13), (0, 9, 15, 15)] :: ((wsL_group_r1 ++ (wsL_group_r2 ++ (wsL_group_r3 ++ wsL_group_r4))) ++ wsX30 ++ wsX10 ++ wsX20 ++ (vx_atS RX3 116 "java/lang/IllegalArgumentException" ["java/lang/RuntimeException", "java/lang/Exception"]).filter goodWord ++ (vx_atS RX3 42 "java/lang/IllegalStateException" ["java/lang/RuntimeException", "java/lang/Exception"]).filter goodWord)
def wsL_share_r1 : List Cond := [Cond.classLink RL 13 "java/lang/IllegalArgumentException", Cond.classLink RL 15 "java/lang/IllegalStateException", Cond.methodLink RL 53 yX3_share, Cond.instanceMethod yX3_share, Cond.selects RX3 yX3_share yX3_share, Cond.initialized RX3, Cond.code yX3_share cX3_share 5 (some .int), Cond.classLink RX3 112 "java/lang/IllegalArgumentException", Cond.initialized "java/lang/IllegalArgumentException", Cond.fieldLink RX3 101 "PileMoves$Pile" "joined" "Z", Cond.constant RX3 84 (-1000000), Cond.fieldLink RX3 18 "PileMoves" "state" "LPileMoves$State;", Cond.fieldLink RX3 91 "PileMoves$State" "forceAbove" "I", Cond.methodLink RX3 73 yX3_checkLoad, Cond.static yX3_checkLoad, Cond.code yX3_checkLoad cX3_checkLoad 1 none, Cond.constant RX3 140 (10000000), Cond.methodLink RX3 33 yX3_checkWithin, Cond.static yX3_checkWithin, Cond.code yX3_checkWithin cX3_checkWithin 3 none, Cond.methodLink RX3 48 yX3_pileOf, Cond.instanceMethod yX3_pileOf, Cond.selects RX3 yX3_pileOf yX3_pileOf, Cond.code yX3_pileOf cX3_pileOf 2 (some (.object "PileMoves$Pile"))]
def wsL_share_r2 : List Cond := [Cond.fieldLink RX3 11 "PileMoves" "piles" "[LPileMoves$Pile;", Cond.methodLink RX3 105 yX3_checkGroupNotEmpty, Cond.instanceMethod yX3_checkGroupNotEmpty, Cond.selects RX3 yX3_checkGroupNotEmpty yX3_checkGroupNotEmpty, Cond.code yX3_checkGroupNotEmpty cX3_checkGroupNotEmpty 5 none, Cond.classLink RX3 38 "java/lang/IllegalStateException", Cond.initialized "java/lang/IllegalStateException", Cond.methodLink RX3 108 yX3_groupSettlement, Cond.instanceMethod yX3_groupSettlement, Cond.selects RX3 yX3_groupSettlement yX3_groupSettlement, Cond.code yX3_groupSettlement cX3_groupSettlement 5 (some .int), Cond.methodLink RX3 148 yX3_groupLoad, Cond.instanceMethod yX3_groupLoad, Cond.selects RX3 yX3_groupLoad yX3_groupLoad, Cond.code yX3_groupLoad cX3_groupLoad 8 (some .long), Cond.constantLong RX3 152 (1000000000000), Cond.methodLink RX3 95 yX2_findAt, Cond.instanceMethod yX2_findAt, Cond.selects RX2 yX2_findAt yX2_findAt, Cond.initialized RX2, Cond.code yX2_findAt cX2_findAt 3 (some .boolean), Cond.methodLink RX2 9 yX2_find, Cond.instanceMethod yX2_find, Cond.selects RX2 yX2_find yX2_find]
def wsL_share_r3 : List Cond := [Cond.code yX2_find cX2_find 6 (some .boolean), Cond.constant RX2 64 (-100001), Cond.constant RX2 65 (131072), Cond.fieldLink RX2 15 "PileMoves$State" "last" "I", Cond.constant RX2 19 (100000), Cond.fieldLink RX2 39 "PileMoves$State" "forceAbove" "I", Cond.fieldLink RX2 26 "PileMoves$State" "place" "I", Cond.constant RX2 70 (-100000), Cond.methodLink RX2 66 yX2_climb, Cond.instanceMethod yX2_climb, Cond.selects RX2 yX2_climb yX2_climb, Cond.code yX2_climb cX2_climb 7 none, Cond.fieldLink RX2 29 "PileMoves$Pile" "tipStiff" "I", Cond.fieldLink RX2 32 "PileMoves$Pile" "tipMost" "I", Cond.fieldLink RX2 42 "PileMoves$Pile" "spring" "I", Cond.fieldLink RX2 51 "PileMoves$Pile" "stiff" "[I", Cond.fieldLink RX2 55 "PileMoves$Pile" "sunk" "[I", Cond.fieldLink RX2 58 "PileMoves$Pile" "most" "[I", Cond.fieldLink RX2 61 "PileMoves$State" "groundForce" "I", Cond.methodLink RX2 20 yX1_pieces, Cond.instanceMethod yX1_pieces, Cond.selects RX1 yX1_pieces yX1_pieces, Cond.initialized RX1, Cond.code yX1_pieces cX1_pieces 1 (some .int)]
def wsL_share_r4 : List Cond := [Cond.fieldLink RX1 19 "PileMoves$Pile" "stiff" "[I", Cond.static yX3_clamp, Cond.code yX3_clamp cX3_clamp 4 (some .int), Cond.methodLink RX2 45 yJ9_floorDiv_7cf53, Cond.static yJ9_floorDiv_7cf53, Cond.initialized RJ9, Cond.code yJ9_floorDiv_7cf53 cJ9_floorDiv_7cf53 3 (some .int)]
def wsL_share : List Cond := .codeWith yL_share cL_share 5 (some .int) [(0, 10, 13, 13), (0, 10, 17, 15)] :: ((wsL_share_r1 ++ (wsL_share_r2 ++ (wsL_share_r3 ++ wsL_share_r4))) ++ wsX10 ++ wsX30 ++ wsX20 ++ (vx_atS RX3 116 "java/lang/IllegalArgumentException" ["java/lang/RuntimeException", "java/lang/Exception"]).filter goodWord ++ (vx_atS RX3 42 "java/lang/IllegalStateException" ["java/lang/RuntimeException", "java/lang/Exception"]).filter goodWord)
def wsL_blow_r1 : List Cond := [Cond.classLink RL 13 "java/lang/IllegalArgumentException", Cond.methodLink RL 56 yX3_blow, Cond.instanceMethod yX3_blow, Cond.selects RX3 yX3_blow yX3_blow, Cond.initialized RX3, Cond.code yX3_blow cX3_blow 5 (some .int), Cond.fieldLink RX3 25 "PileMoves" "latestBlow" "LPileMoves$Blow;", Cond.methodLink RX3 48 yX3_pileOf, Cond.instanceMethod yX3_pileOf, Cond.selects RX3 yX3_pileOf yX3_pileOf, Cond.code yX3_pileOf cX3_pileOf 2 (some (.object "PileMoves$Pile")), Cond.classLink RX3 112 "java/lang/IllegalArgumentException", Cond.initialized "java/lang/IllegalArgumentException", Cond.fieldLink RX3 11 "PileMoves" "piles" "[LPileMoves$Pile;", Cond.methodLink RX3 33 yX3_checkWithin, Cond.static yX3_checkWithin, Cond.code yX3_checkWithin cX3_checkWithin 3 none, Cond.methodLink RX3 117 yX0_strike, Cond.instanceMethod yX0_strike, Cond.selects RX0 yX0_strike yX0_strike, Cond.initialized RX0, Cond.code yX0_strike cX0_strike 7 none, Cond.fieldLink RX0 25 "PileMoves$Blow" "pieces" "I", Cond.fieldLink RX0 30 "PileMoves$Blow" "deepest" "I"]
def wsL_blow_r2 : List Cond := [Cond.fieldLink RX0 11 "PileMoves$Blow" "places" "[I", Cond.fieldLink RX0 15 "PileMoves$Blow" "speeds" "[I", Cond.fieldLink RX0 58 "PileMoves$Pile" "mass" "I", Cond.methodLink RX0 65 Lib.Math.max.name, Cond.static Lib.Math.max.name, Cond.initialized "java/lang/Math", Cond.code Lib.Math.max.name Lib.Math.max.code 2 (some .int), Cond.fieldLink RX0 22 "PileMoves$Blow" "waves" "[I", Cond.methodLink RX0 68 arraycopyName, Cond.native arraycopyName, Cond.static arraycopyName, Cond.initialized "java/lang/System", Cond.methodLink RX0 45 yX1_pieces, Cond.instanceMethod yX1_pieces, Cond.selects RX1 yX1_pieces yX1_pieces, Cond.initialized RX1, Cond.code yX1_pieces cX1_pieces 1 (some .int), Cond.fieldLink RX1 19 "PileMoves$Pile" "stiff" "[I", Cond.methodLink RX0 48 yJ7_fill_53178, Cond.static yJ7_fill_53178, Cond.initialized RJ7, Cond.code yJ7_fill_53178 cJ7_fill_53178 4 none, Cond.methodLink RX0 54 yX0_gatherPushes, Cond.instanceMethod yX0_gatherPushes]
def wsL_blow_r3 : List Cond := [Cond.selects RX0 yX0_gatherPushes yX0_gatherPushes, Cond.code yX0_gatherPushes cX0_gatherPushes 3 none, Cond.fieldLink RX0 18 "PileMoves$Blow" "pushes" "[J", Cond.constantLong RX0 77 (10), Cond.methodLink RX0 39 Lib.MathLoose.max_long.x, Cond.static Lib.MathLoose.max_long.x, Cond.code Lib.MathLoose.max_long.x Lib.MathLoose.max_long.code 4 (some .long), Cond.fieldLink RX0 83 "PileMoves$Pile" "spring" "I", Cond.constantLong RX0 86 (1000), Cond.fieldLink RX0 88 "PileMoves$Pile" "stiff" "[I", Cond.fieldLink RX0 91 "PileMoves$Pile" "most" "[I", Cond.fieldLink RX0 98 "PileMoves$Pile" "tipStiff" "I", Cond.fieldLink RX0 101 "PileMoves$Pile" "tipMost" "I", Cond.methodLink RX0 74 yJ7_fill_d0a16, Cond.static yJ7_fill_d0a16, Cond.code yJ7_fill_d0a16 cJ7_fill_d0a16 5 none, Cond.methodLink RX0 79 yX0_press, Cond.instanceMethod yX0_press, Cond.selects RX0 yX0_press yX0_press, Cond.code yX0_press cX0_press 5 none, Cond.static yX3_clamp, Cond.code yX3_clamp cX3_clamp 4 (some .int), Cond.methodLink RX0 61 yX0_move, Cond.instanceMethod yX0_move]
def wsL_blow_r4 : List Cond := [Cond.selects RX0 yX0_move yX0_move, Cond.code yX0_move cX0_move 5 none, Cond.constant RX0 104 (-1000000000), Cond.constant RX0 105 (1000000000), Cond.methodLink RX3 121 yX0_settled, Cond.instanceMethod yX0_settled, Cond.selects RX0 yX0_settled yX0_settled, Cond.code yX0_settled cX0_settled 2 (some .int), Cond.methodLink RX0 33 yX1_quake, Cond.instanceMethod yX1_quake, Cond.selects RX1 yX1_quake yX1_quake, Cond.code yX1_quake cX1_quake 1 (some .long), Cond.fieldLink RX1 29 "PileMoves$Pile" "tipStiff" "I", Cond.constantLong RX1 32 (1000), Cond.fieldLink RX1 34 "PileMoves$Pile" "tipMost" "I"]
def wsL_blow : List Cond := .codeWith yL_blow cL_blow 6 (some .int) [(0, 12, 15, 13)] :: ((wsL_blow_r1 ++ (wsL_blow_r2 ++ (wsL_blow_r3 ++ wsL_blow_r4))) ++ wsX30 ++ wsX00 ++ wsX10 ++ (vx_atS RX3 116 "java/lang/IllegalArgumentException" ["java/lang/RuntimeException", "java/lang/Exception"]).filter goodWord)
def wsL_wave_r1 : List Cond := [Cond.classLink RL 15 "java/lang/IllegalStateException", Cond.classLink RL 13 "java/lang/IllegalArgumentException", Cond.methodLink RL 59 yX3_wave, Cond.instanceMethod yX3_wave, Cond.selects RX3 yX3_wave yX3_wave, Cond.initialized RX3, Cond.code yX3_wave cX3_wave 3 (some .int), Cond.classLink RX3 38 "java/lang/IllegalStateException", Cond.initialized "java/lang/IllegalStateException", Cond.fieldLink RX3 25 "PileMoves" "latestBlow" "LPileMoves$Blow;", Cond.fieldLink RX3 131 "PileMoves$Blow" "pieces" "I", Cond.methodLink RX3 125 yX0_happened, Cond.instanceMethod yX0_happened, Cond.selects RX0 yX0_happened yX0_happened, Cond.initialized RX0, Cond.code yX0_happened cX0_happened 1 (some .boolean), Cond.fieldLink RX0 25 "PileMoves$Blow" "pieces" "I", Cond.methodLink RX3 33 yX3_checkWithin, Cond.static yX3_checkWithin, Cond.code yX3_checkWithin cX3_checkWithin 3 none, Cond.classLink RX3 112 "java/lang/IllegalArgumentException", Cond.initialized "java/lang/IllegalArgumentException", Cond.methodLink RX3 134 yX0_behindRound, Cond.instanceMethod yX0_behindRound]
def wsL_wave_r2 : List Cond := [Cond.selects RX0 yX0_behindRound yX0_behindRound, Cond.code yX0_behindRound cX0_behindRound 4 (some .int), Cond.fieldLink RX0 22 "PileMoves$Blow" "waves" "[I", Cond.constant RX0 29 (-1000000)]
def wsL_wave : List Cond := .codeWith yL_wave cL_wave 5 (some .int) [(0, 10, 13, 15), (0, 10, 17, 13)] :: ((wsL_wave_r1 ++ wsL_wave_r2) ++ wsX30 ++ wsX00 ++ (vx_atS RX3 42 "java/lang/IllegalStateException" ["java/lang/RuntimeException", "java/lang/Exception"]).filter goodWord ++ (vx_atS RX3 116 "java/lang/IllegalArgumentException" ["java/lang/RuntimeException", "java/lang/Exception"]).filter goodWord)
def wsL_law0_r1 : List Cond := [Cond.classLink RL 8 RX3, Cond.instantiable RX3 4, Cond.initialized RX3, Cond.classLink RL 63 RX4, Cond.instantiable RX4 19, Cond.initialized RX4, Cond.arrayClass .long, Cond.methodLink RL 62 yX3_init, Cond.instanceMethod yX3_init, Cond.code yX3_init cX3_init 1 none, Cond.methodLink RX3 1 objectInit, Cond.instanceMethod objectInit, Cond.code objectInit ⟨#[0xb1]⟩ 1 none, Cond.classLink RX3 9 RX1, Cond.fieldLink RX3 11 "PileMoves" "piles" "[LPileMoves$Pile;", Cond.classLink RX3 15 RX2, Cond.instantiable RX2 4, Cond.initialized RX2, Cond.fieldLink RX3 18 "PileMoves" "state" "LPileMoves$State;", Cond.classLink RX3 22 RX0, Cond.instantiable RX0 6, Cond.initialized RX0, Cond.fieldLink RX3 25 "PileMoves" "latestBlow" "LPileMoves$Blow;", Cond.fieldLink RX3 29 "PileMoves" "pileCount" "I"]
def wsL_law0_r2 : List Cond := [Cond.instanceMethod yX2_init, Cond.code yX2_init cX2_init 1 none, Cond.methodLink RX2 3 objectInit, Cond.methodLink RX3 24 yX0_init, Cond.instanceMethod yX0_init, Cond.code yX0_init cX0_init 1 none, Cond.methodLink RX0 3 objectInit, Cond.arrayClass .int, Cond.fieldLink RX0 11 "PileMoves$Blow" "places" "[I", Cond.fieldLink RX0 15 "PileMoves$Blow" "speeds" "[I", Cond.fieldLink RX0 18 "PileMoves$Blow" "pushes" "[J", Cond.fieldLink RX0 22 "PileMoves$Blow" "waves" "[I", Cond.methodLink RL 65 yX4_init, Cond.instanceMethod yX4_init, Cond.code yX4_init cX4_init 1 none, Cond.methodLink RX4 1 objectInit, Cond.fieldLink RX4 7 "PileMovesModel" "many" "[I", Cond.fieldLink RX4 13 "PileMovesModel" "springs" "[J", Cond.fieldLink RX4 17 "PileMovesModel" "masses" "[J", Cond.fieldLink RX4 20 "PileMovesModel" "costs" "[I", Cond.fieldLink RX4 23 "PileMovesModel" "stiff" "[J", Cond.fieldLink RX4 26 "PileMovesModel" "most" "[J", Cond.fieldLink RX4 29 "PileMovesModel" "sinks" "[J", Cond.fieldLink RX4 32 "PileMovesModel" "tipStiff" "[J"]
def wsL_law0_r3 : List Cond := [Cond.fieldLink RX4 35 "PileMovesModel" "tipMost" "[J", Cond.arrayClass .boolean, Cond.fieldLink RX4 38 "PileMovesModel" "isIn" "[Z", Cond.fieldLink RX4 42 "PileMovesModel" "places" "[J", Cond.fieldLink RX4 45 "PileMovesModel" "grounds" "[J", Cond.fieldLink RX4 48 "PileMovesModel" "above" "[J", Cond.fieldLink RX4 51 "PileMovesModel" "waves" "[J", Cond.constant RX4 54 (-1000000), Cond.fieldLink RX4 55 "PileMovesModel" "blown" "I", Cond.fieldLink RX4 59 "PileMovesModel" "at" "[J", Cond.fieldLink RX4 62 "PileMovesModel" "speeds" "[J", Cond.methodLink RL 66 yL_pile, Cond.static yL_pile, Cond.initialized RL, Cond.codeWith yL_pile cL_pile 7 (some .int) [(0, 14, 17, 13), (0, 14, 21, 15)], Cond.classLink RL 13 "java/lang/IllegalArgumentException", Cond.classLink RL 15 "java/lang/IllegalStateException", Cond.methodLink RL 7 yX3_pile, Cond.instanceMethod yX3_pile, Cond.selects RX3 yX3_pile yX3_pile, Cond.code yX3_pile cX3_pile 6 (some .int), Cond.classLink RX3 38 "java/lang/IllegalStateException", Cond.initialized "java/lang/IllegalStateException", Cond.constant RX3 37 (100000)]
def wsL_law0_r4 : List Cond := [Cond.instantiable RX1 9, Cond.initialized RX1, Cond.methodLink RX3 33 yX3_checkWithin, Cond.static yX3_checkWithin, Cond.code yX3_checkWithin cX3_checkWithin 3 none, Cond.classLink RX3 112 "java/lang/IllegalArgumentException", Cond.initialized "java/lang/IllegalArgumentException", Cond.methodLink RX3 45 yX1_init, Cond.instanceMethod yX1_init, Cond.code yX1_init cX1_init 5 none, Cond.methodLink RX1 1 objectInit, Cond.fieldLink RX1 7 "PileMoves$Pile" "spring" "I", Cond.fieldLink RX1 13 "PileMoves$Pile" "mass" "I", Cond.fieldLink RX1 16 "PileMoves$Pile" "cost" "I", Cond.fieldLink RX1 19 "PileMoves$Pile" "stiff" "[I", Cond.fieldLink RX1 23 "PileMoves$Pile" "most" "[I", Cond.fieldLink RX1 26 "PileMoves$Pile" "sunk" "[I", Cond.methodLink RL 71 yX4_pile, Cond.instanceMethod yX4_pile, Cond.selects RX4 yX4_pile yX4_pile, Cond.code yX4_pile cX4_pile 5 (some .int), Cond.constantLong RX4 79 (12), Cond.constantLong RX4 81 (10000), Cond.constantLong RX4 83 (1000)]
def wsL_law0_r5 : List Cond := [Cond.constantLong RX4 85 (100000), Cond.fieldLink RX4 68 "PileMovesModel" "piles" "I", Cond.fieldLink RX4 65 "PileMovesModel" "code" "I", Cond.methodLink RX4 71 yX4_in, Cond.static yX4_in, Cond.code yX4_in cX4_in 6 (some .boolean), Cond.methodLink RL 72 yX4_thrown, Cond.instanceMethod yX4_thrown, Cond.selects RX4 yX4_thrown yX4_thrown, Cond.code yX4_thrown cX4_thrown 1 (some .int), Cond.methodLink RL 76 yL_ground, Cond.static yL_ground, Cond.codeWith yL_ground cL_ground 6 (some .int) [(0, 9, 12, 13)], Cond.methodLink RL 17 yX3_ground, Cond.instanceMethod yX3_ground, Cond.selects RX3 yX3_ground yX3_ground, Cond.code yX3_ground cX3_ground 6 none, Cond.fieldLink RX3 56 "PileMoves$Pile" "stiff" "[I", Cond.fieldLink RX3 60 "PileMoves$Pile" "most" "[I", Cond.methodLink RX3 48 yX3_pileOf, Cond.instanceMethod yX3_pileOf, Cond.selects RX3 yX3_pileOf yX3_pileOf, Cond.code yX3_pileOf cX3_pileOf 2 (some (.object "PileMoves$Pile")), Cond.methodLink RX3 52 yX3_checkPiece]
def wsL_law0_r6 : List Cond := [Cond.static yX3_checkPiece, Cond.code yX3_checkPiece cX3_checkPiece 2 none, Cond.methodLink RX3 141 yX1_pieces, Cond.instanceMethod yX1_pieces, Cond.selects RX1 yX1_pieces yX1_pieces, Cond.code yX1_pieces cX1_pieces 1 (some .int), Cond.methodLink RL 79 yX4_ground, Cond.instanceMethod yX4_ground, Cond.selects RX4 yX4_ground yX4_ground, Cond.code yX4_ground cX4_ground 5 none, Cond.methodLink RX4 87 yX4_isPiece, Cond.instanceMethod yX4_isPiece, Cond.selects RX4 yX4_isPiece yX4_isPiece, Cond.code yX4_isPiece cX4_isPiece 3 (some .boolean), Cond.methodLink RX4 75 yX4_isPile, Cond.instanceMethod yX4_isPile, Cond.selects RX4 yX4_isPile yX4_isPile, Cond.code yX4_isPile cX4_isPile 2 (some .boolean), Cond.methodLink RL 80 yL_sinks, Cond.static yL_sinks, Cond.codeWith yL_sinks cL_sinks 6 (some .int) [(0, 12, 15, 13)], Cond.methodLink RL 21 yX3_sinks, Cond.instanceMethod yX3_sinks, Cond.selects RX3 yX3_sinks yX3_sinks]
def wsL_law0_r7 : List Cond := [Cond.code yX3_sinks cX3_sinks 6 (some .int), Cond.fieldLink RX3 63 "PileMoves$Pile" "sunk" "[I", Cond.methodLink RL 83 yX4_sinks, Cond.instanceMethod yX4_sinks, Cond.selects RX4 yX4_sinks yX4_sinks, Cond.code yX4_sinks cX4_sinks 6 (some .int), Cond.methodLink RL 84 yL_tip, Cond.static yL_tip, Cond.codeWith yL_tip cL_tip 5 (some .int) [(0, 7, 10, 13)], Cond.methodLink RL 25 yX3_tip, Cond.instanceMethod yX3_tip, Cond.selects RX3 yX3_tip yX3_tip, Cond.code yX3_tip cX3_tip 5 none, Cond.constant RX3 66 (1000000), Cond.fieldLink RX3 67 "PileMoves$Pile" "tipStiff" "I", Cond.fieldLink RX3 70 "PileMoves$Pile" "tipMost" "I", Cond.methodLink RL 87 yX4_tip, Cond.instanceMethod yX4_tip, Cond.selects RX4 yX4_tip yX4_tip, Cond.code yX4_tip cX4_tip 4 none, Cond.constantLong RX4 91 (1000000), Cond.methodLink RL 88 yL_under, Cond.static yL_under, Cond.codeWith yL_under cL_under 5 (some .int) [(0, 10, 13, 13)]]
def wsL_law0_r8 : List Cond := [Cond.methodLink RL 29 yX3_under, Cond.instanceMethod yX3_under, Cond.selects RX3 yX3_under yX3_under, Cond.code yX3_under cX3_under 4 (some .int), Cond.fieldLink RX3 81 "PileMoves$State" "place" "I", Cond.constant RX3 84 (-1000000), Cond.methodLink RX3 73 yX3_checkLoad, Cond.static yX3_checkLoad, Cond.code yX3_checkLoad cX3_checkLoad 1 none, Cond.constant RX3 140 (10000000), Cond.methodLink RX3 77 yX2_findUnder, Cond.instanceMethod yX2_findUnder, Cond.selects RX2 yX2_findUnder yX2_findUnder, Cond.code yX2_findUnder cX2_findUnder 3 (some .boolean), Cond.fieldLink RX2 15 "PileMoves$State" "last" "I", Cond.constant RX2 19 (100000), Cond.methodLink RX2 9 yX2_find, Cond.instanceMethod yX2_find, Cond.selects RX2 yX2_find yX2_find, Cond.code yX2_find cX2_find 6 (some .boolean), Cond.constant RX2 64 (-100001), Cond.constant RX2 65 (131072), Cond.fieldLink RX2 39 "PileMoves$State" "forceAbove" "I", Cond.fieldLink RX2 26 "PileMoves$State" "place" "I"]
def wsL_law0_r9 : List Cond := [Cond.constant RX2 70 (-100000), Cond.methodLink RX2 66 yX2_climb, Cond.instanceMethod yX2_climb, Cond.selects RX2 yX2_climb yX2_climb, Cond.code yX2_climb cX2_climb 7 none, Cond.fieldLink RX2 29 "PileMoves$Pile" "tipStiff" "I", Cond.fieldLink RX2 32 "PileMoves$Pile" "tipMost" "I", Cond.fieldLink RX2 42 "PileMoves$Pile" "spring" "I", Cond.fieldLink RX2 51 "PileMoves$Pile" "stiff" "[I", Cond.fieldLink RX2 55 "PileMoves$Pile" "sunk" "[I", Cond.fieldLink RX2 58 "PileMoves$Pile" "most" "[I", Cond.fieldLink RX2 61 "PileMoves$State" "groundForce" "I", Cond.methodLink RX2 20 yX1_pieces, Cond.static yX3_clamp, Cond.code yX3_clamp cX3_clamp 4 (some .int), Cond.methodLink RX2 45 yJ9_floorDiv_7cf53, Cond.static yJ9_floorDiv_7cf53, Cond.initialized RJ9, Cond.code yJ9_floorDiv_7cf53 cJ9_floorDiv_7cf53 3 (some .int), Cond.methodLink RL 91 yX4_under, Cond.instanceMethod yX4_under, Cond.selects RX4 yX4_under yX4_under, Cond.code yX4_under cX4_under 3 (some .int), Cond.constantLong RX4 121 (10000000)]
def wsL_law0_r10 : List Cond := [Cond.methodLink RX4 123 yX4_stands, Cond.instanceMethod yX4_stands, Cond.selects RX4 yX4_stands yX4_stands, Cond.code yX4_stands cX4_stands 6 (some .boolean), Cond.constantLong RX4 105 (-100000), Cond.methodLink RX4 117 yX4_greatest, Cond.instanceMethod yX4_greatest, Cond.selects RX4 yX4_greatest yX4_greatest, Cond.code yX4_greatest cX4_greatest 10 (some .long), Cond.constantLong RX4 111 (-100001), Cond.constantLong RX4 113 (131072), Cond.constantLong RX4 115 (2), Cond.methodLink RX4 107 yX4_isWithin, Cond.instanceMethod yX4_isWithin, Cond.selects RX4 yX4_isWithin yX4_isWithin, Cond.code yX4_isWithin cX4_isWithin 9 (some .boolean), Cond.methodLink RX4 101 yX4_march, Cond.instanceMethod yX4_march, Cond.selects RX4 yX4_march yX4_march, Cond.code yX4_march cX4_march 11 (some .long), Cond.methodLink RX4 93 yX4_cut, Cond.static yX4_cut, Cond.code yX4_cut cX4_cut 6 (some .long), Cond.methodLink RX4 97 yX4_down]
def wsL_law0_r11 : List Cond := [Cond.static yX4_down, Cond.code yX4_down cX4_down 4 (some .long), Cond.methodLink RL 92 yL_piece, Cond.static yL_piece, Cond.codeWith yL_piece cL_piece 7 (some .int) [(0, 14, 17, 13)], Cond.methodLink RL 33 yX3_piece, Cond.instanceMethod yX3_piece, Cond.selects RX3 yX3_piece yX3_piece, Cond.code yX3_piece cX3_piece 6 (some .int), Cond.fieldLink RX3 88 "PileMoves$State" "groundForce" "I", Cond.fieldLink RX3 91 "PileMoves$State" "forceAbove" "I", Cond.methodLink RX3 85 yX2_climb, Cond.methodLink RL 94 yX4_piece, Cond.instanceMethod yX4_piece, Cond.selects RX4 yX4_piece yX4_piece, Cond.code yX4_piece cX4_piece 5 (some .int), Cond.methodLink RL 95 yL_load, Cond.static yL_load, Cond.codeWith yL_load cL_load 5 (some .int) [(0, 10, 13, 13)], Cond.methodLink RL 36 yX3_load, Cond.instanceMethod yX3_load, Cond.selects RX3 yX3_load yX3_load, Cond.code yX3_load cX3_load 4 (some .int), Cond.constant RX3 94 (-100000)]
def wsL_law0_r12 : List Cond := [Cond.methodLink RX3 95 yX2_findAt, Cond.instanceMethod yX2_findAt, Cond.selects RX2 yX2_findAt yX2_findAt, Cond.code yX2_findAt cX2_findAt 3 (some .boolean), Cond.methodLink RL 97 yX4_load, Cond.instanceMethod yX4_load, Cond.selects RX4 yX4_load yX4_load, Cond.code yX4_load cX4_load 3 (some .int), Cond.methodLink RX4 127 yX4_hasState, Cond.instanceMethod yX4_hasState, Cond.selects RX4 yX4_hasState yX4_hasState, Cond.code yX4_hasState cX4_hasState 4 (some .boolean), Cond.methodLink RX4 130 yX4_loadAt, Cond.instanceMethod yX4_loadAt, Cond.selects RX4 yX4_loadAt yX4_loadAt, Cond.code yX4_loadAt cX4_loadAt 4 (some .long), Cond.methodLink RL 98 yL_hold, Cond.static yL_hold, Cond.codeWith yL_hold cL_hold 4 (some .int) [(0, 9, 12, 13)], Cond.methodLink RL 39 yX3_hold, Cond.instanceMethod yX3_hold, Cond.selects RX3 yX3_hold yX3_hold, Cond.code yX3_hold cX3_hold 8 (some .int), Cond.methodLink RL 101 yX4_hold]
def wsL_law0_r13 : List Cond := [Cond.instanceMethod yX4_hold, Cond.selects RX4 yX4_hold yX4_hold, Cond.code yX4_hold cX4_hold 5 (some .int), Cond.constantLong RX4 133 (7), Cond.constantLong RX4 135 (10), Cond.methodLink RL 102 yL_cheapest, Cond.static yL_cheapest, Cond.codeWith yL_cheapest cL_cheapest 5 (some .int) [(0, 10, 13, 13)], Cond.methodLink RL 43 yX3_cheapest, Cond.instanceMethod yX3_cheapest, Cond.selects RX3 yX3_cheapest yX3_cheapest, Cond.code yX3_cheapest cX3_cheapest 7 (some .int), Cond.fieldLink RX3 98 "PileMoves$Pile" "cost" "I", Cond.methodLink RL 104 yX4_cheapest, Cond.instanceMethod yX4_cheapest, Cond.selects RX4 yX4_cheapest yX4_cheapest, Cond.code yX4_cheapest cX4_cheapest 6 (some .int), Cond.methodLink RL 105 yL_join, Cond.static yL_join, Cond.codeWith yL_join cL_join 5 (some .int) [(0, 17, 20, 13)], Cond.methodLink RL 46 yX3_join, Cond.instanceMethod yX3_join, Cond.selects RX3 yX3_join yX3_join, Cond.code yX3_join cX3_join 5 (some .boolean)]
def wsL_law0_r14 : List Cond := [Cond.fieldLink RX3 101 "PileMoves$Pile" "joined" "Z", Cond.methodLink RL 108 yX4_join, Cond.instanceMethod yX4_join, Cond.selects RX4 yX4_join yX4_join, Cond.code yX4_join cX4_join 4 (some .boolean), Cond.methodLink RL 109 yL_group, Cond.static yL_group, Cond.codeWith yL_group cL_group 4 (some .int) [(0, 9, 12, 13), (0, 9, 15, 15)], Cond.methodLink RL 50 yX3_group, Cond.instanceMethod yX3_group, Cond.selects RX3 yX3_group yX3_group, Cond.code yX3_group cX3_group 2 (some .int), Cond.methodLink RX3 105 yX3_checkGroupNotEmpty, Cond.instanceMethod yX3_checkGroupNotEmpty, Cond.selects RX3 yX3_checkGroupNotEmpty yX3_checkGroupNotEmpty, Cond.code yX3_checkGroupNotEmpty cX3_checkGroupNotEmpty 5 none, Cond.methodLink RX3 108 yX3_groupSettlement, Cond.instanceMethod yX3_groupSettlement, Cond.selects RX3 yX3_groupSettlement yX3_groupSettlement, Cond.code yX3_groupSettlement cX3_groupSettlement 5 (some .int), Cond.methodLink RX3 148 yX3_groupLoad, Cond.instanceMethod yX3_groupLoad, Cond.selects RX3 yX3_groupLoad yX3_groupLoad, Cond.code yX3_groupLoad cX3_groupLoad 8 (some .long)]
def wsL_law0_r15 : List Cond := [Cond.constantLong RX3 152 (1000000000000), Cond.methodLink RL 111 yX4_group, Cond.instanceMethod yX4_group, Cond.selects RX4 yX4_group yX4_group, Cond.code yX4_group cX4_group 2 (some .int), Cond.methodLink RX4 141 yX4_isEmpty, Cond.instanceMethod yX4_isEmpty, Cond.selects RX4 yX4_isEmpty yX4_isEmpty, Cond.code yX4_isEmpty cX4_isEmpty 3 (some .boolean), Cond.methodLink RX4 145 yX4_settles, Cond.instanceMethod yX4_settles, Cond.selects RX4 yX4_settles yX4_settles, Cond.code yX4_settles cX4_settles 6 (some .int), Cond.methodLink RX4 137 yX4_loads, Cond.instanceMethod yX4_loads, Cond.selects RX4 yX4_loads yX4_loads, Cond.code yX4_loads cX4_loads 6 (some .long), Cond.methodLink RL 112 yL_share, Cond.static yL_share, Cond.codeWith yL_share cL_share 5 (some .int) [(0, 10, 13, 13), (0, 10, 17, 15)], Cond.methodLink RL 53 yX3_share, Cond.instanceMethod yX3_share, Cond.selects RX3 yX3_share yX3_share, Cond.code yX3_share cX3_share 5 (some .int)]
def wsL_law0_r16 : List Cond := [Cond.methodLink RL 114 yX4_share, Cond.instanceMethod yX4_share, Cond.selects RX4 yX4_share yX4_share, Cond.code yX4_share cX4_share 4 (some .int), Cond.methodLink RL 115 yL_blow, Cond.static yL_blow, Cond.codeWith yL_blow cL_blow 6 (some .int) [(0, 12, 15, 13)], Cond.methodLink RL 56 yX3_blow, Cond.instanceMethod yX3_blow, Cond.selects RX3 yX3_blow yX3_blow, Cond.code yX3_blow cX3_blow 5 (some .int), Cond.methodLink RX3 117 yX0_strike, Cond.instanceMethod yX0_strike, Cond.selects RX0 yX0_strike yX0_strike, Cond.code yX0_strike cX0_strike 7 none, Cond.fieldLink RX0 25 "PileMoves$Blow" "pieces" "I", Cond.fieldLink RX0 30 "PileMoves$Blow" "deepest" "I", Cond.fieldLink RX0 58 "PileMoves$Pile" "mass" "I", Cond.methodLink RX0 65 Lib.Math.max.name, Cond.static Lib.Math.max.name, Cond.initialized "java/lang/Math", Cond.code Lib.Math.max.name Lib.Math.max.code 2 (some .int), Cond.methodLink RX0 68 arraycopyName, Cond.native arraycopyName]
def wsL_law0_r17 : List Cond := [Cond.static arraycopyName, Cond.initialized "java/lang/System", Cond.methodLink RX0 45 yX1_pieces, Cond.methodLink RX0 48 yJ7_fill_53178, Cond.static yJ7_fill_53178, Cond.initialized RJ7, Cond.code yJ7_fill_53178 cJ7_fill_53178 4 none, Cond.methodLink RX0 54 yX0_gatherPushes, Cond.instanceMethod yX0_gatherPushes, Cond.selects RX0 yX0_gatherPushes yX0_gatherPushes, Cond.code yX0_gatherPushes cX0_gatherPushes 3 none, Cond.constantLong RX0 77 (10), Cond.methodLink RX0 39 Lib.MathLoose.max_long.x, Cond.static Lib.MathLoose.max_long.x, Cond.code Lib.MathLoose.max_long.x Lib.MathLoose.max_long.code 4 (some .long), Cond.fieldLink RX0 83 "PileMoves$Pile" "spring" "I", Cond.constantLong RX0 86 (1000), Cond.fieldLink RX0 88 "PileMoves$Pile" "stiff" "[I", Cond.fieldLink RX0 91 "PileMoves$Pile" "most" "[I", Cond.fieldLink RX0 98 "PileMoves$Pile" "tipStiff" "I", Cond.fieldLink RX0 101 "PileMoves$Pile" "tipMost" "I", Cond.methodLink RX0 74 yJ7_fill_d0a16, Cond.static yJ7_fill_d0a16, Cond.code yJ7_fill_d0a16 cJ7_fill_d0a16 5 none]
def wsL_law0_r18 : List Cond := [Cond.methodLink RX0 79 yX0_press, Cond.instanceMethod yX0_press, Cond.selects RX0 yX0_press yX0_press, Cond.code yX0_press cX0_press 5 none, Cond.methodLink RX0 61 yX0_move, Cond.instanceMethod yX0_move, Cond.selects RX0 yX0_move yX0_move, Cond.code yX0_move cX0_move 5 none, Cond.constant RX0 104 (-1000000000), Cond.constant RX0 105 (1000000000), Cond.methodLink RX3 121 yX0_settled, Cond.instanceMethod yX0_settled, Cond.selects RX0 yX0_settled yX0_settled, Cond.code yX0_settled cX0_settled 2 (some .int), Cond.methodLink RX0 33 yX1_quake, Cond.instanceMethod yX1_quake, Cond.selects RX1 yX1_quake yX1_quake, Cond.code yX1_quake cX1_quake 1 (some .long), Cond.fieldLink RX1 29 "PileMoves$Pile" "tipStiff" "I", Cond.constantLong RX1 32 (1000), Cond.fieldLink RX1 34 "PileMoves$Pile" "tipMost" "I", Cond.methodLink RL 117 yX4_blow, Cond.instanceMethod yX4_blow, Cond.selects RX4 yX4_blow yX4_blow]
def wsL_law0_r19 : List Cond := [Cond.code yX4_blow cX4_blow 9 (some .int), Cond.methodLink RX4 155 yX4_round, Cond.instanceMethod yX4_round, Cond.selects RX4 yX4_round yX4_round, Cond.code yX4_round cX4_round 16 none, Cond.constantLong RX4 149 (-1000), Cond.constantLong RX4 151 (-1000000000), Cond.constantLong RX4 153 (1000000000), Cond.methodLink RL 118 yL_wave, Cond.static yL_wave, Cond.codeWith yL_wave cL_wave 5 (some .int) [(0, 10, 13, 15), (0, 10, 17, 13)], Cond.methodLink RL 59 yX3_wave, Cond.instanceMethod yX3_wave, Cond.selects RX3 yX3_wave yX3_wave, Cond.code yX3_wave cX3_wave 3 (some .int), Cond.fieldLink RX3 131 "PileMoves$Blow" "pieces" "I", Cond.methodLink RX3 125 yX0_happened, Cond.instanceMethod yX0_happened, Cond.selects RX0 yX0_happened yX0_happened, Cond.code yX0_happened cX0_happened 1 (some .boolean), Cond.methodLink RX3 134 yX0_behindRound, Cond.instanceMethod yX0_behindRound, Cond.selects RX0 yX0_behindRound yX0_behindRound, Cond.code yX0_behindRound cX0_behindRound 4 (some .int)]
def wsL_law0_r20 : List Cond := [Cond.constant RX0 29 (-1000000), Cond.methodLink RL 120 yX4_wave, Cond.instanceMethod yX4_wave, Cond.selects RX4 yX4_wave yX4_wave, Cond.code yX4_wave cX4_wave 3 (some .int), Cond.constantLong RX4 159 (199)]
def wsL_law0 : List Cond := (wsL_law0_r1 ++ (wsL_law0_r2 ++ (wsL_law0_r3 ++ (wsL_law0_r4 ++ (wsL_law0_r5 ++ (wsL_law0_r6 ++ (wsL_law0_r7 ++ (wsL_law0_r8 ++ (wsL_law0_r9 ++ (wsL_law0_r10 ++ (wsL_law0_r11 ++ (wsL_law0_r12 ++ (wsL_law0_r13 ++ (wsL_law0_r14 ++ (wsL_law0_r15 ++ (wsL_law0_r16 ++ (wsL_law0_r17 ++ (wsL_law0_r18 ++ (wsL_law0_r19 ++ wsL_law0_r20))))))))))))))))))) ++ wsX30 ++ wsX40 ++ wsX20 ++ wsX00 ++ wsX10 ++ ([] : List Cond)
def wsL_law : List Cond := wsL_law0 ++ (vx_atS RX3 42 "java/lang/IllegalStateException" ["java/lang/RuntimeException", "java/lang/Exception"]).filter goodWord ++ (vx_atS RX3 116 "java/lang/IllegalArgumentException" ["java/lang/RuntimeException", "java/lang/Exception"]).filter goodWord
set_option maxRecDepth 20000 in
theorem wsL_law_in0_r1 : ∀ w ∈ wsL_law0_r1, w ∈ lw_tbl := fun w h => (goodIn_p wsL_law0_r1 [39, 42] (by decide +kernel) (by decide +kernel) w h).1
set_option maxRecDepth 20000 in
theorem wsL_law_in0_r2 : ∀ w ∈ wsL_law0_r2, w ∈ lw_tbl := fun w h => (goodIn_p wsL_law0_r2 [49, 71, 468] (by decide +kernel) (by decide +kernel) w h).1
set_option maxRecDepth 20000 in
theorem wsL_law_in0_r3 : ∀ w ∈ wsL_law0_r3, w ∈ lw_tbl := fun w h => (goodIn_p wsL_law0_r3 [116] (by decide +kernel) (by decide +kernel) w h).1
set_option maxRecDepth 20000 in
theorem wsL_law_in0_r4 : ∀ w ∈ wsL_law0_r4, w ∈ lw_tbl := fun w h => (goodIn_p wsL_law0_r4 [119, 207, 537] (by decide +kernel) (by decide +kernel) w h).1
set_option maxRecDepth 20000 in
theorem wsL_law_in0_r5 : ∀ w ∈ wsL_law0_r5, w ∈ lw_tbl := fun w h => (goodIn_p wsL_law0_r5 [541, 533, 261, 265] (by decide +kernel) (by decide +kernel) w h).1
set_option maxRecDepth 20000 in
theorem wsL_law_in0_r6 : ∀ w ∈ wsL_law0_r6, w ∈ lw_tbl := fun w h => (goodIn_p wsL_law0_r6 [269, 273, 548, 552, 556] (by decide +kernel) (by decide +kernel) w h).1
set_option maxRecDepth 20000 in
theorem wsL_law_in0_r7 : ∀ w ∈ wsL_law0_r7, w ∈ lw_tbl := fun w h => (goodIn_p wsL_law0_r7 [280, 560, 287, 564] (by decide +kernel) (by decide +kernel) w h).1
set_option maxRecDepth 20000 in
theorem wsL_law_in0_r8 : ∀ w ∈ wsL_law0_r8, w ∈ lw_tbl := fun w h => (goodIn_p wsL_law0_r8 [295, 298, 303, 307] (by decide +kernel) (by decide +kernel) w h).1
set_option maxRecDepth 20000 in
theorem wsL_law_in0_r9 : ∀ w ∈ wsL_law0_r9, w ∈ lw_tbl := fun w h => (goodIn_p wsL_law0_r9 [314, 318, 321, 569] (by decide +kernel) (by decide +kernel) w h).1
set_option maxRecDepth 20000 in
theorem wsL_law_in0_r10 : ∀ w ∈ wsL_law0_r10, w ∈ lw_tbl := fun w h => (goodIn_p wsL_law0_r10 [574, 578, 583, 587, 590] (by decide +kernel) (by decide +kernel) w h).1
set_option maxRecDepth 20000 in
theorem wsL_law_in0_r11 : ∀ w ∈ wsL_law0_r11, w ∈ lw_tbl := fun w h => (goodIn_p wsL_law0_r11 [593, 330, 600, 338] (by decide +kernel) (by decide +kernel) w h).1
set_option maxRecDepth 20000 in
theorem wsL_law_in0_r12 : ∀ w ∈ wsL_law0_r12, w ∈ lw_tbl := fun w h => (goodIn_p wsL_law0_r12 [343, 604, 608, 612, 350] (by decide +kernel) (by decide +kernel) w h).1
set_option maxRecDepth 20000 in
theorem wsL_law_in0_r13 : ∀ w ∈ wsL_law0_r13, w ∈ lw_tbl := fun w h => (goodIn_p wsL_law0_r13 [616, 357, 622, 364] (by decide +kernel) (by decide +kernel) w h).1
set_option maxRecDepth 20000 in
theorem wsL_law_in0_r14 : ∀ w ∈ wsL_law0_r14, w ∈ lw_tbl := fun w h => (goodIn_p wsL_law0_r14 [626, 371, 375, 380, 384] (by decide +kernel) (by decide +kernel) w h).1
set_option maxRecDepth 20000 in
theorem wsL_law_in0_r15 : ∀ w ∈ wsL_law0_r15, w ∈ lw_tbl := fun w h => (goodIn_p wsL_law0_r15 [630, 634, 638, 642, 392] (by decide +kernel) (by decide +kernel) w h).1
set_option maxRecDepth 20000 in
theorem wsL_law_in0_r16 : ∀ w ∈ wsL_law0_r16, w ∈ lw_tbl := fun w h => (goodIn_p wsL_law0_r16 [646, 400, 404, 434] (by decide +kernel) (by decide +kernel) w h).1
set_option maxRecDepth 20000 in
theorem wsL_law_in0_r17 : ∀ w ∈ wsL_law0_r17, w ∈ lw_tbl := fun w h => (goodIn_p wsL_law0_r17 [408, 412, 419, 415] (by decide +kernel) (by decide +kernel) w h).1
set_option maxRecDepth 20000 in
theorem wsL_law_in0_r18 : ∀ w ∈ wsL_law0_r18, w ∈ lw_tbl := fun w h => (goodIn_p wsL_law0_r18 [423, 429, 441, 445] (by decide +kernel) (by decide +kernel) w h).1
set_option maxRecDepth 20000 in
theorem wsL_law_in0_r19 : ∀ w ∈ wsL_law0_r19, w ∈ lw_tbl := fun w h => (goodIn_p wsL_law0_r19 [650, 654, 453, 457, 462] (by decide +kernel) (by decide +kernel) w h).1
set_option maxRecDepth 20000 in
theorem wsL_law_in0_r20 : ∀ w ∈ wsL_law0_r20, w ∈ lw_tbl := fun w h => (goodIn_p wsL_law0_r20 [661] (by decide +kernel) (by decide +kernel) w h).1
theorem wsL_law_in0_X3 : ∀ w ∈ wsX30, w ∈ lw_tbl := by decide +kernel
theorem wsL_law_in0_X4 : ∀ w ∈ wsX40, w ∈ lw_tbl := by decide +kernel
theorem wsL_law_in0_X2 : ∀ w ∈ wsX20, w ∈ lw_tbl := by decide +kernel
theorem wsL_law_in0_X0 : ∀ w ∈ wsX00, w ∈ lw_tbl := by decide +kernel
theorem wsL_law_in0_X1 : ∀ w ∈ wsX10, w ∈ lw_tbl := by decide +kernel
theorem wsL_law_in0_r : ∀ w ∈ (wsL_law0_r1 ++ (wsL_law0_r2 ++ (wsL_law0_r3 ++ (wsL_law0_r4 ++ (wsL_law0_r5 ++ (wsL_law0_r6 ++ (wsL_law0_r7 ++ (wsL_law0_r8 ++ (wsL_law0_r9 ++ (wsL_law0_r10 ++ (wsL_law0_r11 ++ (wsL_law0_r12 ++ (wsL_law0_r13 ++ (wsL_law0_r14 ++ (wsL_law0_r15 ++ (wsL_law0_r16 ++ (wsL_law0_r17 ++ (wsL_law0_r18 ++ (wsL_law0_r19 ++ (wsL_law0_r20)))))))))))))))))))), w ∈ lw_tbl := fun w h => (List.mem_append.mp h).elim (fun h => wsL_law_in0_r1 w h) (fun h => (fun w h => (List.mem_append.mp h).elim (fun h => wsL_law_in0_r2 w h) (fun h => (fun w h => (List.mem_append.mp h).elim (fun h => wsL_law_in0_r3 w h) (fun h => (fun w h => (List.mem_append.mp h).elim (fun h => wsL_law_in0_r4 w h) (fun h => (fun w h => (List.mem_append.mp h).elim (fun h => wsL_law_in0_r5 w h) (fun h => (fun w h => (List.mem_append.mp h).elim (fun h => wsL_law_in0_r6 w h) (fun h => (fun w h => (List.mem_append.mp h).elim (fun h => wsL_law_in0_r7 w h) (fun h => (fun w h => (List.mem_append.mp h).elim (fun h => wsL_law_in0_r8 w h) (fun h => (fun w h => (List.mem_append.mp h).elim (fun h => wsL_law_in0_r9 w h) (fun h => (fun w h => (List.mem_append.mp h).elim (fun h => wsL_law_in0_r10 w h) (fun h => (fun w h => (List.mem_append.mp h).elim (fun h => wsL_law_in0_r11 w h) (fun h => (fun w h => (List.mem_append.mp h).elim (fun h => wsL_law_in0_r12 w h) (fun h => (fun w h => (List.mem_append.mp h).elim (fun h => wsL_law_in0_r13 w h) (fun h => (fun w h => (List.mem_append.mp h).elim (fun h => wsL_law_in0_r14 w h) (fun h => (fun w h => (List.mem_append.mp h).elim (fun h => wsL_law_in0_r15 w h) (fun h => (fun w h => (List.mem_append.mp h).elim (fun h => wsL_law_in0_r16 w h) (fun h => (fun w h => (List.mem_append.mp h).elim (fun h => wsL_law_in0_r17 w h) (fun h => (fun w h => (List.mem_append.mp h).elim (fun h => wsL_law_in0_r18 w h) (fun h => (fun w h => (List.mem_append.mp h).elim (fun h => wsL_law_in0_r19 w h) (fun h => wsL_law_in0_r20 w h)) w h)) w h)) w h)) w h)) w h)) w h)) w h)) w h)) w h)) w h)) w h)) w h)) w h)) w h)) w h)) w h)) w h)) w h)
theorem wsL_law_in0 : ∀ w ∈ wsL_law0, w ∈ lw_tbl := fun w h => (List.mem_append.mp h).elim (fun h => (List.mem_append.mp h).elim (fun h => (List.mem_append.mp h).elim (fun h => (List.mem_append.mp h).elim (fun h => (List.mem_append.mp h).elim (fun h => (List.mem_append.mp h).elim (fun h => wsL_law_in0_r w h) (fun h => wsL_law_in0_X3 w h)) (fun h => wsL_law_in0_X4 w h)) (fun h => wsL_law_in0_X2 w h)) (fun h => wsL_law_in0_X0 w h)) (fun h => wsL_law_in0_X1 w h)) (fun h => absurd h List.not_mem_nil)
theorem wsL_law_x0 : ∀ w ∈ (vx_atS RX3 42 "java/lang/IllegalStateException" ["java/lang/RuntimeException", "java/lang/Exception"]).filter goodWord, w ∈ lw_tbl := by decide +kernel
theorem wsL_law_x1 : ∀ w ∈ (vx_atS RX3 116 "java/lang/IllegalArgumentException" ["java/lang/RuntimeException", "java/lang/Exception"]).filter goodWord, w ∈ lw_tbl := by decide +kernel
theorem wsL_law_in : ∀ w ∈ wsL_law, w ∈ lw_tbl := fun w h => (List.mem_append.mp h).elim (fun h => (List.mem_append.mp h).elim (fun h => wsL_law_in0 w h) (fun h => wsL_law_x0 w h)) (fun h => wsL_law_x1 w h)
theorem inlX0 : ∀ w ∈ wsX00, w ∈ wsL_law := fun _ h => List.mem_append_left _ (List.mem_append_left _ (List.mem_append_left _ (List.mem_append_left _ (List.mem_append_right _ h))))
theorem inX0 : ∀ w ∈ wsX00, w ∈ lw_tbl := fun w h => wsL_law_in w (inlX0 w h)
theorem inlX1 : ∀ w ∈ wsX10, w ∈ wsL_law := fun _ h => List.mem_append_left _ (List.mem_append_left _ (List.mem_append_left _ (List.mem_append_right _ h)))
theorem inX1 : ∀ w ∈ wsX10, w ∈ lw_tbl := fun w h => wsL_law_in w (inlX1 w h)
theorem inlX2 : ∀ w ∈ wsX20, w ∈ wsL_law := fun _ h => List.mem_append_left _ (List.mem_append_left _ (List.mem_append_left _ (List.mem_append_left _ (List.mem_append_left _ (List.mem_append_right _ h)))))
theorem inX2 : ∀ w ∈ wsX20, w ∈ lw_tbl := fun w h => wsL_law_in w (inlX2 w h)
theorem inlX3 : ∀ w ∈ wsX30, w ∈ wsL_law := fun _ h => List.mem_append_left _ (List.mem_append_left _ (List.mem_append_left _ (List.mem_append_left _ (List.mem_append_left _ (List.mem_append_left _ (List.mem_append_left _ (List.mem_append_right _ h)))))))
theorem inX3 : ∀ w ∈ wsX30, w ∈ lw_tbl := fun w h => wsL_law_in w (inlX3 w h)
theorem inlX4 : ∀ w ∈ wsX40, w ∈ wsL_law := fun _ h => List.mem_append_left _ (List.mem_append_left _ (List.mem_append_left _ (List.mem_append_left _ (List.mem_append_left _ (List.mem_append_left _ (List.mem_append_right _ h))))))
theorem inX4 : ∀ w ∈ wsX40, w ∈ lw_tbl := fun w h => wsL_law_in w (inlX4 w h)
theorem inJx145de : ∀ w ∈ wsJx145de0, w ∈ lw_tbl := by decide +kernel
theorem inJ9 : ∀ w ∈ wsJ90, w ∈ lw_tbl := by decide +kernel
theorem inJ0 : ∀ w ∈ wsJ00, w ∈ lw_tbl := by decide +kernel
theorem inJ10 : ∀ w ∈ wsJ100, w ∈ lw_tbl := by decide +kernel
theorem inJ7 : ∀ w ∈ wsJ70, w ∈ lw_tbl := by decide +kernel
end
section
theorem dX4_init_0 : decode cX4_init 0 = .ok (.aload_n 0, 1) := by decide +kernel
theorem dX4_init_1 : decode cX4_init 1 = .ok (.invokespecial 1, 3) := by decide +kernel
theorem dX4_init_4 : decode cX4_init 4 = .ok (.aload_n 0, 1) := by decide +kernel
theorem dX4_init_5 : decode cX4_init 5 = .ok (.bipush 6, 2) := by decide +kernel
theorem dX4_init_7 : decode cX4_init 7 = .ok (.newarray .int, 2) := by decide +kernel
theorem dX4_init_9 : decode cX4_init 9 = .ok (.putfield 7, 3) := by decide +kernel
theorem dX4_init_12 : decode cX4_init 12 = .ok (.aload_n 0, 1) := by decide +kernel
theorem dX4_init_13 : decode cX4_init 13 = .ok (.bipush 6, 2) := by decide +kernel
theorem dX4_init_15 : decode cX4_init 15 = .ok (.newarray .long, 2) := by decide +kernel
theorem dX4_init_17 : decode cX4_init 17 = .ok (.putfield 13, 3) := by decide +kernel
theorem dX4_init_20 : decode cX4_init 20 = .ok (.aload_n 0, 1) := by decide +kernel
theorem dX4_init_21 : decode cX4_init 21 = .ok (.bipush 6, 2) := by decide +kernel
theorem dX4_init_23 : decode cX4_init 23 = .ok (.newarray .long, 2) := by decide +kernel
theorem dX4_init_25 : decode cX4_init 25 = .ok (.putfield 17, 3) := by decide +kernel
theorem dX4_init_28 : decode cX4_init 28 = .ok (.aload_n 0, 1) := by decide +kernel
theorem dX4_init_29 : decode cX4_init 29 = .ok (.bipush 6, 2) := by decide +kernel
theorem dX4_init_31 : decode cX4_init 31 = .ok (.newarray .int, 2) := by decide +kernel
theorem dX4_init_33 : decode cX4_init 33 = .ok (.putfield 20, 3) := by decide +kernel
theorem dX4_init_36 : decode cX4_init 36 = .ok (.aload_n 0, 1) := by decide +kernel
theorem dX4_init_37 : decode cX4_init 37 = .ok (.bipush 72, 2) := by decide +kernel
theorem dX4_init_39 : decode cX4_init 39 = .ok (.newarray .long, 2) := by decide +kernel
theorem dX4_init_41 : decode cX4_init 41 = .ok (.putfield 23, 3) := by decide +kernel
theorem dX4_init_44 : decode cX4_init 44 = .ok (.aload_n 0, 1) := by decide +kernel
theorem dX4_init_45 : decode cX4_init 45 = .ok (.bipush 72, 2) := by decide +kernel
theorem dX4_init_47 : decode cX4_init 47 = .ok (.newarray .long, 2) := by decide +kernel
theorem dX4_init_49 : decode cX4_init 49 = .ok (.putfield 26, 3) := by decide +kernel
theorem dX4_init_52 : decode cX4_init 52 = .ok (.aload_n 0, 1) := by decide +kernel
theorem dX4_init_53 : decode cX4_init 53 = .ok (.bipush 72, 2) := by decide +kernel
theorem dX4_init_55 : decode cX4_init 55 = .ok (.newarray .long, 2) := by decide +kernel
theorem dX4_init_57 : decode cX4_init 57 = .ok (.putfield 29, 3) := by decide +kernel
theorem dX4_init_60 : decode cX4_init 60 = .ok (.aload_n 0, 1) := by decide +kernel
theorem dX4_init_61 : decode cX4_init 61 = .ok (.bipush 6, 2) := by decide +kernel
theorem dX4_init_63 : decode cX4_init 63 = .ok (.newarray .long, 2) := by decide +kernel
theorem dX4_init_65 : decode cX4_init 65 = .ok (.putfield 32, 3) := by decide +kernel
theorem dX4_init_68 : decode cX4_init 68 = .ok (.aload_n 0, 1) := by decide +kernel
theorem dX4_init_69 : decode cX4_init 69 = .ok (.bipush 6, 2) := by decide +kernel
theorem dX4_init_71 : decode cX4_init 71 = .ok (.newarray .long, 2) := by decide +kernel
theorem dX4_init_73 : decode cX4_init 73 = .ok (.putfield 35, 3) := by decide +kernel
theorem dX4_init_76 : decode cX4_init 76 = .ok (.aload_n 0, 1) := by decide +kernel
theorem dX4_init_77 : decode cX4_init 77 = .ok (.bipush 6, 2) := by decide +kernel
theorem dX4_init_79 : decode cX4_init 79 = .ok (.newarray .boolean, 2) := by decide +kernel
theorem dX4_init_81 : decode cX4_init 81 = .ok (.putfield 38, 3) := by decide +kernel
theorem dX4_init_84 : decode cX4_init 84 = .ok (.aload_n 0, 1) := by decide +kernel
theorem dX4_init_85 : decode cX4_init 85 = .ok (.bipush 12, 2) := by decide +kernel
theorem dX4_init_87 : decode cX4_init 87 = .ok (.newarray .long, 2) := by decide +kernel
theorem dX4_init_89 : decode cX4_init 89 = .ok (.putfield 42, 3) := by decide +kernel
theorem dX4_init_92 : decode cX4_init 92 = .ok (.aload_n 0, 1) := by decide +kernel
theorem dX4_init_93 : decode cX4_init 93 = .ok (.bipush 12, 2) := by decide +kernel
theorem dX4_init_95 : decode cX4_init 95 = .ok (.newarray .long, 2) := by decide +kernel
theorem dX4_init_97 : decode cX4_init 97 = .ok (.putfield 45, 3) := by decide +kernel
theorem dX4_init_100 : decode cX4_init 100 = .ok (.aload_n 0, 1) := by decide +kernel
theorem dX4_init_101 : decode cX4_init 101 = .ok (.bipush 12, 2) := by decide +kernel
theorem dX4_init_103 : decode cX4_init 103 = .ok (.newarray .long, 2) := by decide +kernel
theorem dX4_init_105 : decode cX4_init 105 = .ok (.putfield 48, 3) := by decide +kernel
theorem dX4_init_108 : decode cX4_init 108 = .ok (.aload_n 0, 1) := by decide +kernel
theorem dX4_init_109 : decode cX4_init 109 = .ok (.sipush 2600, 3) := by decide +kernel
theorem dX4_init_112 : decode cX4_init 112 = .ok (.newarray .long, 2) := by decide +kernel
theorem dX4_init_114 : decode cX4_init 114 = .ok (.putfield 51, 3) := by decide +kernel
theorem dX4_init_117 : decode cX4_init 117 = .ok (.aload_n 0, 1) := by decide +kernel
theorem dX4_init_118 : decode cX4_init 118 = .ok (.ldc 54, 2) := by decide +kernel
theorem dX4_init_120 : decode cX4_init 120 = .ok (.putfield 55, 3) := by decide +kernel
theorem dX4_init_123 : decode cX4_init 123 = .ok (.aload_n 0, 1) := by decide +kernel
theorem dX4_init_124 : decode cX4_init 124 = .ok (.bipush 13, 2) := by decide +kernel
theorem dX4_init_126 : decode cX4_init 126 = .ok (.newarray .long, 2) := by decide +kernel
theorem dX4_init_128 : decode cX4_init 128 = .ok (.putfield 59, 3) := by decide +kernel
theorem dX4_init_131 : decode cX4_init 131 = .ok (.aload_n 0, 1) := by decide +kernel
theorem dX4_init_132 : decode cX4_init 132 = .ok (.bipush 13, 2) := by decide +kernel
theorem dX4_init_134 : decode cX4_init 134 = .ok (.newarray .long, 2) := by decide +kernel
theorem dX4_init_136 : decode cX4_init 136 = .ok (.putfield 62, 3) := by decide +kernel
theorem dX4_init_139 : decode cX4_init 139 = .ok (.return_, 1) := by decide +kernel
theorem dX4_thrown_0 : decode cX4_thrown 0 = .ok (.aload_n 0, 1) := by decide +kernel
theorem dX4_thrown_1 : decode cX4_thrown 1 = .ok (.getfield 65, 3) := by decide +kernel
theorem dX4_thrown_4 : decode cX4_thrown 4 = .ok (.ireturn, 1) := by decide +kernel
theorem dX4_in_0 : decode cX4_in 0 = .ok (.lload_n 0, 1) := by decide +kernel
theorem dX4_in_1 : decode cX4_in 1 = .ok (.lload_n 2, 1) := by decide +kernel
theorem dX4_in_2 : decode cX4_in 2 = .ok (.lcmp, 1) := by decide +kernel
theorem dX4_in_3 : decode cX4_in 3 = .ok (.ifCond .lt 14, 3) := by decide +kernel
theorem dX4_in_6 : decode cX4_in 6 = .ok (.lload_n 0, 1) := by decide +kernel
theorem dX4_in_7 : decode cX4_in 7 = .ok (.lload 4, 2) := by decide +kernel
theorem dX4_in_9 : decode cX4_in 9 = .ok (.lcmp, 1) := by decide +kernel
theorem dX4_in_10 : decode cX4_in 10 = .ok (.ifCond .gt 7, 3) := by decide +kernel
theorem dX4_in_13 : decode cX4_in 13 = .ok (.iconst 1, 1) := by decide +kernel
theorem dX4_in_14 : decode cX4_in 14 = .ok (.goto 4, 3) := by decide +kernel
theorem dX4_in_17 : decode cX4_in 17 = .ok (.iconst 0, 1) := by decide +kernel
theorem dX4_in_18 : decode cX4_in 18 = .ok (.ireturn, 1) := by decide +kernel
theorem dX4_cut_0 : decode cX4_cut 0 = .ok (.lload_n 0, 1) := by decide +kernel
theorem dX4_cut_1 : decode cX4_cut 1 = .ok (.lload_n 2, 1) := by decide +kernel
theorem dX4_cut_2 : decode cX4_cut 2 = .ok (.lcmp, 1) := by decide +kernel
theorem dX4_cut_3 : decode cX4_cut 3 = .ok (.ifCond .ge 7, 3) := by decide +kernel
theorem dX4_cut_6 : decode cX4_cut 6 = .ok (.lload_n 2, 1) := by decide +kernel
theorem dX4_cut_7 : decode cX4_cut 7 = .ok (.goto 16, 3) := by decide +kernel
theorem dX4_cut_10 : decode cX4_cut 10 = .ok (.lload_n 0, 1) := by decide +kernel
theorem dX4_cut_11 : decode cX4_cut 11 = .ok (.lload 4, 2) := by decide +kernel
theorem dX4_cut_13 : decode cX4_cut 13 = .ok (.lcmp, 1) := by decide +kernel
theorem dX4_cut_14 : decode cX4_cut 14 = .ok (.ifCond .le 8, 3) := by decide +kernel
theorem dX4_cut_17 : decode cX4_cut 17 = .ok (.lload 4, 2) := by decide +kernel
theorem dX4_cut_19 : decode cX4_cut 19 = .ok (.goto 4, 3) := by decide +kernel
theorem dX4_cut_22 : decode cX4_cut 22 = .ok (.lload_n 0, 1) := by decide +kernel
theorem dX4_cut_23 : decode cX4_cut 23 = .ok (.lreturn, 1) := by decide +kernel
theorem dX4_down_0 : decode cX4_down 0 = .ok (.lload_n 0, 1) := by decide +kernel
theorem dX4_down_1 : decode cX4_down 1 = .ok (.lconst 0, 1) := by decide +kernel
theorem dX4_down_2 : decode cX4_down 2 = .ok (.lcmp, 1) := by decide +kernel
theorem dX4_down_3 : decode cX4_down 3 = .ok (.ifCond .lt 9, 3) := by decide +kernel
theorem dX4_down_6 : decode cX4_down 6 = .ok (.lload_n 0, 1) := by decide +kernel
theorem dX4_down_7 : decode cX4_down 7 = .ok (.lload_n 2, 1) := by decide +kernel
theorem dX4_down_8 : decode cX4_down 8 = .ok (.ldiv, 1) := by decide +kernel
theorem dX4_down_9 : decode cX4_down 9 = .ok (.goto 12, 3) := by decide +kernel
theorem dX4_down_12 : decode cX4_down 12 = .ok (.lload_n 0, 1) := by decide +kernel
theorem dX4_down_13 : decode cX4_down 13 = .ok (.lneg, 1) := by decide +kernel
theorem dX4_down_14 : decode cX4_down 14 = .ok (.lload_n 2, 1) := by decide +kernel
theorem dX4_down_15 : decode cX4_down 15 = .ok (.ladd, 1) := by decide +kernel
theorem dX4_down_16 : decode cX4_down 16 = .ok (.lconst 1, 1) := by decide +kernel
theorem dX4_down_17 : decode cX4_down 17 = .ok (.lsub, 1) := by decide +kernel
theorem dX4_down_18 : decode cX4_down 18 = .ok (.lload_n 2, 1) := by decide +kernel
theorem dX4_down_19 : decode cX4_down 19 = .ok (.ldiv, 1) := by decide +kernel
theorem dX4_down_20 : decode cX4_down 20 = .ok (.lneg, 1) := by decide +kernel
theorem dX4_down_21 : decode cX4_down 21 = .ok (.lreturn, 1) := by decide +kernel
set_option maxRecDepth 20000 in
theorem ggX4_isPile_X4_in : GoodIn wsX4_isPile wsX4_in := goodIn_r _ [5] (by decide +kernel) (by decide +kernel)
set_option maxRecDepth 20000 in
theorem gX4_isPile_X4_in : GoodIn wsX4_isPile (va_wsS RX4 71 yX4_in wsX4_in) := goodIn_app (goodIn_of _ (by decide +kernel)) ggX4_isPile_X4_in
theorem dX4_isPile_0 : decode cX4_isPile 0 = .ok (.iload_n 1, 1) := by decide +kernel
theorem dX4_isPile_1 : decode cX4_isPile 1 = .ok (.i2l, 1) := by decide +kernel
theorem dX4_isPile_2 : decode cX4_isPile 2 = .ok (.lconst 0, 1) := by decide +kernel
theorem dX4_isPile_3 : decode cX4_isPile 3 = .ok (.aload_n 0, 1) := by decide +kernel
theorem dX4_isPile_4 : decode cX4_isPile 4 = .ok (.getfield 68, 3) := by decide +kernel
theorem dX4_isPile_7 : decode cX4_isPile 7 = .ok (.i2l, 1) := by decide +kernel
theorem dX4_isPile_8 : decode cX4_isPile 8 = .ok (.lconst 1, 1) := by decide +kernel
theorem dX4_isPile_9 : decode cX4_isPile 9 = .ok (.lsub, 1) := by decide +kernel
theorem dX4_isPile_10 : decode cX4_isPile 10 = .ok (.invokestatic 71, 3) := by decide +kernel
theorem dX4_isPile_13 : decode cX4_isPile 13 = .ok (.ireturn, 1) := by decide +kernel
set_option maxRecDepth 20000 in
theorem ggX4_isPiece_X4_isPile : GoodIn wsX4_isPiece wsX4_isPile := goodIn_r _ [6, 7, 8, 9, 5, 10, 11, 12, 13, 14, 15, 16, 17, 18, 19, 20, 21, 22, 23, 24, 25, 26, 27, 28, 29] (by decide +kernel) (by decide +kernel)
set_option maxRecDepth 20000 in
theorem gX4_isPiece_X4_isPile : GoodIn wsX4_isPiece (wsV RX4 75 RX4 yX4_isPile wsX4_isPile) := goodIn_app (goodIn_of _ (by decide +kernel)) ggX4_isPiece_X4_isPile
set_option maxRecDepth 20000 in
theorem ggX4_isPiece_X4_in : GoodIn wsX4_isPiece wsX4_in := goodIn_r _ [10] (by decide +kernel) (by decide +kernel)
set_option maxRecDepth 20000 in
theorem gX4_isPiece_X4_in : GoodIn wsX4_isPiece (va_wsS RX4 71 yX4_in wsX4_in) := goodIn_app (goodIn_of _ (by decide +kernel)) ggX4_isPiece_X4_in
theorem dX4_isPiece_0 : decode cX4_isPiece 0 = .ok (.aload_n 0, 1) := by decide +kernel
theorem dX4_isPiece_1 : decode cX4_isPiece 1 = .ok (.iload_n 1, 1) := by decide +kernel
theorem dX4_isPiece_2 : decode cX4_isPiece 2 = .ok (.invokevirtual 75, 3) := by decide +kernel
theorem dX4_isPiece_5 : decode cX4_isPiece 5 = .ok (.ifCond .eq 25, 3) := by decide +kernel
theorem dX4_isPiece_8 : decode cX4_isPiece 8 = .ok (.iload_n 2, 1) := by decide +kernel
theorem dX4_isPiece_9 : decode cX4_isPiece 9 = .ok (.i2l, 1) := by decide +kernel
theorem dX4_isPiece_10 : decode cX4_isPiece 10 = .ok (.lconst 0, 1) := by decide +kernel
theorem dX4_isPiece_11 : decode cX4_isPiece 11 = .ok (.aload_n 0, 1) := by decide +kernel
theorem dX4_isPiece_12 : decode cX4_isPiece 12 = .ok (.getfield 7, 3) := by decide +kernel
theorem dX4_isPiece_15 : decode cX4_isPiece 15 = .ok (.iload_n 1, 1) := by decide +kernel
theorem dX4_isPiece_16 : decode cX4_isPiece 16 = .ok (.iaload, 1) := by decide +kernel
theorem dX4_isPiece_17 : decode cX4_isPiece 17 = .ok (.i2l, 1) := by decide +kernel
theorem dX4_isPiece_18 : decode cX4_isPiece 18 = .ok (.lconst 1, 1) := by decide +kernel
theorem dX4_isPiece_19 : decode cX4_isPiece 19 = .ok (.lsub, 1) := by decide +kernel
theorem dX4_isPiece_20 : decode cX4_isPiece 20 = .ok (.invokestatic 71, 3) := by decide +kernel
theorem dX4_isPiece_23 : decode cX4_isPiece 23 = .ok (.ifCond .eq 7, 3) := by decide +kernel
theorem dX4_isPiece_26 : decode cX4_isPiece 26 = .ok (.iconst 1, 1) := by decide +kernel
theorem dX4_isPiece_27 : decode cX4_isPiece 27 = .ok (.goto 4, 3) := by decide +kernel
theorem dX4_isPiece_30 : decode cX4_isPiece 30 = .ok (.iconst 0, 1) := by decide +kernel
theorem dX4_isPiece_31 : decode cX4_isPiece 31 = .ok (.ireturn, 1) := by decide +kernel
set_option maxRecDepth 20000 in
theorem ggX4_pile_X4_in : GoodIn wsX4_pile wsX4_in := goodIn_r _ [14] (by decide +kernel) (by decide +kernel)
set_option maxRecDepth 20000 in
theorem gX4_pile_X4_in : GoodIn wsX4_pile (va_wsS RX4 71 yX4_in wsX4_in) := goodIn_app (goodIn_of _ (by decide +kernel)) ggX4_pile_X4_in
theorem dX4_pile_0 : decode cX4_pile 0 = .ok (.aload_n 0, 1) := by decide +kernel
theorem dX4_pile_1 : decode cX4_pile 1 = .ok (.iload_n 1, 1) := by decide +kernel
theorem dX4_pile_2 : decode cX4_pile 2 = .ok (.i2l, 1) := by decide +kernel
theorem dX4_pile_3 : decode cX4_pile 3 = .ok (.lconst 1, 1) := by decide +kernel
theorem dX4_pile_4 : decode cX4_pile 4 = .ok (.ldc2_w 79, 3) := by decide +kernel
theorem dX4_pile_7 : decode cX4_pile 7 = .ok (.invokestatic 71, 3) := by decide +kernel
theorem dX4_pile_10 : decode cX4_pile 10 = .ok (.ifCond .eq 40, 3) := by decide +kernel
theorem dX4_pile_13 : decode cX4_pile 13 = .ok (.iload_n 2, 1) := by decide +kernel
theorem dX4_pile_14 : decode cX4_pile 14 = .ok (.i2l, 1) := by decide +kernel
theorem dX4_pile_15 : decode cX4_pile 15 = .ok (.lconst 1, 1) := by decide +kernel
theorem dX4_pile_16 : decode cX4_pile 16 = .ok (.ldc2_w 81, 3) := by decide +kernel
theorem dX4_pile_19 : decode cX4_pile 19 = .ok (.invokestatic 71, 3) := by decide +kernel
theorem dX4_pile_22 : decode cX4_pile 22 = .ok (.ifCond .eq 28, 3) := by decide +kernel
theorem dX4_pile_25 : decode cX4_pile 25 = .ok (.iload_n 3, 1) := by decide +kernel
theorem dX4_pile_26 : decode cX4_pile 26 = .ok (.i2l, 1) := by decide +kernel
theorem dX4_pile_27 : decode cX4_pile 27 = .ok (.lconst 1, 1) := by decide +kernel
theorem dX4_pile_28 : decode cX4_pile 28 = .ok (.ldc2_w 83, 3) := by decide +kernel
theorem dX4_pile_31 : decode cX4_pile 31 = .ok (.invokestatic 71, 3) := by decide +kernel
theorem dX4_pile_34 : decode cX4_pile 34 = .ok (.ifCond .eq 16, 3) := by decide +kernel
theorem dX4_pile_37 : decode cX4_pile 37 = .ok (.iload 4, 2) := by decide +kernel
theorem dX4_pile_39 : decode cX4_pile 39 = .ok (.i2l, 1) := by decide +kernel
theorem dX4_pile_40 : decode cX4_pile 40 = .ok (.lconst 0, 1) := by decide +kernel
theorem dX4_pile_41 : decode cX4_pile 41 = .ok (.ldc2_w 85, 3) := by decide +kernel
theorem dX4_pile_44 : decode cX4_pile 44 = .ok (.invokestatic 71, 3) := by decide +kernel
theorem dX4_pile_47 : decode cX4_pile 47 = .ok (.ifCond .ne 7, 3) := by decide +kernel
theorem dX4_pile_50 : decode cX4_pile 50 = .ok (.iconst 1, 1) := by decide +kernel
theorem dX4_pile_51 : decode cX4_pile 51 = .ok (.goto 17, 3) := by decide +kernel
theorem dX4_pile_54 : decode cX4_pile 54 = .ok (.aload_n 0, 1) := by decide +kernel
theorem dX4_pile_55 : decode cX4_pile 55 = .ok (.getfield 68, 3) := by decide +kernel
theorem dX4_pile_58 : decode cX4_pile 58 = .ok (.bipush 6, 2) := by decide +kernel
theorem dX4_pile_60 : decode cX4_pile 60 = .ok (.if_icmp .ne 7, 3) := by decide +kernel
theorem dX4_pile_63 : decode cX4_pile 63 = .ok (.iconst 2, 1) := by decide +kernel
theorem dX4_pile_64 : decode cX4_pile 64 = .ok (.goto 4, 3) := by decide +kernel
theorem dX4_pile_67 : decode cX4_pile 67 = .ok (.iconst 0, 1) := by decide +kernel
theorem dX4_pile_68 : decode cX4_pile 68 = .ok (.putfield 65, 3) := by decide +kernel
theorem dX4_pile_71 : decode cX4_pile 71 = .ok (.aload_n 0, 1) := by decide +kernel
theorem dX4_pile_72 : decode cX4_pile 72 = .ok (.getfield 65, 3) := by decide +kernel
theorem dX4_pile_75 : decode cX4_pile 75 = .ok (.ifCond .le 5, 3) := by decide +kernel
theorem dX4_pile_78 : decode cX4_pile 78 = .ok (.iconst 0, 1) := by decide +kernel
theorem dX4_pile_79 : decode cX4_pile 79 = .ok (.ireturn, 1) := by decide +kernel
theorem dX4_pile_80 : decode cX4_pile 80 = .ok (.aload_n 0, 1) := by decide +kernel
theorem dX4_pile_81 : decode cX4_pile 81 = .ok (.getfield 7, 3) := by decide +kernel
theorem dX4_pile_84 : decode cX4_pile 84 = .ok (.aload_n 0, 1) := by decide +kernel
theorem dX4_pile_85 : decode cX4_pile 85 = .ok (.getfield 68, 3) := by decide +kernel
theorem dX4_pile_88 : decode cX4_pile 88 = .ok (.iload_n 1, 1) := by decide +kernel
theorem dX4_pile_89 : decode cX4_pile 89 = .ok (.iastore, 1) := by decide +kernel
theorem dX4_pile_90 : decode cX4_pile 90 = .ok (.aload_n 0, 1) := by decide +kernel
theorem dX4_pile_91 : decode cX4_pile 91 = .ok (.getfield 13, 3) := by decide +kernel
theorem dX4_pile_94 : decode cX4_pile 94 = .ok (.aload_n 0, 1) := by decide +kernel
theorem dX4_pile_95 : decode cX4_pile 95 = .ok (.getfield 68, 3) := by decide +kernel
theorem dX4_pile_98 : decode cX4_pile 98 = .ok (.iload_n 2, 1) := by decide +kernel
theorem dX4_pile_99 : decode cX4_pile 99 = .ok (.i2l, 1) := by decide +kernel
theorem dX4_pile_100 : decode cX4_pile 100 = .ok (.lastore, 1) := by decide +kernel
theorem dX4_pile_101 : decode cX4_pile 101 = .ok (.aload_n 0, 1) := by decide +kernel
theorem dX4_pile_102 : decode cX4_pile 102 = .ok (.getfield 17, 3) := by decide +kernel
theorem dX4_pile_105 : decode cX4_pile 105 = .ok (.aload_n 0, 1) := by decide +kernel
theorem dX4_pile_106 : decode cX4_pile 106 = .ok (.getfield 68, 3) := by decide +kernel
theorem dX4_pile_109 : decode cX4_pile 109 = .ok (.iload_n 3, 1) := by decide +kernel
theorem dX4_pile_110 : decode cX4_pile 110 = .ok (.i2l, 1) := by decide +kernel
theorem dX4_pile_111 : decode cX4_pile 111 = .ok (.lastore, 1) := by decide +kernel
theorem dX4_pile_112 : decode cX4_pile 112 = .ok (.aload_n 0, 1) := by decide +kernel
theorem dX4_pile_113 : decode cX4_pile 113 = .ok (.getfield 20, 3) := by decide +kernel
theorem dX4_pile_116 : decode cX4_pile 116 = .ok (.aload_n 0, 1) := by decide +kernel
theorem dX4_pile_117 : decode cX4_pile 117 = .ok (.getfield 68, 3) := by decide +kernel
theorem dX4_pile_120 : decode cX4_pile 120 = .ok (.iload 4, 2) := by decide +kernel
theorem dX4_pile_122 : decode cX4_pile 122 = .ok (.iastore, 1) := by decide +kernel
theorem dX4_pile_123 : decode cX4_pile 123 = .ok (.aload_n 0, 1) := by decide +kernel
theorem dX4_pile_124 : decode cX4_pile 124 = .ok (.dup, 1) := by decide +kernel
theorem dX4_pile_125 : decode cX4_pile 125 = .ok (.getfield 68, 3) := by decide +kernel
theorem dX4_pile_128 : decode cX4_pile 128 = .ok (.iconst 1, 1) := by decide +kernel
theorem dX4_pile_129 : decode cX4_pile 129 = .ok (.iadd, 1) := by decide +kernel
theorem dX4_pile_130 : decode cX4_pile 130 = .ok (.putfield 68, 3) := by decide +kernel
theorem dX4_pile_133 : decode cX4_pile 133 = .ok (.aload_n 0, 1) := by decide +kernel
theorem dX4_pile_134 : decode cX4_pile 134 = .ok (.getfield 68, 3) := by decide +kernel
theorem dX4_pile_137 : decode cX4_pile 137 = .ok (.iconst 1, 1) := by decide +kernel
theorem dX4_pile_138 : decode cX4_pile 138 = .ok (.isub, 1) := by decide +kernel
theorem dX4_pile_139 : decode cX4_pile 139 = .ok (.ireturn, 1) := by decide +kernel
set_option maxRecDepth 20000 in
theorem ggX4_ground_X4_isPiece : GoodIn wsX4_ground wsX4_isPiece := goodIn_r _ [10, 11, 12, 13, 14, 9, 15, 16, 17, 18, 19, 20, 21, 22, 23, 24, 25, 26, 27, 28, 29, 30, 31, 32, 33, 34, 35, 36, 37, 38] (by decide +kernel) (by decide +kernel)
set_option maxRecDepth 20000 in
theorem gX4_ground_X4_isPiece : GoodIn wsX4_ground (wsV RX4 87 RX4 yX4_isPiece wsX4_isPiece) := goodIn_app (goodIn_of _ (by decide +kernel)) ggX4_ground_X4_isPiece
set_option maxRecDepth 20000 in
theorem ggX4_ground_X4_in : GoodIn wsX4_ground wsX4_in := goodIn_r _ [19] (by decide +kernel) (by decide +kernel)
set_option maxRecDepth 20000 in
theorem gX4_ground_X4_in : GoodIn wsX4_ground (va_wsS RX4 71 yX4_in wsX4_in) := goodIn_app (goodIn_of _ (by decide +kernel)) ggX4_ground_X4_in
theorem dX4_ground_0 : decode cX4_ground 0 = .ok (.aload_n 0, 1) := by decide +kernel
theorem dX4_ground_1 : decode cX4_ground 1 = .ok (.aload_n 0, 1) := by decide +kernel
theorem dX4_ground_2 : decode cX4_ground 2 = .ok (.iload_n 1, 1) := by decide +kernel
theorem dX4_ground_3 : decode cX4_ground 3 = .ok (.iload_n 2, 1) := by decide +kernel
theorem dX4_ground_4 : decode cX4_ground 4 = .ok (.invokevirtual 87, 3) := by decide +kernel
theorem dX4_ground_7 : decode cX4_ground 7 = .ok (.ifCond .eq 32, 3) := by decide +kernel
theorem dX4_ground_10 : decode cX4_ground 10 = .ok (.iload_n 3, 1) := by decide +kernel
theorem dX4_ground_11 : decode cX4_ground 11 = .ok (.i2l, 1) := by decide +kernel
theorem dX4_ground_12 : decode cX4_ground 12 = .ok (.lconst 0, 1) := by decide +kernel
theorem dX4_ground_13 : decode cX4_ground 13 = .ok (.ldc2_w 83, 3) := by decide +kernel
theorem dX4_ground_16 : decode cX4_ground 16 = .ok (.invokestatic 71, 3) := by decide +kernel
theorem dX4_ground_19 : decode cX4_ground 19 = .ok (.ifCond .eq 20, 3) := by decide +kernel
theorem dX4_ground_22 : decode cX4_ground 22 = .ok (.iload 4, 2) := by decide +kernel
theorem dX4_ground_24 : decode cX4_ground 24 = .ok (.i2l, 1) := by decide +kernel
theorem dX4_ground_25 : decode cX4_ground 25 = .ok (.lconst 0, 1) := by decide +kernel
theorem dX4_ground_26 : decode cX4_ground 26 = .ok (.ldc2_w 85, 3) := by decide +kernel
theorem dX4_ground_29 : decode cX4_ground 29 = .ok (.invokestatic 71, 3) := by decide +kernel
theorem dX4_ground_32 : decode cX4_ground 32 = .ok (.ifCond .eq 7, 3) := by decide +kernel
theorem dX4_ground_35 : decode cX4_ground 35 = .ok (.iconst 0, 1) := by decide +kernel
theorem dX4_ground_36 : decode cX4_ground 36 = .ok (.goto 4, 3) := by decide +kernel
theorem dX4_ground_39 : decode cX4_ground 39 = .ok (.iconst 1, 1) := by decide +kernel
theorem dX4_ground_40 : decode cX4_ground 40 = .ok (.putfield 65, 3) := by decide +kernel
theorem dX4_ground_43 : decode cX4_ground 43 = .ok (.aload_n 0, 1) := by decide +kernel
theorem dX4_ground_44 : decode cX4_ground 44 = .ok (.getfield 65, 3) := by decide +kernel
theorem dX4_ground_47 : decode cX4_ground 47 = .ok (.ifCond .ne 30, 3) := by decide +kernel
theorem dX4_ground_50 : decode cX4_ground 50 = .ok (.aload_n 0, 1) := by decide +kernel
theorem dX4_ground_51 : decode cX4_ground 51 = .ok (.getfield 23, 3) := by decide +kernel
theorem dX4_ground_54 : decode cX4_ground 54 = .ok (.bipush 12, 2) := by decide +kernel
theorem dX4_ground_56 : decode cX4_ground 56 = .ok (.iload_n 1, 1) := by decide +kernel
theorem dX4_ground_57 : decode cX4_ground 57 = .ok (.imul, 1) := by decide +kernel
theorem dX4_ground_58 : decode cX4_ground 58 = .ok (.iload_n 2, 1) := by decide +kernel
theorem dX4_ground_59 : decode cX4_ground 59 = .ok (.iadd, 1) := by decide +kernel
theorem dX4_ground_60 : decode cX4_ground 60 = .ok (.iload_n 3, 1) := by decide +kernel
theorem dX4_ground_61 : decode cX4_ground 61 = .ok (.i2l, 1) := by decide +kernel
theorem dX4_ground_62 : decode cX4_ground 62 = .ok (.lastore, 1) := by decide +kernel
theorem dX4_ground_63 : decode cX4_ground 63 = .ok (.aload_n 0, 1) := by decide +kernel
theorem dX4_ground_64 : decode cX4_ground 64 = .ok (.getfield 26, 3) := by decide +kernel
theorem dX4_ground_67 : decode cX4_ground 67 = .ok (.bipush 12, 2) := by decide +kernel
theorem dX4_ground_69 : decode cX4_ground 69 = .ok (.iload_n 1, 1) := by decide +kernel
theorem dX4_ground_70 : decode cX4_ground 70 = .ok (.imul, 1) := by decide +kernel
theorem dX4_ground_71 : decode cX4_ground 71 = .ok (.iload_n 2, 1) := by decide +kernel
theorem dX4_ground_72 : decode cX4_ground 72 = .ok (.iadd, 1) := by decide +kernel
theorem dX4_ground_73 : decode cX4_ground 73 = .ok (.iload 4, 2) := by decide +kernel
theorem dX4_ground_75 : decode cX4_ground 75 = .ok (.i2l, 1) := by decide +kernel
theorem dX4_ground_76 : decode cX4_ground 76 = .ok (.lastore, 1) := by decide +kernel
theorem dX4_ground_77 : decode cX4_ground 77 = .ok (.return_, 1) := by decide +kernel
set_option maxRecDepth 20000 in
theorem ggX4_sinks_X4_isPiece : GoodIn wsX4_sinks wsX4_isPiece := goodIn_r _ [8, 9, 10, 11, 12, 7, 13, 14, 15, 16, 17, 18, 19, 20, 21, 22, 23, 24, 25, 26, 27, 28, 29, 30, 31, 32, 33, 34, 35, 36] (by decide +kernel) (by decide +kernel)
set_option maxRecDepth 20000 in
theorem gX4_sinks_X4_isPiece : GoodIn wsX4_sinks (wsV RX4 87 RX4 yX4_isPiece wsX4_isPiece) := goodIn_app (goodIn_of _ (by decide +kernel)) ggX4_sinks_X4_isPiece
set_option maxRecDepth 20000 in
theorem ggX4_sinks_X4_in : GoodIn wsX4_sinks wsX4_in := goodIn_r _ [17] (by decide +kernel) (by decide +kernel)
set_option maxRecDepth 20000 in
theorem gX4_sinks_X4_in : GoodIn wsX4_sinks (va_wsS RX4 71 yX4_in wsX4_in) := goodIn_app (goodIn_of _ (by decide +kernel)) ggX4_sinks_X4_in
theorem dX4_sinks_0 : decode cX4_sinks 0 = .ok (.aload_n 0, 1) := by decide +kernel
theorem dX4_sinks_1 : decode cX4_sinks 1 = .ok (.aload_n 0, 1) := by decide +kernel
theorem dX4_sinks_2 : decode cX4_sinks 2 = .ok (.iload_n 1, 1) := by decide +kernel
theorem dX4_sinks_3 : decode cX4_sinks 3 = .ok (.iload_n 2, 1) := by decide +kernel
theorem dX4_sinks_4 : decode cX4_sinks 4 = .ok (.invokevirtual 87, 3) := by decide +kernel
theorem dX4_sinks_7 : decode cX4_sinks 7 = .ok (.ifCond .eq 19, 3) := by decide +kernel
theorem dX4_sinks_10 : decode cX4_sinks 10 = .ok (.iload_n 3, 1) := by decide +kernel
theorem dX4_sinks_11 : decode cX4_sinks 11 = .ok (.i2l, 1) := by decide +kernel
theorem dX4_sinks_12 : decode cX4_sinks 12 = .ok (.lconst 0, 1) := by decide +kernel
theorem dX4_sinks_13 : decode cX4_sinks 13 = .ok (.ldc2_w 81, 3) := by decide +kernel
theorem dX4_sinks_16 : decode cX4_sinks 16 = .ok (.invokestatic 71, 3) := by decide +kernel
theorem dX4_sinks_19 : decode cX4_sinks 19 = .ok (.ifCond .eq 7, 3) := by decide +kernel
theorem dX4_sinks_22 : decode cX4_sinks 22 = .ok (.iconst 0, 1) := by decide +kernel
theorem dX4_sinks_23 : decode cX4_sinks 23 = .ok (.goto 4, 3) := by decide +kernel
theorem dX4_sinks_26 : decode cX4_sinks 26 = .ok (.iconst 1, 1) := by decide +kernel
theorem dX4_sinks_27 : decode cX4_sinks 27 = .ok (.putfield 65, 3) := by decide +kernel
theorem dX4_sinks_30 : decode cX4_sinks 30 = .ok (.aload_n 0, 1) := by decide +kernel
theorem dX4_sinks_31 : decode cX4_sinks 31 = .ok (.getfield 65, 3) := by decide +kernel
theorem dX4_sinks_34 : decode cX4_sinks 34 = .ok (.ifCond .le 5, 3) := by decide +kernel
theorem dX4_sinks_37 : decode cX4_sinks 37 = .ok (.iconst 0, 1) := by decide +kernel
theorem dX4_sinks_38 : decode cX4_sinks 38 = .ok (.ireturn, 1) := by decide +kernel
theorem dX4_sinks_39 : decode cX4_sinks 39 = .ok (.aload_n 0, 1) := by decide +kernel
theorem dX4_sinks_40 : decode cX4_sinks 40 = .ok (.getfield 29, 3) := by decide +kernel
theorem dX4_sinks_43 : decode cX4_sinks 43 = .ok (.bipush 12, 2) := by decide +kernel
theorem dX4_sinks_45 : decode cX4_sinks 45 = .ok (.iload_n 1, 1) := by decide +kernel
theorem dX4_sinks_46 : decode cX4_sinks 46 = .ok (.imul, 1) := by decide +kernel
theorem dX4_sinks_47 : decode cX4_sinks 47 = .ok (.iload_n 2, 1) := by decide +kernel
theorem dX4_sinks_48 : decode cX4_sinks 48 = .ok (.iadd, 1) := by decide +kernel
theorem dX4_sinks_49 : decode cX4_sinks 49 = .ok (.laload, 1) := by decide +kernel
theorem dX4_sinks_50 : decode cX4_sinks 50 = .ok (.lstore 4, 2) := by decide +kernel
theorem dX4_sinks_52 : decode cX4_sinks 52 = .ok (.aload_n 0, 1) := by decide +kernel
theorem dX4_sinks_53 : decode cX4_sinks 53 = .ok (.getfield 29, 3) := by decide +kernel
theorem dX4_sinks_56 : decode cX4_sinks 56 = .ok (.bipush 12, 2) := by decide +kernel
theorem dX4_sinks_58 : decode cX4_sinks 58 = .ok (.iload_n 1, 1) := by decide +kernel
theorem dX4_sinks_59 : decode cX4_sinks 59 = .ok (.imul, 1) := by decide +kernel
theorem dX4_sinks_60 : decode cX4_sinks 60 = .ok (.iload_n 2, 1) := by decide +kernel
theorem dX4_sinks_61 : decode cX4_sinks 61 = .ok (.iadd, 1) := by decide +kernel
theorem dX4_sinks_62 : decode cX4_sinks 62 = .ok (.iload_n 3, 1) := by decide +kernel
theorem dX4_sinks_63 : decode cX4_sinks 63 = .ok (.i2l, 1) := by decide +kernel
theorem dX4_sinks_64 : decode cX4_sinks 64 = .ok (.lastore, 1) := by decide +kernel
theorem dX4_sinks_65 : decode cX4_sinks 65 = .ok (.lload 4, 2) := by decide +kernel
theorem dX4_sinks_67 : decode cX4_sinks 67 = .ok (.l2i, 1) := by decide +kernel
theorem dX4_sinks_68 : decode cX4_sinks 68 = .ok (.ireturn, 1) := by decide +kernel
set_option maxRecDepth 20000 in
theorem ggX4_tip_X4_isPile : GoodIn wsX4_tip wsX4_isPile := goodIn_r _ [10, 11, 12, 13, 9, 14, 15, 16, 17, 18, 19, 20, 21, 22, 23, 24, 25, 26, 27, 28, 29, 30, 31, 32, 33] (by decide +kernel) (by decide +kernel)
set_option maxRecDepth 20000 in
theorem gX4_tip_X4_isPile : GoodIn wsX4_tip (wsV RX4 75 RX4 yX4_isPile wsX4_isPile) := goodIn_app (goodIn_of _ (by decide +kernel)) ggX4_tip_X4_isPile
set_option maxRecDepth 20000 in
theorem ggX4_tip_X4_in : GoodIn wsX4_tip wsX4_in := goodIn_r _ [14] (by decide +kernel) (by decide +kernel)
set_option maxRecDepth 20000 in
theorem gX4_tip_X4_in : GoodIn wsX4_tip (va_wsS RX4 71 yX4_in wsX4_in) := goodIn_app (goodIn_of _ (by decide +kernel)) ggX4_tip_X4_in
theorem dX4_tip_0 : decode cX4_tip 0 = .ok (.aload_n 0, 1) := by decide +kernel
theorem dX4_tip_1 : decode cX4_tip 1 = .ok (.aload_n 0, 1) := by decide +kernel
theorem dX4_tip_2 : decode cX4_tip 2 = .ok (.iload_n 1, 1) := by decide +kernel
theorem dX4_tip_3 : decode cX4_tip 3 = .ok (.invokevirtual 75, 3) := by decide +kernel
theorem dX4_tip_6 : decode cX4_tip 6 = .ok (.ifCond .eq 31, 3) := by decide +kernel
theorem dX4_tip_9 : decode cX4_tip 9 = .ok (.iload_n 2, 1) := by decide +kernel
theorem dX4_tip_10 : decode cX4_tip 10 = .ok (.i2l, 1) := by decide +kernel
theorem dX4_tip_11 : decode cX4_tip 11 = .ok (.lconst 0, 1) := by decide +kernel
theorem dX4_tip_12 : decode cX4_tip 12 = .ok (.ldc2_w 83, 3) := by decide +kernel
theorem dX4_tip_15 : decode cX4_tip 15 = .ok (.invokestatic 71, 3) := by decide +kernel
theorem dX4_tip_18 : decode cX4_tip 18 = .ok (.ifCond .eq 19, 3) := by decide +kernel
theorem dX4_tip_21 : decode cX4_tip 21 = .ok (.iload_n 3, 1) := by decide +kernel
theorem dX4_tip_22 : decode cX4_tip 22 = .ok (.i2l, 1) := by decide +kernel
theorem dX4_tip_23 : decode cX4_tip 23 = .ok (.lconst 0, 1) := by decide +kernel
theorem dX4_tip_24 : decode cX4_tip 24 = .ok (.ldc2_w 91, 3) := by decide +kernel
theorem dX4_tip_27 : decode cX4_tip 27 = .ok (.invokestatic 71, 3) := by decide +kernel
theorem dX4_tip_30 : decode cX4_tip 30 = .ok (.ifCond .eq 7, 3) := by decide +kernel
theorem dX4_tip_33 : decode cX4_tip 33 = .ok (.iconst 0, 1) := by decide +kernel
theorem dX4_tip_34 : decode cX4_tip 34 = .ok (.goto 4, 3) := by decide +kernel
theorem dX4_tip_37 : decode cX4_tip 37 = .ok (.iconst 1, 1) := by decide +kernel
theorem dX4_tip_38 : decode cX4_tip 38 = .ok (.putfield 65, 3) := by decide +kernel
theorem dX4_tip_41 : decode cX4_tip 41 = .ok (.aload_n 0, 1) := by decide +kernel
theorem dX4_tip_42 : decode cX4_tip 42 = .ok (.getfield 65, 3) := by decide +kernel
theorem dX4_tip_45 : decode cX4_tip 45 = .ok (.ifCond .ne 19, 3) := by decide +kernel
theorem dX4_tip_48 : decode cX4_tip 48 = .ok (.aload_n 0, 1) := by decide +kernel
theorem dX4_tip_49 : decode cX4_tip 49 = .ok (.getfield 32, 3) := by decide +kernel
theorem dX4_tip_52 : decode cX4_tip 52 = .ok (.iload_n 1, 1) := by decide +kernel
theorem dX4_tip_53 : decode cX4_tip 53 = .ok (.iload_n 2, 1) := by decide +kernel
theorem dX4_tip_54 : decode cX4_tip 54 = .ok (.i2l, 1) := by decide +kernel
theorem dX4_tip_55 : decode cX4_tip 55 = .ok (.lastore, 1) := by decide +kernel
theorem dX4_tip_56 : decode cX4_tip 56 = .ok (.aload_n 0, 1) := by decide +kernel
theorem dX4_tip_57 : decode cX4_tip 57 = .ok (.getfield 35, 3) := by decide +kernel
theorem dX4_tip_60 : decode cX4_tip 60 = .ok (.iload_n 1, 1) := by decide +kernel
theorem dX4_tip_61 : decode cX4_tip 61 = .ok (.iload_n 3, 1) := by decide +kernel
theorem dX4_tip_62 : decode cX4_tip 62 = .ok (.i2l, 1) := by decide +kernel
theorem dX4_tip_63 : decode cX4_tip 63 = .ok (.lastore, 1) := by decide +kernel
theorem dX4_tip_64 : decode cX4_tip 64 = .ok (.return_, 1) := by decide +kernel
set_option maxRecDepth 20000 in
theorem ggX4_march_X4_cut : GoodIn wsX4_march wsX4_cut := goodIn_r _ [14] (by decide +kernel) (by decide +kernel)
set_option maxRecDepth 20000 in
theorem gX4_march_X4_cut : GoodIn wsX4_march (va_wsS RX4 93 yX4_cut wsX4_cut) := goodIn_app (goodIn_of _ (by decide +kernel)) ggX4_march_X4_cut
set_option maxRecDepth 20000 in
theorem ggX4_march_X4_down : GoodIn wsX4_march wsX4_down := goodIn_r _ [17] (by decide +kernel) (by decide +kernel)
set_option maxRecDepth 20000 in
theorem gX4_march_X4_down : GoodIn wsX4_march (va_wsS RX4 97 yX4_down wsX4_down) := goodIn_app (goodIn_of _ (by decide +kernel)) ggX4_march_X4_down
theorem dX4_march_0 : decode cX4_march 0 = .ok (.aload_n 0, 1) := by decide +kernel
theorem dX4_march_1 : decode cX4_march 1 = .ok (.getfield 7, 3) := by decide +kernel
theorem dX4_march_4 : decode cX4_march 4 = .ok (.iload_n 1, 1) := by decide +kernel
theorem dX4_march_5 : decode cX4_march 5 = .ok (.iaload, 1) := by decide +kernel
theorem dX4_march_6 : decode cX4_march 6 = .ok (.iconst 1, 1) := by decide +kernel
theorem dX4_march_7 : decode cX4_march 7 = .ok (.isub, 1) := by decide +kernel
theorem dX4_march_8 : decode cX4_march 8 = .ok (.istore 4, 2) := by decide +kernel
theorem dX4_march_10 : decode cX4_march 10 = .ok (.aload_n 0, 1) := by decide +kernel
theorem dX4_march_11 : decode cX4_march 11 = .ok (.getfield 32, 3) := by decide +kernel
theorem dX4_march_14 : decode cX4_march 14 = .ok (.iload_n 1, 1) := by decide +kernel
theorem dX4_march_15 : decode cX4_march 15 = .ok (.laload, 1) := by decide +kernel
theorem dX4_march_16 : decode cX4_march 16 = .ok (.lload_n 2, 1) := by decide +kernel
theorem dX4_march_17 : decode cX4_march 17 = .ok (.lmul, 1) := by decide +kernel
theorem dX4_march_18 : decode cX4_march 18 = .ok (.lconst 0, 1) := by decide +kernel
theorem dX4_march_19 : decode cX4_march 19 = .ok (.aload_n 0, 1) := by decide +kernel
theorem dX4_march_20 : decode cX4_march 20 = .ok (.getfield 35, 3) := by decide +kernel
theorem dX4_march_23 : decode cX4_march 23 = .ok (.iload_n 1, 1) := by decide +kernel
theorem dX4_march_24 : decode cX4_march 24 = .ok (.laload, 1) := by decide +kernel
theorem dX4_march_25 : decode cX4_march 25 = .ok (.invokestatic 93, 3) := by decide +kernel
theorem dX4_march_28 : decode cX4_march 28 = .ok (.lstore 5, 2) := by decide +kernel
theorem dX4_march_30 : decode cX4_march 30 = .ok (.lload_n 2, 1) := by decide +kernel
theorem dX4_march_31 : decode cX4_march 31 = .ok (.lstore 7, 2) := by decide +kernel
theorem dX4_march_33 : decode cX4_march 33 = .ok (.iload 4, 2) := by decide +kernel
theorem dX4_march_35 : decode cX4_march 35 = .ok (.istore 9, 2) := by decide +kernel
theorem dX4_march_37 : decode cX4_march 37 = .ok (.iload 9, 2) := by decide +kernel
theorem dX4_march_39 : decode cX4_march 39 = .ok (.ifCond .lt 107, 3) := by decide +kernel
theorem dX4_march_42 : decode cX4_march 42 = .ok (.bipush 12, 2) := by decide +kernel
theorem dX4_march_44 : decode cX4_march 44 = .ok (.iload_n 1, 1) := by decide +kernel
theorem dX4_march_45 : decode cX4_march 45 = .ok (.imul, 1) := by decide +kernel
theorem dX4_march_46 : decode cX4_march 46 = .ok (.iload 9, 2) := by decide +kernel
theorem dX4_march_48 : decode cX4_march 48 = .ok (.iadd, 1) := by decide +kernel
theorem dX4_march_49 : decode cX4_march 49 = .ok (.istore 10, 2) := by decide +kernel
theorem dX4_march_51 : decode cX4_march 51 = .ok (.aload_n 0, 1) := by decide +kernel
theorem dX4_march_52 : decode cX4_march 52 = .ok (.getfield 42, 3) := by decide +kernel
theorem dX4_march_55 : decode cX4_march 55 = .ok (.iload 9, 2) := by decide +kernel
theorem dX4_march_57 : decode cX4_march 57 = .ok (.lload 7, 2) := by decide +kernel
theorem dX4_march_59 : decode cX4_march 59 = .ok (.lastore, 1) := by decide +kernel
theorem dX4_march_60 : decode cX4_march 60 = .ok (.aload_n 0, 1) := by decide +kernel
theorem dX4_march_61 : decode cX4_march 61 = .ok (.getfield 45, 3) := by decide +kernel
theorem dX4_march_64 : decode cX4_march 64 = .ok (.iload 9, 2) := by decide +kernel
theorem dX4_march_66 : decode cX4_march 66 = .ok (.aload_n 0, 1) := by decide +kernel
theorem dX4_march_67 : decode cX4_march 67 = .ok (.getfield 23, 3) := by decide +kernel
theorem dX4_march_70 : decode cX4_march 70 = .ok (.iload 10, 2) := by decide +kernel
theorem dX4_march_72 : decode cX4_march 72 = .ok (.laload, 1) := by decide +kernel
theorem dX4_march_73 : decode cX4_march 73 = .ok (.lload 7, 2) := by decide +kernel
theorem dX4_march_75 : decode cX4_march 75 = .ok (.aload_n 0, 1) := by decide +kernel
theorem dX4_march_76 : decode cX4_march 76 = .ok (.getfield 29, 3) := by decide +kernel
theorem dX4_march_79 : decode cX4_march 79 = .ok (.iload 10, 2) := by decide +kernel
theorem dX4_march_81 : decode cX4_march 81 = .ok (.laload, 1) := by decide +kernel
theorem dX4_march_82 : decode cX4_march 82 = .ok (.lsub, 1) := by decide +kernel
theorem dX4_march_83 : decode cX4_march 83 = .ok (.lmul, 1) := by decide +kernel
theorem dX4_march_84 : decode cX4_march 84 = .ok (.aload_n 0, 1) := by decide +kernel
theorem dX4_march_85 : decode cX4_march 85 = .ok (.getfield 26, 3) := by decide +kernel
theorem dX4_march_88 : decode cX4_march 88 = .ok (.iload 10, 2) := by decide +kernel
theorem dX4_march_90 : decode cX4_march 90 = .ok (.laload, 1) := by decide +kernel
theorem dX4_march_91 : decode cX4_march 91 = .ok (.lneg, 1) := by decide +kernel
theorem dX4_march_92 : decode cX4_march 92 = .ok (.aload_n 0, 1) := by decide +kernel
theorem dX4_march_93 : decode cX4_march 93 = .ok (.getfield 26, 3) := by decide +kernel
theorem dX4_march_96 : decode cX4_march 96 = .ok (.iload 10, 2) := by decide +kernel
theorem dX4_march_98 : decode cX4_march 98 = .ok (.laload, 1) := by decide +kernel
theorem dX4_march_99 : decode cX4_march 99 = .ok (.invokestatic 93, 3) := by decide +kernel
theorem dX4_march_102 : decode cX4_march 102 = .ok (.lastore, 1) := by decide +kernel
theorem dX4_march_103 : decode cX4_march 103 = .ok (.lload 5, 2) := by decide +kernel
theorem dX4_march_105 : decode cX4_march 105 = .ok (.aload_n 0, 1) := by decide +kernel
theorem dX4_march_106 : decode cX4_march 106 = .ok (.getfield 45, 3) := by decide +kernel
theorem dX4_march_109 : decode cX4_march 109 = .ok (.iload 9, 2) := by decide +kernel
theorem dX4_march_111 : decode cX4_march 111 = .ok (.laload, 1) := by decide +kernel
theorem dX4_march_112 : decode cX4_march 112 = .ok (.ladd, 1) := by decide +kernel
theorem dX4_march_113 : decode cX4_march 113 = .ok (.lstore 5, 2) := by decide +kernel
theorem dX4_march_115 : decode cX4_march 115 = .ok (.aload_n 0, 1) := by decide +kernel
theorem dX4_march_116 : decode cX4_march 116 = .ok (.getfield 48, 3) := by decide +kernel
theorem dX4_march_119 : decode cX4_march 119 = .ok (.iload 9, 2) := by decide +kernel
theorem dX4_march_121 : decode cX4_march 121 = .ok (.lload 5, 2) := by decide +kernel
theorem dX4_march_123 : decode cX4_march 123 = .ok (.lastore, 1) := by decide +kernel
theorem dX4_march_124 : decode cX4_march 124 = .ok (.lload 7, 2) := by decide +kernel
theorem dX4_march_126 : decode cX4_march 126 = .ok (.lload 5, 2) := by decide +kernel
theorem dX4_march_128 : decode cX4_march 128 = .ok (.aload_n 0, 1) := by decide +kernel
theorem dX4_march_129 : decode cX4_march 129 = .ok (.getfield 13, 3) := by decide +kernel
theorem dX4_march_132 : decode cX4_march 132 = .ok (.iload_n 1, 1) := by decide +kernel
theorem dX4_march_133 : decode cX4_march 133 = .ok (.laload, 1) := by decide +kernel
theorem dX4_march_134 : decode cX4_march 134 = .ok (.invokestatic 97, 3) := by decide +kernel
theorem dX4_march_137 : decode cX4_march 137 = .ok (.ladd, 1) := by decide +kernel
theorem dX4_march_138 : decode cX4_march 138 = .ok (.lstore 7, 2) := by decide +kernel
theorem dX4_march_140 : decode cX4_march 140 = .ok (.iinc 9 (-1), 3) := by decide +kernel
theorem dX4_march_143 : decode cX4_march 143 = .ok (.goto (-106), 3) := by decide +kernel
theorem dX4_march_146 : decode cX4_march 146 = .ok (.lload 5, 2) := by decide +kernel
theorem dX4_march_148 : decode cX4_march 148 = .ok (.lreturn, 1) := by decide +kernel
set_option maxRecDepth 20000 in
theorem ggX4_isWithin_X4_march : GoodIn wsX4_isWithin wsX4_march := goodIn_r _ [6, 7, 8, 9, 1, 10, 11, 12, 13, 14, 15, 16, 17, 5, 18, 19, 20, 21, 22, 23, 24, 25, 26, 27, 28, 29, 30, 31, 32, 33, 34, 35, 36, 37, 38, 39, 40] (by decide +kernel) (by decide +kernel)
set_option maxRecDepth 20000 in
theorem gX4_isWithin_X4_march : GoodIn wsX4_isWithin (wsV RX4 101 RX4 yX4_march wsX4_march) := goodIn_app (goodIn_of _ (by decide +kernel)) ggX4_isWithin_X4_march
theorem dX4_isWithin_0 : decode cX4_isWithin 0 = .ok (.aload_n 0, 1) := by decide +kernel
theorem dX4_isWithin_1 : decode cX4_isWithin 1 = .ok (.iload_n 1, 1) := by decide +kernel
theorem dX4_isWithin_2 : decode cX4_isWithin 2 = .ok (.lload_n 2, 1) := by decide +kernel
theorem dX4_isWithin_3 : decode cX4_isWithin 3 = .ok (.invokevirtual 101, 3) := by decide +kernel
theorem dX4_isWithin_6 : decode cX4_isWithin 6 = .ok (.lstore 7, 2) := by decide +kernel
theorem dX4_isWithin_8 : decode cX4_isWithin 8 = .ok (.iload 6, 2) := by decide +kernel
theorem dX4_isWithin_10 : decode cX4_isWithin 10 = .ok (.ifCond .eq 12, 3) := by decide +kernel
theorem dX4_isWithin_13 : decode cX4_isWithin 13 = .ok (.aload_n 0, 1) := by decide +kernel
theorem dX4_isWithin_14 : decode cX4_isWithin 14 = .ok (.getfield 42, 3) := by decide +kernel
theorem dX4_isWithin_17 : decode cX4_isWithin 17 = .ok (.iconst 0, 1) := by decide +kernel
theorem dX4_isWithin_18 : decode cX4_isWithin 18 = .ok (.laload, 1) := by decide +kernel
theorem dX4_isWithin_19 : decode cX4_isWithin 19 = .ok (.goto 5, 3) := by decide +kernel
theorem dX4_isWithin_22 : decode cX4_isWithin 22 = .ok (.lload 7, 2) := by decide +kernel
theorem dX4_isWithin_24 : decode cX4_isWithin 24 = .ok (.lload 4, 2) := by decide +kernel
theorem dX4_isWithin_26 : decode cX4_isWithin 26 = .ok (.lcmp, 1) := by decide +kernel
theorem dX4_isWithin_27 : decode cX4_isWithin 27 = .ok (.ifCond .gt 7, 3) := by decide +kernel
theorem dX4_isWithin_30 : decode cX4_isWithin 30 = .ok (.iconst 1, 1) := by decide +kernel
theorem dX4_isWithin_31 : decode cX4_isWithin 31 = .ok (.goto 4, 3) := by decide +kernel
theorem dX4_isWithin_34 : decode cX4_isWithin 34 = .ok (.iconst 0, 1) := by decide +kernel
theorem dX4_isWithin_35 : decode cX4_isWithin 35 = .ok (.ireturn, 1) := by decide +kernel
set_option maxRecDepth 20000 in
theorem ggX4_greatest_X4_isWithin : GoodIn wsX4_greatest wsX4_isWithin := goodIn_r _ [10, 11, 12, 13, 14, 9, 15, 16, 17, 18, 19, 20, 21, 22, 23, 24, 25, 26, 27, 28, 29, 30, 31, 32, 33, 34, 35, 36, 37, 38, 39, 40, 41, 42, 43, 44, 45, 46, 47, 48, 49] (by decide +kernel) (by decide +kernel)
set_option maxRecDepth 20000 in
theorem gX4_greatest_X4_isWithin : GoodIn wsX4_greatest (wsV RX4 107 RX4 yX4_isWithin wsX4_isWithin) := goodIn_app (goodIn_of _ (by decide +kernel)) ggX4_greatest_X4_isWithin
theorem dX4_greatest_0 : decode cX4_greatest 0 = .ok (.aload_n 0, 1) := by decide +kernel
theorem dX4_greatest_1 : decode cX4_greatest 1 = .ok (.iload_n 1, 1) := by decide +kernel
theorem dX4_greatest_2 : decode cX4_greatest 2 = .ok (.ldc2_w 105, 3) := by decide +kernel
theorem dX4_greatest_5 : decode cX4_greatest 5 = .ok (.lload_n 2, 1) := by decide +kernel
theorem dX4_greatest_6 : decode cX4_greatest 6 = .ok (.iload 4, 2) := by decide +kernel
theorem dX4_greatest_8 : decode cX4_greatest 8 = .ok (.invokevirtual 107, 3) := by decide +kernel
theorem dX4_greatest_11 : decode cX4_greatest 11 = .ok (.ifCond .ne 7, 3) := by decide +kernel
theorem dX4_greatest_14 : decode cX4_greatest 14 = .ok (.ldc2_w 111, 3) := by decide +kernel
theorem dX4_greatest_17 : decode cX4_greatest 17 = .ok (.lreturn, 1) := by decide +kernel
theorem dX4_greatest_18 : decode cX4_greatest 18 = .ok (.ldc2_w 105, 3) := by decide +kernel
theorem dX4_greatest_21 : decode cX4_greatest 21 = .ok (.lstore 5, 2) := by decide +kernel
theorem dX4_greatest_23 : decode cX4_greatest 23 = .ok (.ldc2_w 113, 3) := by decide +kernel
theorem dX4_greatest_26 : decode cX4_greatest 26 = .ok (.lstore 7, 2) := by decide +kernel
theorem dX4_greatest_28 : decode cX4_greatest 28 = .ok (.lload 7, 2) := by decide +kernel
theorem dX4_greatest_30 : decode cX4_greatest 30 = .ok (.lconst 0, 1) := by decide +kernel
theorem dX4_greatest_31 : decode cX4_greatest 31 = .ok (.lcmp, 1) := by decide +kernel
theorem dX4_greatest_32 : decode cX4_greatest 32 = .ok (.ifCond .le 65, 3) := by decide +kernel
theorem dX4_greatest_35 : decode cX4_greatest 35 = .ok (.lload 5, 2) := by decide +kernel
theorem dX4_greatest_37 : decode cX4_greatest 37 = .ok (.lload 7, 2) := by decide +kernel
theorem dX4_greatest_39 : decode cX4_greatest 39 = .ok (.ladd, 1) := by decide +kernel
theorem dX4_greatest_40 : decode cX4_greatest 40 = .ok (.ldc2_w 85, 3) := by decide +kernel
theorem dX4_greatest_43 : decode cX4_greatest 43 = .ok (.lcmp, 1) := by decide +kernel
theorem dX4_greatest_44 : decode cX4_greatest 44 = .ok (.ifCond .gt 23, 3) := by decide +kernel
theorem dX4_greatest_47 : decode cX4_greatest 47 = .ok (.aload_n 0, 1) := by decide +kernel
theorem dX4_greatest_48 : decode cX4_greatest 48 = .ok (.iload_n 1, 1) := by decide +kernel
theorem dX4_greatest_49 : decode cX4_greatest 49 = .ok (.lload 5, 2) := by decide +kernel
theorem dX4_greatest_51 : decode cX4_greatest 51 = .ok (.lload 7, 2) := by decide +kernel
theorem dX4_greatest_53 : decode cX4_greatest 53 = .ok (.ladd, 1) := by decide +kernel
theorem dX4_greatest_54 : decode cX4_greatest 54 = .ok (.lload_n 2, 1) := by decide +kernel
theorem dX4_greatest_55 : decode cX4_greatest 55 = .ok (.iload 4, 2) := by decide +kernel
theorem dX4_greatest_57 : decode cX4_greatest 57 = .ok (.invokevirtual 107, 3) := by decide +kernel
theorem dX4_greatest_60 : decode cX4_greatest 60 = .ok (.ifCond .eq 7, 3) := by decide +kernel
theorem dX4_greatest_63 : decode cX4_greatest 63 = .ok (.iconst 1, 1) := by decide +kernel
theorem dX4_greatest_64 : decode cX4_greatest 64 = .ok (.goto 4, 3) := by decide +kernel
theorem dX4_greatest_67 : decode cX4_greatest 67 = .ok (.iconst 0, 1) := by decide +kernel
theorem dX4_greatest_68 : decode cX4_greatest 68 = .ok (.istore 9, 2) := by decide +kernel
theorem dX4_greatest_70 : decode cX4_greatest 70 = .ok (.lload 5, 2) := by decide +kernel
theorem dX4_greatest_72 : decode cX4_greatest 72 = .ok (.iload 9, 2) := by decide +kernel
theorem dX4_greatest_74 : decode cX4_greatest 74 = .ok (.ifCond .eq 8, 3) := by decide +kernel
theorem dX4_greatest_77 : decode cX4_greatest 77 = .ok (.lload 7, 2) := by decide +kernel
theorem dX4_greatest_79 : decode cX4_greatest 79 = .ok (.goto 4, 3) := by decide +kernel
theorem dX4_greatest_82 : decode cX4_greatest 82 = .ok (.lconst 0, 1) := by decide +kernel
theorem dX4_greatest_83 : decode cX4_greatest 83 = .ok (.ladd, 1) := by decide +kernel
theorem dX4_greatest_84 : decode cX4_greatest 84 = .ok (.lstore 5, 2) := by decide +kernel
theorem dX4_greatest_86 : decode cX4_greatest 86 = .ok (.lload 7, 2) := by decide +kernel
theorem dX4_greatest_88 : decode cX4_greatest 88 = .ok (.ldc2_w 115, 3) := by decide +kernel
theorem dX4_greatest_91 : decode cX4_greatest 91 = .ok (.ldiv, 1) := by decide +kernel
theorem dX4_greatest_92 : decode cX4_greatest 92 = .ok (.lstore 7, 2) := by decide +kernel
theorem dX4_greatest_94 : decode cX4_greatest 94 = .ok (.goto (-66), 3) := by decide +kernel
theorem dX4_greatest_97 : decode cX4_greatest 97 = .ok (.lload 5, 2) := by decide +kernel
theorem dX4_greatest_99 : decode cX4_greatest 99 = .ok (.lreturn, 1) := by decide +kernel
set_option maxRecDepth 20000 in
theorem ggX4_stands_X4_greatest : GoodIn wsX4_stands wsX4_greatest := goodIn_r _ [7, 1, 8, 9, 2, 10, 11, 12, 13, 6, 14, 15, 16, 17, 18, 19, 20, 21, 22, 23, 24, 25, 26, 27, 28, 29, 30, 31, 32, 33, 34, 35, 36, 37, 38, 39, 40, 41, 42, 43, 44, 45, 46, 47, 48, 49, 50, 51, 52, 53] (by decide +kernel) (by decide +kernel)
set_option maxRecDepth 20000 in
theorem gX4_stands_X4_greatest : GoodIn wsX4_stands (wsV RX4 117 RX4 yX4_greatest wsX4_greatest) := goodIn_app (goodIn_of _ (by decide +kernel)) ggX4_stands_X4_greatest
set_option maxRecDepth 20000 in
theorem ggX4_stands_X4_march : GoodIn wsX4_stands wsX4_march := goodIn_r _ [19, 20, 21, 22, 15, 23, 24, 25, 26, 27, 28, 29, 30, 6, 31, 32, 33, 34, 35, 36, 37, 38, 39, 40, 41, 42, 43, 44, 45, 46, 47, 48, 49, 50, 51, 52, 53] (by decide +kernel) (by decide +kernel)
set_option maxRecDepth 20000 in
theorem gX4_stands_X4_march : GoodIn wsX4_stands (wsV RX4 101 RX4 yX4_march wsX4_march) := goodIn_app (goodIn_of _ (by decide +kernel)) ggX4_stands_X4_march
theorem dX4_stands_0 : decode cX4_stands 0 = .ok (.aload_n 0, 1) := by decide +kernel
theorem dX4_stands_1 : decode cX4_stands 1 = .ok (.iload_n 1, 1) := by decide +kernel
theorem dX4_stands_2 : decode cX4_stands 2 = .ok (.lload_n 2, 1) := by decide +kernel
theorem dX4_stands_3 : decode cX4_stands 3 = .ok (.iconst 0, 1) := by decide +kernel
theorem dX4_stands_4 : decode cX4_stands 4 = .ok (.invokevirtual 117, 3) := by decide +kernel
theorem dX4_stands_7 : decode cX4_stands 7 = .ok (.lstore 4, 2) := by decide +kernel
theorem dX4_stands_9 : decode cX4_stands 9 = .ok (.lload 4, 2) := by decide +kernel
theorem dX4_stands_11 : decode cX4_stands 11 = .ok (.ldc2_w 105, 3) := by decide +kernel
theorem dX4_stands_14 : decode cX4_stands 14 = .ok (.lcmp, 1) := by decide +kernel
theorem dX4_stands_15 : decode cX4_stands 15 = .ok (.ifCond .lt 12, 3) := by decide +kernel
theorem dX4_stands_18 : decode cX4_stands 18 = .ok (.lload 4, 2) := by decide +kernel
theorem dX4_stands_20 : decode cX4_stands 20 = .ok (.ldc2_w 85, 3) := by decide +kernel
theorem dX4_stands_23 : decode cX4_stands 23 = .ok (.lcmp, 1) := by decide +kernel
theorem dX4_stands_24 : decode cX4_stands 24 = .ok (.ifCond .ne 5, 3) := by decide +kernel
theorem dX4_stands_27 : decode cX4_stands 27 = .ok (.iconst 0, 1) := by decide +kernel
theorem dX4_stands_28 : decode cX4_stands 28 = .ok (.ireturn, 1) := by decide +kernel
theorem dX4_stands_29 : decode cX4_stands 29 = .ok (.aload_n 0, 1) := by decide +kernel
theorem dX4_stands_30 : decode cX4_stands 30 = .ok (.iload_n 1, 1) := by decide +kernel
theorem dX4_stands_31 : decode cX4_stands 31 = .ok (.lload 4, 2) := by decide +kernel
theorem dX4_stands_33 : decode cX4_stands 33 = .ok (.invokevirtual 101, 3) := by decide +kernel
theorem dX4_stands_36 : decode cX4_stands 36 = .ok (.pop2, 1) := by decide +kernel
theorem dX4_stands_37 : decode cX4_stands 37 = .ok (.iconst 1, 1) := by decide +kernel
theorem dX4_stands_38 : decode cX4_stands 38 = .ok (.ireturn, 1) := by decide +kernel
set_option maxRecDepth 20000 in
theorem ggX4_under_X4_isPile : GoodIn wsX4_under wsX4_isPile := goodIn_r _ [9, 10, 11, 12, 8, 13, 50, 51, 52, 53, 54, 55, 56, 57, 58, 59, 60, 61, 62, 63, 64, 65, 66, 67, 68] (by decide +kernel) (by decide +kernel)
set_option maxRecDepth 20000 in
theorem gX4_under_X4_isPile : GoodIn wsX4_under (wsV RX4 75 RX4 yX4_isPile wsX4_isPile) := goodIn_app (goodIn_of _ (by decide +kernel)) ggX4_under_X4_isPile
set_option maxRecDepth 20000 in
theorem ggX4_under_X4_in : GoodIn wsX4_under wsX4_in := goodIn_r _ [13] (by decide +kernel) (by decide +kernel)
set_option maxRecDepth 20000 in
theorem gX4_under_X4_in : GoodIn wsX4_under (va_wsS RX4 71 yX4_in wsX4_in) := goodIn_app (goodIn_of _ (by decide +kernel)) ggX4_under_X4_in
set_option maxRecDepth 20000 in
theorem ggX4_under_X4_stands : GoodIn wsX4_under wsX4_stands := goodIn_r _ [17, 18, 19, 20, 21, 22, 8, 23, 24, 25, 26, 27, 28, 29, 30, 3, 31, 32, 33, 34, 35, 36, 37, 38, 39, 40, 41, 42, 43, 44, 45, 46, 47, 48, 49, 50, 51, 52, 53, 54, 55, 56, 57, 58, 59, 60, 61, 62, 63, 64, 65, 66, 67, 68] (by decide +kernel) (by decide +kernel)
set_option maxRecDepth 20000 in
theorem gX4_under_X4_stands : GoodIn wsX4_under (wsV RX4 123 RX4 yX4_stands wsX4_stands) := goodIn_app (goodIn_of _ (by decide +kernel)) ggX4_under_X4_stands
theorem dX4_under_0 : decode cX4_under 0 = .ok (.aload_n 0, 1) := by decide +kernel
theorem dX4_under_1 : decode cX4_under 1 = .ok (.aload_n 0, 1) := by decide +kernel
theorem dX4_under_2 : decode cX4_under 2 = .ok (.iload_n 1, 1) := by decide +kernel
theorem dX4_under_3 : decode cX4_under 3 = .ok (.invokevirtual 75, 3) := by decide +kernel
theorem dX4_under_6 : decode cX4_under 6 = .ok (.ifCond .eq 19, 3) := by decide +kernel
theorem dX4_under_9 : decode cX4_under 9 = .ok (.iload_n 2, 1) := by decide +kernel
theorem dX4_under_10 : decode cX4_under 10 = .ok (.i2l, 1) := by decide +kernel
theorem dX4_under_11 : decode cX4_under 11 = .ok (.lconst 0, 1) := by decide +kernel
theorem dX4_under_12 : decode cX4_under 12 = .ok (.ldc2_w 121, 3) := by decide +kernel
theorem dX4_under_15 : decode cX4_under 15 = .ok (.invokestatic 71, 3) := by decide +kernel
theorem dX4_under_18 : decode cX4_under 18 = .ok (.ifCond .eq 7, 3) := by decide +kernel
theorem dX4_under_21 : decode cX4_under 21 = .ok (.iconst 0, 1) := by decide +kernel
theorem dX4_under_22 : decode cX4_under 22 = .ok (.goto 4, 3) := by decide +kernel
theorem dX4_under_25 : decode cX4_under 25 = .ok (.iconst 1, 1) := by decide +kernel
theorem dX4_under_26 : decode cX4_under 26 = .ok (.putfield 65, 3) := by decide +kernel
theorem dX4_under_29 : decode cX4_under 29 = .ok (.aload_n 0, 1) := by decide +kernel
theorem dX4_under_30 : decode cX4_under 30 = .ok (.getfield 65, 3) := by decide +kernel
theorem dX4_under_33 : decode cX4_under 33 = .ok (.ifCond .le 7, 3) := by decide +kernel
theorem dX4_under_36 : decode cX4_under 36 = .ok (.iconst 0, 1) := by decide +kernel
theorem dX4_under_37 : decode cX4_under 37 = .ok (.goto 25, 3) := by decide +kernel
theorem dX4_under_40 : decode cX4_under 40 = .ok (.aload_n 0, 1) := by decide +kernel
theorem dX4_under_41 : decode cX4_under 41 = .ok (.iload_n 1, 1) := by decide +kernel
theorem dX4_under_42 : decode cX4_under 42 = .ok (.iload_n 2, 1) := by decide +kernel
theorem dX4_under_43 : decode cX4_under 43 = .ok (.i2l, 1) := by decide +kernel
theorem dX4_under_44 : decode cX4_under 44 = .ok (.invokevirtual 123, 3) := by decide +kernel
theorem dX4_under_47 : decode cX4_under 47 = .ok (.ifCond .eq 13, 3) := by decide +kernel
theorem dX4_under_50 : decode cX4_under 50 = .ok (.aload_n 0, 1) := by decide +kernel
theorem dX4_under_51 : decode cX4_under 51 = .ok (.getfield 42, 3) := by decide +kernel
theorem dX4_under_54 : decode cX4_under 54 = .ok (.iconst 0, 1) := by decide +kernel
theorem dX4_under_55 : decode cX4_under 55 = .ok (.laload, 1) := by decide +kernel
theorem dX4_under_56 : decode cX4_under 56 = .ok (.l2i, 1) := by decide +kernel
theorem dX4_under_57 : decode cX4_under 57 = .ok (.goto 5, 3) := by decide +kernel
theorem dX4_under_60 : decode cX4_under 60 = .ok (.ldc 54, 2) := by decide +kernel
theorem dX4_under_62 : decode cX4_under 62 = .ok (.ireturn, 1) := by decide +kernel
set_option maxRecDepth 20000 in
theorem ggX4_piece_X4_isPiece : GoodIn wsX4_piece wsX4_isPiece := goodIn_r _ [12, 13, 14, 15, 16, 11, 17, 18, 19, 20, 21, 54, 55, 56, 57, 58, 59, 60, 61, 62, 63, 64, 65, 66, 67, 68, 69, 70, 71, 72] (by decide +kernel) (by decide +kernel)
set_option maxRecDepth 20000 in
theorem gX4_piece_X4_isPiece : GoodIn wsX4_piece (wsV RX4 87 RX4 yX4_isPiece wsX4_isPiece) := goodIn_app (goodIn_of _ (by decide +kernel)) ggX4_piece_X4_isPiece
set_option maxRecDepth 20000 in
theorem ggX4_piece_X4_in : GoodIn wsX4_piece wsX4_in := goodIn_r _ [21] (by decide +kernel) (by decide +kernel)
set_option maxRecDepth 20000 in
theorem gX4_piece_X4_in : GoodIn wsX4_piece (va_wsS RX4 71 yX4_in wsX4_in) := goodIn_app (goodIn_of _ (by decide +kernel)) ggX4_piece_X4_in
set_option maxRecDepth 20000 in
theorem ggX4_piece_X4_stands : GoodIn wsX4_piece wsX4_stands := goodIn_r _ [25, 26, 27, 28, 29, 30, 11, 31, 32, 33, 2, 34, 35, 36, 37, 5, 38, 39, 40, 41, 13, 42, 43, 6, 44, 45, 46, 7, 47, 48, 49, 50, 51, 52, 53, 54, 55, 56, 57, 58, 59, 60, 61, 62, 63, 64, 65, 66, 67, 68, 69, 70, 71, 72] (by decide +kernel) (by decide +kernel)
set_option maxRecDepth 20000 in
theorem gX4_piece_X4_stands : GoodIn wsX4_piece (wsV RX4 123 RX4 yX4_stands wsX4_stands) := goodIn_app (goodIn_of _ (by decide +kernel)) ggX4_piece_X4_stands
theorem dX4_piece_0 : decode cX4_piece 0 = .ok (.aload_n 0, 1) := by decide +kernel
theorem dX4_piece_1 : decode cX4_piece 1 = .ok (.aload_n 0, 1) := by decide +kernel
theorem dX4_piece_2 : decode cX4_piece 2 = .ok (.iload_n 1, 1) := by decide +kernel
theorem dX4_piece_3 : decode cX4_piece 3 = .ok (.iload_n 3, 1) := by decide +kernel
theorem dX4_piece_4 : decode cX4_piece 4 = .ok (.invokevirtual 87, 3) := by decide +kernel
theorem dX4_piece_7 : decode cX4_piece 7 = .ok (.ifCond .eq 32, 3) := by decide +kernel
theorem dX4_piece_10 : decode cX4_piece 10 = .ok (.iload_n 2, 1) := by decide +kernel
theorem dX4_piece_11 : decode cX4_piece 11 = .ok (.i2l, 1) := by decide +kernel
theorem dX4_piece_12 : decode cX4_piece 12 = .ok (.lconst 0, 1) := by decide +kernel
theorem dX4_piece_13 : decode cX4_piece 13 = .ok (.ldc2_w 121, 3) := by decide +kernel
theorem dX4_piece_16 : decode cX4_piece 16 = .ok (.invokestatic 71, 3) := by decide +kernel
theorem dX4_piece_19 : decode cX4_piece 19 = .ok (.ifCond .eq 20, 3) := by decide +kernel
theorem dX4_piece_22 : decode cX4_piece 22 = .ok (.iload 4, 2) := by decide +kernel
theorem dX4_piece_24 : decode cX4_piece 24 = .ok (.i2l, 1) := by decide +kernel
theorem dX4_piece_25 : decode cX4_piece 25 = .ok (.lconst 0, 1) := by decide +kernel
theorem dX4_piece_26 : decode cX4_piece 26 = .ok (.ldc2_w 115, 3) := by decide +kernel
theorem dX4_piece_29 : decode cX4_piece 29 = .ok (.invokestatic 71, 3) := by decide +kernel
theorem dX4_piece_32 : decode cX4_piece 32 = .ok (.ifCond .eq 7, 3) := by decide +kernel
theorem dX4_piece_35 : decode cX4_piece 35 = .ok (.iconst 0, 1) := by decide +kernel
theorem dX4_piece_36 : decode cX4_piece 36 = .ok (.goto 4, 3) := by decide +kernel
theorem dX4_piece_39 : decode cX4_piece 39 = .ok (.iconst 1, 1) := by decide +kernel
theorem dX4_piece_40 : decode cX4_piece 40 = .ok (.putfield 65, 3) := by decide +kernel
theorem dX4_piece_43 : decode cX4_piece 43 = .ok (.aload_n 0, 1) := by decide +kernel
theorem dX4_piece_44 : decode cX4_piece 44 = .ok (.getfield 65, 3) := by decide +kernel
theorem dX4_piece_47 : decode cX4_piece 47 = .ok (.ifCond .le 5, 3) := by decide +kernel
theorem dX4_piece_50 : decode cX4_piece 50 = .ok (.iconst 0, 1) := by decide +kernel
theorem dX4_piece_51 : decode cX4_piece 51 = .ok (.ireturn, 1) := by decide +kernel
theorem dX4_piece_52 : decode cX4_piece 52 = .ok (.aload_n 0, 1) := by decide +kernel
theorem dX4_piece_53 : decode cX4_piece 53 = .ok (.iload_n 1, 1) := by decide +kernel
theorem dX4_piece_54 : decode cX4_piece 54 = .ok (.iload_n 2, 1) := by decide +kernel
theorem dX4_piece_55 : decode cX4_piece 55 = .ok (.i2l, 1) := by decide +kernel
theorem dX4_piece_56 : decode cX4_piece 56 = .ok (.invokevirtual 123, 3) := by decide +kernel
theorem dX4_piece_59 : decode cX4_piece 59 = .ok (.ifCond .ne 6, 3) := by decide +kernel
theorem dX4_piece_62 : decode cX4_piece 62 = .ok (.ldc 54, 2) := by decide +kernel
theorem dX4_piece_64 : decode cX4_piece 64 = .ok (.ireturn, 1) := by decide +kernel
theorem dX4_piece_65 : decode cX4_piece 65 = .ok (.iload 4, 2) := by decide +kernel
theorem dX4_piece_67 : decode cX4_piece 67 = .ok (.ifCond .ne 12, 3) := by decide +kernel
theorem dX4_piece_70 : decode cX4_piece 70 = .ok (.aload_n 0, 1) := by decide +kernel
theorem dX4_piece_71 : decode cX4_piece 71 = .ok (.getfield 42, 3) := by decide +kernel
theorem dX4_piece_74 : decode cX4_piece 74 = .ok (.iload_n 3, 1) := by decide +kernel
theorem dX4_piece_75 : decode cX4_piece 75 = .ok (.laload, 1) := by decide +kernel
theorem dX4_piece_76 : decode cX4_piece 76 = .ok (.goto 24, 3) := by decide +kernel
theorem dX4_piece_79 : decode cX4_piece 79 = .ok (.iload 4, 2) := by decide +kernel
theorem dX4_piece_81 : decode cX4_piece 81 = .ok (.iconst 1, 1) := by decide +kernel
theorem dX4_piece_82 : decode cX4_piece 82 = .ok (.if_icmp .ne 12, 3) := by decide +kernel
theorem dX4_piece_85 : decode cX4_piece 85 = .ok (.aload_n 0, 1) := by decide +kernel
theorem dX4_piece_86 : decode cX4_piece 86 = .ok (.getfield 45, 3) := by decide +kernel
theorem dX4_piece_89 : decode cX4_piece 89 = .ok (.iload_n 3, 1) := by decide +kernel
theorem dX4_piece_90 : decode cX4_piece 90 = .ok (.laload, 1) := by decide +kernel
theorem dX4_piece_91 : decode cX4_piece 91 = .ok (.goto 9, 3) := by decide +kernel
theorem dX4_piece_94 : decode cX4_piece 94 = .ok (.aload_n 0, 1) := by decide +kernel
theorem dX4_piece_95 : decode cX4_piece 95 = .ok (.getfield 48, 3) := by decide +kernel
theorem dX4_piece_98 : decode cX4_piece 98 = .ok (.iload_n 3, 1) := by decide +kernel
theorem dX4_piece_99 : decode cX4_piece 99 = .ok (.laload, 1) := by decide +kernel
theorem dX4_piece_100 : decode cX4_piece 100 = .ok (.l2i, 1) := by decide +kernel
theorem dX4_piece_101 : decode cX4_piece 101 = .ok (.ireturn, 1) := by decide +kernel
set_option maxRecDepth 20000 in
theorem ggX4_hasState_X4_greatest : GoodIn wsX4_hasState wsX4_greatest := goodIn_r _ [6, 1, 7, 8, 9, 10, 11, 12, 13, 5, 14, 15, 16, 17, 18, 19, 20, 21, 22, 23, 24, 25, 26, 27, 28, 29, 30, 31, 32, 33, 34, 35, 36, 37, 38, 39, 40, 41, 42, 43, 44, 45, 46, 47, 48, 49, 50, 51, 52, 53] (by decide +kernel) (by decide +kernel)
set_option maxRecDepth 20000 in
theorem gX4_hasState_X4_greatest : GoodIn wsX4_hasState (wsV RX4 117 RX4 yX4_greatest wsX4_greatest) := goodIn_app (goodIn_of _ (by decide +kernel)) ggX4_hasState_X4_greatest
theorem dX4_hasState_0 : decode cX4_hasState 0 = .ok (.aload_n 0, 1) := by decide +kernel
theorem dX4_hasState_1 : decode cX4_hasState 1 = .ok (.iload_n 1, 1) := by decide +kernel
theorem dX4_hasState_2 : decode cX4_hasState 2 = .ok (.lload_n 2, 1) := by decide +kernel
theorem dX4_hasState_3 : decode cX4_hasState 3 = .ok (.iconst 1, 1) := by decide +kernel
theorem dX4_hasState_4 : decode cX4_hasState 4 = .ok (.invokevirtual 117, 3) := by decide +kernel
theorem dX4_hasState_7 : decode cX4_hasState 7 = .ok (.ldc2_w 105, 3) := by decide +kernel
theorem dX4_hasState_10 : decode cX4_hasState 10 = .ok (.lcmp, 1) := by decide +kernel
theorem dX4_hasState_11 : decode cX4_hasState 11 = .ok (.ifCond .lt 7, 3) := by decide +kernel
theorem dX4_hasState_14 : decode cX4_hasState 14 = .ok (.iconst 1, 1) := by decide +kernel
theorem dX4_hasState_15 : decode cX4_hasState 15 = .ok (.goto 4, 3) := by decide +kernel
theorem dX4_hasState_18 : decode cX4_hasState 18 = .ok (.iconst 0, 1) := by decide +kernel
theorem dX4_hasState_19 : decode cX4_hasState 19 = .ok (.ireturn, 1) := by decide +kernel
set_option maxRecDepth 20000 in
theorem ggX4_loadAt_X4_greatest : GoodIn wsX4_loadAt wsX4_greatest := goodIn_r _ [5, 6, 7, 8, 9, 10, 11, 12, 13, 4, 14, 15, 16, 17, 18, 19, 20, 21, 22, 23, 24, 25, 26, 27, 28, 29, 30, 31, 32, 33, 34, 35, 36, 37, 38, 39, 40, 41, 42, 43, 44, 45, 46, 47, 48, 49, 50, 51, 52, 53] (by decide +kernel) (by decide +kernel)
set_option maxRecDepth 20000 in
theorem gX4_loadAt_X4_greatest : GoodIn wsX4_loadAt (wsV RX4 117 RX4 yX4_greatest wsX4_greatest) := goodIn_app (goodIn_of _ (by decide +kernel)) ggX4_loadAt_X4_greatest
set_option maxRecDepth 20000 in
theorem ggX4_loadAt_X4_march : GoodIn wsX4_loadAt wsX4_march := goodIn_r _ [19, 20, 21, 22, 15, 23, 24, 25, 26, 27, 28, 29, 30, 4, 31, 32, 33, 34, 35, 36, 37, 38, 39, 40, 41, 42, 43, 44, 45, 46, 47, 48, 49, 50, 51, 52, 53] (by decide +kernel) (by decide +kernel)
set_option maxRecDepth 20000 in
theorem gX4_loadAt_X4_march : GoodIn wsX4_loadAt (wsV RX4 101 RX4 yX4_march wsX4_march) := goodIn_app (goodIn_of _ (by decide +kernel)) ggX4_loadAt_X4_march
theorem dX4_loadAt_0 : decode cX4_loadAt 0 = .ok (.aload_n 0, 1) := by decide +kernel
theorem dX4_loadAt_1 : decode cX4_loadAt 1 = .ok (.iload_n 1, 1) := by decide +kernel
theorem dX4_loadAt_2 : decode cX4_loadAt 2 = .ok (.aload_n 0, 1) := by decide +kernel
theorem dX4_loadAt_3 : decode cX4_loadAt 3 = .ok (.iload_n 1, 1) := by decide +kernel
theorem dX4_loadAt_4 : decode cX4_loadAt 4 = .ok (.lload_n 2, 1) := by decide +kernel
theorem dX4_loadAt_5 : decode cX4_loadAt 5 = .ok (.iconst 1, 1) := by decide +kernel
theorem dX4_loadAt_6 : decode cX4_loadAt 6 = .ok (.invokevirtual 117, 3) := by decide +kernel
theorem dX4_loadAt_9 : decode cX4_loadAt 9 = .ok (.invokevirtual 101, 3) := by decide +kernel
theorem dX4_loadAt_12 : decode cX4_loadAt 12 = .ok (.lreturn, 1) := by decide +kernel
set_option maxRecDepth 20000 in
theorem ggX4_load_X4_isPile : GoodIn wsX4_load wsX4_isPile := goodIn_r _ [9, 10, 11, 12, 8, 13, 53, 54, 55, 56, 57, 58, 59, 60, 61, 62, 63, 64, 65, 66, 67, 68, 69, 70, 71] (by decide +kernel) (by decide +kernel)
set_option maxRecDepth 20000 in
theorem gX4_load_X4_isPile : GoodIn wsX4_load (wsV RX4 75 RX4 yX4_isPile wsX4_isPile) := goodIn_app (goodIn_of _ (by decide +kernel)) ggX4_load_X4_isPile
set_option maxRecDepth 20000 in
theorem ggX4_load_X4_in : GoodIn wsX4_load wsX4_in := goodIn_r _ [13] (by decide +kernel) (by decide +kernel)
set_option maxRecDepth 20000 in
theorem gX4_load_X4_in : GoodIn wsX4_load (va_wsS RX4 71 yX4_in wsX4_in) := goodIn_app (goodIn_of _ (by decide +kernel)) ggX4_load_X4_in
set_option maxRecDepth 20000 in
theorem ggX4_load_X4_hasState : GoodIn wsX4_load wsX4_hasState := goodIn_r _ [17, 1, 18, 19, 20, 8, 21, 22, 23, 2, 24, 25, 26, 27, 28, 29, 30, 31, 32, 33, 34, 35, 36, 37, 38, 39, 40, 41, 42, 43, 44, 45, 46, 47, 48, 53, 54, 55, 56, 57, 58, 59, 60, 61, 62, 63, 64, 65, 66, 67, 68, 69, 70, 71] (by decide +kernel) (by decide +kernel)
set_option maxRecDepth 20000 in
theorem gX4_load_X4_hasState : GoodIn wsX4_load (wsV RX4 127 RX4 yX4_hasState wsX4_hasState) := goodIn_app (goodIn_of _ (by decide +kernel)) ggX4_load_X4_hasState
set_option maxRecDepth 20000 in
theorem ggX4_load_X4_loadAt : GoodIn wsX4_load wsX4_loadAt := goodIn_r _ [52, 18, 19, 20, 8, 21, 1, 22, 23, 2, 24, 25, 26, 27, 28, 29, 30, 31, 32, 33, 34, 35, 36, 37, 38, 39, 40, 41, 42, 43, 44, 45, 46, 47, 48, 53, 54, 55, 56, 57, 58, 59, 60, 61, 62, 63, 64, 65, 66, 67, 68, 69, 70, 71] (by decide +kernel) (by decide +kernel)
set_option maxRecDepth 20000 in
theorem gX4_load_X4_loadAt : GoodIn wsX4_load (wsV RX4 130 RX4 yX4_loadAt wsX4_loadAt) := goodIn_app (goodIn_of _ (by decide +kernel)) ggX4_load_X4_loadAt
theorem dX4_load_0 : decode cX4_load 0 = .ok (.aload_n 0, 1) := by decide +kernel
theorem dX4_load_1 : decode cX4_load 1 = .ok (.aload_n 0, 1) := by decide +kernel
theorem dX4_load_2 : decode cX4_load 2 = .ok (.iload_n 1, 1) := by decide +kernel
theorem dX4_load_3 : decode cX4_load 3 = .ok (.invokevirtual 75, 3) := by decide +kernel
theorem dX4_load_6 : decode cX4_load 6 = .ok (.ifCond .eq 21, 3) := by decide +kernel
theorem dX4_load_9 : decode cX4_load 9 = .ok (.iload_n 2, 1) := by decide +kernel
theorem dX4_load_10 : decode cX4_load 10 = .ok (.i2l, 1) := by decide +kernel
theorem dX4_load_11 : decode cX4_load 11 = .ok (.ldc2_w 105, 3) := by decide +kernel
theorem dX4_load_14 : decode cX4_load 14 = .ok (.ldc2_w 85, 3) := by decide +kernel
theorem dX4_load_17 : decode cX4_load 17 = .ok (.invokestatic 71, 3) := by decide +kernel
theorem dX4_load_20 : decode cX4_load 20 = .ok (.ifCond .eq 7, 3) := by decide +kernel
theorem dX4_load_23 : decode cX4_load 23 = .ok (.iconst 0, 1) := by decide +kernel
theorem dX4_load_24 : decode cX4_load 24 = .ok (.goto 4, 3) := by decide +kernel
theorem dX4_load_27 : decode cX4_load 27 = .ok (.iconst 1, 1) := by decide +kernel
theorem dX4_load_28 : decode cX4_load 28 = .ok (.putfield 65, 3) := by decide +kernel
theorem dX4_load_31 : decode cX4_load 31 = .ok (.aload_n 0, 1) := by decide +kernel
theorem dX4_load_32 : decode cX4_load 32 = .ok (.getfield 65, 3) := by decide +kernel
theorem dX4_load_35 : decode cX4_load 35 = .ok (.ifCond .le 7, 3) := by decide +kernel
theorem dX4_load_38 : decode cX4_load 38 = .ok (.iconst 0, 1) := by decide +kernel
theorem dX4_load_39 : decode cX4_load 39 = .ok (.goto 26, 3) := by decide +kernel
theorem dX4_load_42 : decode cX4_load 42 = .ok (.aload_n 0, 1) := by decide +kernel
theorem dX4_load_43 : decode cX4_load 43 = .ok (.iload_n 1, 1) := by decide +kernel
theorem dX4_load_44 : decode cX4_load 44 = .ok (.iload_n 2, 1) := by decide +kernel
theorem dX4_load_45 : decode cX4_load 45 = .ok (.i2l, 1) := by decide +kernel
theorem dX4_load_46 : decode cX4_load 46 = .ok (.invokevirtual 127, 3) := by decide +kernel
theorem dX4_load_49 : decode cX4_load 49 = .ok (.ifCond .eq 14, 3) := by decide +kernel
theorem dX4_load_52 : decode cX4_load 52 = .ok (.aload_n 0, 1) := by decide +kernel
theorem dX4_load_53 : decode cX4_load 53 = .ok (.iload_n 1, 1) := by decide +kernel
theorem dX4_load_54 : decode cX4_load 54 = .ok (.iload_n 2, 1) := by decide +kernel
theorem dX4_load_55 : decode cX4_load 55 = .ok (.i2l, 1) := by decide +kernel
theorem dX4_load_56 : decode cX4_load 56 = .ok (.invokevirtual 130, 3) := by decide +kernel
theorem dX4_load_59 : decode cX4_load 59 = .ok (.l2i, 1) := by decide +kernel
theorem dX4_load_60 : decode cX4_load 60 = .ok (.goto 5, 3) := by decide +kernel
theorem dX4_load_63 : decode cX4_load 63 = .ok (.ldc 54, 2) := by decide +kernel
theorem dX4_load_65 : decode cX4_load 65 = .ok (.ireturn, 1) := by decide +kernel
set_option maxRecDepth 20000 in
theorem ggX4_hold_X4_isPile : GoodIn wsX4_hold wsX4_isPile := goodIn_r _ [10, 11, 12, 13, 9, 14, 15, 16, 17, 18, 19, 20, 21, 22, 23, 24, 25, 26, 27, 28, 29, 30, 31, 32, 33] (by decide +kernel) (by decide +kernel)
set_option maxRecDepth 20000 in
theorem gX4_hold_X4_isPile : GoodIn wsX4_hold (wsV RX4 75 RX4 yX4_isPile wsX4_isPile) := goodIn_app (goodIn_of _ (by decide +kernel)) ggX4_hold_X4_isPile
theorem dX4_hold_0 : decode cX4_hold 0 = .ok (.aload_n 0, 1) := by decide +kernel
theorem dX4_hold_1 : decode cX4_hold 1 = .ok (.aload_n 0, 1) := by decide +kernel
theorem dX4_hold_2 : decode cX4_hold 2 = .ok (.iload_n 1, 1) := by decide +kernel
theorem dX4_hold_3 : decode cX4_hold 3 = .ok (.invokevirtual 75, 3) := by decide +kernel
theorem dX4_hold_6 : decode cX4_hold 6 = .ok (.ifCond .eq 7, 3) := by decide +kernel
theorem dX4_hold_9 : decode cX4_hold 9 = .ok (.iconst 0, 1) := by decide +kernel
theorem dX4_hold_10 : decode cX4_hold 10 = .ok (.goto 4, 3) := by decide +kernel
theorem dX4_hold_13 : decode cX4_hold 13 = .ok (.iconst 1, 1) := by decide +kernel
theorem dX4_hold_14 : decode cX4_hold 14 = .ok (.putfield 65, 3) := by decide +kernel
theorem dX4_hold_17 : decode cX4_hold 17 = .ok (.lconst 0, 1) := by decide +kernel
theorem dX4_hold_18 : decode cX4_hold 18 = .ok (.lstore_n 2, 1) := by decide +kernel
theorem dX4_hold_19 : decode cX4_hold 19 = .ok (.iconst 0, 1) := by decide +kernel
theorem dX4_hold_20 : decode cX4_hold 20 = .ok (.istore 4, 2) := by decide +kernel
theorem dX4_hold_22 : decode cX4_hold 22 = .ok (.aload_n 0, 1) := by decide +kernel
theorem dX4_hold_23 : decode cX4_hold 23 = .ok (.getfield 65, 3) := by decide +kernel
theorem dX4_hold_26 : decode cX4_hold 26 = .ok (.ifCond .ne 43, 3) := by decide +kernel
theorem dX4_hold_29 : decode cX4_hold 29 = .ok (.iload 4, 2) := by decide +kernel
theorem dX4_hold_31 : decode cX4_hold 31 = .ok (.aload_n 0, 1) := by decide +kernel
theorem dX4_hold_32 : decode cX4_hold 32 = .ok (.getfield 7, 3) := by decide +kernel
theorem dX4_hold_35 : decode cX4_hold 35 = .ok (.iload_n 1, 1) := by decide +kernel
theorem dX4_hold_36 : decode cX4_hold 36 = .ok (.iaload, 1) := by decide +kernel
theorem dX4_hold_37 : decode cX4_hold 37 = .ok (.if_icmp .ge 32, 3) := by decide +kernel
theorem dX4_hold_40 : decode cX4_hold 40 = .ok (.lload_n 2, 1) := by decide +kernel
theorem dX4_hold_41 : decode cX4_hold 41 = .ok (.aload_n 0, 1) := by decide +kernel
theorem dX4_hold_42 : decode cX4_hold 42 = .ok (.getfield 26, 3) := by decide +kernel
theorem dX4_hold_45 : decode cX4_hold 45 = .ok (.bipush 12, 2) := by decide +kernel
theorem dX4_hold_47 : decode cX4_hold 47 = .ok (.iload_n 1, 1) := by decide +kernel
theorem dX4_hold_48 : decode cX4_hold 48 = .ok (.imul, 1) := by decide +kernel
theorem dX4_hold_49 : decode cX4_hold 49 = .ok (.iload 4, 2) := by decide +kernel
theorem dX4_hold_51 : decode cX4_hold 51 = .ok (.iadd, 1) := by decide +kernel
theorem dX4_hold_52 : decode cX4_hold 52 = .ok (.laload, 1) := by decide +kernel
theorem dX4_hold_53 : decode cX4_hold 53 = .ok (.ldc2_w 133, 3) := by decide +kernel
theorem dX4_hold_56 : decode cX4_hold 56 = .ok (.lmul, 1) := by decide +kernel
theorem dX4_hold_57 : decode cX4_hold 57 = .ok (.ldc2_w 135, 3) := by decide +kernel
theorem dX4_hold_60 : decode cX4_hold 60 = .ok (.ldiv, 1) := by decide +kernel
theorem dX4_hold_61 : decode cX4_hold 61 = .ok (.ladd, 1) := by decide +kernel
theorem dX4_hold_62 : decode cX4_hold 62 = .ok (.lstore_n 2, 1) := by decide +kernel
theorem dX4_hold_63 : decode cX4_hold 63 = .ok (.iinc 4 1, 3) := by decide +kernel
theorem dX4_hold_66 : decode cX4_hold 66 = .ok (.goto (-44), 3) := by decide +kernel
theorem dX4_hold_69 : decode cX4_hold 69 = .ok (.lload_n 2, 1) := by decide +kernel
theorem dX4_hold_70 : decode cX4_hold 70 = .ok (.l2i, 1) := by decide +kernel
theorem dX4_hold_71 : decode cX4_hold 71 = .ok (.ireturn, 1) := by decide +kernel
set_option maxRecDepth 20000 in
theorem ggX4_cheapest_X4_in : GoodIn wsX4_cheapest wsX4_in := goodIn_r _ [11] (by decide +kernel) (by decide +kernel)
set_option maxRecDepth 20000 in
theorem gX4_cheapest_X4_in : GoodIn wsX4_cheapest (va_wsS RX4 71 yX4_in wsX4_in) := goodIn_app (goodIn_of _ (by decide +kernel)) ggX4_cheapest_X4_in
set_option maxRecDepth 20000 in
theorem ggX4_cheapest_X4_stands : GoodIn wsX4_cheapest wsX4_stands := goodIn_r _ [15, 16, 2, 17, 18, 19, 10, 20, 21, 22, 23, 24, 25, 26, 27, 6, 28, 29, 30, 31, 32, 33, 34, 35, 36, 37, 38, 39, 40, 41, 42, 43, 44, 45, 46, 47, 48, 49, 50, 51, 52, 53, 54, 55, 56, 57, 58, 59, 60, 61, 62, 63, 64, 65] (by decide +kernel) (by decide +kernel)
set_option maxRecDepth 20000 in
theorem gX4_cheapest_X4_stands : GoodIn wsX4_cheapest (wsV RX4 123 RX4 yX4_stands wsX4_stands) := goodIn_app (goodIn_of _ (by decide +kernel)) ggX4_cheapest_X4_stands
theorem dX4_cheapest_0 : decode cX4_cheapest 0 = .ok (.aload_n 0, 1) := by decide +kernel
theorem dX4_cheapest_1 : decode cX4_cheapest 1 = .ok (.iload_n 1, 1) := by decide +kernel
theorem dX4_cheapest_2 : decode cX4_cheapest 2 = .ok (.i2l, 1) := by decide +kernel
theorem dX4_cheapest_3 : decode cX4_cheapest 3 = .ok (.lconst 0, 1) := by decide +kernel
theorem dX4_cheapest_4 : decode cX4_cheapest 4 = .ok (.ldc2_w 121, 3) := by decide +kernel
theorem dX4_cheapest_7 : decode cX4_cheapest 7 = .ok (.invokestatic 71, 3) := by decide +kernel
theorem dX4_cheapest_10 : decode cX4_cheapest 10 = .ok (.ifCond .eq 19, 3) := by decide +kernel
theorem dX4_cheapest_13 : decode cX4_cheapest 13 = .ok (.iload_n 2, 1) := by decide +kernel
theorem dX4_cheapest_14 : decode cX4_cheapest 14 = .ok (.i2l, 1) := by decide +kernel
theorem dX4_cheapest_15 : decode cX4_cheapest 15 = .ok (.lconst 0, 1) := by decide +kernel
theorem dX4_cheapest_16 : decode cX4_cheapest 16 = .ok (.ldc2_w 85, 3) := by decide +kernel
theorem dX4_cheapest_19 : decode cX4_cheapest 19 = .ok (.invokestatic 71, 3) := by decide +kernel
theorem dX4_cheapest_22 : decode cX4_cheapest 22 = .ok (.ifCond .eq 7, 3) := by decide +kernel
theorem dX4_cheapest_25 : decode cX4_cheapest 25 = .ok (.iconst 0, 1) := by decide +kernel
theorem dX4_cheapest_26 : decode cX4_cheapest 26 = .ok (.goto 4, 3) := by decide +kernel
theorem dX4_cheapest_29 : decode cX4_cheapest 29 = .ok (.iconst 1, 1) := by decide +kernel
theorem dX4_cheapest_30 : decode cX4_cheapest 30 = .ok (.putfield 65, 3) := by decide +kernel
theorem dX4_cheapest_33 : decode cX4_cheapest 33 = .ok (.ldc 54, 2) := by decide +kernel
theorem dX4_cheapest_35 : decode cX4_cheapest 35 = .ok (.istore_n 3, 1) := by decide +kernel
theorem dX4_cheapest_36 : decode cX4_cheapest 36 = .ok (.iconst 0, 1) := by decide +kernel
theorem dX4_cheapest_37 : decode cX4_cheapest 37 = .ok (.istore 4, 2) := by decide +kernel
theorem dX4_cheapest_39 : decode cX4_cheapest 39 = .ok (.aload_n 0, 1) := by decide +kernel
theorem dX4_cheapest_40 : decode cX4_cheapest 40 = .ok (.getfield 65, 3) := by decide +kernel
theorem dX4_cheapest_43 : decode cX4_cheapest 43 = .ok (.ifCond .ne 82, 3) := by decide +kernel
theorem dX4_cheapest_46 : decode cX4_cheapest 46 = .ok (.iload 4, 2) := by decide +kernel
theorem dX4_cheapest_48 : decode cX4_cheapest 48 = .ok (.aload_n 0, 1) := by decide +kernel
theorem dX4_cheapest_49 : decode cX4_cheapest 49 = .ok (.getfield 68, 3) := by decide +kernel
theorem dX4_cheapest_52 : decode cX4_cheapest 52 = .ok (.if_icmp .ge 73, 3) := by decide +kernel
theorem dX4_cheapest_55 : decode cX4_cheapest 55 = .ok (.aload_n 0, 1) := by decide +kernel
theorem dX4_cheapest_56 : decode cX4_cheapest 56 = .ok (.iload 4, 2) := by decide +kernel
theorem dX4_cheapest_58 : decode cX4_cheapest 58 = .ok (.iload_n 1, 1) := by decide +kernel
theorem dX4_cheapest_59 : decode cX4_cheapest 59 = .ok (.i2l, 1) := by decide +kernel
theorem dX4_cheapest_60 : decode cX4_cheapest 60 = .ok (.invokevirtual 123, 3) := by decide +kernel
theorem dX4_cheapest_63 : decode cX4_cheapest 63 = .ok (.ifCond .eq 19, 3) := by decide +kernel
theorem dX4_cheapest_66 : decode cX4_cheapest 66 = .ok (.aload_n 0, 1) := by decide +kernel
theorem dX4_cheapest_67 : decode cX4_cheapest 67 = .ok (.getfield 42, 3) := by decide +kernel
theorem dX4_cheapest_70 : decode cX4_cheapest 70 = .ok (.iconst 0, 1) := by decide +kernel
theorem dX4_cheapest_71 : decode cX4_cheapest 71 = .ok (.laload, 1) := by decide +kernel
theorem dX4_cheapest_72 : decode cX4_cheapest 72 = .ok (.iload_n 2, 1) := by decide +kernel
theorem dX4_cheapest_73 : decode cX4_cheapest 73 = .ok (.i2l, 1) := by decide +kernel
theorem dX4_cheapest_74 : decode cX4_cheapest 74 = .ok (.lcmp, 1) := by decide +kernel
theorem dX4_cheapest_75 : decode cX4_cheapest 75 = .ok (.ifCond .gt 7, 3) := by decide +kernel
theorem dX4_cheapest_78 : decode cX4_cheapest 78 = .ok (.iconst 1, 1) := by decide +kernel
theorem dX4_cheapest_79 : decode cX4_cheapest 79 = .ok (.goto 4, 3) := by decide +kernel
theorem dX4_cheapest_82 : decode cX4_cheapest 82 = .ok (.iconst 0, 1) := by decide +kernel
theorem dX4_cheapest_83 : decode cX4_cheapest 83 = .ok (.istore 5, 2) := by decide +kernel
theorem dX4_cheapest_85 : decode cX4_cheapest 85 = .ok (.iload 5, 2) := by decide +kernel
theorem dX4_cheapest_87 : decode cX4_cheapest 87 = .ok (.ifCond .eq 30, 3) := by decide +kernel
theorem dX4_cheapest_90 : decode cX4_cheapest 90 = .ok (.iload_n 3, 1) := by decide +kernel
theorem dX4_cheapest_91 : decode cX4_cheapest 91 = .ok (.ldc 54, 2) := by decide +kernel
theorem dX4_cheapest_93 : decode cX4_cheapest 93 = .ok (.if_icmp .eq 19, 3) := by decide +kernel
theorem dX4_cheapest_96 : decode cX4_cheapest 96 = .ok (.aload_n 0, 1) := by decide +kernel
theorem dX4_cheapest_97 : decode cX4_cheapest 97 = .ok (.getfield 20, 3) := by decide +kernel
theorem dX4_cheapest_100 : decode cX4_cheapest 100 = .ok (.iload 4, 2) := by decide +kernel
theorem dX4_cheapest_102 : decode cX4_cheapest 102 = .ok (.iaload, 1) := by decide +kernel
theorem dX4_cheapest_103 : decode cX4_cheapest 103 = .ok (.aload_n 0, 1) := by decide +kernel
theorem dX4_cheapest_104 : decode cX4_cheapest 104 = .ok (.getfield 20, 3) := by decide +kernel
theorem dX4_cheapest_107 : decode cX4_cheapest 107 = .ok (.iload_n 3, 1) := by decide +kernel
theorem dX4_cheapest_108 : decode cX4_cheapest 108 = .ok (.iaload, 1) := by decide +kernel
theorem dX4_cheapest_109 : decode cX4_cheapest 109 = .ok (.if_icmp .ge 8, 3) := by decide +kernel
theorem dX4_cheapest_112 : decode cX4_cheapest 112 = .ok (.iload 4, 2) := by decide +kernel
theorem dX4_cheapest_114 : decode cX4_cheapest 114 = .ok (.goto 4, 3) := by decide +kernel
theorem dX4_cheapest_117 : decode cX4_cheapest 117 = .ok (.iload_n 3, 1) := by decide +kernel
theorem dX4_cheapest_118 : decode cX4_cheapest 118 = .ok (.istore_n 3, 1) := by decide +kernel
theorem dX4_cheapest_119 : decode cX4_cheapest 119 = .ok (.iinc 4 1, 3) := by decide +kernel
theorem dX4_cheapest_122 : decode cX4_cheapest 122 = .ok (.goto (-83), 3) := by decide +kernel
theorem dX4_cheapest_125 : decode cX4_cheapest 125 = .ok (.aload_n 0, 1) := by decide +kernel
theorem dX4_cheapest_126 : decode cX4_cheapest 126 = .ok (.getfield 65, 3) := by decide +kernel
theorem dX4_cheapest_129 : decode cX4_cheapest 129 = .ok (.ifCond .le 7, 3) := by decide +kernel
theorem dX4_cheapest_132 : decode cX4_cheapest 132 = .ok (.iconst 0, 1) := by decide +kernel
theorem dX4_cheapest_133 : decode cX4_cheapest 133 = .ok (.goto 4, 3) := by decide +kernel
theorem dX4_cheapest_136 : decode cX4_cheapest 136 = .ok (.iload_n 3, 1) := by decide +kernel
theorem dX4_cheapest_137 : decode cX4_cheapest 137 = .ok (.ireturn, 1) := by decide +kernel
set_option maxRecDepth 20000 in
theorem ggX4_join_X4_isPile : GoodIn wsX4_join wsX4_isPile := goodIn_r _ [7, 8, 9, 10, 6, 11, 12, 13, 14, 15, 16, 17, 18, 19, 20, 21, 22, 23, 24, 25, 26, 27, 28, 29, 30] (by decide +kernel) (by decide +kernel)
set_option maxRecDepth 20000 in
theorem gX4_join_X4_isPile : GoodIn wsX4_join (wsV RX4 75 RX4 yX4_isPile wsX4_isPile) := goodIn_app (goodIn_of _ (by decide +kernel)) ggX4_join_X4_isPile
theorem dX4_join_0 : decode cX4_join 0 = .ok (.aload_n 0, 1) := by decide +kernel
theorem dX4_join_1 : decode cX4_join 1 = .ok (.aload_n 0, 1) := by decide +kernel
theorem dX4_join_2 : decode cX4_join 2 = .ok (.iload_n 1, 1) := by decide +kernel
theorem dX4_join_3 : decode cX4_join 3 = .ok (.invokevirtual 75, 3) := by decide +kernel
theorem dX4_join_6 : decode cX4_join 6 = .ok (.ifCond .eq 7, 3) := by decide +kernel
theorem dX4_join_9 : decode cX4_join 9 = .ok (.iconst 0, 1) := by decide +kernel
theorem dX4_join_10 : decode cX4_join 10 = .ok (.goto 4, 3) := by decide +kernel
theorem dX4_join_13 : decode cX4_join 13 = .ok (.iconst 1, 1) := by decide +kernel
theorem dX4_join_14 : decode cX4_join 14 = .ok (.putfield 65, 3) := by decide +kernel
theorem dX4_join_17 : decode cX4_join 17 = .ok (.aload_n 0, 1) := by decide +kernel
theorem dX4_join_18 : decode cX4_join 18 = .ok (.getfield 65, 3) := by decide +kernel
theorem dX4_join_21 : decode cX4_join 21 = .ok (.ifCond .le 5, 3) := by decide +kernel
theorem dX4_join_24 : decode cX4_join 24 = .ok (.iconst 0, 1) := by decide +kernel
theorem dX4_join_25 : decode cX4_join 25 = .ok (.ireturn, 1) := by decide +kernel
theorem dX4_join_26 : decode cX4_join 26 = .ok (.aload_n 0, 1) := by decide +kernel
theorem dX4_join_27 : decode cX4_join 27 = .ok (.getfield 38, 3) := by decide +kernel
theorem dX4_join_30 : decode cX4_join 30 = .ok (.iload_n 1, 1) := by decide +kernel
theorem dX4_join_31 : decode cX4_join 31 = .ok (.baload, 1) := by decide +kernel
theorem dX4_join_32 : decode cX4_join 32 = .ok (.istore_n 3, 1) := by decide +kernel
theorem dX4_join_33 : decode cX4_join 33 = .ok (.aload_n 0, 1) := by decide +kernel
theorem dX4_join_34 : decode cX4_join 34 = .ok (.getfield 38, 3) := by decide +kernel
theorem dX4_join_37 : decode cX4_join 37 = .ok (.iload_n 1, 1) := by decide +kernel
theorem dX4_join_38 : decode cX4_join 38 = .ok (.iload_n 2, 1) := by decide +kernel
theorem dX4_join_39 : decode cX4_join 39 = .ok (.bastore, 1) := by decide +kernel
theorem dX4_join_40 : decode cX4_join 40 = .ok (.iload_n 3, 1) := by decide +kernel
theorem dX4_join_41 : decode cX4_join 41 = .ok (.ireturn, 1) := by decide +kernel
theorem dX4_isEmpty_0 : decode cX4_isEmpty 0 = .ok (.iconst 1, 1) := by decide +kernel
theorem dX4_isEmpty_1 : decode cX4_isEmpty 1 = .ok (.istore_n 1, 1) := by decide +kernel
theorem dX4_isEmpty_2 : decode cX4_isEmpty 2 = .ok (.iconst 0, 1) := by decide +kernel
theorem dX4_isEmpty_3 : decode cX4_isEmpty 3 = .ok (.istore_n 2, 1) := by decide +kernel
theorem dX4_isEmpty_4 : decode cX4_isEmpty 4 = .ok (.iload_n 2, 1) := by decide +kernel
theorem dX4_isEmpty_5 : decode cX4_isEmpty 5 = .ok (.aload_n 0, 1) := by decide +kernel
theorem dX4_isEmpty_6 : decode cX4_isEmpty 6 = .ok (.getfield 68, 3) := by decide +kernel
theorem dX4_isEmpty_9 : decode cX4_isEmpty 9 = .ok (.if_icmp .ge 28, 3) := by decide +kernel
theorem dX4_isEmpty_12 : decode cX4_isEmpty 12 = .ok (.iload_n 1, 1) := by decide +kernel
theorem dX4_isEmpty_13 : decode cX4_isEmpty 13 = .ok (.ifCond .eq 16, 3) := by decide +kernel
theorem dX4_isEmpty_16 : decode cX4_isEmpty 16 = .ok (.aload_n 0, 1) := by decide +kernel
theorem dX4_isEmpty_17 : decode cX4_isEmpty 17 = .ok (.getfield 38, 3) := by decide +kernel
theorem dX4_isEmpty_20 : decode cX4_isEmpty 20 = .ok (.iload_n 2, 1) := by decide +kernel
theorem dX4_isEmpty_21 : decode cX4_isEmpty 21 = .ok (.baload, 1) := by decide +kernel
theorem dX4_isEmpty_22 : decode cX4_isEmpty 22 = .ok (.ifCond .ne 7, 3) := by decide +kernel
theorem dX4_isEmpty_25 : decode cX4_isEmpty 25 = .ok (.iconst 1, 1) := by decide +kernel
theorem dX4_isEmpty_26 : decode cX4_isEmpty 26 = .ok (.goto 4, 3) := by decide +kernel
theorem dX4_isEmpty_29 : decode cX4_isEmpty 29 = .ok (.iconst 0, 1) := by decide +kernel
theorem dX4_isEmpty_30 : decode cX4_isEmpty 30 = .ok (.istore_n 1, 1) := by decide +kernel
theorem dX4_isEmpty_31 : decode cX4_isEmpty 31 = .ok (.iinc 2 1, 3) := by decide +kernel
theorem dX4_isEmpty_34 : decode cX4_isEmpty 34 = .ok (.goto (-30), 3) := by decide +kernel
theorem dX4_isEmpty_37 : decode cX4_isEmpty 37 = .ok (.iload_n 1, 1) := by decide +kernel
theorem dX4_isEmpty_38 : decode cX4_isEmpty 38 = .ok (.ireturn, 1) := by decide +kernel
set_option maxRecDepth 20000 in
theorem ggX4_loads_X4_loadAt : GoodIn wsX4_loads wsX4_loadAt := goodIn_r _ [7, 8, 9, 10, 6, 11, 12, 13, 14, 15, 16, 17, 18, 19, 20, 21, 22, 23, 24, 25, 26, 27, 28, 29, 30, 31, 32, 33, 34, 35, 36, 37, 38, 39, 40, 41, 42, 43, 44, 45, 46, 47, 48, 49, 50, 51, 52, 53, 54, 55, 56, 57, 58, 59] (by decide +kernel) (by decide +kernel)
set_option maxRecDepth 20000 in
theorem gX4_loads_X4_loadAt : GoodIn wsX4_loads (wsV RX4 130 RX4 yX4_loadAt wsX4_loadAt) := goodIn_app (goodIn_of _ (by decide +kernel)) ggX4_loads_X4_loadAt
theorem dX4_loads_0 : decode cX4_loads 0 = .ok (.lconst 0, 1) := by decide +kernel
theorem dX4_loads_1 : decode cX4_loads 1 = .ok (.lstore_n 3, 1) := by decide +kernel
theorem dX4_loads_2 : decode cX4_loads 2 = .ok (.iconst 0, 1) := by decide +kernel
theorem dX4_loads_3 : decode cX4_loads 3 = .ok (.istore 5, 2) := by decide +kernel
theorem dX4_loads_5 : decode cX4_loads 5 = .ok (.iload 5, 2) := by decide +kernel
theorem dX4_loads_7 : decode cX4_loads 7 = .ok (.aload_n 0, 1) := by decide +kernel
theorem dX4_loads_8 : decode cX4_loads 8 = .ok (.getfield 68, 3) := by decide +kernel
theorem dX4_loads_11 : decode cX4_loads 11 = .ok (.if_icmp .ge 33, 3) := by decide +kernel
theorem dX4_loads_14 : decode cX4_loads 14 = .ok (.lload_n 3, 1) := by decide +kernel
theorem dX4_loads_15 : decode cX4_loads 15 = .ok (.aload_n 0, 1) := by decide +kernel
theorem dX4_loads_16 : decode cX4_loads 16 = .ok (.getfield 38, 3) := by decide +kernel
theorem dX4_loads_19 : decode cX4_loads 19 = .ok (.iload 5, 2) := by decide +kernel
theorem dX4_loads_21 : decode cX4_loads 21 = .ok (.baload, 1) := by decide +kernel
theorem dX4_loads_22 : decode cX4_loads 22 = .ok (.ifCond .eq 13, 3) := by decide +kernel
theorem dX4_loads_25 : decode cX4_loads 25 = .ok (.aload_n 0, 1) := by decide +kernel
theorem dX4_loads_26 : decode cX4_loads 26 = .ok (.iload 5, 2) := by decide +kernel
theorem dX4_loads_28 : decode cX4_loads 28 = .ok (.lload_n 1, 1) := by decide +kernel
theorem dX4_loads_29 : decode cX4_loads 29 = .ok (.invokevirtual 130, 3) := by decide +kernel
theorem dX4_loads_32 : decode cX4_loads 32 = .ok (.goto 4, 3) := by decide +kernel
theorem dX4_loads_35 : decode cX4_loads 35 = .ok (.lconst 0, 1) := by decide +kernel
theorem dX4_loads_36 : decode cX4_loads 36 = .ok (.ladd, 1) := by decide +kernel
theorem dX4_loads_37 : decode cX4_loads 37 = .ok (.lstore_n 3, 1) := by decide +kernel
theorem dX4_loads_38 : decode cX4_loads 38 = .ok (.iinc 5 1, 3) := by decide +kernel
theorem dX4_loads_41 : decode cX4_loads 41 = .ok (.goto (-36), 3) := by decide +kernel
theorem dX4_loads_44 : decode cX4_loads 44 = .ok (.lload_n 3, 1) := by decide +kernel
theorem dX4_loads_45 : decode cX4_loads 45 = .ok (.lreturn, 1) := by decide +kernel
set_option maxRecDepth 20000 in
theorem ggX4_settles_X4_hasState : GoodIn wsX4_settles wsX4_hasState := goodIn_r _ [9, 10, 11, 12, 13, 8, 14, 15, 16, 17, 18, 19, 20, 21, 22, 23, 24, 25, 26, 27, 28, 29, 30, 31, 32, 33, 34, 35, 36, 37, 38, 39, 40, 41, 42, 51, 52, 53, 54, 55, 56, 57, 58, 59, 60, 61, 62, 63, 64, 65, 66, 67, 68, 69] (by decide +kernel) (by decide +kernel)
set_option maxRecDepth 20000 in
theorem gX4_settles_X4_hasState : GoodIn wsX4_settles (wsV RX4 127 RX4 yX4_hasState wsX4_hasState) := goodIn_app (goodIn_of _ (by decide +kernel)) ggX4_settles_X4_hasState
set_option maxRecDepth 20000 in
theorem ggX4_settles_X4_loads : GoodIn wsX4_settles wsX4_loads := goodIn_r _ [46, 1, 2, 47, 48, 49, 8, 50, 11, 12, 13, 14, 10, 15, 16, 17, 18, 19, 20, 21, 22, 23, 24, 25, 26, 27, 28, 29, 30, 31, 32, 33, 34, 35, 36, 37, 38, 39, 40, 41, 42, 51, 52, 53, 54, 55, 56, 57, 58, 59, 60, 61, 62, 63, 64, 65, 66, 67, 68, 69] (by decide +kernel) (by decide +kernel)
set_option maxRecDepth 20000 in
theorem gX4_settles_X4_loads : GoodIn wsX4_settles (wsV RX4 137 RX4 yX4_loads wsX4_loads) := goodIn_app (goodIn_of _ (by decide +kernel)) ggX4_settles_X4_loads
theorem dX4_settles_0 : decode cX4_settles 0 = .ok (.iconst 0, 1) := by decide +kernel
theorem dX4_settles_1 : decode cX4_settles 1 = .ok (.istore_n 3, 1) := by decide +kernel
theorem dX4_settles_2 : decode cX4_settles 2 = .ok (.iload_n 3, 1) := by decide +kernel
theorem dX4_settles_3 : decode cX4_settles 3 = .ok (.aload_n 0, 1) := by decide +kernel
theorem dX4_settles_4 : decode cX4_settles 4 = .ok (.getfield 68, 3) := by decide +kernel
theorem dX4_settles_7 : decode cX4_settles 7 = .ok (.if_icmp .ge 30, 3) := by decide +kernel
theorem dX4_settles_10 : decode cX4_settles 10 = .ok (.aload_n 0, 1) := by decide +kernel
theorem dX4_settles_11 : decode cX4_settles 11 = .ok (.getfield 38, 3) := by decide +kernel
theorem dX4_settles_14 : decode cX4_settles 14 = .ok (.iload_n 3, 1) := by decide +kernel
theorem dX4_settles_15 : decode cX4_settles 15 = .ok (.baload, 1) := by decide +kernel
theorem dX4_settles_16 : decode cX4_settles 16 = .ok (.ifCond .eq 15, 3) := by decide +kernel
theorem dX4_settles_19 : decode cX4_settles 19 = .ok (.aload_n 0, 1) := by decide +kernel
theorem dX4_settles_20 : decode cX4_settles 20 = .ok (.iload_n 3, 1) := by decide +kernel
theorem dX4_settles_21 : decode cX4_settles 21 = .ok (.lconst 0, 1) := by decide +kernel
theorem dX4_settles_22 : decode cX4_settles 22 = .ok (.invokevirtual 127, 3) := by decide +kernel
theorem dX4_settles_25 : decode cX4_settles 25 = .ok (.ifCond .ne 6, 3) := by decide +kernel
theorem dX4_settles_28 : decode cX4_settles 28 = .ok (.ldc 54, 2) := by decide +kernel
theorem dX4_settles_30 : decode cX4_settles 30 = .ok (.ireturn, 1) := by decide +kernel
theorem dX4_settles_31 : decode cX4_settles 31 = .ok (.iinc 3 1, 3) := by decide +kernel
theorem dX4_settles_34 : decode cX4_settles 34 = .ok (.goto (-32), 3) := by decide +kernel
theorem dX4_settles_37 : decode cX4_settles 37 = .ok (.aload_n 0, 1) := by decide +kernel
theorem dX4_settles_38 : decode cX4_settles 38 = .ok (.lconst 0, 1) := by decide +kernel
theorem dX4_settles_39 : decode cX4_settles 39 = .ok (.invokevirtual 137, 3) := by decide +kernel
theorem dX4_settles_42 : decode cX4_settles 42 = .ok (.lload_n 1, 1) := by decide +kernel
theorem dX4_settles_43 : decode cX4_settles 43 = .ok (.lcmp, 1) := by decide +kernel
theorem dX4_settles_44 : decode cX4_settles 44 = .ok (.ifCond .gt 15, 3) := by decide +kernel
theorem dX4_settles_47 : decode cX4_settles 47 = .ok (.aload_n 0, 1) := by decide +kernel
theorem dX4_settles_48 : decode cX4_settles 48 = .ok (.ldc2_w 81, 3) := by decide +kernel
theorem dX4_settles_51 : decode cX4_settles 51 = .ok (.invokevirtual 137, 3) := by decide +kernel
theorem dX4_settles_54 : decode cX4_settles 54 = .ok (.lload_n 1, 1) := by decide +kernel
theorem dX4_settles_55 : decode cX4_settles 55 = .ok (.lcmp, 1) := by decide +kernel
theorem dX4_settles_56 : decode cX4_settles 56 = .ok (.ifCond .gt 6, 3) := by decide +kernel
theorem dX4_settles_59 : decode cX4_settles 59 = .ok (.ldc 54, 2) := by decide +kernel
theorem dX4_settles_61 : decode cX4_settles 61 = .ok (.ireturn, 1) := by decide +kernel
theorem dX4_settles_62 : decode cX4_settles 62 = .ok (.iconst 0, 1) := by decide +kernel
theorem dX4_settles_63 : decode cX4_settles 63 = .ok (.istore_n 3, 1) := by decide +kernel
theorem dX4_settles_64 : decode cX4_settles 64 = .ok (.sipush 8192, 3) := by decide +kernel
theorem dX4_settles_67 : decode cX4_settles 67 = .ok (.istore 4, 2) := by decide +kernel
theorem dX4_settles_69 : decode cX4_settles 69 = .ok (.iload 4, 2) := by decide +kernel
theorem dX4_settles_71 : decode cX4_settles 71 = .ok (.ifCond .le 57, 3) := by decide +kernel
theorem dX4_settles_74 : decode cX4_settles 74 = .ok (.iload_n 3, 1) := by decide +kernel
theorem dX4_settles_75 : decode cX4_settles 75 = .ok (.iload 4, 2) := by decide +kernel
theorem dX4_settles_77 : decode cX4_settles 77 = .ok (.iadd, 1) := by decide +kernel
theorem dX4_settles_78 : decode cX4_settles 78 = .ok (.sipush 10000, 3) := by decide +kernel
theorem dX4_settles_81 : decode cX4_settles 81 = .ok (.if_icmp .gt 21, 3) := by decide +kernel
theorem dX4_settles_84 : decode cX4_settles 84 = .ok (.aload_n 0, 1) := by decide +kernel
theorem dX4_settles_85 : decode cX4_settles 85 = .ok (.iload_n 3, 1) := by decide +kernel
theorem dX4_settles_86 : decode cX4_settles 86 = .ok (.iload 4, 2) := by decide +kernel
theorem dX4_settles_88 : decode cX4_settles 88 = .ok (.iadd, 1) := by decide +kernel
theorem dX4_settles_89 : decode cX4_settles 89 = .ok (.i2l, 1) := by decide +kernel
theorem dX4_settles_90 : decode cX4_settles 90 = .ok (.invokevirtual 137, 3) := by decide +kernel
theorem dX4_settles_93 : decode cX4_settles 93 = .ok (.lload_n 1, 1) := by decide +kernel
theorem dX4_settles_94 : decode cX4_settles 94 = .ok (.lcmp, 1) := by decide +kernel
theorem dX4_settles_95 : decode cX4_settles 95 = .ok (.ifCond .gt 7, 3) := by decide +kernel
theorem dX4_settles_98 : decode cX4_settles 98 = .ok (.iconst 1, 1) := by decide +kernel
theorem dX4_settles_99 : decode cX4_settles 99 = .ok (.goto 4, 3) := by decide +kernel
theorem dX4_settles_102 : decode cX4_settles 102 = .ok (.iconst 0, 1) := by decide +kernel
theorem dX4_settles_103 : decode cX4_settles 103 = .ok (.istore 5, 2) := by decide +kernel
theorem dX4_settles_105 : decode cX4_settles 105 = .ok (.iload_n 3, 1) := by decide +kernel
theorem dX4_settles_106 : decode cX4_settles 106 = .ok (.iload 5, 2) := by decide +kernel
theorem dX4_settles_108 : decode cX4_settles 108 = .ok (.ifCond .eq 8, 3) := by decide +kernel
theorem dX4_settles_111 : decode cX4_settles 111 = .ok (.iload 4, 2) := by decide +kernel
theorem dX4_settles_113 : decode cX4_settles 113 = .ok (.goto 4, 3) := by decide +kernel
theorem dX4_settles_116 : decode cX4_settles 116 = .ok (.iconst 0, 1) := by decide +kernel
theorem dX4_settles_117 : decode cX4_settles 117 = .ok (.iadd, 1) := by decide +kernel
theorem dX4_settles_118 : decode cX4_settles 118 = .ok (.istore_n 3, 1) := by decide +kernel
theorem dX4_settles_119 : decode cX4_settles 119 = .ok (.iload 4, 2) := by decide +kernel
theorem dX4_settles_121 : decode cX4_settles 121 = .ok (.iconst 2, 1) := by decide +kernel
theorem dX4_settles_122 : decode cX4_settles 122 = .ok (.idiv, 1) := by decide +kernel
theorem dX4_settles_123 : decode cX4_settles 123 = .ok (.istore 4, 2) := by decide +kernel
theorem dX4_settles_125 : decode cX4_settles 125 = .ok (.goto (-56), 3) := by decide +kernel
theorem dX4_settles_128 : decode cX4_settles 128 = .ok (.iload_n 3, 1) := by decide +kernel
theorem dX4_settles_129 : decode cX4_settles 129 = .ok (.ireturn, 1) := by decide +kernel
set_option maxRecDepth 20000 in
theorem ggX4_group_X4_in : GoodIn wsX4_group wsX4_in := goodIn_r _ [6] (by decide +kernel) (by decide +kernel)
set_option maxRecDepth 20000 in
theorem gX4_group_X4_in : GoodIn wsX4_group (va_wsS RX4 71 yX4_in wsX4_in) := goodIn_app (goodIn_of _ (by decide +kernel)) ggX4_group_X4_in
set_option maxRecDepth 20000 in
theorem ggX4_group_X4_isEmpty : GoodIn wsX4_group wsX4_isEmpty := goodIn_r _ [10, 11, 12, 64, 65, 66, 67, 68, 69, 70, 71, 72, 73, 74, 75, 76, 77, 78, 79, 80, 81, 82] (by decide +kernel) (by decide +kernel)
set_option maxRecDepth 20000 in
theorem gX4_group_X4_isEmpty : GoodIn wsX4_group (wsV RX4 141 RX4 yX4_isEmpty wsX4_isEmpty) := goodIn_app (goodIn_of _ (by decide +kernel)) ggX4_group_X4_isEmpty
set_option maxRecDepth 20000 in
theorem ggX4_group_X4_settles : GoodIn wsX4_group wsX4_settles := goodIn_r _ [16, 11, 12, 17, 18, 19, 20, 21, 5, 22, 23, 24, 25, 26, 27, 28, 29, 30, 31, 32, 33, 34, 35, 36, 37, 38, 39, 40, 41, 42, 43, 44, 45, 46, 47, 48, 49, 50, 51, 52, 53, 54, 55, 56, 57, 58, 59, 60, 61, 62, 63, 64, 65, 66, 67, 68, 69, 70, 71, 72, 73, 74, 75, 76, 77, 78, 79, 80, 81, 82] (by decide +kernel) (by decide +kernel)
set_option maxRecDepth 20000 in
theorem gX4_group_X4_settles : GoodIn wsX4_group (wsV RX4 145 RX4 yX4_settles wsX4_settles) := goodIn_app (goodIn_of _ (by decide +kernel)) ggX4_group_X4_settles
theorem dX4_group_0 : decode cX4_group 0 = .ok (.aload_n 0, 1) := by decide +kernel
theorem dX4_group_1 : decode cX4_group 1 = .ok (.iload_n 1, 1) := by decide +kernel
theorem dX4_group_2 : decode cX4_group 2 = .ok (.i2l, 1) := by decide +kernel
theorem dX4_group_3 : decode cX4_group 3 = .ok (.lconst 0, 1) := by decide +kernel
theorem dX4_group_4 : decode cX4_group 4 = .ok (.ldc2_w 121, 3) := by decide +kernel
theorem dX4_group_7 : decode cX4_group 7 = .ok (.invokestatic 71, 3) := by decide +kernel
theorem dX4_group_10 : decode cX4_group 10 = .ok (.ifCond .ne 7, 3) := by decide +kernel
theorem dX4_group_13 : decode cX4_group 13 = .ok (.iconst 1, 1) := by decide +kernel
theorem dX4_group_14 : decode cX4_group 14 = .ok (.goto 15, 3) := by decide +kernel
theorem dX4_group_17 : decode cX4_group 17 = .ok (.aload_n 0, 1) := by decide +kernel
theorem dX4_group_18 : decode cX4_group 18 = .ok (.invokevirtual 141, 3) := by decide +kernel
theorem dX4_group_21 : decode cX4_group 21 = .ok (.ifCond .eq 7, 3) := by decide +kernel
theorem dX4_group_24 : decode cX4_group 24 = .ok (.iconst 2, 1) := by decide +kernel
theorem dX4_group_25 : decode cX4_group 25 = .ok (.goto 4, 3) := by decide +kernel
theorem dX4_group_28 : decode cX4_group 28 = .ok (.iconst 0, 1) := by decide +kernel
theorem dX4_group_29 : decode cX4_group 29 = .ok (.putfield 65, 3) := by decide +kernel
theorem dX4_group_32 : decode cX4_group 32 = .ok (.aload_n 0, 1) := by decide +kernel
theorem dX4_group_33 : decode cX4_group 33 = .ok (.getfield 65, 3) := by decide +kernel
theorem dX4_group_36 : decode cX4_group 36 = .ok (.ifCond .le 7, 3) := by decide +kernel
theorem dX4_group_39 : decode cX4_group 39 = .ok (.iconst 0, 1) := by decide +kernel
theorem dX4_group_40 : decode cX4_group 40 = .ok (.goto 9, 3) := by decide +kernel
theorem dX4_group_43 : decode cX4_group 43 = .ok (.aload_n 0, 1) := by decide +kernel
theorem dX4_group_44 : decode cX4_group 44 = .ok (.iload_n 1, 1) := by decide +kernel
theorem dX4_group_45 : decode cX4_group 45 = .ok (.i2l, 1) := by decide +kernel
theorem dX4_group_46 : decode cX4_group 46 = .ok (.invokevirtual 145, 3) := by decide +kernel
theorem dX4_group_49 : decode cX4_group 49 = .ok (.ireturn, 1) := by decide +kernel
set_option maxRecDepth 20000 in
theorem ggX4_share_X4_in : GoodIn wsX4_share wsX4_in := goodIn_r _ [8] (by decide +kernel) (by decide +kernel)
set_option maxRecDepth 20000 in
theorem gX4_share_X4_in : GoodIn wsX4_share (va_wsS RX4 71 yX4_in wsX4_in) := goodIn_app (goodIn_of _ (by decide +kernel)) ggX4_share_X4_in
set_option maxRecDepth 20000 in
theorem ggX4_share_X4_isPile : GoodIn wsX4_share wsX4_isPile := goodIn_r _ [12, 13, 5, 6, 7, 8, 68, 69, 70, 71, 72, 73, 74, 75, 76, 77, 78, 79, 80, 81, 82, 83, 84, 85, 86] (by decide +kernel) (by decide +kernel)
set_option maxRecDepth 20000 in
theorem gX4_share_X4_isPile : GoodIn wsX4_share (wsV RX4 75 RX4 yX4_isPile wsX4_isPile) := goodIn_app (goodIn_of _ (by decide +kernel)) ggX4_share_X4_isPile
set_option maxRecDepth 20000 in
theorem ggX4_share_X4_isEmpty : GoodIn wsX4_share wsX4_isEmpty := goodIn_r _ [17, 13, 2, 68, 69, 70, 71, 72, 73, 74, 75, 76, 77, 78, 79, 80, 81, 82, 83, 84, 85, 86] (by decide +kernel) (by decide +kernel)
set_option maxRecDepth 20000 in
theorem gX4_share_X4_isEmpty : GoodIn wsX4_share (wsV RX4 141 RX4 yX4_isEmpty wsX4_isEmpty) := goodIn_app (goodIn_of _ (by decide +kernel)) ggX4_share_X4_isEmpty
set_option maxRecDepth 20000 in
theorem ggX4_share_X4_settles : GoodIn wsX4_share wsX4_settles := goodIn_r _ [21, 13, 2, 4, 22, 23, 24, 25, 7, 26, 27, 28, 29, 30, 31, 32, 33, 34, 35, 36, 37, 38, 39, 40, 41, 42, 43, 44, 45, 46, 47, 48, 49, 50, 51, 52, 53, 54, 55, 56, 57, 58, 59, 60, 61, 62, 63, 64, 65, 66, 67, 68, 69, 70, 71, 72, 73, 74, 75, 76, 77, 78, 79, 80, 81, 82, 83, 84, 85, 86] (by decide +kernel) (by decide +kernel)
set_option maxRecDepth 20000 in
theorem gX4_share_X4_settles : GoodIn wsX4_share (wsV RX4 145 RX4 yX4_settles wsX4_settles) := goodIn_app (goodIn_of _ (by decide +kernel)) ggX4_share_X4_settles
set_option maxRecDepth 20000 in
theorem ggX4_share_X4_loadAt : GoodIn wsX4_share wsX4_loadAt := goodIn_r _ [67, 28, 29, 30, 7, 31, 27, 32, 33, 34, 35, 36, 37, 38, 39, 40, 41, 42, 43, 44, 45, 46, 47, 48, 49, 50, 51, 52, 53, 54, 55, 56, 57, 58, 59, 68, 69, 70, 71, 72, 73, 74, 75, 76, 77, 78, 79, 80, 81, 82, 83, 84, 85, 86] (by decide +kernel) (by decide +kernel)
set_option maxRecDepth 20000 in
theorem gX4_share_X4_loadAt : GoodIn wsX4_share (wsV RX4 130 RX4 yX4_loadAt wsX4_loadAt) := goodIn_app (goodIn_of _ (by decide +kernel)) ggX4_share_X4_loadAt
theorem dX4_share_0 : decode cX4_share 0 = .ok (.aload_n 0, 1) := by decide +kernel
theorem dX4_share_1 : decode cX4_share 1 = .ok (.iload_n 1, 1) := by decide +kernel
theorem dX4_share_2 : decode cX4_share 2 = .ok (.i2l, 1) := by decide +kernel
theorem dX4_share_3 : decode cX4_share 3 = .ok (.lconst 0, 1) := by decide +kernel
theorem dX4_share_4 : decode cX4_share 4 = .ok (.ldc2_w 121, 3) := by decide +kernel
theorem dX4_share_7 : decode cX4_share 7 = .ok (.invokestatic 71, 3) := by decide +kernel
theorem dX4_share_10 : decode cX4_share 10 = .ok (.ifCond .eq 11, 3) := by decide +kernel
theorem dX4_share_13 : decode cX4_share 13 = .ok (.aload_n 0, 1) := by decide +kernel
theorem dX4_share_14 : decode cX4_share 14 = .ok (.iload_n 2, 1) := by decide +kernel
theorem dX4_share_15 : decode cX4_share 15 = .ok (.invokevirtual 75, 3) := by decide +kernel
theorem dX4_share_18 : decode cX4_share 18 = .ok (.ifCond .ne 7, 3) := by decide +kernel
theorem dX4_share_21 : decode cX4_share 21 = .ok (.iconst 1, 1) := by decide +kernel
theorem dX4_share_22 : decode cX4_share 22 = .ok (.goto 28, 3) := by decide +kernel
theorem dX4_share_25 : decode cX4_share 25 = .ok (.aload_n 0, 1) := by decide +kernel
theorem dX4_share_26 : decode cX4_share 26 = .ok (.invokevirtual 141, 3) := by decide +kernel
theorem dX4_share_29 : decode cX4_share 29 = .ok (.ifCond .eq 7, 3) := by decide +kernel
theorem dX4_share_32 : decode cX4_share 32 = .ok (.iconst 2, 1) := by decide +kernel
theorem dX4_share_33 : decode cX4_share 33 = .ok (.goto 17, 3) := by decide +kernel
theorem dX4_share_36 : decode cX4_share 36 = .ok (.aload_n 0, 1) := by decide +kernel
theorem dX4_share_37 : decode cX4_share 37 = .ok (.getfield 38, 3) := by decide +kernel
theorem dX4_share_40 : decode cX4_share 40 = .ok (.iload_n 2, 1) := by decide +kernel
theorem dX4_share_41 : decode cX4_share 41 = .ok (.baload, 1) := by decide +kernel
theorem dX4_share_42 : decode cX4_share 42 = .ok (.ifCond .ne 7, 3) := by decide +kernel
theorem dX4_share_45 : decode cX4_share 45 = .ok (.iconst 1, 1) := by decide +kernel
theorem dX4_share_46 : decode cX4_share 46 = .ok (.goto 4, 3) := by decide +kernel
theorem dX4_share_49 : decode cX4_share 49 = .ok (.iconst 0, 1) := by decide +kernel
theorem dX4_share_50 : decode cX4_share 50 = .ok (.putfield 65, 3) := by decide +kernel
theorem dX4_share_53 : decode cX4_share 53 = .ok (.aload_n 0, 1) := by decide +kernel
theorem dX4_share_54 : decode cX4_share 54 = .ok (.getfield 65, 3) := by decide +kernel
theorem dX4_share_57 : decode cX4_share 57 = .ok (.ifCond .le 5, 3) := by decide +kernel
theorem dX4_share_60 : decode cX4_share 60 = .ok (.iconst 0, 1) := by decide +kernel
theorem dX4_share_61 : decode cX4_share 61 = .ok (.ireturn, 1) := by decide +kernel
theorem dX4_share_62 : decode cX4_share 62 = .ok (.aload_n 0, 1) := by decide +kernel
theorem dX4_share_63 : decode cX4_share 63 = .ok (.iload_n 1, 1) := by decide +kernel
theorem dX4_share_64 : decode cX4_share 64 = .ok (.i2l, 1) := by decide +kernel
theorem dX4_share_65 : decode cX4_share 65 = .ok (.invokevirtual 145, 3) := by decide +kernel
theorem dX4_share_68 : decode cX4_share 68 = .ok (.istore_n 3, 1) := by decide +kernel
theorem dX4_share_69 : decode cX4_share 69 = .ok (.iload_n 3, 1) := by decide +kernel
theorem dX4_share_70 : decode cX4_share 70 = .ok (.ldc 54, 2) := by decide +kernel
theorem dX4_share_72 : decode cX4_share 72 = .ok (.if_icmp .ne 8, 3) := by decide +kernel
theorem dX4_share_75 : decode cX4_share 75 = .ok (.ldc 54, 2) := by decide +kernel
theorem dX4_share_77 : decode cX4_share 77 = .ok (.goto 11, 3) := by decide +kernel
theorem dX4_share_80 : decode cX4_share 80 = .ok (.aload_n 0, 1) := by decide +kernel
theorem dX4_share_81 : decode cX4_share 81 = .ok (.iload_n 2, 1) := by decide +kernel
theorem dX4_share_82 : decode cX4_share 82 = .ok (.iload_n 3, 1) := by decide +kernel
theorem dX4_share_83 : decode cX4_share 83 = .ok (.i2l, 1) := by decide +kernel
theorem dX4_share_84 : decode cX4_share 84 = .ok (.invokevirtual 130, 3) := by decide +kernel
theorem dX4_share_87 : decode cX4_share 87 = .ok (.l2i, 1) := by decide +kernel
theorem dX4_share_88 : decode cX4_share 88 = .ok (.ireturn, 1) := by decide +kernel
set_option maxRecDepth 20000 in
theorem ggX4_round_X4_cut : GoodIn wsX4_round wsX4_cut := goodIn_r _ [19] (by decide +kernel) (by decide +kernel)
set_option maxRecDepth 20000 in
theorem gX4_round_X4_cut : GoodIn wsX4_round (va_wsS RX4 93 yX4_cut wsX4_cut) := goodIn_app (goodIn_of _ (by decide +kernel)) ggX4_round_X4_cut
theorem dX4_round_0 : decode cX4_round 0 = .ok (.aload_n 0, 1) := by decide +kernel
theorem dX4_round_1 : decode cX4_round 1 = .ok (.getfield 7, 3) := by decide +kernel
theorem dX4_round_4 : decode cX4_round 4 = .ok (.iload_n 1, 1) := by decide +kernel
theorem dX4_round_5 : decode cX4_round 5 = .ok (.iaload, 1) := by decide +kernel
theorem dX4_round_6 : decode cX4_round 6 = .ok (.istore 5, 2) := by decide +kernel
theorem dX4_round_8 : decode cX4_round 8 = .ok (.ldc2_w 135, 3) := by decide +kernel
theorem dX4_round_11 : decode cX4_round 11 = .ok (.aload_n 0, 1) := by decide +kernel
theorem dX4_round_12 : decode cX4_round 12 = .ok (.getfield 59, 3) := by decide +kernel
theorem dX4_round_15 : decode cX4_round 15 = .ok (.iload 5, 2) := by decide +kernel
theorem dX4_round_17 : decode cX4_round 17 = .ok (.laload, 1) := by decide +kernel
theorem dX4_round_18 : decode cX4_round 18 = .ok (.aload_n 0, 1) := by decide +kernel
theorem dX4_round_19 : decode cX4_round 19 = .ok (.getfield 59, 3) := by decide +kernel
theorem dX4_round_22 : decode cX4_round 22 = .ok (.iconst 0, 1) := by decide +kernel
theorem dX4_round_23 : decode cX4_round 23 = .ok (.laload, 1) := by decide +kernel
theorem dX4_round_24 : decode cX4_round 24 = .ok (.lsub, 1) := by decide +kernel
theorem dX4_round_25 : decode cX4_round 25 = .ok (.lmul, 1) := by decide +kernel
theorem dX4_round_26 : decode cX4_round 26 = .ok (.lstore 6, 2) := by decide +kernel
theorem dX4_round_28 : decode cX4_round 28 = .ok (.lload 6, 2) := by decide +kernel
theorem dX4_round_30 : decode cX4_round 30 = .ok (.lconst 0, 1) := by decide +kernel
theorem dX4_round_31 : decode cX4_round 31 = .ok (.lcmp, 1) := by decide +kernel
theorem dX4_round_32 : decode cX4_round 32 = .ok (.ifCond .ge 7, 3) := by decide +kernel
theorem dX4_round_35 : decode cX4_round 35 = .ok (.lconst 0, 1) := by decide +kernel
theorem dX4_round_36 : decode cX4_round 36 = .ok (.goto 5, 3) := by decide +kernel
theorem dX4_round_39 : decode cX4_round 39 = .ok (.lload 6, 2) := by decide +kernel
theorem dX4_round_41 : decode cX4_round 41 = .ok (.lstore 6, 2) := by decide +kernel
theorem dX4_round_43 : decode cX4_round 43 = .ok (.aload_n 0, 1) := by decide +kernel
theorem dX4_round_44 : decode cX4_round 44 = .ok (.getfield 62, 3) := by decide +kernel
theorem dX4_round_47 : decode cX4_round 47 = .ok (.iload 5, 2) := by decide +kernel
theorem dX4_round_49 : decode cX4_round 49 = .ok (.aload_n 0, 1) := by decide +kernel
theorem dX4_round_50 : decode cX4_round 50 = .ok (.getfield 62, 3) := by decide +kernel
theorem dX4_round_53 : decode cX4_round 53 = .ok (.iload 5, 2) := by decide +kernel
theorem dX4_round_55 : decode cX4_round 55 = .ok (.laload, 1) := by decide +kernel
theorem dX4_round_56 : decode cX4_round 56 = .ok (.ldc2_w 149, 3) := by decide +kernel
theorem dX4_round_59 : decode cX4_round 59 = .ok (.lload 6, 2) := by decide +kernel
theorem dX4_round_61 : decode cX4_round 61 = .ok (.lmul, 1) := by decide +kernel
theorem dX4_round_62 : decode cX4_round 62 = .ok (.lload_n 3, 1) := by decide +kernel
theorem dX4_round_63 : decode cX4_round 63 = .ok (.ldiv, 1) := by decide +kernel
theorem dX4_round_64 : decode cX4_round 64 = .ok (.ladd, 1) := by decide +kernel
theorem dX4_round_65 : decode cX4_round 65 = .ok (.ldc2_w 151, 3) := by decide +kernel
theorem dX4_round_68 : decode cX4_round 68 = .ok (.ldc2_w 153, 3) := by decide +kernel
theorem dX4_round_71 : decode cX4_round 71 = .ok (.invokestatic 93, 3) := by decide +kernel
theorem dX4_round_74 : decode cX4_round 74 = .ok (.lastore, 1) := by decide +kernel
theorem dX4_round_75 : decode cX4_round 75 = .ok (.lload 6, 2) := by decide +kernel
theorem dX4_round_77 : decode cX4_round 77 = .ok (.lstore 8, 2) := by decide +kernel
theorem dX4_round_79 : decode cX4_round 79 = .ok (.iconst 0, 1) := by decide +kernel
theorem dX4_round_80 : decode cX4_round 80 = .ok (.istore 10, 2) := by decide +kernel
theorem dX4_round_82 : decode cX4_round 82 = .ok (.iload 10, 2) := by decide +kernel
theorem dX4_round_84 : decode cX4_round 84 = .ok (.iload 5, 2) := by decide +kernel
theorem dX4_round_86 : decode cX4_round 86 = .ok (.if_icmp .ge 174, 3) := by decide +kernel
theorem dX4_round_89 : decode cX4_round 89 = .ok (.bipush 12, 2) := by decide +kernel
theorem dX4_round_91 : decode cX4_round 91 = .ok (.iload_n 1, 1) := by decide +kernel
theorem dX4_round_92 : decode cX4_round 92 = .ok (.imul, 1) := by decide +kernel
theorem dX4_round_93 : decode cX4_round 93 = .ok (.iload 10, 2) := by decide +kernel
theorem dX4_round_95 : decode cX4_round 95 = .ok (.iadd, 1) := by decide +kernel
theorem dX4_round_96 : decode cX4_round 96 = .ok (.istore 11, 2) := by decide +kernel
theorem dX4_round_98 : decode cX4_round 98 = .ok (.aload_n 0, 1) := by decide +kernel
theorem dX4_round_99 : decode cX4_round 99 = .ok (.getfield 23, 3) := by decide +kernel
theorem dX4_round_102 : decode cX4_round 102 = .ok (.iload 11, 2) := by decide +kernel
theorem dX4_round_104 : decode cX4_round 104 = .ok (.laload, 1) := by decide +kernel
theorem dX4_round_105 : decode cX4_round 105 = .ok (.aload_n 0, 1) := by decide +kernel
theorem dX4_round_106 : decode cX4_round 106 = .ok (.getfield 59, 3) := by decide +kernel
theorem dX4_round_109 : decode cX4_round 109 = .ok (.iload 10, 2) := by decide +kernel
theorem dX4_round_111 : decode cX4_round 111 = .ok (.laload, 1) := by decide +kernel
theorem dX4_round_112 : decode cX4_round 112 = .ok (.lmul, 1) := by decide +kernel
theorem dX4_round_113 : decode cX4_round 113 = .ok (.ldc2_w 83, 3) := by decide +kernel
theorem dX4_round_116 : decode cX4_round 116 = .ok (.ldiv, 1) := by decide +kernel
theorem dX4_round_117 : decode cX4_round 117 = .ok (.aload_n 0, 1) := by decide +kernel
theorem dX4_round_118 : decode cX4_round 118 = .ok (.getfield 26, 3) := by decide +kernel
theorem dX4_round_121 : decode cX4_round 121 = .ok (.iload 11, 2) := by decide +kernel
theorem dX4_round_123 : decode cX4_round 123 = .ok (.laload, 1) := by decide +kernel
theorem dX4_round_124 : decode cX4_round 124 = .ok (.lneg, 1) := by decide +kernel
theorem dX4_round_125 : decode cX4_round 125 = .ok (.aload_n 0, 1) := by decide +kernel
theorem dX4_round_126 : decode cX4_round 126 = .ok (.getfield 26, 3) := by decide +kernel
theorem dX4_round_129 : decode cX4_round 129 = .ok (.iload 11, 2) := by decide +kernel
theorem dX4_round_131 : decode cX4_round 131 = .ok (.laload, 1) := by decide +kernel
theorem dX4_round_132 : decode cX4_round 132 = .ok (.invokestatic 93, 3) := by decide +kernel
theorem dX4_round_135 : decode cX4_round 135 = .ok (.lstore 12, 2) := by decide +kernel
theorem dX4_round_137 : decode cX4_round 137 = .ok (.iload 10, 2) := by decide +kernel
theorem dX4_round_139 : decode cX4_round 139 = .ok (.iconst 1, 1) := by decide +kernel
theorem dX4_round_140 : decode cX4_round 140 = .ok (.iadd, 1) := by decide +kernel
theorem dX4_round_141 : decode cX4_round 141 = .ok (.iload 5, 2) := by decide +kernel
theorem dX4_round_143 : decode cX4_round 143 = .ok (.if_icmp .ge 34, 3) := by decide +kernel
theorem dX4_round_146 : decode cX4_round 146 = .ok (.aload_n 0, 1) := by decide +kernel
theorem dX4_round_147 : decode cX4_round 147 = .ok (.getfield 13, 3) := by decide +kernel
theorem dX4_round_150 : decode cX4_round 150 = .ok (.iload_n 1, 1) := by decide +kernel
theorem dX4_round_151 : decode cX4_round 151 = .ok (.laload, 1) := by decide +kernel
theorem dX4_round_152 : decode cX4_round 152 = .ok (.aload_n 0, 1) := by decide +kernel
theorem dX4_round_153 : decode cX4_round 153 = .ok (.getfield 59, 3) := by decide +kernel
theorem dX4_round_156 : decode cX4_round 156 = .ok (.iload 10, 2) := by decide +kernel
theorem dX4_round_158 : decode cX4_round 158 = .ok (.laload, 1) := by decide +kernel
theorem dX4_round_159 : decode cX4_round 159 = .ok (.aload_n 0, 1) := by decide +kernel
theorem dX4_round_160 : decode cX4_round 160 = .ok (.getfield 59, 3) := by decide +kernel
theorem dX4_round_163 : decode cX4_round 163 = .ok (.iload 10, 2) := by decide +kernel
theorem dX4_round_165 : decode cX4_round 165 = .ok (.iconst 1, 1) := by decide +kernel
theorem dX4_round_166 : decode cX4_round 166 = .ok (.iadd, 1) := by decide +kernel
theorem dX4_round_167 : decode cX4_round 167 = .ok (.laload, 1) := by decide +kernel
theorem dX4_round_168 : decode cX4_round 168 = .ok (.lsub, 1) := by decide +kernel
theorem dX4_round_169 : decode cX4_round 169 = .ok (.lmul, 1) := by decide +kernel
theorem dX4_round_170 : decode cX4_round 170 = .ok (.ldc2_w 83, 3) := by decide +kernel
theorem dX4_round_173 : decode cX4_round 173 = .ok (.ldiv, 1) := by decide +kernel
theorem dX4_round_174 : decode cX4_round 174 = .ok (.goto 31, 3) := by decide +kernel
theorem dX4_round_177 : decode cX4_round 177 = .ok (.aload_n 0, 1) := by decide +kernel
theorem dX4_round_178 : decode cX4_round 178 = .ok (.getfield 32, 3) := by decide +kernel
theorem dX4_round_181 : decode cX4_round 181 = .ok (.iload_n 1, 1) := by decide +kernel
theorem dX4_round_182 : decode cX4_round 182 = .ok (.laload, 1) := by decide +kernel
theorem dX4_round_183 : decode cX4_round 183 = .ok (.aload_n 0, 1) := by decide +kernel
theorem dX4_round_184 : decode cX4_round 184 = .ok (.getfield 59, 3) := by decide +kernel
theorem dX4_round_187 : decode cX4_round 187 = .ok (.iload 10, 2) := by decide +kernel
theorem dX4_round_189 : decode cX4_round 189 = .ok (.laload, 1) := by decide +kernel
theorem dX4_round_190 : decode cX4_round 190 = .ok (.lmul, 1) := by decide +kernel
theorem dX4_round_191 : decode cX4_round 191 = .ok (.ldc2_w 83, 3) := by decide +kernel
theorem dX4_round_194 : decode cX4_round 194 = .ok (.ldiv, 1) := by decide +kernel
theorem dX4_round_195 : decode cX4_round 195 = .ok (.lconst 0, 1) := by decide +kernel
theorem dX4_round_196 : decode cX4_round 196 = .ok (.aload_n 0, 1) := by decide +kernel
theorem dX4_round_197 : decode cX4_round 197 = .ok (.getfield 35, 3) := by decide +kernel
theorem dX4_round_200 : decode cX4_round 200 = .ok (.iload_n 1, 1) := by decide +kernel
theorem dX4_round_201 : decode cX4_round 201 = .ok (.laload, 1) := by decide +kernel
theorem dX4_round_202 : decode cX4_round 202 = .ok (.invokestatic 93, 3) := by decide +kernel
theorem dX4_round_205 : decode cX4_round 205 = .ok (.lstore 14, 2) := by decide +kernel
theorem dX4_round_207 : decode cX4_round 207 = .ok (.aload_n 0, 1) := by decide +kernel
theorem dX4_round_208 : decode cX4_round 208 = .ok (.getfield 62, 3) := by decide +kernel
theorem dX4_round_211 : decode cX4_round 211 = .ok (.iload 10, 2) := by decide +kernel
theorem dX4_round_213 : decode cX4_round 213 = .ok (.aload_n 0, 1) := by decide +kernel
theorem dX4_round_214 : decode cX4_round 214 = .ok (.getfield 62, 3) := by decide +kernel
theorem dX4_round_217 : decode cX4_round 217 = .ok (.iload 10, 2) := by decide +kernel
theorem dX4_round_219 : decode cX4_round 219 = .ok (.laload, 1) := by decide +kernel
theorem dX4_round_220 : decode cX4_round 220 = .ok (.ldc2_w 83, 3) := by decide +kernel
theorem dX4_round_223 : decode cX4_round 223 = .ok (.lload 8, 2) := by decide +kernel
theorem dX4_round_225 : decode cX4_round 225 = .ok (.lload 12, 2) := by decide +kernel
theorem dX4_round_227 : decode cX4_round 227 = .ok (.lsub, 1) := by decide +kernel
theorem dX4_round_228 : decode cX4_round 228 = .ok (.lload 14, 2) := by decide +kernel
theorem dX4_round_230 : decode cX4_round 230 = .ok (.lsub, 1) := by decide +kernel
theorem dX4_round_231 : decode cX4_round 231 = .ok (.lmul, 1) := by decide +kernel
theorem dX4_round_232 : decode cX4_round 232 = .ok (.aload_n 0, 1) := by decide +kernel
theorem dX4_round_233 : decode cX4_round 233 = .ok (.getfield 17, 3) := by decide +kernel
theorem dX4_round_236 : decode cX4_round 236 = .ok (.iload_n 1, 1) := by decide +kernel
theorem dX4_round_237 : decode cX4_round 237 = .ok (.laload, 1) := by decide +kernel
theorem dX4_round_238 : decode cX4_round 238 = .ok (.ldiv, 1) := by decide +kernel
theorem dX4_round_239 : decode cX4_round 239 = .ok (.ladd, 1) := by decide +kernel
theorem dX4_round_240 : decode cX4_round 240 = .ok (.ldc2_w 151, 3) := by decide +kernel
theorem dX4_round_243 : decode cX4_round 243 = .ok (.ldc2_w 153, 3) := by decide +kernel
theorem dX4_round_246 : decode cX4_round 246 = .ok (.invokestatic 93, 3) := by decide +kernel
theorem dX4_round_249 : decode cX4_round 249 = .ok (.lastore, 1) := by decide +kernel
theorem dX4_round_250 : decode cX4_round 250 = .ok (.lload 14, 2) := by decide +kernel
theorem dX4_round_252 : decode cX4_round 252 = .ok (.lstore 8, 2) := by decide +kernel
theorem dX4_round_254 : decode cX4_round 254 = .ok (.iinc 10 1, 3) := by decide +kernel
theorem dX4_round_257 : decode cX4_round 257 = .ok (.goto (-175), 3) := by decide +kernel
theorem dX4_round_260 : decode cX4_round 260 = .ok (.iconst 0, 1) := by decide +kernel
theorem dX4_round_261 : decode cX4_round 261 = .ok (.istore 10, 2) := by decide +kernel
theorem dX4_round_263 : decode cX4_round 263 = .ok (.iload 10, 2) := by decide +kernel
theorem dX4_round_265 : decode cX4_round 265 = .ok (.iload 5, 2) := by decide +kernel
theorem dX4_round_267 : decode cX4_round 267 = .ok (.if_icmp .gt 49, 3) := by decide +kernel
theorem dX4_round_270 : decode cX4_round 270 = .ok (.aload_n 0, 1) := by decide +kernel
theorem dX4_round_271 : decode cX4_round 271 = .ok (.getfield 59, 3) := by decide +kernel
theorem dX4_round_274 : decode cX4_round 274 = .ok (.iload 10, 2) := by decide +kernel
theorem dX4_round_276 : decode cX4_round 276 = .ok (.dup2, 1) := by decide +kernel
theorem dX4_round_277 : decode cX4_round 277 = .ok (.laload, 1) := by decide +kernel
theorem dX4_round_278 : decode cX4_round 278 = .ok (.aload_n 0, 1) := by decide +kernel
theorem dX4_round_279 : decode cX4_round 279 = .ok (.getfield 62, 3) := by decide +kernel
theorem dX4_round_282 : decode cX4_round 282 = .ok (.iload 10, 2) := by decide +kernel
theorem dX4_round_284 : decode cX4_round 284 = .ok (.laload, 1) := by decide +kernel
theorem dX4_round_285 : decode cX4_round 285 = .ok (.ldc2_w 83, 3) := by decide +kernel
theorem dX4_round_288 : decode cX4_round 288 = .ok (.ldiv, 1) := by decide +kernel
theorem dX4_round_289 : decode cX4_round 289 = .ok (.ladd, 1) := by decide +kernel
theorem dX4_round_290 : decode cX4_round 290 = .ok (.lastore, 1) := by decide +kernel
theorem dX4_round_291 : decode cX4_round 291 = .ok (.aload_n 0, 1) := by decide +kernel
theorem dX4_round_292 : decode cX4_round 292 = .ok (.getfield 51, 3) := by decide +kernel
theorem dX4_round_295 : decode cX4_round 295 = .ok (.bipush 13, 2) := by decide +kernel
theorem dX4_round_297 : decode cX4_round 297 = .ok (.iload_n 2, 1) := by decide +kernel
theorem dX4_round_298 : decode cX4_round 298 = .ok (.imul, 1) := by decide +kernel
theorem dX4_round_299 : decode cX4_round 299 = .ok (.iload 10, 2) := by decide +kernel
theorem dX4_round_301 : decode cX4_round 301 = .ok (.iadd, 1) := by decide +kernel
theorem dX4_round_302 : decode cX4_round 302 = .ok (.aload_n 0, 1) := by decide +kernel
theorem dX4_round_303 : decode cX4_round 303 = .ok (.getfield 59, 3) := by decide +kernel
theorem dX4_round_306 : decode cX4_round 306 = .ok (.iload 10, 2) := by decide +kernel
theorem dX4_round_308 : decode cX4_round 308 = .ok (.laload, 1) := by decide +kernel
theorem dX4_round_309 : decode cX4_round 309 = .ok (.lastore, 1) := by decide +kernel
theorem dX4_round_310 : decode cX4_round 310 = .ok (.iinc 10 1, 3) := by decide +kernel
theorem dX4_round_313 : decode cX4_round 313 = .ok (.goto (-50), 3) := by decide +kernel
theorem dX4_round_316 : decode cX4_round 316 = .ok (.return_, 1) := by decide +kernel
set_option maxRecDepth 20000 in
theorem ggX4_blow_X4_isPile : GoodIn wsX4_blow wsX4_isPile := goodIn_r _ [14, 15, 16, 17, 13, 18, 35, 36, 37, 38, 39, 40, 41, 42, 43, 44, 45, 46, 47, 48, 49, 50, 51, 52, 53] (by decide +kernel) (by decide +kernel)
set_option maxRecDepth 20000 in
theorem gX4_blow_X4_isPile : GoodIn wsX4_blow (wsV RX4 75 RX4 yX4_isPile wsX4_isPile) := goodIn_app (goodIn_of _ (by decide +kernel)) ggX4_blow_X4_isPile
set_option maxRecDepth 20000 in
theorem ggX4_blow_X4_in : GoodIn wsX4_blow wsX4_in := goodIn_r _ [18] (by decide +kernel) (by decide +kernel)
set_option maxRecDepth 20000 in
theorem gX4_blow_X4_in : GoodIn wsX4_blow (va_wsS RX4 71 yX4_in wsX4_in) := goodIn_app (goodIn_of _ (by decide +kernel)) ggX4_blow_X4_in
set_option maxRecDepth 20000 in
theorem ggX4_blow_X4_round : GoodIn wsX4_blow wsX4_round := goodIn_r _ [22, 4, 23, 5, 6, 24, 25, 26, 27, 2, 28, 29, 8, 9, 30, 31, 32, 33, 13, 34, 35, 36, 37, 38, 39, 40, 41, 42, 43, 44, 45, 46, 47, 48, 49, 50, 51, 52, 53] (by decide +kernel) (by decide +kernel)
set_option maxRecDepth 20000 in
theorem gX4_blow_X4_round : GoodIn wsX4_blow (wsV RX4 155 RX4 yX4_round wsX4_round) := goodIn_app (goodIn_of _ (by decide +kernel)) ggX4_blow_X4_round
theorem dX4_blow_0 : decode cX4_blow 0 = .ok (.aload_n 0, 1) := by decide +kernel
theorem dX4_blow_1 : decode cX4_blow 1 = .ok (.aload_n 0, 1) := by decide +kernel
theorem dX4_blow_2 : decode cX4_blow 2 = .ok (.iload_n 1, 1) := by decide +kernel
theorem dX4_blow_3 : decode cX4_blow 3 = .ok (.invokevirtual 75, 3) := by decide +kernel
theorem dX4_blow_6 : decode cX4_blow 6 = .ok (.ifCond .eq 31, 3) := by decide +kernel
theorem dX4_blow_9 : decode cX4_blow 9 = .ok (.iload_n 2, 1) := by decide +kernel
theorem dX4_blow_10 : decode cX4_blow 10 = .ok (.i2l, 1) := by decide +kernel
theorem dX4_blow_11 : decode cX4_blow 11 = .ok (.lconst 1, 1) := by decide +kernel
theorem dX4_blow_12 : decode cX4_blow 12 = .ok (.ldc2_w 81, 3) := by decide +kernel
theorem dX4_blow_15 : decode cX4_blow 15 = .ok (.invokestatic 71, 3) := by decide +kernel
theorem dX4_blow_18 : decode cX4_blow 18 = .ok (.ifCond .eq 19, 3) := by decide +kernel
theorem dX4_blow_21 : decode cX4_blow 21 = .ok (.iload_n 3, 1) := by decide +kernel
theorem dX4_blow_22 : decode cX4_blow 22 = .ok (.i2l, 1) := by decide +kernel
theorem dX4_blow_23 : decode cX4_blow 23 = .ok (.lconst 1, 1) := by decide +kernel
theorem dX4_blow_24 : decode cX4_blow 24 = .ok (.ldc2_w 83, 3) := by decide +kernel
theorem dX4_blow_27 : decode cX4_blow 27 = .ok (.invokestatic 71, 3) := by decide +kernel
theorem dX4_blow_30 : decode cX4_blow 30 = .ok (.ifCond .eq 7, 3) := by decide +kernel
theorem dX4_blow_33 : decode cX4_blow 33 = .ok (.iconst 0, 1) := by decide +kernel
theorem dX4_blow_34 : decode cX4_blow 34 = .ok (.goto 4, 3) := by decide +kernel
theorem dX4_blow_37 : decode cX4_blow 37 = .ok (.iconst 1, 1) := by decide +kernel
theorem dX4_blow_38 : decode cX4_blow 38 = .ok (.putfield 65, 3) := by decide +kernel
theorem dX4_blow_41 : decode cX4_blow 41 = .ok (.aload_n 0, 1) := by decide +kernel
theorem dX4_blow_42 : decode cX4_blow 42 = .ok (.getfield 65, 3) := by decide +kernel
theorem dX4_blow_45 : decode cX4_blow 45 = .ok (.ifCond .le 5, 3) := by decide +kernel
theorem dX4_blow_48 : decode cX4_blow 48 = .ok (.iconst 0, 1) := by decide +kernel
theorem dX4_blow_49 : decode cX4_blow 49 = .ok (.ireturn, 1) := by decide +kernel
theorem dX4_blow_50 : decode cX4_blow 50 = .ok (.aload_n 0, 1) := by decide +kernel
theorem dX4_blow_51 : decode cX4_blow 51 = .ok (.getfield 7, 3) := by decide +kernel
theorem dX4_blow_54 : decode cX4_blow 54 = .ok (.iload_n 1, 1) := by decide +kernel
theorem dX4_blow_55 : decode cX4_blow 55 = .ok (.iaload, 1) := by decide +kernel
theorem dX4_blow_56 : decode cX4_blow 56 = .ok (.istore 4, 2) := by decide +kernel
theorem dX4_blow_58 : decode cX4_blow 58 = .ok (.iconst 0, 1) := by decide +kernel
theorem dX4_blow_59 : decode cX4_blow 59 = .ok (.istore 5, 2) := by decide +kernel
theorem dX4_blow_61 : decode cX4_blow 61 = .ok (.iload 5, 2) := by decide +kernel
theorem dX4_blow_63 : decode cX4_blow 63 = .ok (.iload 4, 2) := by decide +kernel
theorem dX4_blow_65 : decode cX4_blow 65 = .ok (.if_icmp .gt 25, 3) := by decide +kernel
theorem dX4_blow_68 : decode cX4_blow 68 = .ok (.aload_n 0, 1) := by decide +kernel
theorem dX4_blow_69 : decode cX4_blow 69 = .ok (.getfield 59, 3) := by decide +kernel
theorem dX4_blow_72 : decode cX4_blow 72 = .ok (.iload 5, 2) := by decide +kernel
theorem dX4_blow_74 : decode cX4_blow 74 = .ok (.lconst 0, 1) := by decide +kernel
theorem dX4_blow_75 : decode cX4_blow 75 = .ok (.lastore, 1) := by decide +kernel
theorem dX4_blow_76 : decode cX4_blow 76 = .ok (.aload_n 0, 1) := by decide +kernel
theorem dX4_blow_77 : decode cX4_blow 77 = .ok (.getfield 62, 3) := by decide +kernel
theorem dX4_blow_80 : decode cX4_blow 80 = .ok (.iload 5, 2) := by decide +kernel
theorem dX4_blow_82 : decode cX4_blow 82 = .ok (.lconst 0, 1) := by decide +kernel
theorem dX4_blow_83 : decode cX4_blow 83 = .ok (.lastore, 1) := by decide +kernel
theorem dX4_blow_84 : decode cX4_blow 84 = .ok (.iinc 5 1, 3) := by decide +kernel
theorem dX4_blow_87 : decode cX4_blow 87 = .ok (.goto (-26), 3) := by decide +kernel
theorem dX4_blow_90 : decode cX4_blow 90 = .ok (.aload_n 0, 1) := by decide +kernel
theorem dX4_blow_91 : decode cX4_blow 91 = .ok (.getfield 62, 3) := by decide +kernel
theorem dX4_blow_94 : decode cX4_blow 94 = .ok (.iload 4, 2) := by decide +kernel
theorem dX4_blow_96 : decode cX4_blow 96 = .ok (.ldc2_w 83, 3) := by decide +kernel
theorem dX4_blow_99 : decode cX4_blow 99 = .ok (.iload_n 3, 1) := by decide +kernel
theorem dX4_blow_100 : decode cX4_blow 100 = .ok (.i2l, 1) := by decide +kernel
theorem dX4_blow_101 : decode cX4_blow 101 = .ok (.lmul, 1) := by decide +kernel
theorem dX4_blow_102 : decode cX4_blow 102 = .ok (.lastore, 1) := by decide +kernel
theorem dX4_blow_103 : decode cX4_blow 103 = .ok (.lconst 0, 1) := by decide +kernel
theorem dX4_blow_104 : decode cX4_blow 104 = .ok (.lstore 5, 2) := by decide +kernel
theorem dX4_blow_106 : decode cX4_blow 106 = .ok (.iconst 0, 1) := by decide +kernel
theorem dX4_blow_107 : decode cX4_blow 107 = .ok (.istore 7, 2) := by decide +kernel
theorem dX4_blow_109 : decode cX4_blow 109 = .ok (.iload 7, 2) := by decide +kernel
theorem dX4_blow_111 : decode cX4_blow 111 = .ok (.sipush 200, 3) := by decide +kernel
theorem dX4_blow_114 : decode cX4_blow 114 = .ok (.if_icmp .ge 49, 3) := by decide +kernel
theorem dX4_blow_117 : decode cX4_blow 117 = .ok (.aload_n 0, 1) := by decide +kernel
theorem dX4_blow_118 : decode cX4_blow 118 = .ok (.iload_n 1, 1) := by decide +kernel
theorem dX4_blow_119 : decode cX4_blow 119 = .ok (.iload 7, 2) := by decide +kernel
theorem dX4_blow_121 : decode cX4_blow 121 = .ok (.iload_n 2, 1) := by decide +kernel
theorem dX4_blow_122 : decode cX4_blow 122 = .ok (.i2l, 1) := by decide +kernel
theorem dX4_blow_123 : decode cX4_blow 123 = .ok (.invokevirtual 155, 3) := by decide +kernel
theorem dX4_blow_126 : decode cX4_blow 126 = .ok (.aload_n 0, 1) := by decide +kernel
theorem dX4_blow_127 : decode cX4_blow 127 = .ok (.getfield 59, 3) := by decide +kernel
theorem dX4_blow_130 : decode cX4_blow 130 = .ok (.iload 4, 2) := by decide +kernel
theorem dX4_blow_132 : decode cX4_blow 132 = .ok (.iconst 1, 1) := by decide +kernel
theorem dX4_blow_133 : decode cX4_blow 133 = .ok (.isub, 1) := by decide +kernel
theorem dX4_blow_134 : decode cX4_blow 134 = .ok (.laload, 1) := by decide +kernel
theorem dX4_blow_135 : decode cX4_blow 135 = .ok (.lload 5, 2) := by decide +kernel
theorem dX4_blow_137 : decode cX4_blow 137 = .ok (.lcmp, 1) := by decide +kernel
theorem dX4_blow_138 : decode cX4_blow 138 = .ok (.ifCond .le 15, 3) := by decide +kernel
theorem dX4_blow_141 : decode cX4_blow 141 = .ok (.aload_n 0, 1) := by decide +kernel
theorem dX4_blow_142 : decode cX4_blow 142 = .ok (.getfield 59, 3) := by decide +kernel
theorem dX4_blow_145 : decode cX4_blow 145 = .ok (.iload 4, 2) := by decide +kernel
theorem dX4_blow_147 : decode cX4_blow 147 = .ok (.iconst 1, 1) := by decide +kernel
theorem dX4_blow_148 : decode cX4_blow 148 = .ok (.isub, 1) := by decide +kernel
theorem dX4_blow_149 : decode cX4_blow 149 = .ok (.laload, 1) := by decide +kernel
theorem dX4_blow_150 : decode cX4_blow 150 = .ok (.goto 5, 3) := by decide +kernel
theorem dX4_blow_153 : decode cX4_blow 153 = .ok (.lload 5, 2) := by decide +kernel
theorem dX4_blow_155 : decode cX4_blow 155 = .ok (.lstore 5, 2) := by decide +kernel
theorem dX4_blow_157 : decode cX4_blow 157 = .ok (.iinc 7 1, 3) := by decide +kernel
theorem dX4_blow_160 : decode cX4_blow 160 = .ok (.goto (-51), 3) := by decide +kernel
theorem dX4_blow_163 : decode cX4_blow 163 = .ok (.aload_n 0, 1) := by decide +kernel
theorem dX4_blow_164 : decode cX4_blow 164 = .ok (.iload_n 1, 1) := by decide +kernel
theorem dX4_blow_165 : decode cX4_blow 165 = .ok (.putfield 55, 3) := by decide +kernel
theorem dX4_blow_168 : decode cX4_blow 168 = .ok (.aload_n 0, 1) := by decide +kernel
theorem dX4_blow_169 : decode cX4_blow 169 = .ok (.getfield 32, 3) := by decide +kernel
theorem dX4_blow_172 : decode cX4_blow 172 = .ok (.iload_n 1, 1) := by decide +kernel
theorem dX4_blow_173 : decode cX4_blow 173 = .ok (.laload, 1) := by decide +kernel
theorem dX4_blow_174 : decode cX4_blow 174 = .ok (.lconst 0, 1) := by decide +kernel
theorem dX4_blow_175 : decode cX4_blow 175 = .ok (.lcmp, 1) := by decide +kernel
theorem dX4_blow_176 : decode cX4_blow 176 = .ok (.ifCond .ne 7, 3) := by decide +kernel
theorem dX4_blow_179 : decode cX4_blow 179 = .ok (.lconst 0, 1) := by decide +kernel
theorem dX4_blow_180 : decode cX4_blow 180 = .ok (.goto 20, 3) := by decide +kernel
theorem dX4_blow_183 : decode cX4_blow 183 = .ok (.ldc2_w 83, 3) := by decide +kernel
theorem dX4_blow_186 : decode cX4_blow 186 = .ok (.aload_n 0, 1) := by decide +kernel
theorem dX4_blow_187 : decode cX4_blow 187 = .ok (.getfield 35, 3) := by decide +kernel
theorem dX4_blow_190 : decode cX4_blow 190 = .ok (.iload_n 1, 1) := by decide +kernel
theorem dX4_blow_191 : decode cX4_blow 191 = .ok (.laload, 1) := by decide +kernel
theorem dX4_blow_192 : decode cX4_blow 192 = .ok (.lmul, 1) := by decide +kernel
theorem dX4_blow_193 : decode cX4_blow 193 = .ok (.aload_n 0, 1) := by decide +kernel
theorem dX4_blow_194 : decode cX4_blow 194 = .ok (.getfield 32, 3) := by decide +kernel
theorem dX4_blow_197 : decode cX4_blow 197 = .ok (.iload_n 1, 1) := by decide +kernel
theorem dX4_blow_198 : decode cX4_blow 198 = .ok (.laload, 1) := by decide +kernel
theorem dX4_blow_199 : decode cX4_blow 199 = .ok (.ldiv, 1) := by decide +kernel
theorem dX4_blow_200 : decode cX4_blow 200 = .ok (.lstore 7, 2) := by decide +kernel
theorem dX4_blow_202 : decode cX4_blow 202 = .ok (.lload 5, 2) := by decide +kernel
theorem dX4_blow_204 : decode cX4_blow 204 = .ok (.lload 7, 2) := by decide +kernel
theorem dX4_blow_206 : decode cX4_blow 206 = .ok (.lcmp, 1) := by decide +kernel
theorem dX4_blow_207 : decode cX4_blow 207 = .ok (.ifCond .le 12, 3) := by decide +kernel
theorem dX4_blow_210 : decode cX4_blow 210 = .ok (.lload 5, 2) := by decide +kernel
theorem dX4_blow_212 : decode cX4_blow 212 = .ok (.lload 7, 2) := by decide +kernel
theorem dX4_blow_214 : decode cX4_blow 214 = .ok (.lsub, 1) := by decide +kernel
theorem dX4_blow_215 : decode cX4_blow 215 = .ok (.l2i, 1) := by decide +kernel
theorem dX4_blow_216 : decode cX4_blow 216 = .ok (.goto 4, 3) := by decide +kernel
theorem dX4_blow_219 : decode cX4_blow 219 = .ok (.iconst 0, 1) := by decide +kernel
theorem dX4_blow_220 : decode cX4_blow 220 = .ok (.ireturn, 1) := by decide +kernel
set_option maxRecDepth 20000 in
theorem ggX4_wave_X4_in : GoodIn wsX4_wave wsX4_in := goodIn_r _ [10] (by decide +kernel) (by decide +kernel)
set_option maxRecDepth 20000 in
theorem gX4_wave_X4_in : GoodIn wsX4_wave (va_wsS RX4 71 yX4_in wsX4_in) := goodIn_app (goodIn_of _ (by decide +kernel)) ggX4_wave_X4_in
theorem dX4_wave_0 : decode cX4_wave 0 = .ok (.aload_n 0, 1) := by decide +kernel
theorem dX4_wave_1 : decode cX4_wave 1 = .ok (.aload_n 0, 1) := by decide +kernel
theorem dX4_wave_2 : decode cX4_wave 2 = .ok (.getfield 55, 3) := by decide +kernel
theorem dX4_wave_5 : decode cX4_wave 5 = .ok (.ldc 54, 2) := by decide +kernel
theorem dX4_wave_7 : decode cX4_wave 7 = .ok (.if_icmp .ne 7, 3) := by decide +kernel
theorem dX4_wave_10 : decode cX4_wave 10 = .ok (.iconst 1, 1) := by decide +kernel
theorem dX4_wave_11 : decode cX4_wave 11 = .ok (.goto 39, 3) := by decide +kernel
theorem dX4_wave_14 : decode cX4_wave 14 = .ok (.iload_n 1, 1) := by decide +kernel
theorem dX4_wave_15 : decode cX4_wave 15 = .ok (.i2l, 1) := by decide +kernel
theorem dX4_wave_16 : decode cX4_wave 16 = .ok (.lconst 0, 1) := by decide +kernel
theorem dX4_wave_17 : decode cX4_wave 17 = .ok (.ldc2_w 159, 3) := by decide +kernel
theorem dX4_wave_20 : decode cX4_wave 20 = .ok (.invokestatic 71, 3) := by decide +kernel
theorem dX4_wave_23 : decode cX4_wave 23 = .ok (.ifCond .eq 22, 3) := by decide +kernel
theorem dX4_wave_26 : decode cX4_wave 26 = .ok (.iload_n 2, 1) := by decide +kernel
theorem dX4_wave_27 : decode cX4_wave 27 = .ok (.i2l, 1) := by decide +kernel
theorem dX4_wave_28 : decode cX4_wave 28 = .ok (.lconst 0, 1) := by decide +kernel
theorem dX4_wave_29 : decode cX4_wave 29 = .ok (.aload_n 0, 1) := by decide +kernel
theorem dX4_wave_30 : decode cX4_wave 30 = .ok (.getfield 7, 3) := by decide +kernel
theorem dX4_wave_33 : decode cX4_wave 33 = .ok (.aload_n 0, 1) := by decide +kernel
theorem dX4_wave_34 : decode cX4_wave 34 = .ok (.getfield 55, 3) := by decide +kernel
theorem dX4_wave_37 : decode cX4_wave 37 = .ok (.iaload, 1) := by decide +kernel
theorem dX4_wave_38 : decode cX4_wave 38 = .ok (.i2l, 1) := by decide +kernel
theorem dX4_wave_39 : decode cX4_wave 39 = .ok (.invokestatic 71, 3) := by decide +kernel
theorem dX4_wave_42 : decode cX4_wave 42 = .ok (.ifCond .ne 7, 3) := by decide +kernel
theorem dX4_wave_45 : decode cX4_wave 45 = .ok (.iconst 2, 1) := by decide +kernel
theorem dX4_wave_46 : decode cX4_wave 46 = .ok (.goto 4, 3) := by decide +kernel
theorem dX4_wave_49 : decode cX4_wave 49 = .ok (.iconst 0, 1) := by decide +kernel
theorem dX4_wave_50 : decode cX4_wave 50 = .ok (.putfield 65, 3) := by decide +kernel
theorem dX4_wave_53 : decode cX4_wave 53 = .ok (.aload_n 0, 1) := by decide +kernel
theorem dX4_wave_54 : decode cX4_wave 54 = .ok (.getfield 65, 3) := by decide +kernel
theorem dX4_wave_57 : decode cX4_wave 57 = .ok (.ifCond .le 7, 3) := by decide +kernel
theorem dX4_wave_60 : decode cX4_wave 60 = .ok (.iconst 0, 1) := by decide +kernel
theorem dX4_wave_61 : decode cX4_wave 61 = .ok (.goto 15, 3) := by decide +kernel
theorem dX4_wave_64 : decode cX4_wave 64 = .ok (.aload_n 0, 1) := by decide +kernel
theorem dX4_wave_65 : decode cX4_wave 65 = .ok (.getfield 51, 3) := by decide +kernel
theorem dX4_wave_68 : decode cX4_wave 68 = .ok (.bipush 13, 2) := by decide +kernel
theorem dX4_wave_70 : decode cX4_wave 70 = .ok (.iload_n 1, 1) := by decide +kernel
theorem dX4_wave_71 : decode cX4_wave 71 = .ok (.imul, 1) := by decide +kernel
theorem dX4_wave_72 : decode cX4_wave 72 = .ok (.iload_n 2, 1) := by decide +kernel
theorem dX4_wave_73 : decode cX4_wave 73 = .ok (.iadd, 1) := by decide +kernel
theorem dX4_wave_74 : decode cX4_wave 74 = .ok (.laload, 1) := by decide +kernel
theorem dX4_wave_75 : decode cX4_wave 75 = .ok (.l2i, 1) := by decide +kernel
theorem dX4_wave_76 : decode cX4_wave 76 = .ok (.ireturn, 1) := by decide +kernel
theorem dJ9_floorDiv_7cf53_0 : decode cJ9_floorDiv_7cf53 0 = .ok (.iload_n 0, 1) := by decide +kernel
theorem dJ9_floorDiv_7cf53_1 : decode cJ9_floorDiv_7cf53 1 = .ok (.iload_n 1, 1) := by decide +kernel
theorem dJ9_floorDiv_7cf53_2 : decode cJ9_floorDiv_7cf53 2 = .ok (.idiv, 1) := by decide +kernel
theorem dJ9_floorDiv_7cf53_3 : decode cJ9_floorDiv_7cf53 3 = .ok (.istore_n 2, 1) := by decide +kernel
theorem dJ9_floorDiv_7cf53_4 : decode cJ9_floorDiv_7cf53 4 = .ok (.iload_n 0, 1) := by decide +kernel
theorem dJ9_floorDiv_7cf53_5 : decode cJ9_floorDiv_7cf53 5 = .ok (.iload_n 1, 1) := by decide +kernel
theorem dJ9_floorDiv_7cf53_6 : decode cJ9_floorDiv_7cf53 6 = .ok (.ixor, 1) := by decide +kernel
theorem dJ9_floorDiv_7cf53_7 : decode cJ9_floorDiv_7cf53 7 = .ok (.ifCond .ge 14, 3) := by decide +kernel
theorem dJ9_floorDiv_7cf53_10 : decode cJ9_floorDiv_7cf53 10 = .ok (.iload_n 2, 1) := by decide +kernel
theorem dJ9_floorDiv_7cf53_11 : decode cJ9_floorDiv_7cf53 11 = .ok (.iload_n 1, 1) := by decide +kernel
theorem dJ9_floorDiv_7cf53_12 : decode cJ9_floorDiv_7cf53 12 = .ok (.imul, 1) := by decide +kernel
theorem dJ9_floorDiv_7cf53_13 : decode cJ9_floorDiv_7cf53 13 = .ok (.iload_n 0, 1) := by decide +kernel
theorem dJ9_floorDiv_7cf53_14 : decode cJ9_floorDiv_7cf53 14 = .ok (.if_icmp .eq 7, 3) := by decide +kernel
theorem dJ9_floorDiv_7cf53_17 : decode cJ9_floorDiv_7cf53 17 = .ok (.iload_n 2, 1) := by decide +kernel
theorem dJ9_floorDiv_7cf53_18 : decode cJ9_floorDiv_7cf53 18 = .ok (.iconst 1, 1) := by decide +kernel
theorem dJ9_floorDiv_7cf53_19 : decode cJ9_floorDiv_7cf53 19 = .ok (.isub, 1) := by decide +kernel
theorem dJ9_floorDiv_7cf53_20 : decode cJ9_floorDiv_7cf53 20 = .ok (.ireturn, 1) := by decide +kernel
theorem dJ9_floorDiv_7cf53_21 : decode cJ9_floorDiv_7cf53 21 = .ok (.iload_n 2, 1) := by decide +kernel
theorem dJ9_floorDiv_7cf53_22 : decode cJ9_floorDiv_7cf53 22 = .ok (.ireturn, 1) := by decide +kernel
theorem dJ9_max_7cf53_0 : decode cJ9_max_7cf53 0 = .ok (.iload_n 0, 1) := by decide +kernel
theorem dJ9_max_7cf53_1 : decode cJ9_max_7cf53 1 = .ok (.iload_n 1, 1) := by decide +kernel
theorem dJ9_max_7cf53_2 : decode cJ9_max_7cf53 2 = .ok (.if_icmp .lt 7, 3) := by decide +kernel
theorem dJ9_max_7cf53_5 : decode cJ9_max_7cf53 5 = .ok (.iload_n 0, 1) := by decide +kernel
theorem dJ9_max_7cf53_6 : decode cJ9_max_7cf53 6 = .ok (.goto 4, 3) := by decide +kernel
theorem dJ9_max_7cf53_9 : decode cJ9_max_7cf53 9 = .ok (.iload_n 1, 1) := by decide +kernel
theorem dJ9_max_7cf53_10 : decode cJ9_max_7cf53 10 = .ok (.ireturn, 1) := by decide +kernel
theorem dJ9_max_f86c9_0 : decode cJ9_max_f86c9 0 = .ok (.lload_n 0, 1) := by decide +kernel
theorem dJ9_max_f86c9_1 : decode cJ9_max_f86c9 1 = .ok (.lload_n 2, 1) := by decide +kernel
theorem dJ9_max_f86c9_2 : decode cJ9_max_f86c9 2 = .ok (.lcmp, 1) := by decide +kernel
theorem dJ9_max_f86c9_3 : decode cJ9_max_f86c9 3 = .ok (.ifCond .lt 7, 3) := by decide +kernel
theorem dJ9_max_f86c9_6 : decode cJ9_max_f86c9 6 = .ok (.lload_n 0, 1) := by decide +kernel
theorem dJ9_max_f86c9_7 : decode cJ9_max_f86c9 7 = .ok (.goto 4, 3) := by decide +kernel
theorem dJ9_max_f86c9_10 : decode cJ9_max_f86c9 10 = .ok (.lload_n 2, 1) := by decide +kernel
theorem dJ9_max_f86c9_11 : decode cJ9_max_f86c9 11 = .ok (.lreturn, 1) := by decide +kernel
theorem dJ7_fill_d0a16_0 : decode cJ7_fill_d0a16 0 = .ok (.iconst 0, 1) := by decide +kernel
theorem dJ7_fill_d0a16_1 : decode cJ7_fill_d0a16 1 = .ok (.istore_n 3, 1) := by decide +kernel
theorem dJ7_fill_d0a16_2 : decode cJ7_fill_d0a16 2 = .ok (.aload_n 0, 1) := by decide +kernel
theorem dJ7_fill_d0a16_3 : decode cJ7_fill_d0a16 3 = .ok (.arraylength, 1) := by decide +kernel
theorem dJ7_fill_d0a16_4 : decode cJ7_fill_d0a16 4 = .ok (.istore 4, 2) := by decide +kernel
theorem dJ7_fill_d0a16_6 : decode cJ7_fill_d0a16 6 = .ok (.iload_n 3, 1) := by decide +kernel
theorem dJ7_fill_d0a16_7 : decode cJ7_fill_d0a16 7 = .ok (.iload 4, 2) := by decide +kernel
theorem dJ7_fill_d0a16_9 : decode cJ7_fill_d0a16 9 = .ok (.if_icmp .ge 13, 3) := by decide +kernel
theorem dJ7_fill_d0a16_12 : decode cJ7_fill_d0a16 12 = .ok (.aload_n 0, 1) := by decide +kernel
theorem dJ7_fill_d0a16_13 : decode cJ7_fill_d0a16 13 = .ok (.iload_n 3, 1) := by decide +kernel
theorem dJ7_fill_d0a16_14 : decode cJ7_fill_d0a16 14 = .ok (.lload_n 1, 1) := by decide +kernel
theorem dJ7_fill_d0a16_15 : decode cJ7_fill_d0a16 15 = .ok (.lastore, 1) := by decide +kernel
theorem dJ7_fill_d0a16_16 : decode cJ7_fill_d0a16 16 = .ok (.iinc 3 1, 3) := by decide +kernel
theorem dJ7_fill_d0a16_19 : decode cJ7_fill_d0a16 19 = .ok (.goto (-13), 3) := by decide +kernel
theorem dJ7_fill_d0a16_22 : decode cJ7_fill_d0a16 22 = .ok (.return_, 1) := by decide +kernel
theorem dJ7_fill_53178_0 : decode cJ7_fill_53178 0 = .ok (.iconst 0, 1) := by decide +kernel
theorem dJ7_fill_53178_1 : decode cJ7_fill_53178 1 = .ok (.istore_n 2, 1) := by decide +kernel
theorem dJ7_fill_53178_2 : decode cJ7_fill_53178 2 = .ok (.aload_n 0, 1) := by decide +kernel
theorem dJ7_fill_53178_3 : decode cJ7_fill_53178 3 = .ok (.arraylength, 1) := by decide +kernel
theorem dJ7_fill_53178_4 : decode cJ7_fill_53178 4 = .ok (.istore_n 3, 1) := by decide +kernel
theorem dJ7_fill_53178_5 : decode cJ7_fill_53178 5 = .ok (.iload_n 2, 1) := by decide +kernel
theorem dJ7_fill_53178_6 : decode cJ7_fill_53178 6 = .ok (.iload_n 3, 1) := by decide +kernel
theorem dJ7_fill_53178_7 : decode cJ7_fill_53178 7 = .ok (.if_icmp .ge 13, 3) := by decide +kernel
theorem dJ7_fill_53178_10 : decode cJ7_fill_53178 10 = .ok (.aload_n 0, 1) := by decide +kernel
theorem dJ7_fill_53178_11 : decode cJ7_fill_53178 11 = .ok (.iload_n 2, 1) := by decide +kernel
theorem dJ7_fill_53178_12 : decode cJ7_fill_53178 12 = .ok (.iload_n 1, 1) := by decide +kernel
theorem dJ7_fill_53178_13 : decode cJ7_fill_53178 13 = .ok (.iastore, 1) := by decide +kernel
theorem dJ7_fill_53178_14 : decode cJ7_fill_53178 14 = .ok (.iinc 2 1, 3) := by decide +kernel
theorem dJ7_fill_53178_17 : decode cJ7_fill_53178 17 = .ok (.goto (-12), 3) := by decide +kernel
theorem dJ7_fill_53178_20 : decode cJ7_fill_53178 20 = .ok (.return_, 1) := by decide +kernel
set_option maxRecDepth 20000 in
theorem ggL_pile_X3_pile : GoodIn wsL_pile wsX3_pile := goodIn_ca (goodIn_ca (goodIn_r _ [7, 8, 9, 10, 11, 12, 13, 14, 15, 16, 17, 6, 18, 19, 20, 21, 22, 23, 24, 25, 26, 27, 28, 29, 30, 31, 32, 33, 34, 35, 36, 37, 38, 39, 40, 41, 42, 43, 44, 45, 46] (by decide +kernel) (by decide +kernel)) (goodIn_sub (fun _ h => List.mem_cons_of_mem _ (List.mem_append_left _ (List.mem_append_right _ h))) (by decide +kernel))) (goodIn_sub (fun _ h => List.mem_cons_of_mem _ (List.mem_append_right _ h)) (by decide +kernel))
set_option maxRecDepth 20000 in
theorem gL_pile_X3_pile : GoodIn wsL_pile (wsV RL 7 RX3 yX3_pile wsX3_pile) := goodIn_app (goodIn_of _ (by decide +kernel)) ggL_pile_X3_pile
end
section
theorem dX0_init_0 : decode cX0_init 0 = .ok (.aload_n 0, 1) := by decide +kernel
theorem dX0_init_1 : decode cX0_init 1 = .ok (.invokespecial 3, 3) := by decide +kernel
theorem dX0_init_4 : decode cX0_init 4 = .ok (.aload_n 0, 1) := by decide +kernel
theorem dX0_init_5 : decode cX0_init 5 = .ok (.bipush 13, 2) := by decide +kernel
theorem dX0_init_7 : decode cX0_init 7 = .ok (.newarray .int, 2) := by decide +kernel
theorem dX0_init_9 : decode cX0_init 9 = .ok (.putfield 11, 3) := by decide +kernel
theorem dX0_init_12 : decode cX0_init 12 = .ok (.aload_n 0, 1) := by decide +kernel
theorem dX0_init_13 : decode cX0_init 13 = .ok (.bipush 13, 2) := by decide +kernel
theorem dX0_init_15 : decode cX0_init 15 = .ok (.newarray .int, 2) := by decide +kernel
theorem dX0_init_17 : decode cX0_init 17 = .ok (.putfield 15, 3) := by decide +kernel
theorem dX0_init_20 : decode cX0_init 20 = .ok (.aload_n 0, 1) := by decide +kernel
theorem dX0_init_21 : decode cX0_init 21 = .ok (.bipush 13, 2) := by decide +kernel
theorem dX0_init_23 : decode cX0_init 23 = .ok (.newarray .long, 2) := by decide +kernel
theorem dX0_init_25 : decode cX0_init 25 = .ok (.putfield 18, 3) := by decide +kernel
theorem dX0_init_28 : decode cX0_init 28 = .ok (.aload_n 0, 1) := by decide +kernel
theorem dX0_init_29 : decode cX0_init 29 = .ok (.sipush 2600, 3) := by decide +kernel
theorem dX0_init_32 : decode cX0_init 32 = .ok (.newarray .int, 2) := by decide +kernel
theorem dX0_init_34 : decode cX0_init 34 = .ok (.putfield 22, 3) := by decide +kernel
theorem dX0_init_37 : decode cX0_init 37 = .ok (.return_, 1) := by decide +kernel
theorem dX0_happened_0 : decode cX0_happened 0 = .ok (.aload_n 0, 1) := by decide +kernel
theorem dX0_happened_1 : decode cX0_happened 1 = .ok (.getfield 25, 3) := by decide +kernel
theorem dX0_happened_4 : decode cX0_happened 4 = .ok (.ifCond .le 7, 3) := by decide +kernel
theorem dX0_happened_7 : decode cX0_happened 7 = .ok (.iconst 1, 1) := by decide +kernel
theorem dX0_happened_8 : decode cX0_happened 8 = .ok (.goto 4, 3) := by decide +kernel
theorem dX0_happened_11 : decode cX0_happened 11 = .ok (.iconst 0, 1) := by decide +kernel
theorem dX0_happened_12 : decode cX0_happened 12 = .ok (.ireturn, 1) := by decide +kernel
theorem dX0_behindRound_0 : decode cX0_behindRound 0 = .ok (.iload_n 1, 1) := by decide +kernel
theorem dX0_behindRound_1 : decode cX0_behindRound 1 = .ok (.bipush 13, 2) := by decide +kernel
theorem dX0_behindRound_3 : decode cX0_behindRound 3 = .ok (.imul, 1) := by decide +kernel
theorem dX0_behindRound_4 : decode cX0_behindRound 4 = .ok (.iload_n 2, 1) := by decide +kernel
theorem dX0_behindRound_5 : decode cX0_behindRound 5 = .ok (.iadd, 1) := by decide +kernel
theorem dX0_behindRound_6 : decode cX0_behindRound 6 = .ok (.istore_n 3, 1) := by decide +kernel
theorem dX0_behindRound_7 : decode cX0_behindRound 7 = .ok (.iload_n 3, 1) := by decide +kernel
theorem dX0_behindRound_8 : decode cX0_behindRound 8 = .ok (.ifCond .lt 12, 3) := by decide +kernel
theorem dX0_behindRound_11 : decode cX0_behindRound 11 = .ok (.iload_n 3, 1) := by decide +kernel
theorem dX0_behindRound_12 : decode cX0_behindRound 12 = .ok (.aload_n 0, 1) := by decide +kernel
theorem dX0_behindRound_13 : decode cX0_behindRound 13 = .ok (.getfield 22, 3) := by decide +kernel
theorem dX0_behindRound_16 : decode cX0_behindRound 16 = .ok (.arraylength, 1) := by decide +kernel
theorem dX0_behindRound_17 : decode cX0_behindRound 17 = .ok (.if_icmp .lt 8, 3) := by decide +kernel
theorem dX0_behindRound_20 : decode cX0_behindRound 20 = .ok (.ldc 29, 2) := by decide +kernel
theorem dX0_behindRound_22 : decode cX0_behindRound 22 = .ok (.goto 9, 3) := by decide +kernel
theorem dX0_behindRound_25 : decode cX0_behindRound 25 = .ok (.aload_n 0, 1) := by decide +kernel
theorem dX0_behindRound_26 : decode cX0_behindRound 26 = .ok (.getfield 22, 3) := by decide +kernel
theorem dX0_behindRound_29 : decode cX0_behindRound 29 = .ok (.iload_n 3, 1) := by decide +kernel
theorem dX0_behindRound_30 : decode cX0_behindRound 30 = .ok (.iaload, 1) := by decide +kernel
theorem dX0_behindRound_31 : decode cX0_behindRound 31 = .ok (.ireturn, 1) := by decide +kernel
set_option maxRecDepth 20000 in
theorem ggX0_settled_X1_quake : GoodIn wsX0_settled wsX1_quake := goodIn_r _ [10, 11, 12, 13, 20, 21, 22, 23, 24, 25, 26, 27, 28] (by decide +kernel) (by decide +kernel)
set_option maxRecDepth 20000 in
theorem gX0_settled_X1_quake : GoodIn wsX0_settled (wsV RX0 33 RX1 yX1_quake wsX1_quake) := goodIn_app (goodIn_of _ (by decide +kernel)) ggX0_settled_X1_quake
theorem dX0_settled_0 : decode cX0_settled 0 = .ok (.lconst 0, 1) := by decide +kernel
theorem dX0_settled_1 : decode cX0_settled 1 = .ok (.aload_n 0, 1) := by decide +kernel
theorem dX0_settled_2 : decode cX0_settled 2 = .ok (.getfield 30, 3) := by decide +kernel
theorem dX0_settled_5 : decode cX0_settled 5 = .ok (.i2l, 1) := by decide +kernel
theorem dX0_settled_6 : decode cX0_settled 6 = .ok (.aload_n 1, 1) := by decide +kernel
theorem dX0_settled_7 : decode cX0_settled 7 = .ok (.invokevirtual 33, 3) := by decide +kernel
theorem dX0_settled_10 : decode cX0_settled 10 = .ok (.lsub, 1) := by decide +kernel
theorem dX0_settled_11 : decode cX0_settled 11 = .ok (.invokestatic 39, 3) := by decide +kernel
theorem dX0_settled_14 : decode cX0_settled 14 = .ok (.l2i, 1) := by decide +kernel
theorem dX0_settled_15 : decode cX0_settled 15 = .ok (.ireturn, 1) := by decide +kernel
set_option maxRecDepth 20000 in
theorem ggX0_strike_X1_pieces : GoodIn wsX0_strike wsX1_pieces := goodIn_r _ [19, 20, 63, 64, 65, 66, 67, 68, 69, 70, 71] (by decide +kernel) (by decide +kernel)
set_option maxRecDepth 20000 in
theorem gX0_strike_X1_pieces : GoodIn wsX0_strike (wsV RX0 45 RX1 yX1_pieces wsX1_pieces) := goodIn_app (goodIn_of _ (by decide +kernel)) ggX0_strike_X1_pieces
set_option maxRecDepth 20000 in
theorem ggX0_strike_J7_fill_53178 : GoodIn wsX0_strike wsJ7_fill_53178 := goodIn_r _ [24] (by decide +kernel) (by decide +kernel)
set_option maxRecDepth 20000 in
theorem gX0_strike_J7_fill_53178 : GoodIn wsX0_strike (va_wsS RX0 48 yJ7_fill_53178 wsJ7_fill_53178) := goodIn_app (goodIn_of _ (by decide +kernel)) ggX0_strike_J7_fill_53178
set_option maxRecDepth 20000 in
theorem ggX0_strike_X0_gatherPushes : GoodIn wsX0_strike wsX0_gatherPushes := goodIn_r _ [29, 30, 1, 31, 3, 32, 33, 8, 34, 35, 36, 37, 38, 39, 40, 41, 42, 23, 43, 44, 45, 46, 28, 47, 48, 49, 50, 57, 58, 59, 60, 61, 62, 63, 64, 65, 66, 67, 68, 69, 70, 71] (by decide +kernel) (by decide +kernel)
set_option maxRecDepth 20000 in
theorem gX0_strike_X0_gatherPushes : GoodIn wsX0_strike (wsV RX0 54 RX0 yX0_gatherPushes wsX0_gatherPushes) := goodIn_app (goodIn_of _ (by decide +kernel)) ggX0_strike_X0_gatherPushes
set_option maxRecDepth 20000 in
theorem ggX0_strike_X0_move : GoodIn wsX0_strike wsX0_move := goodIn_r _ [54, 36, 30, 4, 55, 56, 3, 48, 49, 50, 57, 58, 59, 60, 61, 62] (by decide +kernel) (by decide +kernel)
set_option maxRecDepth 20000 in
theorem gX0_strike_X0_move : GoodIn wsX0_strike (wsV RX0 61 RX0 yX0_move wsX0_move) := goodIn_app (goodIn_of _ (by decide +kernel)) ggX0_strike_X0_move
theorem dX0_strike_0 : decode cX0_strike 0 = .ok (.aload_n 1, 1) := by decide +kernel
theorem dX0_strike_1 : decode cX0_strike 1 = .ok (.invokevirtual 45, 3) := by decide +kernel
theorem dX0_strike_4 : decode cX0_strike 4 = .ok (.istore 4, 2) := by decide +kernel
theorem dX0_strike_6 : decode cX0_strike 6 = .ok (.iload 4, 2) := by decide +kernel
theorem dX0_strike_8 : decode cX0_strike 8 = .ok (.iconst 1, 1) := by decide +kernel
theorem dX0_strike_9 : decode cX0_strike 9 = .ok (.if_icmp .lt 10, 3) := by decide +kernel
theorem dX0_strike_12 : decode cX0_strike 12 = .ok (.iload 4, 2) := by decide +kernel
theorem dX0_strike_14 : decode cX0_strike 14 = .ok (.bipush 13, 2) := by decide +kernel
theorem dX0_strike_16 : decode cX0_strike 16 = .ok (.if_icmp .lt 4, 3) := by decide +kernel
theorem dX0_strike_19 : decode cX0_strike 19 = .ok (.return_, 1) := by decide +kernel
theorem dX0_strike_20 : decode cX0_strike 20 = .ok (.aload_n 0, 1) := by decide +kernel
theorem dX0_strike_21 : decode cX0_strike 21 = .ok (.iload 4, 2) := by decide +kernel
theorem dX0_strike_23 : decode cX0_strike 23 = .ok (.putfield 25, 3) := by decide +kernel
theorem dX0_strike_26 : decode cX0_strike 26 = .ok (.aload_n 0, 1) := by decide +kernel
theorem dX0_strike_27 : decode cX0_strike 27 = .ok (.iconst 0, 1) := by decide +kernel
theorem dX0_strike_28 : decode cX0_strike 28 = .ok (.putfield 30, 3) := by decide +kernel
theorem dX0_strike_31 : decode cX0_strike 31 = .ok (.aload_n 0, 1) := by decide +kernel
theorem dX0_strike_32 : decode cX0_strike 32 = .ok (.getfield 11, 3) := by decide +kernel
theorem dX0_strike_35 : decode cX0_strike 35 = .ok (.iconst 0, 1) := by decide +kernel
theorem dX0_strike_36 : decode cX0_strike 36 = .ok (.invokestatic 48, 3) := by decide +kernel
theorem dX0_strike_39 : decode cX0_strike 39 = .ok (.aload_n 0, 1) := by decide +kernel
theorem dX0_strike_40 : decode cX0_strike 40 = .ok (.getfield 15, 3) := by decide +kernel
theorem dX0_strike_43 : decode cX0_strike 43 = .ok (.iconst 0, 1) := by decide +kernel
theorem dX0_strike_44 : decode cX0_strike 44 = .ok (.invokestatic 48, 3) := by decide +kernel
theorem dX0_strike_47 : decode cX0_strike 47 = .ok (.aload_n 0, 1) := by decide +kernel
theorem dX0_strike_48 : decode cX0_strike 48 = .ok (.getfield 15, 3) := by decide +kernel
theorem dX0_strike_51 : decode cX0_strike 51 = .ok (.aload_n 0, 1) := by decide +kernel
theorem dX0_strike_52 : decode cX0_strike 52 = .ok (.getfield 25, 3) := by decide +kernel
theorem dX0_strike_55 : decode cX0_strike 55 = .ok (.sipush 1000, 3) := by decide +kernel
theorem dX0_strike_58 : decode cX0_strike 58 = .ok (.iload_n 3, 1) := by decide +kernel
theorem dX0_strike_59 : decode cX0_strike 59 = .ok (.imul, 1) := by decide +kernel
theorem dX0_strike_60 : decode cX0_strike 60 = .ok (.iastore, 1) := by decide +kernel
theorem dX0_strike_61 : decode cX0_strike 61 = .ok (.iconst 0, 1) := by decide +kernel
theorem dX0_strike_62 : decode cX0_strike 62 = .ok (.istore 5, 2) := by decide +kernel
theorem dX0_strike_64 : decode cX0_strike 64 = .ok (.iload 5, 2) := by decide +kernel
theorem dX0_strike_66 : decode cX0_strike 66 = .ok (.sipush 200, 3) := by decide +kernel
theorem dX0_strike_69 : decode cX0_strike 69 = .ok (.if_icmp .ge 96, 3) := by decide +kernel
theorem dX0_strike_72 : decode cX0_strike 72 = .ok (.aload_n 0, 1) := by decide +kernel
theorem dX0_strike_73 : decode cX0_strike 73 = .ok (.aload_n 1, 1) := by decide +kernel
theorem dX0_strike_74 : decode cX0_strike 74 = .ok (.invokevirtual 54, 3) := by decide +kernel
theorem dX0_strike_77 : decode cX0_strike 77 = .ok (.iconst 0, 1) := by decide +kernel
theorem dX0_strike_78 : decode cX0_strike 78 = .ok (.istore 6, 2) := by decide +kernel
theorem dX0_strike_80 : decode cX0_strike 80 = .ok (.iload 6, 2) := by decide +kernel
theorem dX0_strike_82 : decode cX0_strike 82 = .ok (.aload_n 0, 1) := by decide +kernel
theorem dX0_strike_83 : decode cX0_strike 83 = .ok (.getfield 25, 3) := by decide +kernel
theorem dX0_strike_86 : decode cX0_strike 86 = .ok (.if_icmp .gt 32, 3) := by decide +kernel
theorem dX0_strike_89 : decode cX0_strike 89 = .ok (.aload_n 0, 1) := by decide +kernel
theorem dX0_strike_90 : decode cX0_strike 90 = .ok (.iload 6, 2) := by decide +kernel
theorem dX0_strike_92 : decode cX0_strike 92 = .ok (.iload 6, 2) := by decide +kernel
theorem dX0_strike_94 : decode cX0_strike 94 = .ok (.aload_n 0, 1) := by decide +kernel
theorem dX0_strike_95 : decode cX0_strike 95 = .ok (.getfield 25, 3) := by decide +kernel
theorem dX0_strike_98 : decode cX0_strike 98 = .ok (.if_icmp .ge 10, 3) := by decide +kernel
theorem dX0_strike_101 : decode cX0_strike 101 = .ok (.aload_n 1, 1) := by decide +kernel
theorem dX0_strike_102 : decode cX0_strike 102 = .ok (.getfield 58, 3) := by decide +kernel
theorem dX0_strike_105 : decode cX0_strike 105 = .ok (.goto 4, 3) := by decide +kernel
theorem dX0_strike_108 : decode cX0_strike 108 = .ok (.iload_n 2, 1) := by decide +kernel
theorem dX0_strike_109 : decode cX0_strike 109 = .ok (.invokevirtual 61, 3) := by decide +kernel
theorem dX0_strike_112 : decode cX0_strike 112 = .ok (.iinc 6 1, 3) := by decide +kernel
theorem dX0_strike_115 : decode cX0_strike 115 = .ok (.goto (-35), 3) := by decide +kernel
theorem dX0_strike_118 : decode cX0_strike 118 = .ok (.aload_n 0, 1) := by decide +kernel
theorem dX0_strike_119 : decode cX0_strike 119 = .ok (.aload_n 0, 1) := by decide +kernel
theorem dX0_strike_120 : decode cX0_strike 120 = .ok (.getfield 30, 3) := by decide +kernel
theorem dX0_strike_123 : decode cX0_strike 123 = .ok (.aload_n 0, 1) := by decide +kernel
theorem dX0_strike_124 : decode cX0_strike 124 = .ok (.getfield 11, 3) := by decide +kernel
theorem dX0_strike_127 : decode cX0_strike 127 = .ok (.aload_n 0, 1) := by decide +kernel
theorem dX0_strike_128 : decode cX0_strike 128 = .ok (.getfield 25, 3) := by decide +kernel
theorem dX0_strike_131 : decode cX0_strike 131 = .ok (.iconst 1, 1) := by decide +kernel
theorem dX0_strike_132 : decode cX0_strike 132 = .ok (.isub, 1) := by decide +kernel
theorem dX0_strike_133 : decode cX0_strike 133 = .ok (.iaload, 1) := by decide +kernel
theorem dX0_strike_134 : decode cX0_strike 134 = .ok (.invokestatic 65, 3) := by decide +kernel
theorem dX0_strike_137 : decode cX0_strike 137 = .ok (.putfield 30, 3) := by decide +kernel
theorem dX0_strike_140 : decode cX0_strike 140 = .ok (.aload_n 0, 1) := by decide +kernel
theorem dX0_strike_141 : decode cX0_strike 141 = .ok (.getfield 11, 3) := by decide +kernel
theorem dX0_strike_144 : decode cX0_strike 144 = .ok (.iconst 0, 1) := by decide +kernel
theorem dX0_strike_145 : decode cX0_strike 145 = .ok (.aload_n 0, 1) := by decide +kernel
theorem dX0_strike_146 : decode cX0_strike 146 = .ok (.getfield 22, 3) := by decide +kernel
theorem dX0_strike_149 : decode cX0_strike 149 = .ok (.iload 5, 2) := by decide +kernel
theorem dX0_strike_151 : decode cX0_strike 151 = .ok (.bipush 13, 2) := by decide +kernel
theorem dX0_strike_153 : decode cX0_strike 153 = .ok (.imul, 1) := by decide +kernel
theorem dX0_strike_154 : decode cX0_strike 154 = .ok (.bipush 13, 2) := by decide +kernel
theorem dX0_strike_156 : decode cX0_strike 156 = .ok (.invokestatic 68, 3) := by decide +kernel
theorem dX0_strike_159 : decode cX0_strike 159 = .ok (.iinc 5 1, 3) := by decide +kernel
theorem dX0_strike_162 : decode cX0_strike 162 = .ok (.goto (-98), 3) := by decide +kernel
theorem dX0_strike_165 : decode cX0_strike 165 = .ok (.return_, 1) := by decide +kernel
set_option maxRecDepth 20000 in
theorem ggX0_gatherPushes_J7_fill_d0a16 : GoodIn wsX0_gatherPushes wsJ7_fill_d0a16 := goodIn_r _ [18] (by decide +kernel) (by decide +kernel)
set_option maxRecDepth 20000 in
theorem gX0_gatherPushes_J7_fill_d0a16 : GoodIn wsX0_gatherPushes (va_wsS RX0 74 yJ7_fill_d0a16 wsJ7_fill_d0a16) := goodIn_app (goodIn_of _ (by decide +kernel)) ggX0_gatherPushes_J7_fill_d0a16
set_option maxRecDepth 20000 in
theorem ggX0_gatherPushes_X0_press : GoodIn wsX0_gatherPushes wsX0_press := goodIn_r _ [23, 1, 27, 28, 29, 30, 31, 32] (by decide +kernel) (by decide +kernel)
set_option maxRecDepth 20000 in
theorem gX0_gatherPushes_X0_press : GoodIn wsX0_gatherPushes (wsV RX0 79 RX0 yX0_press wsX0_press) := goodIn_app (goodIn_of _ (by decide +kernel)) ggX0_gatherPushes_X0_press
set_option maxRecDepth 20000 in
theorem ggX0_gatherPushes_X3_clamp : GoodIn wsX0_gatherPushes wsX3_clamp := goodIn_r _ [26] (by decide +kernel) (by decide +kernel)
set_option maxRecDepth 20000 in
theorem gX0_gatherPushes_X3_clamp_n94 : GoodIn wsX0_gatherPushes (wsX3_clamp) := ggX0_gatherPushes_X3_clamp
theorem dX0_gatherPushes_0 : decode cX0_gatherPushes 0 = .ok (.aload_n 0, 1) := by decide +kernel
theorem dX0_gatherPushes_1 : decode cX0_gatherPushes 1 = .ok (.getfield 18, 3) := by decide +kernel
theorem dX0_gatherPushes_4 : decode cX0_gatherPushes 4 = .ok (.lconst 0, 1) := by decide +kernel
theorem dX0_gatherPushes_5 : decode cX0_gatherPushes 5 = .ok (.invokestatic 74, 3) := by decide +kernel
theorem dX0_gatherPushes_8 : decode cX0_gatherPushes 8 = .ok (.aload_n 0, 1) := by decide +kernel
theorem dX0_gatherPushes_9 : decode cX0_gatherPushes 9 = .ok (.aload_n 0, 1) := by decide +kernel
theorem dX0_gatherPushes_10 : decode cX0_gatherPushes 10 = .ok (.getfield 25, 3) := by decide +kernel
theorem dX0_gatherPushes_13 : decode cX0_gatherPushes 13 = .ok (.iconst 0, 1) := by decide +kernel
theorem dX0_gatherPushes_14 : decode cX0_gatherPushes 14 = .ok (.lconst 0, 1) := by decide +kernel
theorem dX0_gatherPushes_15 : decode cX0_gatherPushes 15 = .ok (.ldc2_w 77, 3) := by decide +kernel
theorem dX0_gatherPushes_18 : decode cX0_gatherPushes 18 = .ok (.aload_n 0, 1) := by decide +kernel
theorem dX0_gatherPushes_19 : decode cX0_gatherPushes 19 = .ok (.getfield 11, 3) := by decide +kernel
theorem dX0_gatherPushes_22 : decode cX0_gatherPushes 22 = .ok (.aload_n 0, 1) := by decide +kernel
theorem dX0_gatherPushes_23 : decode cX0_gatherPushes 23 = .ok (.getfield 25, 3) := by decide +kernel
theorem dX0_gatherPushes_26 : decode cX0_gatherPushes 26 = .ok (.iaload, 1) := by decide +kernel
theorem dX0_gatherPushes_27 : decode cX0_gatherPushes 27 = .ok (.aload_n 0, 1) := by decide +kernel
theorem dX0_gatherPushes_28 : decode cX0_gatherPushes 28 = .ok (.getfield 11, 3) := by decide +kernel
theorem dX0_gatherPushes_31 : decode cX0_gatherPushes 31 = .ok (.iconst 0, 1) := by decide +kernel
theorem dX0_gatherPushes_32 : decode cX0_gatherPushes 32 = .ok (.iaload, 1) := by decide +kernel
theorem dX0_gatherPushes_33 : decode cX0_gatherPushes 33 = .ok (.isub, 1) := by decide +kernel
theorem dX0_gatherPushes_34 : decode cX0_gatherPushes 34 = .ok (.i2l, 1) := by decide +kernel
theorem dX0_gatherPushes_35 : decode cX0_gatherPushes 35 = .ok (.lmul, 1) := by decide +kernel
theorem dX0_gatherPushes_36 : decode cX0_gatherPushes 36 = .ok (.invokestatic 39, 3) := by decide +kernel
theorem dX0_gatherPushes_39 : decode cX0_gatherPushes 39 = .ok (.invokevirtual 79, 3) := by decide +kernel
theorem dX0_gatherPushes_42 : decode cX0_gatherPushes 42 = .ok (.iconst 0, 1) := by decide +kernel
theorem dX0_gatherPushes_43 : decode cX0_gatherPushes 43 = .ok (.istore_n 2, 1) := by decide +kernel
theorem dX0_gatherPushes_44 : decode cX0_gatherPushes 44 = .ok (.iload_n 2, 1) := by decide +kernel
theorem dX0_gatherPushes_45 : decode cX0_gatherPushes 45 = .ok (.iconst 1, 1) := by decide +kernel
theorem dX0_gatherPushes_46 : decode cX0_gatherPushes 46 = .ok (.iadd, 1) := by decide +kernel
theorem dX0_gatherPushes_47 : decode cX0_gatherPushes 47 = .ok (.aload_n 0, 1) := by decide +kernel
theorem dX0_gatherPushes_48 : decode cX0_gatherPushes 48 = .ok (.getfield 25, 3) := by decide +kernel
theorem dX0_gatherPushes_51 : decode cX0_gatherPushes 51 = .ok (.if_icmp .ge 43, 3) := by decide +kernel
theorem dX0_gatherPushes_54 : decode cX0_gatherPushes 54 = .ok (.aload_n 0, 1) := by decide +kernel
theorem dX0_gatherPushes_55 : decode cX0_gatherPushes 55 = .ok (.iload_n 2, 1) := by decide +kernel
theorem dX0_gatherPushes_56 : decode cX0_gatherPushes 56 = .ok (.iload_n 2, 1) := by decide +kernel
theorem dX0_gatherPushes_57 : decode cX0_gatherPushes 57 = .ok (.iconst 1, 1) := by decide +kernel
theorem dX0_gatherPushes_58 : decode cX0_gatherPushes 58 = .ok (.iadd, 1) := by decide +kernel
theorem dX0_gatherPushes_59 : decode cX0_gatherPushes 59 = .ok (.aload_n 1, 1) := by decide +kernel
theorem dX0_gatherPushes_60 : decode cX0_gatherPushes 60 = .ok (.getfield 83, 3) := by decide +kernel
theorem dX0_gatherPushes_63 : decode cX0_gatherPushes 63 = .ok (.i2l, 1) := by decide +kernel
theorem dX0_gatherPushes_64 : decode cX0_gatherPushes 64 = .ok (.aload_n 0, 1) := by decide +kernel
theorem dX0_gatherPushes_65 : decode cX0_gatherPushes 65 = .ok (.getfield 11, 3) := by decide +kernel
theorem dX0_gatherPushes_68 : decode cX0_gatherPushes 68 = .ok (.iload_n 2, 1) := by decide +kernel
theorem dX0_gatherPushes_69 : decode cX0_gatherPushes 69 = .ok (.iaload, 1) := by decide +kernel
theorem dX0_gatherPushes_70 : decode cX0_gatherPushes 70 = .ok (.aload_n 0, 1) := by decide +kernel
theorem dX0_gatherPushes_71 : decode cX0_gatherPushes 71 = .ok (.getfield 11, 3) := by decide +kernel
theorem dX0_gatherPushes_74 : decode cX0_gatherPushes 74 = .ok (.iload_n 2, 1) := by decide +kernel
theorem dX0_gatherPushes_75 : decode cX0_gatherPushes 75 = .ok (.iconst 1, 1) := by decide +kernel
theorem dX0_gatherPushes_76 : decode cX0_gatherPushes 76 = .ok (.iadd, 1) := by decide +kernel
theorem dX0_gatherPushes_77 : decode cX0_gatherPushes 77 = .ok (.iaload, 1) := by decide +kernel
theorem dX0_gatherPushes_78 : decode cX0_gatherPushes 78 = .ok (.isub, 1) := by decide +kernel
theorem dX0_gatherPushes_79 : decode cX0_gatherPushes 79 = .ok (.i2l, 1) := by decide +kernel
theorem dX0_gatherPushes_80 : decode cX0_gatherPushes 80 = .ok (.lmul, 1) := by decide +kernel
theorem dX0_gatherPushes_81 : decode cX0_gatherPushes 81 = .ok (.ldc2_w 86, 3) := by decide +kernel
theorem dX0_gatherPushes_84 : decode cX0_gatherPushes 84 = .ok (.ldiv, 1) := by decide +kernel
theorem dX0_gatherPushes_85 : decode cX0_gatherPushes 85 = .ok (.invokevirtual 79, 3) := by decide +kernel
theorem dX0_gatherPushes_88 : decode cX0_gatherPushes 88 = .ok (.iinc 2 1, 3) := by decide +kernel
theorem dX0_gatherPushes_91 : decode cX0_gatherPushes 91 = .ok (.goto (-47), 3) := by decide +kernel
theorem dX0_gatherPushes_94 : decode cX0_gatherPushes 94 = .ok (.iconst 0, 1) := by decide +kernel
theorem dX0_gatherPushes_95 : decode cX0_gatherPushes 95 = .ok (.istore_n 2, 1) := by decide +kernel
theorem dX0_gatherPushes_96 : decode cX0_gatherPushes 96 = .ok (.iload_n 2, 1) := by decide +kernel
theorem dX0_gatherPushes_97 : decode cX0_gatherPushes 97 = .ok (.aload_n 0, 1) := by decide +kernel
theorem dX0_gatherPushes_98 : decode cX0_gatherPushes 98 = .ok (.getfield 25, 3) := by decide +kernel
theorem dX0_gatherPushes_101 : decode cX0_gatherPushes 101 = .ok (.if_icmp .ge 54, 3) := by decide +kernel
theorem dX0_gatherPushes_104 : decode cX0_gatherPushes 104 = .ok (.aload_n 0, 1) := by decide +kernel
theorem dX0_gatherPushes_105 : decode cX0_gatherPushes 105 = .ok (.getfield 18, 3) := by decide +kernel
theorem dX0_gatherPushes_108 : decode cX0_gatherPushes 108 = .ok (.iload_n 2, 1) := by decide +kernel
theorem dX0_gatherPushes_109 : decode cX0_gatherPushes 109 = .ok (.dup2, 1) := by decide +kernel
theorem dX0_gatherPushes_110 : decode cX0_gatherPushes 110 = .ok (.laload, 1) := by decide +kernel
theorem dX0_gatherPushes_111 : decode cX0_gatherPushes 111 = .ok (.aload_n 1, 1) := by decide +kernel
theorem dX0_gatherPushes_112 : decode cX0_gatherPushes 112 = .ok (.getfield 88, 3) := by decide +kernel
theorem dX0_gatherPushes_115 : decode cX0_gatherPushes 115 = .ok (.iload_n 2, 1) := by decide +kernel
theorem dX0_gatherPushes_116 : decode cX0_gatherPushes 116 = .ok (.iaload, 1) := by decide +kernel
theorem dX0_gatherPushes_117 : decode cX0_gatherPushes 117 = .ok (.i2l, 1) := by decide +kernel
theorem dX0_gatherPushes_118 : decode cX0_gatherPushes 118 = .ok (.aload_n 0, 1) := by decide +kernel
theorem dX0_gatherPushes_119 : decode cX0_gatherPushes 119 = .ok (.getfield 11, 3) := by decide +kernel
theorem dX0_gatherPushes_122 : decode cX0_gatherPushes 122 = .ok (.iload_n 2, 1) := by decide +kernel
theorem dX0_gatherPushes_123 : decode cX0_gatherPushes 123 = .ok (.iaload, 1) := by decide +kernel
theorem dX0_gatherPushes_124 : decode cX0_gatherPushes 124 = .ok (.i2l, 1) := by decide +kernel
theorem dX0_gatherPushes_125 : decode cX0_gatherPushes 125 = .ok (.lmul, 1) := by decide +kernel
theorem dX0_gatherPushes_126 : decode cX0_gatherPushes 126 = .ok (.ldc2_w 86, 3) := by decide +kernel
theorem dX0_gatherPushes_129 : decode cX0_gatherPushes 129 = .ok (.ldiv, 1) := by decide +kernel
theorem dX0_gatherPushes_130 : decode cX0_gatherPushes 130 = .ok (.aload_n 1, 1) := by decide +kernel
theorem dX0_gatherPushes_131 : decode cX0_gatherPushes 131 = .ok (.getfield 91, 3) := by decide +kernel
theorem dX0_gatherPushes_134 : decode cX0_gatherPushes 134 = .ok (.iload_n 2, 1) := by decide +kernel
theorem dX0_gatherPushes_135 : decode cX0_gatherPushes 135 = .ok (.iaload, 1) := by decide +kernel
theorem dX0_gatherPushes_136 : decode cX0_gatherPushes 136 = .ok (.ineg, 1) := by decide +kernel
theorem dX0_gatherPushes_137 : decode cX0_gatherPushes 137 = .ok (.aload_n 1, 1) := by decide +kernel
theorem dX0_gatherPushes_138 : decode cX0_gatherPushes 138 = .ok (.getfield 91, 3) := by decide +kernel
theorem dX0_gatherPushes_141 : decode cX0_gatherPushes 141 = .ok (.iload_n 2, 1) := by decide +kernel
theorem dX0_gatherPushes_142 : decode cX0_gatherPushes 142 = .ok (.iaload, 1) := by decide +kernel
theorem dX0_gatherPushes_143 : decode cX0_gatherPushes 143 = .ok (.invokestatic 94, 3) := by decide +kernel
theorem dX0_gatherPushes_146 : decode cX0_gatherPushes 146 = .ok (.i2l, 1) := by decide +kernel
theorem dX0_gatherPushes_147 : decode cX0_gatherPushes 147 = .ok (.lsub, 1) := by decide +kernel
theorem dX0_gatherPushes_148 : decode cX0_gatherPushes 148 = .ok (.lastore, 1) := by decide +kernel
theorem dX0_gatherPushes_149 : decode cX0_gatherPushes 149 = .ok (.iinc 2 1, 3) := by decide +kernel
theorem dX0_gatherPushes_152 : decode cX0_gatherPushes 152 = .ok (.goto (-56), 3) := by decide +kernel
theorem dX0_gatherPushes_155 : decode cX0_gatherPushes 155 = .ok (.aload_n 0, 1) := by decide +kernel
theorem dX0_gatherPushes_156 : decode cX0_gatherPushes 156 = .ok (.getfield 25, 3) := by decide +kernel
theorem dX0_gatherPushes_159 : decode cX0_gatherPushes 159 = .ok (.iconst 1, 1) := by decide +kernel
theorem dX0_gatherPushes_160 : decode cX0_gatherPushes 160 = .ok (.isub, 1) := by decide +kernel
theorem dX0_gatherPushes_161 : decode cX0_gatherPushes 161 = .ok (.istore_n 2, 1) := by decide +kernel
theorem dX0_gatherPushes_162 : decode cX0_gatherPushes 162 = .ok (.aload_n 0, 1) := by decide +kernel
theorem dX0_gatherPushes_163 : decode cX0_gatherPushes 163 = .ok (.getfield 18, 3) := by decide +kernel
theorem dX0_gatherPushes_166 : decode cX0_gatherPushes 166 = .ok (.iload_n 2, 1) := by decide +kernel
theorem dX0_gatherPushes_167 : decode cX0_gatherPushes 167 = .ok (.dup2, 1) := by decide +kernel
theorem dX0_gatherPushes_168 : decode cX0_gatherPushes 168 = .ok (.laload, 1) := by decide +kernel
theorem dX0_gatherPushes_169 : decode cX0_gatherPushes 169 = .ok (.aload_n 1, 1) := by decide +kernel
theorem dX0_gatherPushes_170 : decode cX0_gatherPushes 170 = .ok (.getfield 98, 3) := by decide +kernel
theorem dX0_gatherPushes_173 : decode cX0_gatherPushes 173 = .ok (.i2l, 1) := by decide +kernel
theorem dX0_gatherPushes_174 : decode cX0_gatherPushes 174 = .ok (.aload_n 0, 1) := by decide +kernel
theorem dX0_gatherPushes_175 : decode cX0_gatherPushes 175 = .ok (.getfield 11, 3) := by decide +kernel
theorem dX0_gatherPushes_178 : decode cX0_gatherPushes 178 = .ok (.iload_n 2, 1) := by decide +kernel
theorem dX0_gatherPushes_179 : decode cX0_gatherPushes 179 = .ok (.iaload, 1) := by decide +kernel
theorem dX0_gatherPushes_180 : decode cX0_gatherPushes 180 = .ok (.i2l, 1) := by decide +kernel
theorem dX0_gatherPushes_181 : decode cX0_gatherPushes 181 = .ok (.lmul, 1) := by decide +kernel
theorem dX0_gatherPushes_182 : decode cX0_gatherPushes 182 = .ok (.ldc2_w 86, 3) := by decide +kernel
theorem dX0_gatherPushes_185 : decode cX0_gatherPushes 185 = .ok (.ldiv, 1) := by decide +kernel
theorem dX0_gatherPushes_186 : decode cX0_gatherPushes 186 = .ok (.iconst 0, 1) := by decide +kernel
theorem dX0_gatherPushes_187 : decode cX0_gatherPushes 187 = .ok (.aload_n 1, 1) := by decide +kernel
theorem dX0_gatherPushes_188 : decode cX0_gatherPushes 188 = .ok (.getfield 101, 3) := by decide +kernel
theorem dX0_gatherPushes_191 : decode cX0_gatherPushes 191 = .ok (.invokestatic 94, 3) := by decide +kernel
theorem dX0_gatherPushes_194 : decode cX0_gatherPushes 194 = .ok (.i2l, 1) := by decide +kernel
theorem dX0_gatherPushes_195 : decode cX0_gatherPushes 195 = .ok (.lsub, 1) := by decide +kernel
theorem dX0_gatherPushes_196 : decode cX0_gatherPushes 196 = .ok (.lastore, 1) := by decide +kernel
theorem dX0_gatherPushes_197 : decode cX0_gatherPushes 197 = .ok (.return_, 1) := by decide +kernel
theorem dX0_press_0 : decode cX0_press 0 = .ok (.aload_n 0, 1) := by decide +kernel
theorem dX0_press_1 : decode cX0_press 1 = .ok (.getfield 18, 3) := by decide +kernel
theorem dX0_press_4 : decode cX0_press 4 = .ok (.iload_n 1, 1) := by decide +kernel
theorem dX0_press_5 : decode cX0_press 5 = .ok (.dup2, 1) := by decide +kernel
theorem dX0_press_6 : decode cX0_press 6 = .ok (.laload, 1) := by decide +kernel
theorem dX0_press_7 : decode cX0_press 7 = .ok (.lload_n 3, 1) := by decide +kernel
theorem dX0_press_8 : decode cX0_press 8 = .ok (.lsub, 1) := by decide +kernel
theorem dX0_press_9 : decode cX0_press 9 = .ok (.lastore, 1) := by decide +kernel
theorem dX0_press_10 : decode cX0_press 10 = .ok (.aload_n 0, 1) := by decide +kernel
theorem dX0_press_11 : decode cX0_press 11 = .ok (.getfield 18, 3) := by decide +kernel
theorem dX0_press_14 : decode cX0_press 14 = .ok (.iload_n 2, 1) := by decide +kernel
theorem dX0_press_15 : decode cX0_press 15 = .ok (.dup2, 1) := by decide +kernel
theorem dX0_press_16 : decode cX0_press 16 = .ok (.laload, 1) := by decide +kernel
theorem dX0_press_17 : decode cX0_press 17 = .ok (.lload_n 3, 1) := by decide +kernel
theorem dX0_press_18 : decode cX0_press 18 = .ok (.ladd, 1) := by decide +kernel
theorem dX0_press_19 : decode cX0_press 19 = .ok (.lastore, 1) := by decide +kernel
theorem dX0_press_20 : decode cX0_press 20 = .ok (.return_, 1) := by decide +kernel
set_option maxRecDepth 20000 in
theorem ggX0_move_X3_clamp : GoodIn wsX0_move wsX3_clamp := goodIn_r _ [9] (by decide +kernel) (by decide +kernel)
set_option maxRecDepth 20000 in
theorem gX0_move_X3_clamp_n94 : GoodIn wsX0_move (wsX3_clamp) := ggX0_move_X3_clamp
theorem dX0_move_0 : decode cX0_move 0 = .ok (.iload_n 2, 1) := by decide +kernel
theorem dX0_move_1 : decode cX0_move 1 = .ok (.ifCond .ne 7, 3) := by decide +kernel
theorem dX0_move_4 : decode cX0_move 4 = .ok (.lconst 0, 1) := by decide +kernel
theorem dX0_move_5 : decode cX0_move 5 = .ok (.goto 16, 3) := by decide +kernel
theorem dX0_move_8 : decode cX0_move 8 = .ok (.ldc2_w 86, 3) := by decide +kernel
theorem dX0_move_11 : decode cX0_move 11 = .ok (.aload_n 0, 1) := by decide +kernel
theorem dX0_move_12 : decode cX0_move 12 = .ok (.getfield 18, 3) := by decide +kernel
theorem dX0_move_15 : decode cX0_move 15 = .ok (.iload_n 1, 1) := by decide +kernel
theorem dX0_move_16 : decode cX0_move 16 = .ok (.laload, 1) := by decide +kernel
theorem dX0_move_17 : decode cX0_move 17 = .ok (.lmul, 1) := by decide +kernel
theorem dX0_move_18 : decode cX0_move 18 = .ok (.iload_n 2, 1) := by decide +kernel
theorem dX0_move_19 : decode cX0_move 19 = .ok (.i2l, 1) := by decide +kernel
theorem dX0_move_20 : decode cX0_move 20 = .ok (.ldiv, 1) := by decide +kernel
theorem dX0_move_21 : decode cX0_move 21 = .ok (.lstore_n 3, 1) := by decide +kernel
theorem dX0_move_22 : decode cX0_move 22 = .ok (.aload_n 0, 1) := by decide +kernel
theorem dX0_move_23 : decode cX0_move 23 = .ok (.getfield 15, 3) := by decide +kernel
theorem dX0_move_26 : decode cX0_move 26 = .ok (.iload_n 1, 1) := by decide +kernel
theorem dX0_move_27 : decode cX0_move 27 = .ok (.aload_n 0, 1) := by decide +kernel
theorem dX0_move_28 : decode cX0_move 28 = .ok (.getfield 15, 3) := by decide +kernel
theorem dX0_move_31 : decode cX0_move 31 = .ok (.iload_n 1, 1) := by decide +kernel
theorem dX0_move_32 : decode cX0_move 32 = .ok (.iaload, 1) := by decide +kernel
theorem dX0_move_33 : decode cX0_move 33 = .ok (.i2l, 1) := by decide +kernel
theorem dX0_move_34 : decode cX0_move 34 = .ok (.lload_n 3, 1) := by decide +kernel
theorem dX0_move_35 : decode cX0_move 35 = .ok (.ladd, 1) := by decide +kernel
theorem dX0_move_36 : decode cX0_move 36 = .ok (.ldc 104, 2) := by decide +kernel
theorem dX0_move_38 : decode cX0_move 38 = .ok (.ldc 105, 2) := by decide +kernel
theorem dX0_move_40 : decode cX0_move 40 = .ok (.invokestatic 94, 3) := by decide +kernel
theorem dX0_move_43 : decode cX0_move 43 = .ok (.iastore, 1) := by decide +kernel
theorem dX0_move_44 : decode cX0_move 44 = .ok (.aload_n 0, 1) := by decide +kernel
theorem dX0_move_45 : decode cX0_move 45 = .ok (.getfield 11, 3) := by decide +kernel
theorem dX0_move_48 : decode cX0_move 48 = .ok (.iload_n 1, 1) := by decide +kernel
theorem dX0_move_49 : decode cX0_move 49 = .ok (.dup2, 1) := by decide +kernel
theorem dX0_move_50 : decode cX0_move 50 = .ok (.iaload, 1) := by decide +kernel
theorem dX0_move_51 : decode cX0_move 51 = .ok (.aload_n 0, 1) := by decide +kernel
theorem dX0_move_52 : decode cX0_move 52 = .ok (.getfield 15, 3) := by decide +kernel
theorem dX0_move_55 : decode cX0_move 55 = .ok (.iload_n 1, 1) := by decide +kernel
theorem dX0_move_56 : decode cX0_move 56 = .ok (.iaload, 1) := by decide +kernel
theorem dX0_move_57 : decode cX0_move 57 = .ok (.sipush 1000, 3) := by decide +kernel
theorem dX0_move_60 : decode cX0_move 60 = .ok (.idiv, 1) := by decide +kernel
theorem dX0_move_61 : decode cX0_move 61 = .ok (.iadd, 1) := by decide +kernel
theorem dX0_move_62 : decode cX0_move 62 = .ok (.iastore, 1) := by decide +kernel
theorem dX0_move_63 : decode cX0_move 63 = .ok (.return_, 1) := by decide +kernel
theorem dX1_init_0 : decode cX1_init 0 = .ok (.aload_n 0, 1) := by decide +kernel
theorem dX1_init_1 : decode cX1_init 1 = .ok (.invokespecial 1, 3) := by decide +kernel
theorem dX1_init_4 : decode cX1_init 4 = .ok (.aload_n 0, 1) := by decide +kernel
theorem dX1_init_5 : decode cX1_init 5 = .ok (.iload_n 2, 1) := by decide +kernel
theorem dX1_init_6 : decode cX1_init 6 = .ok (.putfield 7, 3) := by decide +kernel
theorem dX1_init_9 : decode cX1_init 9 = .ok (.aload_n 0, 1) := by decide +kernel
theorem dX1_init_10 : decode cX1_init 10 = .ok (.iload_n 3, 1) := by decide +kernel
theorem dX1_init_11 : decode cX1_init 11 = .ok (.putfield 13, 3) := by decide +kernel
theorem dX1_init_14 : decode cX1_init 14 = .ok (.aload_n 0, 1) := by decide +kernel
theorem dX1_init_15 : decode cX1_init 15 = .ok (.iload 4, 2) := by decide +kernel
theorem dX1_init_17 : decode cX1_init 17 = .ok (.putfield 16, 3) := by decide +kernel
theorem dX1_init_20 : decode cX1_init 20 = .ok (.aload_n 0, 1) := by decide +kernel
theorem dX1_init_21 : decode cX1_init 21 = .ok (.iload_n 1, 1) := by decide +kernel
theorem dX1_init_22 : decode cX1_init 22 = .ok (.newarray .int, 2) := by decide +kernel
theorem dX1_init_24 : decode cX1_init 24 = .ok (.putfield 19, 3) := by decide +kernel
theorem dX1_init_27 : decode cX1_init 27 = .ok (.aload_n 0, 1) := by decide +kernel
theorem dX1_init_28 : decode cX1_init 28 = .ok (.iload_n 1, 1) := by decide +kernel
theorem dX1_init_29 : decode cX1_init 29 = .ok (.newarray .int, 2) := by decide +kernel
theorem dX1_init_31 : decode cX1_init 31 = .ok (.putfield 23, 3) := by decide +kernel
theorem dX1_init_34 : decode cX1_init 34 = .ok (.aload_n 0, 1) := by decide +kernel
theorem dX1_init_35 : decode cX1_init 35 = .ok (.iload_n 1, 1) := by decide +kernel
theorem dX1_init_36 : decode cX1_init 36 = .ok (.newarray .int, 2) := by decide +kernel
theorem dX1_init_38 : decode cX1_init 38 = .ok (.putfield 26, 3) := by decide +kernel
theorem dX1_init_41 : decode cX1_init 41 = .ok (.return_, 1) := by decide +kernel
theorem dX1_pieces_0 : decode cX1_pieces 0 = .ok (.aload_n 0, 1) := by decide +kernel
theorem dX1_pieces_1 : decode cX1_pieces 1 = .ok (.getfield 19, 3) := by decide +kernel
theorem dX1_pieces_4 : decode cX1_pieces 4 = .ok (.arraylength, 1) := by decide +kernel
theorem dX1_pieces_5 : decode cX1_pieces 5 = .ok (.ireturn, 1) := by decide +kernel
theorem dX1_quake_0 : decode cX1_quake 0 = .ok (.aload_n 0, 1) := by decide +kernel
theorem dX1_quake_1 : decode cX1_quake 1 = .ok (.getfield 29, 3) := by decide +kernel
theorem dX1_quake_4 : decode cX1_quake 4 = .ok (.ifCond .ne 7, 3) := by decide +kernel
theorem dX1_quake_7 : decode cX1_quake 7 = .ok (.lconst 0, 1) := by decide +kernel
theorem dX1_quake_8 : decode cX1_quake 8 = .ok (.goto 18, 3) := by decide +kernel
theorem dX1_quake_11 : decode cX1_quake 11 = .ok (.ldc2_w 32, 3) := by decide +kernel
theorem dX1_quake_14 : decode cX1_quake 14 = .ok (.aload_n 0, 1) := by decide +kernel
theorem dX1_quake_15 : decode cX1_quake 15 = .ok (.getfield 34, 3) := by decide +kernel
theorem dX1_quake_18 : decode cX1_quake 18 = .ok (.i2l, 1) := by decide +kernel
theorem dX1_quake_19 : decode cX1_quake 19 = .ok (.lmul, 1) := by decide +kernel
theorem dX1_quake_20 : decode cX1_quake 20 = .ok (.aload_n 0, 1) := by decide +kernel
theorem dX1_quake_21 : decode cX1_quake 21 = .ok (.getfield 29, 3) := by decide +kernel
theorem dX1_quake_24 : decode cX1_quake 24 = .ok (.i2l, 1) := by decide +kernel
theorem dX1_quake_25 : decode cX1_quake 25 = .ok (.ldiv, 1) := by decide +kernel
theorem dX1_quake_26 : decode cX1_quake 26 = .ok (.lreturn, 1) := by decide +kernel
theorem dX2_init_0 : decode cX2_init 0 = .ok (.aload_n 0, 1) := by decide +kernel
theorem dX2_init_1 : decode cX2_init 1 = .ok (.invokespecial 3, 3) := by decide +kernel
theorem dX2_init_4 : decode cX2_init 4 = .ok (.return_, 1) := by decide +kernel
set_option maxRecDepth 20000 in
theorem ggX2_findUnder_X2_find : GoodIn wsX2_findUnder wsX2_find := goodIn_r _ [7, 8, 9, 1, 2, 10, 11, 12, 13, 14, 15, 6, 16, 17, 18, 19, 20, 21, 22, 23, 24, 25, 26, 27, 28, 29, 30, 31, 32, 33, 34, 35, 36, 37, 38, 39, 40, 41, 42, 43, 44, 45, 46, 47, 48, 49] (by decide +kernel) (by decide +kernel)
set_option maxRecDepth 20000 in
theorem gX2_findUnder_X2_find : GoodIn wsX2_findUnder (wsV RX2 9 RX2 yX2_find wsX2_find) := goodIn_app (goodIn_of _ (by decide +kernel)) ggX2_findUnder_X2_find
theorem dX2_findUnder_0 : decode cX2_findUnder 0 = .ok (.aload_n 0, 1) := by decide +kernel
theorem dX2_findUnder_1 : decode cX2_findUnder 1 = .ok (.aload_n 1, 1) := by decide +kernel
theorem dX2_findUnder_2 : decode cX2_findUnder 2 = .ok (.iload_n 2, 1) := by decide +kernel
theorem dX2_findUnder_3 : decode cX2_findUnder 3 = .ok (.iconst 1, 1) := by decide +kernel
theorem dX2_findUnder_4 : decode cX2_findUnder 4 = .ok (.invokevirtual 9, 3) := by decide +kernel
theorem dX2_findUnder_7 : decode cX2_findUnder 7 = .ok (.ifCond .eq 16, 3) := by decide +kernel
theorem dX2_findUnder_10 : decode cX2_findUnder 10 = .ok (.aload_n 0, 1) := by decide +kernel
theorem dX2_findUnder_11 : decode cX2_findUnder 11 = .ok (.getfield 15, 3) := by decide +kernel
theorem dX2_findUnder_14 : decode cX2_findUnder 14 = .ok (.ldc 19, 2) := by decide +kernel
theorem dX2_findUnder_16 : decode cX2_findUnder 16 = .ok (.if_icmp .ge 7, 3) := by decide +kernel
theorem dX2_findUnder_19 : decode cX2_findUnder 19 = .ok (.iconst 1, 1) := by decide +kernel
theorem dX2_findUnder_20 : decode cX2_findUnder 20 = .ok (.goto 4, 3) := by decide +kernel
theorem dX2_findUnder_23 : decode cX2_findUnder 23 = .ok (.iconst 0, 1) := by decide +kernel
theorem dX2_findUnder_24 : decode cX2_findUnder 24 = .ok (.ireturn, 1) := by decide +kernel
set_option maxRecDepth 20000 in
theorem ggX2_findAt_X2_find : GoodIn wsX2_findAt wsX2_find := goodIn_r _ [5, 6, 7, 8, 9, 10, 11, 12, 13, 14, 15, 4, 16, 17, 18, 19, 20, 21, 22, 23, 24, 25, 26, 27, 28, 29, 30, 31, 32, 33, 34, 35, 36, 37, 38, 39, 40, 41, 42, 43, 44, 45, 46, 47, 48, 49] (by decide +kernel) (by decide +kernel)
set_option maxRecDepth 20000 in
theorem gX2_findAt_X2_find : GoodIn wsX2_findAt (wsV RX2 9 RX2 yX2_find wsX2_find) := goodIn_app (goodIn_of _ (by decide +kernel)) ggX2_findAt_X2_find
theorem dX2_findAt_0 : decode cX2_findAt 0 = .ok (.aload_n 0, 1) := by decide +kernel
theorem dX2_findAt_1 : decode cX2_findAt 1 = .ok (.aload_n 1, 1) := by decide +kernel
theorem dX2_findAt_2 : decode cX2_findAt 2 = .ok (.iload_n 2, 1) := by decide +kernel
theorem dX2_findAt_3 : decode cX2_findAt 3 = .ok (.iconst 0, 1) := by decide +kernel
theorem dX2_findAt_4 : decode cX2_findAt 4 = .ok (.invokevirtual 9, 3) := by decide +kernel
theorem dX2_findAt_7 : decode cX2_findAt 7 = .ok (.ireturn, 1) := by decide +kernel
set_option maxRecDepth 20000 in
theorem ggX2_climb_X1_pieces : GoodIn wsX2_climb wsX1_pieces := goodIn_r _ [15, 16, 28, 29, 30, 31, 32, 33, 34, 35, 36] (by decide +kernel) (by decide +kernel)
set_option maxRecDepth 20000 in
theorem gX2_climb_X1_pieces : GoodIn wsX2_climb (wsV RX2 20 RX1 yX1_pieces wsX1_pieces) := goodIn_app (goodIn_of _ (by decide +kernel)) ggX2_climb_X1_pieces
set_option maxRecDepth 20000 in
theorem ggX2_climb_X3_clamp : GoodIn wsX2_climb wsX3_clamp := goodIn_r _ [19] (by decide +kernel) (by decide +kernel)
set_option maxRecDepth 20000 in
theorem gX2_climb_X3_clamp_n35 : GoodIn wsX2_climb (wsX3_clamp) := ggX2_climb_X3_clamp
set_option maxRecDepth 20000 in
theorem ggX2_climb_J9_floorDiv_7cf53 : GoodIn wsX2_climb wsJ9_floorDiv_7cf53 := goodIn_r _ [23] (by decide +kernel) (by decide +kernel)
set_option maxRecDepth 20000 in
theorem gX2_climb_J9_floorDiv_7cf53 : GoodIn wsX2_climb (va_wsS RX2 45 yJ9_floorDiv_7cf53 wsJ9_floorDiv_7cf53) := goodIn_app (goodIn_of _ (by decide +kernel)) ggX2_climb_J9_floorDiv_7cf53
theorem dX2_climb_0 : decode cX2_climb 0 = .ok (.aload_n 1, 1) := by decide +kernel
theorem dX2_climb_1 : decode cX2_climb 1 = .ok (.invokevirtual 20, 3) := by decide +kernel
theorem dX2_climb_4 : decode cX2_climb 4 = .ok (.iconst 1, 1) := by decide +kernel
theorem dX2_climb_5 : decode cX2_climb 5 = .ok (.isub, 1) := by decide +kernel
theorem dX2_climb_6 : decode cX2_climb 6 = .ok (.istore_n 3, 1) := by decide +kernel
theorem dX2_climb_7 : decode cX2_climb 7 = .ok (.aload_n 0, 1) := by decide +kernel
theorem dX2_climb_8 : decode cX2_climb 8 = .ok (.aload_n 0, 1) := by decide +kernel
theorem dX2_climb_9 : decode cX2_climb 9 = .ok (.getfield 15, 3) := by decide +kernel
theorem dX2_climb_12 : decode cX2_climb 12 = .ok (.putfield 26, 3) := by decide +kernel
theorem dX2_climb_15 : decode cX2_climb 15 = .ok (.aload_n 0, 1) := by decide +kernel
theorem dX2_climb_16 : decode cX2_climb 16 = .ok (.aload_n 1, 1) := by decide +kernel
theorem dX2_climb_17 : decode cX2_climb 17 = .ok (.getfield 29, 3) := by decide +kernel
theorem dX2_climb_20 : decode cX2_climb 20 = .ok (.i2l, 1) := by decide +kernel
theorem dX2_climb_21 : decode cX2_climb 21 = .ok (.aload_n 0, 1) := by decide +kernel
theorem dX2_climb_22 : decode cX2_climb 22 = .ok (.getfield 15, 3) := by decide +kernel
theorem dX2_climb_25 : decode cX2_climb 25 = .ok (.i2l, 1) := by decide +kernel
theorem dX2_climb_26 : decode cX2_climb 26 = .ok (.lmul, 1) := by decide +kernel
theorem dX2_climb_27 : decode cX2_climb 27 = .ok (.iconst 0, 1) := by decide +kernel
theorem dX2_climb_28 : decode cX2_climb 28 = .ok (.aload_n 1, 1) := by decide +kernel
theorem dX2_climb_29 : decode cX2_climb 29 = .ok (.getfield 32, 3) := by decide +kernel
theorem dX2_climb_32 : decode cX2_climb 32 = .ok (.invokestatic 35, 3) := by decide +kernel
theorem dX2_climb_35 : decode cX2_climb 35 = .ok (.putfield 39, 3) := by decide +kernel
theorem dX2_climb_38 : decode cX2_climb 38 = .ok (.iload_n 3, 1) := by decide +kernel
theorem dX2_climb_39 : decode cX2_climb 39 = .ok (.istore 4, 2) := by decide +kernel
theorem dX2_climb_41 : decode cX2_climb 41 = .ok (.iload 4, 2) := by decide +kernel
theorem dX2_climb_43 : decode cX2_climb 43 = .ok (.iload_n 2, 1) := by decide +kernel
theorem dX2_climb_44 : decode cX2_climb 44 = .ok (.if_icmp .lt 108, 3) := by decide +kernel
theorem dX2_climb_47 : decode cX2_climb 47 = .ok (.iload 4, 2) := by decide +kernel
theorem dX2_climb_49 : decode cX2_climb 49 = .ok (.ifCond .lt 103, 3) := by decide +kernel
theorem dX2_climb_52 : decode cX2_climb 52 = .ok (.iload 4, 2) := by decide +kernel
theorem dX2_climb_54 : decode cX2_climb 54 = .ok (.iload_n 3, 1) := by decide +kernel
theorem dX2_climb_55 : decode cX2_climb 55 = .ok (.if_icmp .ge 30, 3) := by decide +kernel
theorem dX2_climb_58 : decode cX2_climb 58 = .ok (.aload_n 1, 1) := by decide +kernel
theorem dX2_climb_59 : decode cX2_climb 59 = .ok (.getfield 42, 3) := by decide +kernel
theorem dX2_climb_62 : decode cX2_climb 62 = .ok (.ifCond .le 23, 3) := by decide +kernel
theorem dX2_climb_65 : decode cX2_climb 65 = .ok (.aload_n 0, 1) := by decide +kernel
theorem dX2_climb_66 : decode cX2_climb 66 = .ok (.dup, 1) := by decide +kernel
theorem dX2_climb_67 : decode cX2_climb 67 = .ok (.getfield 26, 3) := by decide +kernel
theorem dX2_climb_70 : decode cX2_climb 70 = .ok (.aload_n 0, 1) := by decide +kernel
theorem dX2_climb_71 : decode cX2_climb 71 = .ok (.getfield 39, 3) := by decide +kernel
theorem dX2_climb_74 : decode cX2_climb 74 = .ok (.aload_n 1, 1) := by decide +kernel
theorem dX2_climb_75 : decode cX2_climb 75 = .ok (.getfield 42, 3) := by decide +kernel
theorem dX2_climb_78 : decode cX2_climb 78 = .ok (.invokestatic 45, 3) := by decide +kernel
theorem dX2_climb_81 : decode cX2_climb 81 = .ok (.iadd, 1) := by decide +kernel
theorem dX2_climb_82 : decode cX2_climb 82 = .ok (.putfield 26, 3) := by decide +kernel
theorem dX2_climb_85 : decode cX2_climb 85 = .ok (.aload_n 1, 1) := by decide +kernel
theorem dX2_climb_86 : decode cX2_climb 86 = .ok (.getfield 51, 3) := by decide +kernel
theorem dX2_climb_89 : decode cX2_climb 89 = .ok (.iload 4, 2) := by decide +kernel
theorem dX2_climb_91 : decode cX2_climb 91 = .ok (.iaload, 1) := by decide +kernel
theorem dX2_climb_92 : decode cX2_climb 92 = .ok (.i2l, 1) := by decide +kernel
theorem dX2_climb_93 : decode cX2_climb 93 = .ok (.aload_n 0, 1) := by decide +kernel
theorem dX2_climb_94 : decode cX2_climb 94 = .ok (.getfield 26, 3) := by decide +kernel
theorem dX2_climb_97 : decode cX2_climb 97 = .ok (.aload_n 1, 1) := by decide +kernel
theorem dX2_climb_98 : decode cX2_climb 98 = .ok (.getfield 55, 3) := by decide +kernel
theorem dX2_climb_101 : decode cX2_climb 101 = .ok (.iload 4, 2) := by decide +kernel
theorem dX2_climb_103 : decode cX2_climb 103 = .ok (.iaload, 1) := by decide +kernel
theorem dX2_climb_104 : decode cX2_climb 104 = .ok (.isub, 1) := by decide +kernel
theorem dX2_climb_105 : decode cX2_climb 105 = .ok (.i2l, 1) := by decide +kernel
theorem dX2_climb_106 : decode cX2_climb 106 = .ok (.lmul, 1) := by decide +kernel
theorem dX2_climb_107 : decode cX2_climb 107 = .ok (.lstore 5, 2) := by decide +kernel
theorem dX2_climb_109 : decode cX2_climb 109 = .ok (.aload_n 0, 1) := by decide +kernel
theorem dX2_climb_110 : decode cX2_climb 110 = .ok (.lload 5, 2) := by decide +kernel
theorem dX2_climb_112 : decode cX2_climb 112 = .ok (.aload_n 1, 1) := by decide +kernel
theorem dX2_climb_113 : decode cX2_climb 113 = .ok (.getfield 58, 3) := by decide +kernel
theorem dX2_climb_116 : decode cX2_climb 116 = .ok (.iload 4, 2) := by decide +kernel
theorem dX2_climb_118 : decode cX2_climb 118 = .ok (.iaload, 1) := by decide +kernel
theorem dX2_climb_119 : decode cX2_climb 119 = .ok (.ineg, 1) := by decide +kernel
theorem dX2_climb_120 : decode cX2_climb 120 = .ok (.aload_n 1, 1) := by decide +kernel
theorem dX2_climb_121 : decode cX2_climb 121 = .ok (.getfield 58, 3) := by decide +kernel
theorem dX2_climb_124 : decode cX2_climb 124 = .ok (.iload 4, 2) := by decide +kernel
theorem dX2_climb_126 : decode cX2_climb 126 = .ok (.iaload, 1) := by decide +kernel
theorem dX2_climb_127 : decode cX2_climb 127 = .ok (.invokestatic 35, 3) := by decide +kernel
theorem dX2_climb_130 : decode cX2_climb 130 = .ok (.putfield 61, 3) := by decide +kernel
theorem dX2_climb_133 : decode cX2_climb 133 = .ok (.aload_n 0, 1) := by decide +kernel
theorem dX2_climb_134 : decode cX2_climb 134 = .ok (.dup, 1) := by decide +kernel
theorem dX2_climb_135 : decode cX2_climb 135 = .ok (.getfield 39, 3) := by decide +kernel
theorem dX2_climb_138 : decode cX2_climb 138 = .ok (.aload_n 0, 1) := by decide +kernel
theorem dX2_climb_139 : decode cX2_climb 139 = .ok (.getfield 61, 3) := by decide +kernel
theorem dX2_climb_142 : decode cX2_climb 142 = .ok (.iadd, 1) := by decide +kernel
theorem dX2_climb_143 : decode cX2_climb 143 = .ok (.putfield 39, 3) := by decide +kernel
theorem dX2_climb_146 : decode cX2_climb 146 = .ok (.iinc 4 (-1), 3) := by decide +kernel
theorem dX2_climb_149 : decode cX2_climb 149 = .ok (.goto (-108), 3) := by decide +kernel
theorem dX2_climb_152 : decode cX2_climb 152 = .ok (.return_, 1) := by decide +kernel
set_option maxRecDepth 20000 in
theorem ggX2_find_X2_climb : GoodIn wsX2_find wsX2_climb := goodIn_r _ [12, 3, 6, 13, 14, 5, 15, 16, 17, 18, 19, 20, 21, 22, 23, 24, 25, 26, 27, 28, 29, 30, 31, 32, 33, 34, 35, 36, 37, 38, 39, 40, 41, 42, 43, 44, 45] (by decide +kernel) (by decide +kernel)
set_option maxRecDepth 20000 in
theorem gX2_find_X2_climb : GoodIn wsX2_find (wsV RX2 66 RX2 yX2_climb wsX2_climb) := goodIn_app (goodIn_of _ (by decide +kernel)) ggX2_find_X2_climb
theorem dX2_find_0 : decode cX2_find 0 = .ok (.ldc 64, 2) := by decide +kernel
theorem dX2_find_2 : decode cX2_find 2 = .ok (.istore 4, 2) := by decide +kernel
theorem dX2_find_4 : decode cX2_find 4 = .ok (.ldc 65, 2) := by decide +kernel
theorem dX2_find_6 : decode cX2_find 6 = .ok (.istore 5, 2) := by decide +kernel
theorem dX2_find_8 : decode cX2_find 8 = .ok (.iload 5, 2) := by decide +kernel
theorem dX2_find_10 : decode cX2_find 10 = .ok (.ifCond .le 64, 3) := by decide +kernel
theorem dX2_find_13 : decode cX2_find 13 = .ok (.aload_n 0, 1) := by decide +kernel
theorem dX2_find_14 : decode cX2_find 14 = .ok (.iload 4, 2) := by decide +kernel
theorem dX2_find_16 : decode cX2_find 16 = .ok (.iload 5, 2) := by decide +kernel
theorem dX2_find_18 : decode cX2_find 18 = .ok (.iadd, 1) := by decide +kernel
theorem dX2_find_19 : decode cX2_find 19 = .ok (.putfield 15, 3) := by decide +kernel
theorem dX2_find_22 : decode cX2_find 22 = .ok (.aload_n 0, 1) := by decide +kernel
theorem dX2_find_23 : decode cX2_find 23 = .ok (.getfield 15, 3) := by decide +kernel
theorem dX2_find_26 : decode cX2_find 26 = .ok (.ldc 19, 2) := by decide +kernel
theorem dX2_find_28 : decode cX2_find 28 = .ok (.if_icmp .le 6, 3) := by decide +kernel
theorem dX2_find_31 : decode cX2_find 31 = .ok (.goto 34, 3) := by decide +kernel
theorem dX2_find_34 : decode cX2_find 34 = .ok (.aload_n 0, 1) := by decide +kernel
theorem dX2_find_35 : decode cX2_find 35 = .ok (.aload_n 1, 1) := by decide +kernel
theorem dX2_find_36 : decode cX2_find 36 = .ok (.iconst 0, 1) := by decide +kernel
theorem dX2_find_37 : decode cX2_find 37 = .ok (.invokevirtual 66, 3) := by decide +kernel
theorem dX2_find_40 : decode cX2_find 40 = .ok (.iload_n 3, 1) := by decide +kernel
theorem dX2_find_41 : decode cX2_find 41 = .ok (.ifCond .eq 10, 3) := by decide +kernel
theorem dX2_find_44 : decode cX2_find 44 = .ok (.aload_n 0, 1) := by decide +kernel
theorem dX2_find_45 : decode cX2_find 45 = .ok (.getfield 39, 3) := by decide +kernel
theorem dX2_find_48 : decode cX2_find 48 = .ok (.goto 7, 3) := by decide +kernel
theorem dX2_find_51 : decode cX2_find 51 = .ok (.aload_n 0, 1) := by decide +kernel
theorem dX2_find_52 : decode cX2_find 52 = .ok (.getfield 26, 3) := by decide +kernel
theorem dX2_find_55 : decode cX2_find 55 = .ok (.iload_n 2, 1) := by decide +kernel
theorem dX2_find_56 : decode cX2_find 56 = .ok (.if_icmp .gt 9, 3) := by decide +kernel
theorem dX2_find_59 : decode cX2_find 59 = .ok (.aload_n 0, 1) := by decide +kernel
theorem dX2_find_60 : decode cX2_find 60 = .ok (.getfield 15, 3) := by decide +kernel
theorem dX2_find_63 : decode cX2_find 63 = .ok (.istore 4, 2) := by decide +kernel
theorem dX2_find_65 : decode cX2_find 65 = .ok (.iload 5, 2) := by decide +kernel
theorem dX2_find_67 : decode cX2_find 67 = .ok (.iconst 2, 1) := by decide +kernel
theorem dX2_find_68 : decode cX2_find 68 = .ok (.idiv, 1) := by decide +kernel
theorem dX2_find_69 : decode cX2_find 69 = .ok (.istore 5, 2) := by decide +kernel
theorem dX2_find_71 : decode cX2_find 71 = .ok (.goto (-63), 3) := by decide +kernel
theorem dX2_find_74 : decode cX2_find 74 = .ok (.aload_n 0, 1) := by decide +kernel
theorem dX2_find_75 : decode cX2_find 75 = .ok (.iload 4, 2) := by decide +kernel
theorem dX2_find_77 : decode cX2_find 77 = .ok (.putfield 15, 3) := by decide +kernel
theorem dX2_find_80 : decode cX2_find 80 = .ok (.aload_n 0, 1) := by decide +kernel
theorem dX2_find_81 : decode cX2_find 81 = .ok (.aload_n 1, 1) := by decide +kernel
theorem dX2_find_82 : decode cX2_find 82 = .ok (.iconst 0, 1) := by decide +kernel
theorem dX2_find_83 : decode cX2_find 83 = .ok (.invokevirtual 66, 3) := by decide +kernel
theorem dX2_find_86 : decode cX2_find 86 = .ok (.iload 4, 2) := by decide +kernel
theorem dX2_find_88 : decode cX2_find 88 = .ok (.ldc 70, 2) := by decide +kernel
theorem dX2_find_90 : decode cX2_find 90 = .ok (.if_icmp .lt 7, 3) := by decide +kernel
theorem dX2_find_93 : decode cX2_find 93 = .ok (.iconst 1, 1) := by decide +kernel
theorem dX2_find_94 : decode cX2_find 94 = .ok (.goto 4, 3) := by decide +kernel
theorem dX2_find_97 : decode cX2_find 97 = .ok (.iconst 0, 1) := by decide +kernel
theorem dX2_find_98 : decode cX2_find 98 = .ok (.ireturn, 1) := by decide +kernel
set_option maxRecDepth 20000 in
theorem ggX3_init_X2_init : GoodIn wsX3_init wsX2_init := goodIn_r _ [16, 17, 2, 3] (by decide +kernel) (by decide +kernel)
set_option maxRecDepth 20000 in
theorem gX3_init_X2_init_n17 : GoodIn wsX3_init (wsX2_init) := ggX3_init_X2_init
set_option maxRecDepth 20000 in
theorem ggX3_init_X0_init : GoodIn wsX3_init wsX0_init := goodIn_r _ [20, 21, 2, 3, 22, 23, 24, 25, 26, 27, 36, 37, 38, 39, 40, 41] (by decide +kernel) (by decide +kernel)
set_option maxRecDepth 20000 in
theorem gX3_init_X0_init : GoodIn wsX3_init (wsX0_init) := ggX3_init_X0_init
theorem dX3_init_0 : decode cX3_init 0 = .ok (.aload_n 0, 1) := by decide +kernel
theorem dX3_init_1 : decode cX3_init 1 = .ok (.invokespecial 1, 3) := by decide +kernel
theorem dX3_init_4 : decode cX3_init 4 = .ok (.aload_n 0, 1) := by decide +kernel
theorem dX3_init_5 : decode cX3_init 5 = .ok (.bipush 6, 2) := by decide +kernel
theorem dX3_init_7 : decode cX3_init 7 = .ok (.anewarray 9, 3) := by decide +kernel
theorem dX3_init_10 : decode cX3_init 10 = .ok (.putfield 11, 3) := by decide +kernel
theorem dX3_init_13 : decode cX3_init 13 = .ok (.aload_n 0, 1) := by decide +kernel
theorem dX3_init_14 : decode cX3_init 14 = .ok (.new 15, 3) := by decide +kernel
theorem dX3_init_17 : decode cX3_init 17 = .ok (.dup, 1) := by decide +kernel
theorem dX3_init_18 : decode cX3_init 18 = .ok (.invokespecial 17, 3) := by decide +kernel
theorem dX3_init_21 : decode cX3_init 21 = .ok (.putfield 18, 3) := by decide +kernel
theorem dX3_init_24 : decode cX3_init 24 = .ok (.aload_n 0, 1) := by decide +kernel
theorem dX3_init_25 : decode cX3_init 25 = .ok (.new 22, 3) := by decide +kernel
theorem dX3_init_28 : decode cX3_init 28 = .ok (.dup, 1) := by decide +kernel
theorem dX3_init_29 : decode cX3_init 29 = .ok (.invokespecial 24, 3) := by decide +kernel
theorem dX3_init_32 : decode cX3_init 32 = .ok (.putfield 25, 3) := by decide +kernel
theorem dX3_init_35 : decode cX3_init 35 = .ok (.aload_n 0, 1) := by decide +kernel
theorem dX3_init_36 : decode cX3_init 36 = .ok (.iconst 0, 1) := by decide +kernel
theorem dX3_init_37 : decode cX3_init 37 = .ok (.putfield 29, 3) := by decide +kernel
theorem dX3_init_40 : decode cX3_init 40 = .ok (.return_, 1) := by decide +kernel
set_option maxRecDepth 20000 in
theorem ggX3_pile_X3_checkWithin : GoodIn wsX3_pile wsX3_checkWithin := goodIn_ca (goodIn_r _ [12, 13, 14] (by decide +kernel) (by decide +kernel)) (goodIn_sub (fun _ h => List.mem_cons_of_mem _ (List.mem_append_right _ h)) (by decide +kernel))
set_option maxRecDepth 20000 in
theorem gX3_pile_X3_checkWithin : GoodIn wsX3_pile (va_wsS RX3 33 yX3_checkWithin wsX3_checkWithin) := goodIn_app (goodIn_of _ (by decide +kernel)) ggX3_pile_X3_checkWithin
set_option maxRecDepth 20000 in
theorem ggX3_pile_X1_init : GoodIn wsX3_pile wsX1_init := goodIn_r _ [17, 18, 19, 20, 21, 22, 23, 24, 25, 26, 27, 32, 33, 34, 35, 36, 37, 38, 39, 40] (by decide +kernel) (by decide +kernel)
set_option maxRecDepth 20000 in
theorem gX3_pile_X1_init : GoodIn wsX3_pile (wsX1_init) := ggX3_pile_X1_init
theorem dX3_pile_0 : decode cX3_pile 0 = .ok (.iload_n 1, 1) := by decide +kernel
theorem dX3_pile_1 : decode cX3_pile 1 = .ok (.iconst 1, 1) := by decide +kernel
theorem dX3_pile_2 : decode cX3_pile 2 = .ok (.bipush 12, 2) := by decide +kernel
theorem dX3_pile_4 : decode cX3_pile 4 = .ok (.invokestatic 33, 3) := by decide +kernel
theorem dX3_pile_7 : decode cX3_pile 7 = .ok (.iload_n 2, 1) := by decide +kernel
theorem dX3_pile_8 : decode cX3_pile 8 = .ok (.iconst 1, 1) := by decide +kernel
theorem dX3_pile_9 : decode cX3_pile 9 = .ok (.sipush 10000, 3) := by decide +kernel
theorem dX3_pile_12 : decode cX3_pile 12 = .ok (.invokestatic 33, 3) := by decide +kernel
theorem dX3_pile_15 : decode cX3_pile 15 = .ok (.iload_n 3, 1) := by decide +kernel
theorem dX3_pile_16 : decode cX3_pile 16 = .ok (.iconst 1, 1) := by decide +kernel
theorem dX3_pile_17 : decode cX3_pile 17 = .ok (.sipush 1000, 3) := by decide +kernel
theorem dX3_pile_20 : decode cX3_pile 20 = .ok (.invokestatic 33, 3) := by decide +kernel
theorem dX3_pile_23 : decode cX3_pile 23 = .ok (.iload 4, 2) := by decide +kernel
theorem dX3_pile_25 : decode cX3_pile 25 = .ok (.iconst 0, 1) := by decide +kernel
theorem dX3_pile_26 : decode cX3_pile 26 = .ok (.ldc 37, 2) := by decide +kernel
theorem dX3_pile_28 : decode cX3_pile 28 = .ok (.invokestatic 33, 3) := by decide +kernel
theorem dX3_pile_31 : decode cX3_pile 31 = .ok (.aload_n 0, 1) := by decide +kernel
theorem dX3_pile_32 : decode cX3_pile 32 = .ok (.getfield 29, 3) := by decide +kernel
theorem dX3_pile_35 : decode cX3_pile 35 = .ok (.ifCond .lt 15, 3) := by decide +kernel
theorem dX3_pile_38 : decode cX3_pile 38 = .ok (.aload_n 0, 1) := by decide +kernel
theorem dX3_pile_39 : decode cX3_pile 39 = .ok (.getfield 29, 3) := by decide +kernel
theorem dX3_pile_42 : decode cX3_pile 42 = .ok (.aload_n 0, 1) := by decide +kernel
theorem dX3_pile_43 : decode cX3_pile 43 = .ok (.getfield 11, 3) := by decide +kernel
theorem dX3_pile_46 : decode cX3_pile 46 = .ok (.arraylength, 1) := by decide +kernel
theorem dX3_pile_47 : decode cX3_pile 47 = .ok (.if_icmp .lt 13, 3) := by decide +kernel
theorem dX3_pile_50 : decode cX3_pile 50 = .ok (.new 38, 3) := by decide +kernel
theorem dX3_pile_53 : decode cX3_pile 53 = .ok (.dup, 1) := by decide +kernel
theorem dX3_pile_54 : decode cX3_pile 54 = .ok (.ldc 40, 2) := by decide +kernel
theorem dX3_pile_56 : decode cX3_pile 56 = .ok (.invokespecial 42, 3) := by decide +kernel
theorem dX3_pile_59 : decode cX3_pile 59 = .ok (.athrow, 1) := by decide +kernel
theorem dX3_pile_60 : decode cX3_pile 60 = .ok (.aload_n 0, 1) := by decide +kernel
theorem dX3_pile_61 : decode cX3_pile 61 = .ok (.getfield 29, 3) := by decide +kernel
theorem dX3_pile_64 : decode cX3_pile 64 = .ok (.istore 5, 2) := by decide +kernel
theorem dX3_pile_66 : decode cX3_pile 66 = .ok (.aload_n 0, 1) := by decide +kernel
theorem dX3_pile_67 : decode cX3_pile 67 = .ok (.getfield 11, 3) := by decide +kernel
theorem dX3_pile_70 : decode cX3_pile 70 = .ok (.iload 5, 2) := by decide +kernel
theorem dX3_pile_72 : decode cX3_pile 72 = .ok (.new 9, 3) := by decide +kernel
theorem dX3_pile_75 : decode cX3_pile 75 = .ok (.dup, 1) := by decide +kernel
theorem dX3_pile_76 : decode cX3_pile 76 = .ok (.iload_n 1, 1) := by decide +kernel
theorem dX3_pile_77 : decode cX3_pile 77 = .ok (.iload_n 2, 1) := by decide +kernel
theorem dX3_pile_78 : decode cX3_pile 78 = .ok (.iload_n 3, 1) := by decide +kernel
theorem dX3_pile_79 : decode cX3_pile 79 = .ok (.iload 4, 2) := by decide +kernel
theorem dX3_pile_81 : decode cX3_pile 81 = .ok (.invokespecial 45, 3) := by decide +kernel
theorem dX3_pile_84 : decode cX3_pile 84 = .ok (.aastore, 1) := by decide +kernel
theorem dX3_pile_85 : decode cX3_pile 85 = .ok (.aload_n 0, 1) := by decide +kernel
theorem dX3_pile_86 : decode cX3_pile 86 = .ok (.dup, 1) := by decide +kernel
theorem dX3_pile_87 : decode cX3_pile 87 = .ok (.getfield 29, 3) := by decide +kernel
theorem dX3_pile_90 : decode cX3_pile 90 = .ok (.iconst 1, 1) := by decide +kernel
theorem dX3_pile_91 : decode cX3_pile 91 = .ok (.iadd, 1) := by decide +kernel
theorem dX3_pile_92 : decode cX3_pile 92 = .ok (.putfield 29, 3) := by decide +kernel
theorem dX3_pile_95 : decode cX3_pile 95 = .ok (.iload 5, 2) := by decide +kernel
theorem dX3_pile_97 : decode cX3_pile 97 = .ok (.ireturn, 1) := by decide +kernel
set_option maxRecDepth 20000 in
theorem ggX3_ground_X3_pileOf : GoodIn wsX3_ground wsX3_pileOf := goodIn_ca (goodIn_r _ [8, 9, 10, 11, 33, 34, 35, 36] (by decide +kernel) (by decide +kernel)) (goodIn_sub (fun _ h => List.mem_cons_of_mem _ (List.mem_append_right _ h)) (by decide +kernel))
set_option maxRecDepth 20000 in
theorem gX3_ground_X3_pileOf : GoodIn wsX3_ground (wsV RX3 48 RX3 yX3_pileOf wsX3_pileOf) := goodIn_app (goodIn_of _ (by decide +kernel)) ggX3_ground_X3_pileOf
set_option maxRecDepth 20000 in
theorem ggX3_ground_X3_checkPiece : GoodIn wsX3_ground wsX3_checkPiece := goodIn_ca (goodIn_r _ [14, 15, 16, 17, 18, 19, 20, 21, 22, 7, 23, 9, 10, 24, 25, 26, 27, 28, 29, 30, 31, 32] (by decide +kernel) (by decide +kernel)) (goodIn_sub (fun _ h => List.mem_cons_of_mem _ (List.mem_append_right _ h)) (by decide +kernel))
set_option maxRecDepth 20000 in
theorem gX3_ground_X3_checkPiece : GoodIn wsX3_ground (va_wsS RX3 52 yX3_checkPiece wsX3_checkPiece) := goodIn_app (goodIn_of _ (by decide +kernel)) ggX3_ground_X3_checkPiece
set_option maxRecDepth 20000 in
theorem ggX3_ground_X3_checkWithin : GoodIn wsX3_ground wsX3_checkWithin := goodIn_ca (goodIn_r _ [23, 9, 10] (by decide +kernel) (by decide +kernel)) (goodIn_sub (fun _ h => List.mem_cons_of_mem _ (List.mem_append_right _ h)) (by decide +kernel))
set_option maxRecDepth 20000 in
theorem gX3_ground_X3_checkWithin : GoodIn wsX3_ground (va_wsS RX3 33 yX3_checkWithin wsX3_checkWithin) := goodIn_app (goodIn_of _ (by decide +kernel)) ggX3_ground_X3_checkWithin
theorem dX3_ground_0 : decode cX3_ground 0 = .ok (.aload_n 0, 1) := by decide +kernel
theorem dX3_ground_1 : decode cX3_ground 1 = .ok (.iload_n 1, 1) := by decide +kernel
theorem dX3_ground_2 : decode cX3_ground 2 = .ok (.invokevirtual 48, 3) := by decide +kernel
theorem dX3_ground_5 : decode cX3_ground 5 = .ok (.astore 5, 2) := by decide +kernel
theorem dX3_ground_7 : decode cX3_ground 7 = .ok (.aload 5, 2) := by decide +kernel
theorem dX3_ground_9 : decode cX3_ground 9 = .ok (.iload_n 2, 1) := by decide +kernel
theorem dX3_ground_10 : decode cX3_ground 10 = .ok (.invokestatic 52, 3) := by decide +kernel
theorem dX3_ground_13 : decode cX3_ground 13 = .ok (.iload_n 3, 1) := by decide +kernel
theorem dX3_ground_14 : decode cX3_ground 14 = .ok (.iconst 0, 1) := by decide +kernel
theorem dX3_ground_15 : decode cX3_ground 15 = .ok (.sipush 1000, 3) := by decide +kernel
theorem dX3_ground_18 : decode cX3_ground 18 = .ok (.invokestatic 33, 3) := by decide +kernel
theorem dX3_ground_21 : decode cX3_ground 21 = .ok (.iload 4, 2) := by decide +kernel
theorem dX3_ground_23 : decode cX3_ground 23 = .ok (.iconst 0, 1) := by decide +kernel
theorem dX3_ground_24 : decode cX3_ground 24 = .ok (.ldc 37, 2) := by decide +kernel
theorem dX3_ground_26 : decode cX3_ground 26 = .ok (.invokestatic 33, 3) := by decide +kernel
theorem dX3_ground_29 : decode cX3_ground 29 = .ok (.aload 5, 2) := by decide +kernel
theorem dX3_ground_31 : decode cX3_ground 31 = .ok (.getfield 56, 3) := by decide +kernel
theorem dX3_ground_34 : decode cX3_ground 34 = .ok (.iload_n 2, 1) := by decide +kernel
theorem dX3_ground_35 : decode cX3_ground 35 = .ok (.iload_n 3, 1) := by decide +kernel
theorem dX3_ground_36 : decode cX3_ground 36 = .ok (.iastore, 1) := by decide +kernel
theorem dX3_ground_37 : decode cX3_ground 37 = .ok (.aload 5, 2) := by decide +kernel
theorem dX3_ground_39 : decode cX3_ground 39 = .ok (.getfield 60, 3) := by decide +kernel
theorem dX3_ground_42 : decode cX3_ground 42 = .ok (.iload_n 2, 1) := by decide +kernel
theorem dX3_ground_43 : decode cX3_ground 43 = .ok (.iload 4, 2) := by decide +kernel
theorem dX3_ground_45 : decode cX3_ground 45 = .ok (.iastore, 1) := by decide +kernel
theorem dX3_ground_46 : decode cX3_ground 46 = .ok (.return_, 1) := by decide +kernel
set_option maxRecDepth 20000 in
theorem ggX3_sinks_X3_pileOf : GoodIn wsX3_sinks wsX3_pileOf := goodIn_ca (goodIn_r _ [6, 7, 8, 9, 31, 32, 33, 34] (by decide +kernel) (by decide +kernel)) (goodIn_sub (fun _ h => List.mem_cons_of_mem _ (List.mem_append_right _ h)) (by decide +kernel))
set_option maxRecDepth 20000 in
theorem gX3_sinks_X3_pileOf : GoodIn wsX3_sinks (wsV RX3 48 RX3 yX3_pileOf wsX3_pileOf) := goodIn_app (goodIn_of _ (by decide +kernel)) ggX3_sinks_X3_pileOf
set_option maxRecDepth 20000 in
theorem ggX3_sinks_X3_checkPiece : GoodIn wsX3_sinks wsX3_checkPiece := goodIn_ca (goodIn_r _ [12, 13, 14, 15, 16, 17, 18, 19, 20, 5, 21, 7, 8, 22, 23, 24, 25, 26, 27, 28, 29, 30] (by decide +kernel) (by decide +kernel)) (goodIn_sub (fun _ h => List.mem_cons_of_mem _ (List.mem_append_right _ h)) (by decide +kernel))
set_option maxRecDepth 20000 in
theorem gX3_sinks_X3_checkPiece : GoodIn wsX3_sinks (va_wsS RX3 52 yX3_checkPiece wsX3_checkPiece) := goodIn_app (goodIn_of _ (by decide +kernel)) ggX3_sinks_X3_checkPiece
set_option maxRecDepth 20000 in
theorem ggX3_sinks_X3_checkWithin : GoodIn wsX3_sinks wsX3_checkWithin := goodIn_ca (goodIn_r _ [21, 7, 8] (by decide +kernel) (by decide +kernel)) (goodIn_sub (fun _ h => List.mem_cons_of_mem _ (List.mem_append_right _ h)) (by decide +kernel))
set_option maxRecDepth 20000 in
theorem gX3_sinks_X3_checkWithin : GoodIn wsX3_sinks (va_wsS RX3 33 yX3_checkWithin wsX3_checkWithin) := goodIn_app (goodIn_of _ (by decide +kernel)) ggX3_sinks_X3_checkWithin
theorem dX3_sinks_0 : decode cX3_sinks 0 = .ok (.aload_n 0, 1) := by decide +kernel
theorem dX3_sinks_1 : decode cX3_sinks 1 = .ok (.iload_n 1, 1) := by decide +kernel
theorem dX3_sinks_2 : decode cX3_sinks 2 = .ok (.invokevirtual 48, 3) := by decide +kernel
theorem dX3_sinks_5 : decode cX3_sinks 5 = .ok (.astore 4, 2) := by decide +kernel
theorem dX3_sinks_7 : decode cX3_sinks 7 = .ok (.aload 4, 2) := by decide +kernel
theorem dX3_sinks_9 : decode cX3_sinks 9 = .ok (.iload_n 2, 1) := by decide +kernel
theorem dX3_sinks_10 : decode cX3_sinks 10 = .ok (.invokestatic 52, 3) := by decide +kernel
theorem dX3_sinks_13 : decode cX3_sinks 13 = .ok (.iload_n 3, 1) := by decide +kernel
theorem dX3_sinks_14 : decode cX3_sinks 14 = .ok (.iconst 0, 1) := by decide +kernel
theorem dX3_sinks_15 : decode cX3_sinks 15 = .ok (.sipush 10000, 3) := by decide +kernel
theorem dX3_sinks_18 : decode cX3_sinks 18 = .ok (.invokestatic 33, 3) := by decide +kernel
theorem dX3_sinks_21 : decode cX3_sinks 21 = .ok (.aload 4, 2) := by decide +kernel
theorem dX3_sinks_23 : decode cX3_sinks 23 = .ok (.getfield 63, 3) := by decide +kernel
theorem dX3_sinks_26 : decode cX3_sinks 26 = .ok (.iload_n 2, 1) := by decide +kernel
theorem dX3_sinks_27 : decode cX3_sinks 27 = .ok (.iaload, 1) := by decide +kernel
theorem dX3_sinks_28 : decode cX3_sinks 28 = .ok (.istore 5, 2) := by decide +kernel
theorem dX3_sinks_30 : decode cX3_sinks 30 = .ok (.aload 4, 2) := by decide +kernel
theorem dX3_sinks_32 : decode cX3_sinks 32 = .ok (.getfield 63, 3) := by decide +kernel
theorem dX3_sinks_35 : decode cX3_sinks 35 = .ok (.iload_n 2, 1) := by decide +kernel
theorem dX3_sinks_36 : decode cX3_sinks 36 = .ok (.iload_n 3, 1) := by decide +kernel
theorem dX3_sinks_37 : decode cX3_sinks 37 = .ok (.iastore, 1) := by decide +kernel
theorem dX3_sinks_38 : decode cX3_sinks 38 = .ok (.iload 5, 2) := by decide +kernel
theorem dX3_sinks_40 : decode cX3_sinks 40 = .ok (.ireturn, 1) := by decide +kernel
set_option maxRecDepth 20000 in
theorem ggX3_tip_X3_pileOf : GoodIn wsX3_tip wsX3_pileOf := goodIn_ca (goodIn_r _ [8, 9, 10, 11, 24, 25, 26, 27] (by decide +kernel) (by decide +kernel)) (goodIn_sub (fun _ h => List.mem_cons_of_mem _ (List.mem_append_right _ h)) (by decide +kernel))
set_option maxRecDepth 20000 in
theorem gX3_tip_X3_pileOf : GoodIn wsX3_tip (wsV RX3 48 RX3 yX3_pileOf wsX3_pileOf) := goodIn_app (goodIn_of _ (by decide +kernel)) ggX3_tip_X3_pileOf
set_option maxRecDepth 20000 in
theorem ggX3_tip_X3_checkWithin : GoodIn wsX3_tip wsX3_checkWithin := goodIn_ca (goodIn_r _ [14, 9, 10] (by decide +kernel) (by decide +kernel)) (goodIn_sub (fun _ h => List.mem_cons_of_mem _ (List.mem_append_right _ h)) (by decide +kernel))
set_option maxRecDepth 20000 in
theorem gX3_tip_X3_checkWithin : GoodIn wsX3_tip (va_wsS RX3 33 yX3_checkWithin wsX3_checkWithin) := goodIn_app (goodIn_of _ (by decide +kernel)) ggX3_tip_X3_checkWithin
theorem dX3_tip_0 : decode cX3_tip 0 = .ok (.aload_n 0, 1) := by decide +kernel
theorem dX3_tip_1 : decode cX3_tip 1 = .ok (.iload_n 1, 1) := by decide +kernel
theorem dX3_tip_2 : decode cX3_tip 2 = .ok (.invokevirtual 48, 3) := by decide +kernel
theorem dX3_tip_5 : decode cX3_tip 5 = .ok (.astore 4, 2) := by decide +kernel
theorem dX3_tip_7 : decode cX3_tip 7 = .ok (.iload_n 2, 1) := by decide +kernel
theorem dX3_tip_8 : decode cX3_tip 8 = .ok (.iconst 0, 1) := by decide +kernel
theorem dX3_tip_9 : decode cX3_tip 9 = .ok (.sipush 1000, 3) := by decide +kernel
theorem dX3_tip_12 : decode cX3_tip 12 = .ok (.invokestatic 33, 3) := by decide +kernel
theorem dX3_tip_15 : decode cX3_tip 15 = .ok (.iload_n 3, 1) := by decide +kernel
theorem dX3_tip_16 : decode cX3_tip 16 = .ok (.iconst 0, 1) := by decide +kernel
theorem dX3_tip_17 : decode cX3_tip 17 = .ok (.ldc 66, 2) := by decide +kernel
theorem dX3_tip_19 : decode cX3_tip 19 = .ok (.invokestatic 33, 3) := by decide +kernel
theorem dX3_tip_22 : decode cX3_tip 22 = .ok (.aload 4, 2) := by decide +kernel
theorem dX3_tip_24 : decode cX3_tip 24 = .ok (.iload_n 2, 1) := by decide +kernel
theorem dX3_tip_25 : decode cX3_tip 25 = .ok (.putfield 67, 3) := by decide +kernel
theorem dX3_tip_28 : decode cX3_tip 28 = .ok (.aload 4, 2) := by decide +kernel
theorem dX3_tip_30 : decode cX3_tip 30 = .ok (.iload_n 3, 1) := by decide +kernel
theorem dX3_tip_31 : decode cX3_tip 31 = .ok (.putfield 70, 3) := by decide +kernel
theorem dX3_tip_34 : decode cX3_tip 34 = .ok (.return_, 1) := by decide +kernel
set_option maxRecDepth 20000 in
theorem ggX3_under_X3_pileOf : GoodIn wsX3_under wsX3_pileOf := goodIn_ca (goodIn_r _ [8, 9, 10, 11, 58, 59, 60, 61] (by decide +kernel) (by decide +kernel)) (goodIn_sub (fun _ h => List.mem_cons_of_mem _ (List.mem_append_right _ h)) (by decide +kernel))
set_option maxRecDepth 20000 in
theorem gX3_under_X3_pileOf : GoodIn wsX3_under (wsV RX3 48 RX3 yX3_pileOf wsX3_pileOf) := goodIn_app (goodIn_of _ (by decide +kernel)) ggX3_under_X3_pileOf
set_option maxRecDepth 20000 in
theorem ggX3_under_X3_checkLoad : GoodIn wsX3_under wsX3_checkLoad := goodIn_ca (goodIn_r _ [14, 15, 16, 17, 7, 18, 9, 10] (by decide +kernel) (by decide +kernel)) (goodIn_sub (fun _ h => List.mem_cons_of_mem _ (List.mem_append_right _ h)) (by decide +kernel))
set_option maxRecDepth 20000 in
theorem gX3_under_X3_checkLoad : GoodIn wsX3_under (va_wsS RX3 73 yX3_checkLoad wsX3_checkLoad) := goodIn_app (goodIn_of _ (by decide +kernel)) ggX3_under_X3_checkLoad
set_option maxRecDepth 20000 in
theorem ggX3_under_X2_findUnder : GoodIn wsX3_under wsX2_findUnder := goodIn_r _ [23, 24, 25, 26, 27, 28, 22, 29, 30, 31, 32, 33, 34, 35, 36, 37, 38, 39, 40, 41, 42, 43, 44, 45, 46, 47, 48, 49, 50, 51, 52, 7, 53, 54, 55, 56, 57, 62, 63, 64, 65, 66, 67, 68, 69, 70, 71, 72, 73, 74] (by decide +kernel) (by decide +kernel)
set_option maxRecDepth 20000 in
theorem gX3_under_X2_findUnder : GoodIn wsX3_under (wsV RX3 77 RX2 yX2_findUnder wsX2_findUnder) := goodIn_app (goodIn_of _ (by decide +kernel)) ggX3_under_X2_findUnder
theorem dX3_under_0 : decode cX3_under 0 = .ok (.aload_n 0, 1) := by decide +kernel
theorem dX3_under_1 : decode cX3_under 1 = .ok (.iload_n 1, 1) := by decide +kernel
theorem dX3_under_2 : decode cX3_under 2 = .ok (.invokevirtual 48, 3) := by decide +kernel
theorem dX3_under_5 : decode cX3_under 5 = .ok (.astore_n 3, 1) := by decide +kernel
theorem dX3_under_6 : decode cX3_under 6 = .ok (.iload_n 2, 1) := by decide +kernel
theorem dX3_under_7 : decode cX3_under 7 = .ok (.invokestatic 73, 3) := by decide +kernel
theorem dX3_under_10 : decode cX3_under 10 = .ok (.aload_n 0, 1) := by decide +kernel
theorem dX3_under_11 : decode cX3_under 11 = .ok (.getfield 18, 3) := by decide +kernel
theorem dX3_under_14 : decode cX3_under 14 = .ok (.aload_n 3, 1) := by decide +kernel
theorem dX3_under_15 : decode cX3_under 15 = .ok (.iload_n 2, 1) := by decide +kernel
theorem dX3_under_16 : decode cX3_under 16 = .ok (.invokevirtual 77, 3) := by decide +kernel
theorem dX3_under_19 : decode cX3_under 19 = .ok (.ifCond .eq 13, 3) := by decide +kernel
theorem dX3_under_22 : decode cX3_under 22 = .ok (.aload_n 0, 1) := by decide +kernel
theorem dX3_under_23 : decode cX3_under 23 = .ok (.getfield 18, 3) := by decide +kernel
theorem dX3_under_26 : decode cX3_under 26 = .ok (.getfield 81, 3) := by decide +kernel
theorem dX3_under_29 : decode cX3_under 29 = .ok (.goto 5, 3) := by decide +kernel
theorem dX3_under_32 : decode cX3_under 32 = .ok (.ldc 84, 2) := by decide +kernel
theorem dX3_under_34 : decode cX3_under 34 = .ok (.ireturn, 1) := by decide +kernel
set_option maxRecDepth 20000 in
theorem ggX3_piece_X3_pileOf : GoodIn wsX3_piece wsX3_pileOf := goodIn_ca (goodIn_r _ [10, 11, 12, 13, 65, 66, 67, 68] (by decide +kernel) (by decide +kernel)) (goodIn_sub (fun _ h => List.mem_cons_of_mem _ (List.mem_append_right _ h)) (by decide +kernel))
set_option maxRecDepth 20000 in
theorem gX3_piece_X3_pileOf : GoodIn wsX3_piece (wsV RX3 48 RX3 yX3_pileOf wsX3_pileOf) := goodIn_app (goodIn_of _ (by decide +kernel)) ggX3_piece_X3_pileOf
set_option maxRecDepth 20000 in
theorem ggX3_piece_X3_checkLoad : GoodIn wsX3_piece wsX3_checkLoad := goodIn_ca (goodIn_r _ [16, 17, 18, 19, 9, 20, 11, 12] (by decide +kernel) (by decide +kernel)) (goodIn_sub (fun _ h => List.mem_cons_of_mem _ (List.mem_append_right _ h)) (by decide +kernel))
set_option maxRecDepth 20000 in
theorem gX3_piece_X3_checkLoad : GoodIn wsX3_piece (va_wsS RX3 73 yX3_checkLoad wsX3_checkLoad) := goodIn_app (goodIn_of _ (by decide +kernel)) ggX3_piece_X3_checkLoad
set_option maxRecDepth 20000 in
theorem ggX3_piece_X3_checkPiece : GoodIn wsX3_piece wsX3_checkPiece := goodIn_ca (goodIn_r _ [23, 24, 25, 26, 27, 28, 29, 18, 19, 9, 20, 11, 12, 73, 74, 75, 76, 77, 78, 79, 80, 81] (by decide +kernel) (by decide +kernel)) (goodIn_sub (fun _ h => List.mem_cons_of_mem _ (List.mem_append_right _ h)) (by decide +kernel))
set_option maxRecDepth 20000 in
theorem gX3_piece_X3_checkPiece : GoodIn wsX3_piece (va_wsS RX3 52 yX3_checkPiece wsX3_checkPiece) := goodIn_app (goodIn_of _ (by decide +kernel)) ggX3_piece_X3_checkPiece
set_option maxRecDepth 20000 in
theorem ggX3_piece_X3_checkWithin : GoodIn wsX3_piece wsX3_checkWithin := goodIn_ca (goodIn_r _ [20, 11, 12] (by decide +kernel) (by decide +kernel)) (goodIn_sub (fun _ h => List.mem_cons_of_mem _ (List.mem_append_right _ h)) (by decide +kernel))
set_option maxRecDepth 20000 in
theorem gX3_piece_X3_checkWithin : GoodIn wsX3_piece (va_wsS RX3 33 yX3_checkWithin wsX3_checkWithin) := goodIn_app (goodIn_of _ (by decide +kernel)) ggX3_piece_X3_checkWithin
set_option maxRecDepth 20000 in
theorem ggX3_piece_X2_findUnder : GoodIn wsX3_piece wsX2_findUnder := goodIn_r _ [34, 35, 36, 37, 38, 39, 33, 40, 41, 42, 43, 44, 45, 46, 47, 48, 49, 50, 51, 52, 53, 54, 55, 56, 57, 25, 26, 27, 28, 29, 58, 9, 59, 60, 61, 62, 63, 69, 70, 71, 72, 73, 74, 75, 76, 77, 78, 79, 80, 81] (by decide +kernel) (by decide +kernel)
set_option maxRecDepth 20000 in
theorem gX3_piece_X2_findUnder : GoodIn wsX3_piece (wsV RX3 77 RX2 yX2_findUnder wsX2_findUnder) := goodIn_app (goodIn_of _ (by decide +kernel)) ggX3_piece_X2_findUnder
set_option maxRecDepth 20000 in
theorem ggX3_piece_X2_climb : GoodIn wsX3_piece wsX2_climb := goodIn_r _ [49, 35, 44, 50, 51, 43, 52, 53, 54, 55, 56, 57, 25, 26, 27, 28, 29, 58, 9, 59, 60, 61, 62, 63, 69, 70, 71, 72, 73, 74, 75, 76, 77, 78, 79, 80, 81] (by decide +kernel) (by decide +kernel)
set_option maxRecDepth 20000 in
theorem gX3_piece_X2_climb : GoodIn wsX3_piece (wsV RX3 85 RX2 yX2_climb wsX2_climb) := goodIn_app (goodIn_of _ (by decide +kernel)) ggX3_piece_X2_climb
theorem dX3_piece_0 : decode cX3_piece 0 = .ok (.aload_n 0, 1) := by decide +kernel
theorem dX3_piece_1 : decode cX3_piece 1 = .ok (.iload_n 1, 1) := by decide +kernel
theorem dX3_piece_2 : decode cX3_piece 2 = .ok (.invokevirtual 48, 3) := by decide +kernel
theorem dX3_piece_5 : decode cX3_piece 5 = .ok (.astore 5, 2) := by decide +kernel
theorem dX3_piece_7 : decode cX3_piece 7 = .ok (.iload_n 2, 1) := by decide +kernel
theorem dX3_piece_8 : decode cX3_piece 8 = .ok (.invokestatic 73, 3) := by decide +kernel
theorem dX3_piece_11 : decode cX3_piece 11 = .ok (.aload 5, 2) := by decide +kernel
theorem dX3_piece_13 : decode cX3_piece 13 = .ok (.iload_n 3, 1) := by decide +kernel
theorem dX3_piece_14 : decode cX3_piece 14 = .ok (.invokestatic 52, 3) := by decide +kernel
theorem dX3_piece_17 : decode cX3_piece 17 = .ok (.iload 4, 2) := by decide +kernel
theorem dX3_piece_19 : decode cX3_piece 19 = .ok (.iconst 0, 1) := by decide +kernel
theorem dX3_piece_20 : decode cX3_piece 20 = .ok (.iconst 2, 1) := by decide +kernel
theorem dX3_piece_21 : decode cX3_piece 21 = .ok (.invokestatic 33, 3) := by decide +kernel
theorem dX3_piece_24 : decode cX3_piece 24 = .ok (.aload_n 0, 1) := by decide +kernel
theorem dX3_piece_25 : decode cX3_piece 25 = .ok (.getfield 18, 3) := by decide +kernel
theorem dX3_piece_28 : decode cX3_piece 28 = .ok (.aload 5, 2) := by decide +kernel
theorem dX3_piece_30 : decode cX3_piece 30 = .ok (.iload_n 2, 1) := by decide +kernel
theorem dX3_piece_31 : decode cX3_piece 31 = .ok (.invokevirtual 77, 3) := by decide +kernel
theorem dX3_piece_34 : decode cX3_piece 34 = .ok (.ifCond .ne 6, 3) := by decide +kernel
theorem dX3_piece_37 : decode cX3_piece 37 = .ok (.ldc 84, 2) := by decide +kernel
theorem dX3_piece_39 : decode cX3_piece 39 = .ok (.ireturn, 1) := by decide +kernel
theorem dX3_piece_40 : decode cX3_piece 40 = .ok (.aload_n 0, 1) := by decide +kernel
theorem dX3_piece_41 : decode cX3_piece 41 = .ok (.getfield 18, 3) := by decide +kernel
theorem dX3_piece_44 : decode cX3_piece 44 = .ok (.aload 5, 2) := by decide +kernel
theorem dX3_piece_46 : decode cX3_piece 46 = .ok (.iload_n 3, 1) := by decide +kernel
theorem dX3_piece_47 : decode cX3_piece 47 = .ok (.invokevirtual 85, 3) := by decide +kernel
theorem dX3_piece_50 : decode cX3_piece 50 = .ok (.iload 4, 2) := by decide +kernel
theorem dX3_piece_52 : decode cX3_piece 52 = .ok (.ifCond .ne 11, 3) := by decide +kernel
theorem dX3_piece_55 : decode cX3_piece 55 = .ok (.aload_n 0, 1) := by decide +kernel
theorem dX3_piece_56 : decode cX3_piece 56 = .ok (.getfield 18, 3) := by decide +kernel
theorem dX3_piece_59 : decode cX3_piece 59 = .ok (.getfield 81, 3) := by decide +kernel
theorem dX3_piece_62 : decode cX3_piece 62 = .ok (.ireturn, 1) := by decide +kernel
theorem dX3_piece_63 : decode cX3_piece 63 = .ok (.iload 4, 2) := by decide +kernel
theorem dX3_piece_65 : decode cX3_piece 65 = .ok (.iconst 1, 1) := by decide +kernel
theorem dX3_piece_66 : decode cX3_piece 66 = .ok (.if_icmp .ne 13, 3) := by decide +kernel
theorem dX3_piece_69 : decode cX3_piece 69 = .ok (.aload_n 0, 1) := by decide +kernel
theorem dX3_piece_70 : decode cX3_piece 70 = .ok (.getfield 18, 3) := by decide +kernel
theorem dX3_piece_73 : decode cX3_piece 73 = .ok (.getfield 88, 3) := by decide +kernel
theorem dX3_piece_76 : decode cX3_piece 76 = .ok (.goto 10, 3) := by decide +kernel
theorem dX3_piece_79 : decode cX3_piece 79 = .ok (.aload_n 0, 1) := by decide +kernel
theorem dX3_piece_80 : decode cX3_piece 80 = .ok (.getfield 18, 3) := by decide +kernel
theorem dX3_piece_83 : decode cX3_piece 83 = .ok (.getfield 91, 3) := by decide +kernel
theorem dX3_piece_86 : decode cX3_piece 86 = .ok (.ireturn, 1) := by decide +kernel
set_option maxRecDepth 20000 in
theorem ggX3_load_X3_pileOf : GoodIn wsX3_load wsX3_pileOf := goodIn_ca (goodIn_r _ [10, 11, 12, 13, 56, 57, 58, 59] (by decide +kernel) (by decide +kernel)) (goodIn_sub (fun _ h => List.mem_cons_of_mem _ (List.mem_append_right _ h)) (by decide +kernel))
set_option maxRecDepth 20000 in
theorem gX3_load_X3_pileOf : GoodIn wsX3_load (wsV RX3 48 RX3 yX3_pileOf wsX3_pileOf) := goodIn_app (goodIn_of _ (by decide +kernel)) ggX3_load_X3_pileOf
set_option maxRecDepth 20000 in
theorem ggX3_load_X3_checkWithin : GoodIn wsX3_load wsX3_checkWithin := goodIn_ca (goodIn_r _ [16, 11, 12] (by decide +kernel) (by decide +kernel)) (goodIn_sub (fun _ h => List.mem_cons_of_mem _ (List.mem_append_right _ h)) (by decide +kernel))
set_option maxRecDepth 20000 in
theorem gX3_load_X3_checkWithin : GoodIn wsX3_load (va_wsS RX3 33 yX3_checkWithin wsX3_checkWithin) := goodIn_app (goodIn_of _ (by decide +kernel)) ggX3_load_X3_checkWithin
set_option maxRecDepth 20000 in
theorem ggX3_load_X2_findAt : GoodIn wsX3_load wsX2_findAt := goodIn_r _ [21, 22, 23, 24, 20, 25, 26, 27, 28, 29, 30, 31, 32, 33, 34, 35, 36, 37, 38, 39, 40, 41, 42, 43, 44, 45, 46, 47, 48, 49, 50, 9, 51, 52, 53, 54, 55, 60, 61, 62, 63, 64, 65, 66, 67, 68, 69, 70, 71, 72] (by decide +kernel) (by decide +kernel)
set_option maxRecDepth 20000 in
theorem gX3_load_X2_findAt : GoodIn wsX3_load (wsV RX3 95 RX2 yX2_findAt wsX2_findAt) := goodIn_app (goodIn_of _ (by decide +kernel)) ggX3_load_X2_findAt
theorem dX3_load_0 : decode cX3_load 0 = .ok (.aload_n 0, 1) := by decide +kernel
theorem dX3_load_1 : decode cX3_load 1 = .ok (.iload_n 1, 1) := by decide +kernel
theorem dX3_load_2 : decode cX3_load 2 = .ok (.invokevirtual 48, 3) := by decide +kernel
theorem dX3_load_5 : decode cX3_load 5 = .ok (.astore_n 3, 1) := by decide +kernel
theorem dX3_load_6 : decode cX3_load 6 = .ok (.iload_n 2, 1) := by decide +kernel
theorem dX3_load_7 : decode cX3_load 7 = .ok (.ldc 94, 2) := by decide +kernel
theorem dX3_load_9 : decode cX3_load 9 = .ok (.ldc 37, 2) := by decide +kernel
theorem dX3_load_11 : decode cX3_load 11 = .ok (.invokestatic 33, 3) := by decide +kernel
theorem dX3_load_14 : decode cX3_load 14 = .ok (.aload_n 0, 1) := by decide +kernel
theorem dX3_load_15 : decode cX3_load 15 = .ok (.getfield 18, 3) := by decide +kernel
theorem dX3_load_18 : decode cX3_load 18 = .ok (.aload_n 3, 1) := by decide +kernel
theorem dX3_load_19 : decode cX3_load 19 = .ok (.iload_n 2, 1) := by decide +kernel
theorem dX3_load_20 : decode cX3_load 20 = .ok (.invokevirtual 95, 3) := by decide +kernel
theorem dX3_load_23 : decode cX3_load 23 = .ok (.ifCond .eq 13, 3) := by decide +kernel
theorem dX3_load_26 : decode cX3_load 26 = .ok (.aload_n 0, 1) := by decide +kernel
theorem dX3_load_27 : decode cX3_load 27 = .ok (.getfield 18, 3) := by decide +kernel
theorem dX3_load_30 : decode cX3_load 30 = .ok (.getfield 91, 3) := by decide +kernel
theorem dX3_load_33 : decode cX3_load 33 = .ok (.goto 5, 3) := by decide +kernel
theorem dX3_load_36 : decode cX3_load 36 = .ok (.ldc 84, 2) := by decide +kernel
theorem dX3_load_38 : decode cX3_load 38 = .ok (.ireturn, 1) := by decide +kernel
set_option maxRecDepth 20000 in
theorem ggX3_hold_X3_pileOf : GoodIn wsX3_hold wsX3_pileOf := goodIn_ca (goodIn_r _ [6, 7, 8, 9, 19, 20, 21, 22] (by decide +kernel) (by decide +kernel)) (goodIn_sub (fun _ h => List.mem_cons_of_mem _ (List.mem_append_right _ h)) (by decide +kernel))
set_option maxRecDepth 20000 in
theorem gX3_hold_X3_pileOf : GoodIn wsX3_hold (wsV RX3 48 RX3 yX3_pileOf wsX3_pileOf) := goodIn_app (goodIn_of _ (by decide +kernel)) ggX3_hold_X3_pileOf
theorem dX3_hold_0 : decode cX3_hold 0 = .ok (.aload_n 0, 1) := by decide +kernel
theorem dX3_hold_1 : decode cX3_hold 1 = .ok (.iload_n 1, 1) := by decide +kernel
theorem dX3_hold_2 : decode cX3_hold 2 = .ok (.invokevirtual 48, 3) := by decide +kernel
theorem dX3_hold_5 : decode cX3_hold 5 = .ok (.astore_n 2, 1) := by decide +kernel
theorem dX3_hold_6 : decode cX3_hold 6 = .ok (.iconst 0, 1) := by decide +kernel
theorem dX3_hold_7 : decode cX3_hold 7 = .ok (.istore_n 3, 1) := by decide +kernel
theorem dX3_hold_8 : decode cX3_hold 8 = .ok (.aload_n 2, 1) := by decide +kernel
theorem dX3_hold_9 : decode cX3_hold 9 = .ok (.getfield 60, 3) := by decide +kernel
theorem dX3_hold_12 : decode cX3_hold 12 = .ok (.astore 4, 2) := by decide +kernel
theorem dX3_hold_14 : decode cX3_hold 14 = .ok (.aload 4, 2) := by decide +kernel
theorem dX3_hold_16 : decode cX3_hold 16 = .ok (.arraylength, 1) := by decide +kernel
theorem dX3_hold_17 : decode cX3_hold 17 = .ok (.istore 5, 2) := by decide +kernel
theorem dX3_hold_19 : decode cX3_hold 19 = .ok (.iconst 0, 1) := by decide +kernel
theorem dX3_hold_20 : decode cX3_hold 20 = .ok (.istore 6, 2) := by decide +kernel
theorem dX3_hold_22 : decode cX3_hold 22 = .ok (.iload 6, 2) := by decide +kernel
theorem dX3_hold_24 : decode cX3_hold 24 = .ok (.iload 5, 2) := by decide +kernel
theorem dX3_hold_26 : decode cX3_hold 26 = .ok (.if_icmp .ge 27, 3) := by decide +kernel
theorem dX3_hold_29 : decode cX3_hold 29 = .ok (.aload 4, 2) := by decide +kernel
theorem dX3_hold_31 : decode cX3_hold 31 = .ok (.iload 6, 2) := by decide +kernel
theorem dX3_hold_33 : decode cX3_hold 33 = .ok (.iaload, 1) := by decide +kernel
theorem dX3_hold_34 : decode cX3_hold 34 = .ok (.istore 7, 2) := by decide +kernel
theorem dX3_hold_36 : decode cX3_hold 36 = .ok (.iload_n 3, 1) := by decide +kernel
theorem dX3_hold_37 : decode cX3_hold 37 = .ok (.bipush 7, 2) := by decide +kernel
theorem dX3_hold_39 : decode cX3_hold 39 = .ok (.iload 7, 2) := by decide +kernel
theorem dX3_hold_41 : decode cX3_hold 41 = .ok (.imul, 1) := by decide +kernel
theorem dX3_hold_42 : decode cX3_hold 42 = .ok (.bipush 10, 2) := by decide +kernel
theorem dX3_hold_44 : decode cX3_hold 44 = .ok (.idiv, 1) := by decide +kernel
theorem dX3_hold_45 : decode cX3_hold 45 = .ok (.iadd, 1) := by decide +kernel
theorem dX3_hold_46 : decode cX3_hold 46 = .ok (.istore_n 3, 1) := by decide +kernel
theorem dX3_hold_47 : decode cX3_hold 47 = .ok (.iinc 6 1, 3) := by decide +kernel
theorem dX3_hold_50 : decode cX3_hold 50 = .ok (.goto (-28), 3) := by decide +kernel
theorem dX3_hold_53 : decode cX3_hold 53 = .ok (.iload_n 3, 1) := by decide +kernel
theorem dX3_hold_54 : decode cX3_hold 54 = .ok (.ireturn, 1) := by decide +kernel
set_option maxRecDepth 20000 in
theorem ggX3_cheapest_X3_checkLoad : GoodIn wsX3_cheapest wsX3_checkLoad := goodIn_ca (goodIn_r _ [10, 11, 12, 13, 9, 14, 15, 16] (by decide +kernel) (by decide +kernel)) (goodIn_sub (fun _ h => List.mem_cons_of_mem _ (List.mem_append_right _ h)) (by decide +kernel))
set_option maxRecDepth 20000 in
theorem gX3_cheapest_X3_checkLoad : GoodIn wsX3_cheapest (va_wsS RX3 73 yX3_checkLoad wsX3_checkLoad) := goodIn_app (goodIn_of _ (by decide +kernel)) ggX3_cheapest_X3_checkLoad
set_option maxRecDepth 20000 in
theorem ggX3_cheapest_X3_checkWithin : GoodIn wsX3_cheapest wsX3_checkWithin := goodIn_ca (goodIn_r _ [14, 15, 16] (by decide +kernel) (by decide +kernel)) (goodIn_sub (fun _ h => List.mem_cons_of_mem _ (List.mem_append_right _ h)) (by decide +kernel))
set_option maxRecDepth 20000 in
theorem gX3_cheapest_X3_checkWithin : GoodIn wsX3_cheapest (va_wsS RX3 33 yX3_checkWithin wsX3_checkWithin) := goodIn_app (goodIn_of _ (by decide +kernel)) ggX3_cheapest_X3_checkWithin
set_option maxRecDepth 20000 in
theorem ggX3_cheapest_X2_findUnder : GoodIn wsX3_cheapest wsX2_findUnder := goodIn_r _ [21, 22, 23, 24, 25, 26, 20, 27, 28, 29, 30, 31, 32, 33, 34, 35, 36, 37, 38, 39, 40, 41, 42, 43, 44, 45, 46, 47, 48, 49, 50, 9, 51, 52, 53, 54, 55, 69, 70, 71, 72, 60, 61, 62, 63, 64, 65, 66, 67, 68] (by decide +kernel) (by decide +kernel)
set_option maxRecDepth 20000 in
theorem gX3_cheapest_X2_findUnder : GoodIn wsX3_cheapest (wsV RX3 77 RX2 yX2_findUnder wsX2_findUnder) := goodIn_app (goodIn_of _ (by decide +kernel)) ggX3_cheapest_X2_findUnder
theorem dX3_cheapest_0 : decode cX3_cheapest 0 = .ok (.iload_n 1, 1) := by decide +kernel
theorem dX3_cheapest_1 : decode cX3_cheapest 1 = .ok (.invokestatic 73, 3) := by decide +kernel
theorem dX3_cheapest_4 : decode cX3_cheapest 4 = .ok (.iload_n 2, 1) := by decide +kernel
theorem dX3_cheapest_5 : decode cX3_cheapest 5 = .ok (.iconst 0, 1) := by decide +kernel
theorem dX3_cheapest_6 : decode cX3_cheapest 6 = .ok (.ldc 37, 2) := by decide +kernel
theorem dX3_cheapest_8 : decode cX3_cheapest 8 = .ok (.invokestatic 33, 3) := by decide +kernel
theorem dX3_cheapest_11 : decode cX3_cheapest 11 = .ok (.ldc 84, 2) := by decide +kernel
theorem dX3_cheapest_13 : decode cX3_cheapest 13 = .ok (.istore_n 3, 1) := by decide +kernel
theorem dX3_cheapest_14 : decode cX3_cheapest 14 = .ok (.iconst 0, 1) := by decide +kernel
theorem dX3_cheapest_15 : decode cX3_cheapest 15 = .ok (.istore 4, 2) := by decide +kernel
theorem dX3_cheapest_17 : decode cX3_cheapest 17 = .ok (.iconst 0, 1) := by decide +kernel
theorem dX3_cheapest_18 : decode cX3_cheapest 18 = .ok (.istore 5, 2) := by decide +kernel
theorem dX3_cheapest_20 : decode cX3_cheapest 20 = .ok (.iload 5, 2) := by decide +kernel
theorem dX3_cheapest_22 : decode cX3_cheapest 22 = .ok (.aload_n 0, 1) := by decide +kernel
theorem dX3_cheapest_23 : decode cX3_cheapest 23 = .ok (.getfield 11, 3) := by decide +kernel
theorem dX3_cheapest_26 : decode cX3_cheapest 26 = .ok (.arraylength, 1) := by decide +kernel
theorem dX3_cheapest_27 : decode cX3_cheapest 27 = .ok (.if_icmp .ge 76, 3) := by decide +kernel
theorem dX3_cheapest_30 : decode cX3_cheapest 30 = .ok (.aload_n 0, 1) := by decide +kernel
theorem dX3_cheapest_31 : decode cX3_cheapest 31 = .ok (.getfield 11, 3) := by decide +kernel
theorem dX3_cheapest_34 : decode cX3_cheapest 34 = .ok (.iload 5, 2) := by decide +kernel
theorem dX3_cheapest_36 : decode cX3_cheapest 36 = .ok (.aaload, 1) := by decide +kernel
theorem dX3_cheapest_37 : decode cX3_cheapest 37 = .ok (.astore 6, 2) := by decide +kernel
theorem dX3_cheapest_39 : decode cX3_cheapest 39 = .ok (.aload 6, 2) := by decide +kernel
theorem dX3_cheapest_41 : decode cX3_cheapest 41 = .ok (.ifnull 56, 3) := by decide +kernel
theorem dX3_cheapest_44 : decode cX3_cheapest 44 = .ok (.iload_n 3, 1) := by decide +kernel
theorem dX3_cheapest_45 : decode cX3_cheapest 45 = .ok (.ldc 84, 2) := by decide +kernel
theorem dX3_cheapest_47 : decode cX3_cheapest 47 = .ok (.if_icmp .eq 16, 3) := by decide +kernel
theorem dX3_cheapest_50 : decode cX3_cheapest 50 = .ok (.aload 6, 2) := by decide +kernel
theorem dX3_cheapest_52 : decode cX3_cheapest 52 = .ok (.getfield 98, 3) := by decide +kernel
theorem dX3_cheapest_55 : decode cX3_cheapest 55 = .ok (.iload 4, 2) := by decide +kernel
theorem dX3_cheapest_57 : decode cX3_cheapest 57 = .ok (.if_icmp .lt 6, 3) := by decide +kernel
theorem dX3_cheapest_60 : decode cX3_cheapest 60 = .ok (.goto 37, 3) := by decide +kernel
theorem dX3_cheapest_63 : decode cX3_cheapest 63 = .ok (.aload_n 0, 1) := by decide +kernel
theorem dX3_cheapest_64 : decode cX3_cheapest 64 = .ok (.getfield 18, 3) := by decide +kernel
theorem dX3_cheapest_67 : decode cX3_cheapest 67 = .ok (.aload 6, 2) := by decide +kernel
theorem dX3_cheapest_69 : decode cX3_cheapest 69 = .ok (.iload_n 1, 1) := by decide +kernel
theorem dX3_cheapest_70 : decode cX3_cheapest 70 = .ok (.invokevirtual 77, 3) := by decide +kernel
theorem dX3_cheapest_73 : decode cX3_cheapest 73 = .ok (.ifCond .eq 24, 3) := by decide +kernel
theorem dX3_cheapest_76 : decode cX3_cheapest 76 = .ok (.aload_n 0, 1) := by decide +kernel
theorem dX3_cheapest_77 : decode cX3_cheapest 77 = .ok (.getfield 18, 3) := by decide +kernel
theorem dX3_cheapest_80 : decode cX3_cheapest 80 = .ok (.getfield 81, 3) := by decide +kernel
theorem dX3_cheapest_83 : decode cX3_cheapest 83 = .ok (.iload_n 2, 1) := by decide +kernel
theorem dX3_cheapest_84 : decode cX3_cheapest 84 = .ok (.if_icmp .gt 13, 3) := by decide +kernel
theorem dX3_cheapest_87 : decode cX3_cheapest 87 = .ok (.iload 5, 2) := by decide +kernel
theorem dX3_cheapest_89 : decode cX3_cheapest 89 = .ok (.istore_n 3, 1) := by decide +kernel
theorem dX3_cheapest_90 : decode cX3_cheapest 90 = .ok (.aload 6, 2) := by decide +kernel
theorem dX3_cheapest_92 : decode cX3_cheapest 92 = .ok (.getfield 98, 3) := by decide +kernel
theorem dX3_cheapest_95 : decode cX3_cheapest 95 = .ok (.istore 4, 2) := by decide +kernel
theorem dX3_cheapest_97 : decode cX3_cheapest 97 = .ok (.iinc 5 1, 3) := by decide +kernel
theorem dX3_cheapest_100 : decode cX3_cheapest 100 = .ok (.goto (-80), 3) := by decide +kernel
theorem dX3_cheapest_103 : decode cX3_cheapest 103 = .ok (.iload_n 3, 1) := by decide +kernel
theorem dX3_cheapest_104 : decode cX3_cheapest 104 = .ok (.ireturn, 1) := by decide +kernel
set_option maxRecDepth 20000 in
theorem ggX3_join_X3_pileOf : GoodIn wsX3_join wsX3_pileOf := goodIn_ca (goodIn_r _ [6, 7, 8, 9, 19, 20, 21, 22] (by decide +kernel) (by decide +kernel)) (goodIn_sub (fun _ h => List.mem_cons_of_mem _ (List.mem_append_right _ h)) (by decide +kernel))
set_option maxRecDepth 20000 in
theorem gX3_join_X3_pileOf : GoodIn wsX3_join (wsV RX3 48 RX3 yX3_pileOf wsX3_pileOf) := goodIn_app (goodIn_of _ (by decide +kernel)) ggX3_join_X3_pileOf
theorem dX3_join_0 : decode cX3_join 0 = .ok (.aload_n 0, 1) := by decide +kernel
theorem dX3_join_1 : decode cX3_join 1 = .ok (.iload_n 1, 1) := by decide +kernel
theorem dX3_join_2 : decode cX3_join 2 = .ok (.invokevirtual 48, 3) := by decide +kernel
theorem dX3_join_5 : decode cX3_join 5 = .ok (.astore_n 3, 1) := by decide +kernel
theorem dX3_join_6 : decode cX3_join 6 = .ok (.aload_n 3, 1) := by decide +kernel
theorem dX3_join_7 : decode cX3_join 7 = .ok (.getfield 101, 3) := by decide +kernel
theorem dX3_join_10 : decode cX3_join 10 = .ok (.istore 4, 2) := by decide +kernel
theorem dX3_join_12 : decode cX3_join 12 = .ok (.aload_n 3, 1) := by decide +kernel
theorem dX3_join_13 : decode cX3_join 13 = .ok (.iload_n 2, 1) := by decide +kernel
theorem dX3_join_14 : decode cX3_join 14 = .ok (.putfield 101, 3) := by decide +kernel
theorem dX3_join_17 : decode cX3_join 17 = .ok (.iload 4, 2) := by decide +kernel
theorem dX3_join_19 : decode cX3_join 19 = .ok (.ireturn, 1) := by decide +kernel
set_option maxRecDepth 20000 in
theorem ggX3_group_X3_checkLoad : GoodIn wsX3_group wsX3_checkLoad := goodIn_ca (goodIn_r _ [4, 5, 6, 7, 3, 8, 9, 10] (by decide +kernel) (by decide +kernel)) (goodIn_sub (fun _ h => List.mem_cons_of_mem _ (List.mem_append_left _ (List.mem_append_right _ h))) (by decide +kernel))
set_option maxRecDepth 20000 in
theorem gX3_group_X3_checkLoad : GoodIn wsX3_group (va_wsS RX3 73 yX3_checkLoad wsX3_checkLoad) := goodIn_app (goodIn_of _ (by decide +kernel)) ggX3_group_X3_checkLoad
set_option maxRecDepth 20000 in
theorem ggX3_group_X3_checkGroupNotEmpty : GoodIn wsX3_group wsX3_checkGroupNotEmpty := goodIn_ca (goodIn_r _ [14, 15, 16, 17, 18, 70, 71, 72, 73, 74, 75, 76, 77, 78, 79, 80, 81, 82] (by decide +kernel) (by decide +kernel)) (goodIn_sub (fun _ h => List.mem_cons_of_mem _ (List.mem_append_right _ h)) (by decide +kernel))
set_option maxRecDepth 20000 in
theorem gX3_group_X3_checkGroupNotEmpty : GoodIn wsX3_group (wsV RX3 105 RX3 yX3_checkGroupNotEmpty wsX3_checkGroupNotEmpty) := goodIn_app (goodIn_of _ (by decide +kernel)) ggX3_group_X3_checkGroupNotEmpty
set_option maxRecDepth 20000 in
theorem ggX3_group_X3_groupSettlement : GoodIn wsX3_group wsX3_groupSettlement := goodIn_r _ [22, 23, 24, 25, 26, 3, 27, 17, 18, 28, 29, 30, 31, 32, 33, 34, 35, 36, 37, 38, 39, 40, 41, 42, 43, 44, 45, 46, 47, 48, 49, 50, 51, 52, 53, 54, 55, 56, 57, 58, 59, 60, 61, 62, 63, 64, 65, 66, 67, 68, 69, 70, 71, 72, 73, 74, 75, 76, 77, 78, 79, 80, 81, 82, 83, 84, 85, 86] (by decide +kernel) (by decide +kernel)
set_option maxRecDepth 20000 in
theorem gX3_group_X3_groupSettlement : GoodIn wsX3_group (wsV RX3 108 RX3 yX3_groupSettlement wsX3_groupSettlement) := goodIn_app (goodIn_of _ (by decide +kernel)) ggX3_group_X3_groupSettlement
theorem dX3_group_0 : decode cX3_group 0 = .ok (.iload_n 1, 1) := by decide +kernel
theorem dX3_group_1 : decode cX3_group 1 = .ok (.invokestatic 73, 3) := by decide +kernel
theorem dX3_group_4 : decode cX3_group 4 = .ok (.aload_n 0, 1) := by decide +kernel
theorem dX3_group_5 : decode cX3_group 5 = .ok (.invokevirtual 105, 3) := by decide +kernel
theorem dX3_group_8 : decode cX3_group 8 = .ok (.aload_n 0, 1) := by decide +kernel
theorem dX3_group_9 : decode cX3_group 9 = .ok (.iload_n 1, 1) := by decide +kernel
theorem dX3_group_10 : decode cX3_group 10 = .ok (.invokevirtual 108, 3) := by decide +kernel
theorem dX3_group_13 : decode cX3_group 13 = .ok (.ireturn, 1) := by decide +kernel
set_option maxRecDepth 20000 in
theorem ggX3_share_X3_checkLoad : GoodIn wsX3_share wsX3_checkLoad := goodIn_ca (goodIn_r _ [10, 11, 12, 13, 9, 14, 1, 2] (by decide +kernel) (by decide +kernel)) (goodIn_sub (fun _ h => List.mem_cons_of_mem _ (List.mem_append_left _ (List.mem_append_right _ h))) (by decide +kernel))
set_option maxRecDepth 20000 in
theorem gX3_share_X3_checkLoad : GoodIn wsX3_share (va_wsS RX3 73 yX3_checkLoad wsX3_checkLoad) := goodIn_app (goodIn_of _ (by decide +kernel)) ggX3_share_X3_checkLoad
set_option maxRecDepth 20000 in
theorem ggX3_share_X3_pileOf : GoodIn wsX3_share wsX3_pileOf := goodIn_ca (goodIn_r _ [18, 1, 2, 19, 83, 84, 85, 86] (by decide +kernel) (by decide +kernel)) (goodIn_sub (fun _ h => List.mem_cons_of_mem _ (List.mem_append_left _ (List.mem_append_right _ h))) (by decide +kernel))
set_option maxRecDepth 20000 in
theorem gX3_share_X3_pileOf : GoodIn wsX3_share (wsV RX3 48 RX3 yX3_pileOf wsX3_pileOf) := goodIn_app (goodIn_of _ (by decide +kernel)) ggX3_share_X3_pileOf
set_option maxRecDepth 20000 in
theorem ggX3_share_X3_checkGroupNotEmpty : GoodIn wsX3_share wsX3_checkGroupNotEmpty := goodIn_ca (goodIn_r _ [23, 24, 25, 19, 3, 83, 84, 85, 86, 74, 75, 76, 77, 78, 79, 80, 81, 82] (by decide +kernel) (by decide +kernel)) (goodIn_sub (fun _ h => List.mem_cons_of_mem _ (List.mem_append_right _ h)) (by decide +kernel))
set_option maxRecDepth 20000 in
theorem gX3_share_X3_checkGroupNotEmpty : GoodIn wsX3_share (wsV RX3 105 RX3 yX3_checkGroupNotEmpty wsX3_checkGroupNotEmpty) := goodIn_app (goodIn_of _ (by decide +kernel)) ggX3_share_X3_checkGroupNotEmpty
set_option maxRecDepth 20000 in
theorem ggX3_share_X3_groupSettlement : GoodIn wsX3_share wsX3_groupSettlement := goodIn_r _ [29, 4, 30, 31, 32, 9, 33, 19, 3, 5, 34, 6, 35, 36, 37, 38, 39, 40, 41, 42, 43, 44, 45, 46, 47, 48, 49, 50, 51, 52, 53, 54, 55, 56, 57, 58, 59, 60, 61, 62, 63, 64, 65, 66, 67, 68, 69, 70, 71, 72, 73, 83, 84, 85, 86, 74, 75, 76, 77, 78, 79, 80, 81, 82, 87, 88, 89, 90] (by decide +kernel) (by decide +kernel)
set_option maxRecDepth 20000 in
theorem gX3_share_X3_groupSettlement : GoodIn wsX3_share (wsV RX3 108 RX3 yX3_groupSettlement wsX3_groupSettlement) := goodIn_app (goodIn_of _ (by decide +kernel)) ggX3_share_X3_groupSettlement
set_option maxRecDepth 20000 in
theorem ggX3_share_X2_findAt : GoodIn wsX3_share wsX2_findAt := goodIn_r _ [39, 40, 41, 42, 38, 43, 44, 45, 46, 47, 48, 49, 50, 51, 52, 53, 54, 55, 56, 57, 58, 59, 60, 61, 62, 63, 64, 65, 66, 67, 68, 9, 69, 70, 71, 72, 73, 87, 88, 89, 90, 74, 75, 76, 77, 78, 79, 80, 81, 82] (by decide +kernel) (by decide +kernel)
set_option maxRecDepth 20000 in
theorem gX3_share_X2_findAt : GoodIn wsX3_share (wsV RX3 95 RX2 yX2_findAt wsX2_findAt) := goodIn_app (goodIn_of _ (by decide +kernel)) ggX3_share_X2_findAt
theorem dX3_share_0 : decode cX3_share 0 = .ok (.iload_n 1, 1) := by decide +kernel
theorem dX3_share_1 : decode cX3_share 1 = .ok (.invokestatic 73, 3) := by decide +kernel
theorem dX3_share_4 : decode cX3_share 4 = .ok (.aload_n 0, 1) := by decide +kernel
theorem dX3_share_5 : decode cX3_share 5 = .ok (.iload_n 2, 1) := by decide +kernel
theorem dX3_share_6 : decode cX3_share 6 = .ok (.invokevirtual 48, 3) := by decide +kernel
theorem dX3_share_9 : decode cX3_share 9 = .ok (.astore_n 3, 1) := by decide +kernel
theorem dX3_share_10 : decode cX3_share 10 = .ok (.aload_n 0, 1) := by decide +kernel
theorem dX3_share_11 : decode cX3_share 11 = .ok (.invokevirtual 105, 3) := by decide +kernel
theorem dX3_share_14 : decode cX3_share 14 = .ok (.aload_n 3, 1) := by decide +kernel
theorem dX3_share_15 : decode cX3_share 15 = .ok (.getfield 101, 3) := by decide +kernel
theorem dX3_share_18 : decode cX3_share 18 = .ok (.ifCond .ne 13, 3) := by decide +kernel
theorem dX3_share_21 : decode cX3_share 21 = .ok (.new 112, 3) := by decide +kernel
theorem dX3_share_24 : decode cX3_share 24 = .ok (.dup, 1) := by decide +kernel
theorem dX3_share_25 : decode cX3_share 25 = .ok (.ldc 114, 2) := by decide +kernel
theorem dX3_share_27 : decode cX3_share 27 = .ok (.invokespecial 116, 3) := by decide +kernel
theorem dX3_share_30 : decode cX3_share 30 = .ok (.athrow, 1) := by decide +kernel
theorem dX3_share_31 : decode cX3_share 31 = .ok (.aload_n 0, 1) := by decide +kernel
theorem dX3_share_32 : decode cX3_share 32 = .ok (.iload_n 1, 1) := by decide +kernel
theorem dX3_share_33 : decode cX3_share 33 = .ok (.invokevirtual 108, 3) := by decide +kernel
theorem dX3_share_36 : decode cX3_share 36 = .ok (.istore 4, 2) := by decide +kernel
theorem dX3_share_38 : decode cX3_share 38 = .ok (.iload 4, 2) := by decide +kernel
theorem dX3_share_40 : decode cX3_share 40 = .ok (.ldc 84, 2) := by decide +kernel
theorem dX3_share_42 : decode cX3_share 42 = .ok (.if_icmp .eq 16, 3) := by decide +kernel
theorem dX3_share_45 : decode cX3_share 45 = .ok (.aload_n 0, 1) := by decide +kernel
theorem dX3_share_46 : decode cX3_share 46 = .ok (.getfield 18, 3) := by decide +kernel
theorem dX3_share_49 : decode cX3_share 49 = .ok (.aload_n 3, 1) := by decide +kernel
theorem dX3_share_50 : decode cX3_share 50 = .ok (.iload 4, 2) := by decide +kernel
theorem dX3_share_52 : decode cX3_share 52 = .ok (.invokevirtual 95, 3) := by decide +kernel
theorem dX3_share_55 : decode cX3_share 55 = .ok (.ifCond .ne 6, 3) := by decide +kernel
theorem dX3_share_58 : decode cX3_share 58 = .ok (.ldc 84, 2) := by decide +kernel
theorem dX3_share_60 : decode cX3_share 60 = .ok (.ireturn, 1) := by decide +kernel
theorem dX3_share_61 : decode cX3_share 61 = .ok (.aload_n 0, 1) := by decide +kernel
theorem dX3_share_62 : decode cX3_share 62 = .ok (.getfield 18, 3) := by decide +kernel
theorem dX3_share_65 : decode cX3_share 65 = .ok (.getfield 91, 3) := by decide +kernel
theorem dX3_share_68 : decode cX3_share 68 = .ok (.ireturn, 1) := by decide +kernel
set_option maxRecDepth 20000 in
theorem ggX3_blow_X3_pileOf : GoodIn wsX3_blow wsX3_pileOf := goodIn_ca (goodIn_r _ [6, 7, 8, 9, 83, 84, 85, 86] (by decide +kernel) (by decide +kernel)) (goodIn_sub (fun _ h => List.mem_cons_of_mem _ (List.mem_append_right _ h)) (by decide +kernel))
set_option maxRecDepth 20000 in
theorem gX3_blow_X3_pileOf : GoodIn wsX3_blow (wsV RX3 48 RX3 yX3_pileOf wsX3_pileOf) := goodIn_app (goodIn_of _ (by decide +kernel)) ggX3_blow_X3_pileOf
set_option maxRecDepth 20000 in
theorem ggX3_blow_X3_checkWithin : GoodIn wsX3_blow wsX3_checkWithin := goodIn_ca (goodIn_r _ [12, 7, 8] (by decide +kernel) (by decide +kernel)) (goodIn_sub (fun _ h => List.mem_cons_of_mem _ (List.mem_append_right _ h)) (by decide +kernel))
set_option maxRecDepth 20000 in
theorem gX3_blow_X3_checkWithin : GoodIn wsX3_blow (va_wsS RX3 33 yX3_checkWithin wsX3_checkWithin) := goodIn_app (goodIn_of _ (by decide +kernel)) ggX3_blow_X3_checkWithin
set_option maxRecDepth 20000 in
theorem ggX3_blow_X0_strike : GoodIn wsX3_blow wsX0_strike := goodIn_r _ [17, 18, 19, 20, 21, 22, 23, 24, 25, 26, 27, 28, 29, 30, 31, 32, 33, 34, 35, 36, 37, 38, 39, 40, 41, 42, 43, 44, 16, 45, 46, 47, 48, 49, 50, 51, 52, 53, 54, 55, 56, 57, 58, 59, 60, 61, 62, 63, 64, 5, 65, 66, 67, 68, 69, 70, 71, 87, 88, 89, 90, 91, 92, 93, 94, 95, 96, 97, 98, 99, 100, 101] (by decide +kernel) (by decide +kernel)
set_option maxRecDepth 20000 in
theorem gX3_blow_X0_strike : GoodIn wsX3_blow (wsV RX3 117 RX0 yX0_strike wsX0_strike) := goodIn_app (goodIn_of _ (by decide +kernel)) ggX3_blow_X0_strike
set_option maxRecDepth 20000 in
theorem ggX3_blow_X0_settled : GoodIn wsX3_blow wsX0_settled := goodIn_r _ [75, 19, 48, 49, 25, 50, 76, 77, 78, 35, 79, 80, 81, 82, 87, 88, 89, 90, 91, 92, 93, 94, 95, 96, 97, 98, 99, 100, 101] (by decide +kernel) (by decide +kernel)
set_option maxRecDepth 20000 in
theorem gX3_blow_X0_settled : GoodIn wsX3_blow (wsV RX3 121 RX0 yX0_settled wsX0_settled) := goodIn_app (goodIn_of _ (by decide +kernel)) ggX3_blow_X0_settled
theorem dX3_blow_0 : decode cX3_blow 0 = .ok (.aload_n 0, 1) := by decide +kernel
theorem dX3_blow_1 : decode cX3_blow 1 = .ok (.iload_n 1, 1) := by decide +kernel
theorem dX3_blow_2 : decode cX3_blow 2 = .ok (.invokevirtual 48, 3) := by decide +kernel
theorem dX3_blow_5 : decode cX3_blow 5 = .ok (.astore 4, 2) := by decide +kernel
theorem dX3_blow_7 : decode cX3_blow 7 = .ok (.iload_n 2, 1) := by decide +kernel
theorem dX3_blow_8 : decode cX3_blow 8 = .ok (.iconst 1, 1) := by decide +kernel
theorem dX3_blow_9 : decode cX3_blow 9 = .ok (.sipush 10000, 3) := by decide +kernel
theorem dX3_blow_12 : decode cX3_blow 12 = .ok (.invokestatic 33, 3) := by decide +kernel
theorem dX3_blow_15 : decode cX3_blow 15 = .ok (.iload_n 3, 1) := by decide +kernel
theorem dX3_blow_16 : decode cX3_blow 16 = .ok (.iconst 1, 1) := by decide +kernel
theorem dX3_blow_17 : decode cX3_blow 17 = .ok (.sipush 1000, 3) := by decide +kernel
theorem dX3_blow_20 : decode cX3_blow 20 = .ok (.invokestatic 33, 3) := by decide +kernel
theorem dX3_blow_23 : decode cX3_blow 23 = .ok (.aload_n 0, 1) := by decide +kernel
theorem dX3_blow_24 : decode cX3_blow 24 = .ok (.getfield 25, 3) := by decide +kernel
theorem dX3_blow_27 : decode cX3_blow 27 = .ok (.aload 4, 2) := by decide +kernel
theorem dX3_blow_29 : decode cX3_blow 29 = .ok (.iload_n 2, 1) := by decide +kernel
theorem dX3_blow_30 : decode cX3_blow 30 = .ok (.iload_n 3, 1) := by decide +kernel
theorem dX3_blow_31 : decode cX3_blow 31 = .ok (.invokevirtual 117, 3) := by decide +kernel
theorem dX3_blow_34 : decode cX3_blow 34 = .ok (.aload_n 0, 1) := by decide +kernel
theorem dX3_blow_35 : decode cX3_blow 35 = .ok (.getfield 25, 3) := by decide +kernel
theorem dX3_blow_38 : decode cX3_blow 38 = .ok (.aload 4, 2) := by decide +kernel
theorem dX3_blow_40 : decode cX3_blow 40 = .ok (.invokevirtual 121, 3) := by decide +kernel
theorem dX3_blow_43 : decode cX3_blow 43 = .ok (.ireturn, 1) := by decide +kernel
set_option maxRecDepth 20000 in
theorem ggX3_wave_X0_happened : GoodIn wsX3_wave wsX0_happened := goodIn_r _ [9, 10, 27, 28, 29, 30, 31, 32] (by decide +kernel) (by decide +kernel)
set_option maxRecDepth 20000 in
theorem gX3_wave_X0_happened : GoodIn wsX3_wave (wsV RX3 125 RX0 yX0_happened wsX0_happened) := goodIn_app (goodIn_of _ (by decide +kernel)) ggX3_wave_X0_happened
set_option maxRecDepth 20000 in
theorem ggX3_wave_X3_checkWithin : GoodIn wsX3_wave wsX3_checkWithin := goodIn_ca (goodIn_r _ [14, 15, 16] (by decide +kernel) (by decide +kernel)) (goodIn_sub (fun _ h => List.mem_cons_of_mem _ (List.mem_append_right _ h)) (by decide +kernel))
set_option maxRecDepth 20000 in
theorem gX3_wave_X3_checkWithin : GoodIn wsX3_wave (va_wsS RX3 33 yX3_checkWithin wsX3_checkWithin) := goodIn_app (goodIn_of _ (by decide +kernel)) ggX3_wave_X3_checkWithin
set_option maxRecDepth 20000 in
theorem ggX3_wave_X0_behindRound : GoodIn wsX3_wave wsX0_behindRound := goodIn_r _ [20, 21, 22, 27, 28, 29, 30, 31, 32] (by decide +kernel) (by decide +kernel)
set_option maxRecDepth 20000 in
theorem gX3_wave_X0_behindRound : GoodIn wsX3_wave (wsV RX3 134 RX0 yX0_behindRound wsX0_behindRound) := goodIn_app (goodIn_of _ (by decide +kernel)) ggX3_wave_X0_behindRound
theorem dX3_wave_0 : decode cX3_wave 0 = .ok (.aload_n 0, 1) := by decide +kernel
theorem dX3_wave_1 : decode cX3_wave 1 = .ok (.getfield 25, 3) := by decide +kernel
theorem dX3_wave_4 : decode cX3_wave 4 = .ok (.invokevirtual 125, 3) := by decide +kernel
theorem dX3_wave_7 : decode cX3_wave 7 = .ok (.ifCond .ne 13, 3) := by decide +kernel
theorem dX3_wave_10 : decode cX3_wave 10 = .ok (.new 38, 3) := by decide +kernel
theorem dX3_wave_13 : decode cX3_wave 13 = .ok (.dup, 1) := by decide +kernel
theorem dX3_wave_14 : decode cX3_wave 14 = .ok (.ldc 129, 2) := by decide +kernel
theorem dX3_wave_16 : decode cX3_wave 16 = .ok (.invokespecial 42, 3) := by decide +kernel
theorem dX3_wave_19 : decode cX3_wave 19 = .ok (.athrow, 1) := by decide +kernel
theorem dX3_wave_20 : decode cX3_wave 20 = .ok (.iload_n 1, 1) := by decide +kernel
theorem dX3_wave_21 : decode cX3_wave 21 = .ok (.iconst 0, 1) := by decide +kernel
theorem dX3_wave_22 : decode cX3_wave 22 = .ok (.sipush 199, 3) := by decide +kernel
theorem dX3_wave_25 : decode cX3_wave 25 = .ok (.invokestatic 33, 3) := by decide +kernel
theorem dX3_wave_28 : decode cX3_wave 28 = .ok (.iload_n 2, 1) := by decide +kernel
theorem dX3_wave_29 : decode cX3_wave 29 = .ok (.iconst 0, 1) := by decide +kernel
theorem dX3_wave_30 : decode cX3_wave 30 = .ok (.aload_n 0, 1) := by decide +kernel
theorem dX3_wave_31 : decode cX3_wave 31 = .ok (.getfield 25, 3) := by decide +kernel
theorem dX3_wave_34 : decode cX3_wave 34 = .ok (.getfield 131, 3) := by decide +kernel
theorem dX3_wave_37 : decode cX3_wave 37 = .ok (.invokestatic 33, 3) := by decide +kernel
theorem dX3_wave_40 : decode cX3_wave 40 = .ok (.aload_n 0, 1) := by decide +kernel
theorem dX3_wave_41 : decode cX3_wave 41 = .ok (.getfield 25, 3) := by decide +kernel
theorem dX3_wave_44 : decode cX3_wave 44 = .ok (.iload_n 1, 1) := by decide +kernel
theorem dX3_wave_45 : decode cX3_wave 45 = .ok (.iload_n 2, 1) := by decide +kernel
theorem dX3_wave_46 : decode cX3_wave 46 = .ok (.invokevirtual 134, 3) := by decide +kernel
theorem dX3_wave_49 : decode cX3_wave 49 = .ok (.ireturn, 1) := by decide +kernel
theorem dX3_checkWithin_0 : decode cX3_checkWithin 0 = .ok (.iload_n 0, 1) := by decide +kernel
theorem dX3_checkWithin_1 : decode cX3_checkWithin 1 = .ok (.iload_n 1, 1) := by decide +kernel
theorem dX3_checkWithin_2 : decode cX3_checkWithin 2 = .ok (.if_icmp .lt 8, 3) := by decide +kernel
theorem dX3_checkWithin_5 : decode cX3_checkWithin 5 = .ok (.iload_n 0, 1) := by decide +kernel
theorem dX3_checkWithin_6 : decode cX3_checkWithin 6 = .ok (.iload_n 2, 1) := by decide +kernel
theorem dX3_checkWithin_7 : decode cX3_checkWithin 7 = .ok (.if_icmp .le 13, 3) := by decide +kernel
theorem dX3_checkWithin_10 : decode cX3_checkWithin 10 = .ok (.new 112, 3) := by decide +kernel
theorem dX3_checkWithin_13 : decode cX3_checkWithin 13 = .ok (.dup, 1) := by decide +kernel
theorem dX3_checkWithin_14 : decode cX3_checkWithin 14 = .ok (.ldc 138, 2) := by decide +kernel
theorem dX3_checkWithin_16 : decode cX3_checkWithin 16 = .ok (.invokespecial 116, 3) := by decide +kernel
theorem dX3_checkWithin_19 : decode cX3_checkWithin 19 = .ok (.athrow, 1) := by decide +kernel
theorem dX3_checkWithin_20 : decode cX3_checkWithin 20 = .ok (.return_, 1) := by decide +kernel
set_option maxRecDepth 20000 in
theorem ggX3_checkLoad_X3_checkWithin : GoodIn wsX3_checkLoad wsX3_checkWithin := goodIn_ca (goodIn_r _ [5, 6, 7] (by decide +kernel) (by decide +kernel)) (goodIn_sub (fun _ h => List.mem_cons_of_mem _ (List.mem_append_right _ h)) (by decide +kernel))
set_option maxRecDepth 20000 in
theorem gX3_checkLoad_X3_checkWithin : GoodIn wsX3_checkLoad (va_wsS RX3 33 yX3_checkWithin wsX3_checkWithin) := goodIn_app (goodIn_of _ (by decide +kernel)) ggX3_checkLoad_X3_checkWithin
theorem dX3_checkLoad_0 : decode cX3_checkLoad 0 = .ok (.iload_n 0, 1) := by decide +kernel
theorem dX3_checkLoad_1 : decode cX3_checkLoad 1 = .ok (.iconst 0, 1) := by decide +kernel
theorem dX3_checkLoad_2 : decode cX3_checkLoad 2 = .ok (.ldc 140, 2) := by decide +kernel
theorem dX3_checkLoad_4 : decode cX3_checkLoad 4 = .ok (.invokestatic 33, 3) := by decide +kernel
theorem dX3_checkLoad_7 : decode cX3_checkLoad 7 = .ok (.return_, 1) := by decide +kernel
set_option maxRecDepth 20000 in
theorem ggX3_checkPiece_X1_pieces : GoodIn wsX3_checkPiece wsX1_pieces := goodIn_r _ [5, 6, 13, 14, 15, 16, 17, 18, 19, 20, 21] (by decide +kernel) (by decide +kernel)
set_option maxRecDepth 20000 in
theorem gX3_checkPiece_X1_pieces : GoodIn wsX3_checkPiece (wsV RX3 141 RX1 yX1_pieces wsX1_pieces) := goodIn_app (goodIn_of _ (by decide +kernel)) ggX3_checkPiece_X1_pieces
set_option maxRecDepth 20000 in
theorem ggX3_checkPiece_X3_checkWithin : GoodIn wsX3_checkPiece wsX3_checkWithin := goodIn_ca (goodIn_r _ [10, 11, 12] (by decide +kernel) (by decide +kernel)) (goodIn_sub (fun _ h => List.mem_cons_of_mem _ (List.mem_append_right _ h)) (by decide +kernel))
set_option maxRecDepth 20000 in
theorem gX3_checkPiece_X3_checkWithin : GoodIn wsX3_checkPiece (va_wsS RX3 33 yX3_checkWithin wsX3_checkWithin) := goodIn_app (goodIn_of _ (by decide +kernel)) ggX3_checkPiece_X3_checkWithin
theorem dX3_checkPiece_0 : decode cX3_checkPiece 0 = .ok (.iload_n 1, 1) := by decide +kernel
theorem dX3_checkPiece_1 : decode cX3_checkPiece 1 = .ok (.iconst 0, 1) := by decide +kernel
theorem dX3_checkPiece_2 : decode cX3_checkPiece 2 = .ok (.aload_n 0, 1) := by decide +kernel
theorem dX3_checkPiece_3 : decode cX3_checkPiece 3 = .ok (.invokevirtual 141, 3) := by decide +kernel
theorem dX3_checkPiece_6 : decode cX3_checkPiece 6 = .ok (.iconst 1, 1) := by decide +kernel
theorem dX3_checkPiece_7 : decode cX3_checkPiece 7 = .ok (.isub, 1) := by decide +kernel
theorem dX3_checkPiece_8 : decode cX3_checkPiece 8 = .ok (.invokestatic 33, 3) := by decide +kernel
theorem dX3_checkPiece_11 : decode cX3_checkPiece 11 = .ok (.return_, 1) := by decide +kernel
theorem dX3_pileOf_0 : decode cX3_pileOf 0 = .ok (.iload_n 1, 1) := by decide +kernel
theorem dX3_pileOf_1 : decode cX3_pileOf 1 = .ok (.ifCond .lt 21, 3) := by decide +kernel
theorem dX3_pileOf_4 : decode cX3_pileOf 4 = .ok (.iload_n 1, 1) := by decide +kernel
theorem dX3_pileOf_5 : decode cX3_pileOf 5 = .ok (.aload_n 0, 1) := by decide +kernel
theorem dX3_pileOf_6 : decode cX3_pileOf 6 = .ok (.getfield 11, 3) := by decide +kernel
theorem dX3_pileOf_9 : decode cX3_pileOf 9 = .ok (.arraylength, 1) := by decide +kernel
theorem dX3_pileOf_10 : decode cX3_pileOf 10 = .ok (.if_icmp .ge 12, 3) := by decide +kernel
theorem dX3_pileOf_13 : decode cX3_pileOf 13 = .ok (.aload_n 0, 1) := by decide +kernel
theorem dX3_pileOf_14 : decode cX3_pileOf 14 = .ok (.getfield 11, 3) := by decide +kernel
theorem dX3_pileOf_17 : decode cX3_pileOf 17 = .ok (.iload_n 1, 1) := by decide +kernel
theorem dX3_pileOf_18 : decode cX3_pileOf 18 = .ok (.aaload, 1) := by decide +kernel
theorem dX3_pileOf_19 : decode cX3_pileOf 19 = .ok (.ifnonnull 13, 3) := by decide +kernel
theorem dX3_pileOf_22 : decode cX3_pileOf 22 = .ok (.new 112, 3) := by decide +kernel
theorem dX3_pileOf_25 : decode cX3_pileOf 25 = .ok (.dup, 1) := by decide +kernel
theorem dX3_pileOf_26 : decode cX3_pileOf 26 = .ok (.ldc 144, 2) := by decide +kernel
theorem dX3_pileOf_28 : decode cX3_pileOf 28 = .ok (.invokespecial 116, 3) := by decide +kernel
theorem dX3_pileOf_31 : decode cX3_pileOf 31 = .ok (.athrow, 1) := by decide +kernel
theorem dX3_pileOf_32 : decode cX3_pileOf 32 = .ok (.aload_n 0, 1) := by decide +kernel
theorem dX3_pileOf_33 : decode cX3_pileOf 33 = .ok (.getfield 11, 3) := by decide +kernel
theorem dX3_pileOf_36 : decode cX3_pileOf 36 = .ok (.iload_n 1, 1) := by decide +kernel
theorem dX3_pileOf_37 : decode cX3_pileOf 37 = .ok (.aaload, 1) := by decide +kernel
theorem dX3_pileOf_38 : decode cX3_pileOf 38 = .ok (.areturn, 1) := by decide +kernel
theorem dX3_checkGroupNotEmpty_0 : decode cX3_checkGroupNotEmpty 0 = .ok (.aload_n 0, 1) := by decide +kernel
theorem dX3_checkGroupNotEmpty_1 : decode cX3_checkGroupNotEmpty 1 = .ok (.getfield 11, 3) := by decide +kernel
theorem dX3_checkGroupNotEmpty_4 : decode cX3_checkGroupNotEmpty 4 = .ok (.astore_n 1, 1) := by decide +kernel
theorem dX3_checkGroupNotEmpty_5 : decode cX3_checkGroupNotEmpty 5 = .ok (.aload_n 1, 1) := by decide +kernel
theorem dX3_checkGroupNotEmpty_6 : decode cX3_checkGroupNotEmpty 6 = .ok (.arraylength, 1) := by decide +kernel
theorem dX3_checkGroupNotEmpty_7 : decode cX3_checkGroupNotEmpty 7 = .ok (.istore_n 2, 1) := by decide +kernel
theorem dX3_checkGroupNotEmpty_8 : decode cX3_checkGroupNotEmpty 8 = .ok (.iconst 0, 1) := by decide +kernel
theorem dX3_checkGroupNotEmpty_9 : decode cX3_checkGroupNotEmpty 9 = .ok (.istore_n 3, 1) := by decide +kernel
theorem dX3_checkGroupNotEmpty_10 : decode cX3_checkGroupNotEmpty 10 = .ok (.iload_n 3, 1) := by decide +kernel
theorem dX3_checkGroupNotEmpty_11 : decode cX3_checkGroupNotEmpty 11 = .ok (.iload_n 2, 1) := by decide +kernel
theorem dX3_checkGroupNotEmpty_12 : decode cX3_checkGroupNotEmpty 12 = .ok (.if_icmp .ge 28, 3) := by decide +kernel
theorem dX3_checkGroupNotEmpty_15 : decode cX3_checkGroupNotEmpty 15 = .ok (.aload_n 1, 1) := by decide +kernel
theorem dX3_checkGroupNotEmpty_16 : decode cX3_checkGroupNotEmpty 16 = .ok (.iload_n 3, 1) := by decide +kernel
theorem dX3_checkGroupNotEmpty_17 : decode cX3_checkGroupNotEmpty 17 = .ok (.aaload, 1) := by decide +kernel
theorem dX3_checkGroupNotEmpty_18 : decode cX3_checkGroupNotEmpty 18 = .ok (.astore 4, 2) := by decide +kernel
theorem dX3_checkGroupNotEmpty_20 : decode cX3_checkGroupNotEmpty 20 = .ok (.aload 4, 2) := by decide +kernel
theorem dX3_checkGroupNotEmpty_22 : decode cX3_checkGroupNotEmpty 22 = .ok (.ifnull 12, 3) := by decide +kernel
theorem dX3_checkGroupNotEmpty_25 : decode cX3_checkGroupNotEmpty 25 = .ok (.aload 4, 2) := by decide +kernel
theorem dX3_checkGroupNotEmpty_27 : decode cX3_checkGroupNotEmpty 27 = .ok (.getfield 101, 3) := by decide +kernel
theorem dX3_checkGroupNotEmpty_30 : decode cX3_checkGroupNotEmpty 30 = .ok (.ifCond .eq 4, 3) := by decide +kernel
theorem dX3_checkGroupNotEmpty_33 : decode cX3_checkGroupNotEmpty 33 = .ok (.return_, 1) := by decide +kernel
theorem dX3_checkGroupNotEmpty_34 : decode cX3_checkGroupNotEmpty 34 = .ok (.iinc 3 1, 3) := by decide +kernel
theorem dX3_checkGroupNotEmpty_37 : decode cX3_checkGroupNotEmpty 37 = .ok (.goto (-27), 3) := by decide +kernel
theorem dX3_checkGroupNotEmpty_40 : decode cX3_checkGroupNotEmpty 40 = .ok (.new 38, 3) := by decide +kernel
theorem dX3_checkGroupNotEmpty_43 : decode cX3_checkGroupNotEmpty 43 = .ok (.dup, 1) := by decide +kernel
theorem dX3_checkGroupNotEmpty_44 : decode cX3_checkGroupNotEmpty 44 = .ok (.ldc 146, 2) := by decide +kernel
theorem dX3_checkGroupNotEmpty_46 : decode cX3_checkGroupNotEmpty 46 = .ok (.invokespecial 42, 3) := by decide +kernel
theorem dX3_checkGroupNotEmpty_49 : decode cX3_checkGroupNotEmpty 49 = .ok (.athrow, 1) := by decide +kernel
set_option maxRecDepth 20000 in
theorem ggX3_groupSettlement_X3_groupLoad : GoodIn wsX3_groupSettlement wsX3_groupLoad := goodIn_r _ [6, 7, 8, 9, 10, 11, 12, 13, 14, 15, 16, 17, 18, 19, 20, 21, 22, 23, 24, 25, 26, 27, 28, 29, 30, 31, 32, 33, 34, 35, 36, 37, 38, 39, 40, 41, 42, 43, 44, 45, 5, 46, 47, 48, 49, 50, 51, 52, 53, 54, 55, 56, 57, 58, 59, 60, 61, 62, 63, 64, 65, 66, 67] (by decide +kernel) (by decide +kernel)
set_option maxRecDepth 20000 in
theorem gX3_groupSettlement_X3_groupLoad : GoodIn wsX3_groupSettlement (wsV RX3 148 RX3 yX3_groupLoad wsX3_groupLoad) := goodIn_app (goodIn_of _ (by decide +kernel)) ggX3_groupSettlement_X3_groupLoad
theorem dX3_groupSettlement_0 : decode cX3_groupSettlement 0 = .ok (.aload_n 0, 1) := by decide +kernel
theorem dX3_groupSettlement_1 : decode cX3_groupSettlement 1 = .ok (.iconst 0, 1) := by decide +kernel
theorem dX3_groupSettlement_2 : decode cX3_groupSettlement 2 = .ok (.invokevirtual 148, 3) := by decide +kernel
theorem dX3_groupSettlement_5 : decode cX3_groupSettlement 5 = .ok (.iload_n 1, 1) := by decide +kernel
theorem dX3_groupSettlement_6 : decode cX3_groupSettlement 6 = .ok (.i2l, 1) := by decide +kernel
theorem dX3_groupSettlement_7 : decode cX3_groupSettlement 7 = .ok (.lcmp, 1) := by decide +kernel
theorem dX3_groupSettlement_8 : decode cX3_groupSettlement 8 = .ok (.ifCond .gt 16, 3) := by decide +kernel
theorem dX3_groupSettlement_11 : decode cX3_groupSettlement 11 = .ok (.aload_n 0, 1) := by decide +kernel
theorem dX3_groupSettlement_12 : decode cX3_groupSettlement 12 = .ok (.sipush 10000, 3) := by decide +kernel
theorem dX3_groupSettlement_15 : decode cX3_groupSettlement 15 = .ok (.invokevirtual 148, 3) := by decide +kernel
theorem dX3_groupSettlement_18 : decode cX3_groupSettlement 18 = .ok (.iload_n 1, 1) := by decide +kernel
theorem dX3_groupSettlement_19 : decode cX3_groupSettlement 19 = .ok (.i2l, 1) := by decide +kernel
theorem dX3_groupSettlement_20 : decode cX3_groupSettlement 20 = .ok (.lcmp, 1) := by decide +kernel
theorem dX3_groupSettlement_21 : decode cX3_groupSettlement 21 = .ok (.ifCond .gt 6, 3) := by decide +kernel
theorem dX3_groupSettlement_24 : decode cX3_groupSettlement 24 = .ok (.ldc 84, 2) := by decide +kernel
theorem dX3_groupSettlement_26 : decode cX3_groupSettlement 26 = .ok (.ireturn, 1) := by decide +kernel
theorem dX3_groupSettlement_27 : decode cX3_groupSettlement 27 = .ok (.iconst 0, 1) := by decide +kernel
theorem dX3_groupSettlement_28 : decode cX3_groupSettlement 28 = .ok (.istore_n 2, 1) := by decide +kernel
theorem dX3_groupSettlement_29 : decode cX3_groupSettlement 29 = .ok (.sipush 8192, 3) := by decide +kernel
theorem dX3_groupSettlement_32 : decode cX3_groupSettlement 32 = .ok (.istore_n 3, 1) := by decide +kernel
theorem dX3_groupSettlement_33 : decode cX3_groupSettlement 33 = .ok (.iload_n 3, 1) := by decide +kernel
theorem dX3_groupSettlement_34 : decode cX3_groupSettlement 34 = .ok (.ifCond .le 38, 3) := by decide +kernel
theorem dX3_groupSettlement_37 : decode cX3_groupSettlement 37 = .ok (.iload_n 2, 1) := by decide +kernel
theorem dX3_groupSettlement_38 : decode cX3_groupSettlement 38 = .ok (.iload_n 3, 1) := by decide +kernel
theorem dX3_groupSettlement_39 : decode cX3_groupSettlement 39 = .ok (.iadd, 1) := by decide +kernel
theorem dX3_groupSettlement_40 : decode cX3_groupSettlement 40 = .ok (.istore 4, 2) := by decide +kernel
theorem dX3_groupSettlement_42 : decode cX3_groupSettlement 42 = .ok (.iload 4, 2) := by decide +kernel
theorem dX3_groupSettlement_44 : decode cX3_groupSettlement 44 = .ok (.sipush 10000, 3) := by decide +kernel
theorem dX3_groupSettlement_47 : decode cX3_groupSettlement 47 = .ok (.if_icmp .ge 18, 3) := by decide +kernel
theorem dX3_groupSettlement_50 : decode cX3_groupSettlement 50 = .ok (.aload_n 0, 1) := by decide +kernel
theorem dX3_groupSettlement_51 : decode cX3_groupSettlement 51 = .ok (.iload 4, 2) := by decide +kernel
theorem dX3_groupSettlement_53 : decode cX3_groupSettlement 53 = .ok (.invokevirtual 148, 3) := by decide +kernel
theorem dX3_groupSettlement_56 : decode cX3_groupSettlement 56 = .ok (.iload_n 1, 1) := by decide +kernel
theorem dX3_groupSettlement_57 : decode cX3_groupSettlement 57 = .ok (.i2l, 1) := by decide +kernel
theorem dX3_groupSettlement_58 : decode cX3_groupSettlement 58 = .ok (.lcmp, 1) := by decide +kernel
theorem dX3_groupSettlement_59 : decode cX3_groupSettlement 59 = .ok (.ifCond .gt 6, 3) := by decide +kernel
theorem dX3_groupSettlement_62 : decode cX3_groupSettlement 62 = .ok (.iload 4, 2) := by decide +kernel
theorem dX3_groupSettlement_64 : decode cX3_groupSettlement 64 = .ok (.istore_n 2, 1) := by decide +kernel
theorem dX3_groupSettlement_65 : decode cX3_groupSettlement 65 = .ok (.iload_n 3, 1) := by decide +kernel
theorem dX3_groupSettlement_66 : decode cX3_groupSettlement 66 = .ok (.iconst 2, 1) := by decide +kernel
theorem dX3_groupSettlement_67 : decode cX3_groupSettlement 67 = .ok (.idiv, 1) := by decide +kernel
theorem dX3_groupSettlement_68 : decode cX3_groupSettlement 68 = .ok (.istore_n 3, 1) := by decide +kernel
theorem dX3_groupSettlement_69 : decode cX3_groupSettlement 69 = .ok (.goto (-36), 3) := by decide +kernel
theorem dX3_groupSettlement_72 : decode cX3_groupSettlement 72 = .ok (.iload_n 2, 1) := by decide +kernel
theorem dX3_groupSettlement_73 : decode cX3_groupSettlement 73 = .ok (.ireturn, 1) := by decide +kernel
set_option maxRecDepth 20000 in
theorem ggX3_groupLoad_X2_findAt : GoodIn wsX3_groupLoad wsX2_findAt := goodIn_r _ [10, 11, 12, 13, 9, 14, 15, 16, 17, 18, 19, 20, 21, 22, 23, 24, 25, 26, 27, 28, 29, 30, 31, 32, 33, 34, 35, 36, 37, 38, 39, 40, 41, 42, 43, 44, 45, 59, 60, 61, 62, 50, 51, 52, 53, 54, 55, 56, 57, 58] (by decide +kernel) (by decide +kernel)
set_option maxRecDepth 20000 in
theorem gX3_groupLoad_X2_findAt : GoodIn wsX3_groupLoad (wsV RX3 95 RX2 yX2_findAt wsX2_findAt) := goodIn_app (goodIn_of _ (by decide +kernel)) ggX3_groupLoad_X2_findAt
theorem dX3_groupLoad_0 : decode cX3_groupLoad 0 = .ok (.lconst 0, 1) := by decide +kernel
theorem dX3_groupLoad_1 : decode cX3_groupLoad 1 = .ok (.lstore_n 2, 1) := by decide +kernel
theorem dX3_groupLoad_2 : decode cX3_groupLoad 2 = .ok (.aload_n 0, 1) := by decide +kernel
theorem dX3_groupLoad_3 : decode cX3_groupLoad 3 = .ok (.getfield 11, 3) := by decide +kernel
theorem dX3_groupLoad_6 : decode cX3_groupLoad 6 = .ok (.astore 4, 2) := by decide +kernel
theorem dX3_groupLoad_8 : decode cX3_groupLoad 8 = .ok (.aload 4, 2) := by decide +kernel
theorem dX3_groupLoad_10 : decode cX3_groupLoad 10 = .ok (.arraylength, 1) := by decide +kernel
theorem dX3_groupLoad_11 : decode cX3_groupLoad 11 = .ok (.istore 5, 2) := by decide +kernel
theorem dX3_groupLoad_13 : decode cX3_groupLoad 13 = .ok (.iconst 0, 1) := by decide +kernel
theorem dX3_groupLoad_14 : decode cX3_groupLoad 14 = .ok (.istore 6, 2) := by decide +kernel
theorem dX3_groupLoad_16 : decode cX3_groupLoad 16 = .ok (.iload 6, 2) := by decide +kernel
theorem dX3_groupLoad_18 : decode cX3_groupLoad 18 = .ok (.iload 5, 2) := by decide +kernel
theorem dX3_groupLoad_20 : decode cX3_groupLoad 20 = .ok (.if_icmp .ge 60, 3) := by decide +kernel
theorem dX3_groupLoad_23 : decode cX3_groupLoad 23 = .ok (.aload 4, 2) := by decide +kernel
theorem dX3_groupLoad_25 : decode cX3_groupLoad 25 = .ok (.iload 6, 2) := by decide +kernel
theorem dX3_groupLoad_27 : decode cX3_groupLoad 27 = .ok (.aaload, 1) := by decide +kernel
theorem dX3_groupLoad_28 : decode cX3_groupLoad 28 = .ok (.astore 7, 2) := by decide +kernel
theorem dX3_groupLoad_30 : decode cX3_groupLoad 30 = .ok (.aload 7, 2) := by decide +kernel
theorem dX3_groupLoad_32 : decode cX3_groupLoad 32 = .ok (.ifnull 42, 3) := by decide +kernel
theorem dX3_groupLoad_35 : decode cX3_groupLoad 35 = .ok (.aload 7, 2) := by decide +kernel
theorem dX3_groupLoad_37 : decode cX3_groupLoad 37 = .ok (.getfield 101, 3) := by decide +kernel
theorem dX3_groupLoad_40 : decode cX3_groupLoad 40 = .ok (.ifCond .ne 6, 3) := by decide +kernel
theorem dX3_groupLoad_43 : decode cX3_groupLoad 43 = .ok (.goto 31, 3) := by decide +kernel
theorem dX3_groupLoad_46 : decode cX3_groupLoad 46 = .ok (.aload_n 0, 1) := by decide +kernel
theorem dX3_groupLoad_47 : decode cX3_groupLoad 47 = .ok (.getfield 18, 3) := by decide +kernel
theorem dX3_groupLoad_50 : decode cX3_groupLoad 50 = .ok (.aload 7, 2) := by decide +kernel
theorem dX3_groupLoad_52 : decode cX3_groupLoad 52 = .ok (.iload_n 1, 1) := by decide +kernel
theorem dX3_groupLoad_53 : decode cX3_groupLoad 53 = .ok (.invokevirtual 95, 3) := by decide +kernel
theorem dX3_groupLoad_56 : decode cX3_groupLoad 56 = .ok (.ifCond .ne 7, 3) := by decide +kernel
theorem dX3_groupLoad_59 : decode cX3_groupLoad 59 = .ok (.ldc2_w 152, 3) := by decide +kernel
theorem dX3_groupLoad_62 : decode cX3_groupLoad 62 = .ok (.lreturn, 1) := by decide +kernel
theorem dX3_groupLoad_63 : decode cX3_groupLoad 63 = .ok (.lload_n 2, 1) := by decide +kernel
theorem dX3_groupLoad_64 : decode cX3_groupLoad 64 = .ok (.aload_n 0, 1) := by decide +kernel
theorem dX3_groupLoad_65 : decode cX3_groupLoad 65 = .ok (.getfield 18, 3) := by decide +kernel
theorem dX3_groupLoad_68 : decode cX3_groupLoad 68 = .ok (.getfield 91, 3) := by decide +kernel
theorem dX3_groupLoad_71 : decode cX3_groupLoad 71 = .ok (.i2l, 1) := by decide +kernel
theorem dX3_groupLoad_72 : decode cX3_groupLoad 72 = .ok (.ladd, 1) := by decide +kernel
theorem dX3_groupLoad_73 : decode cX3_groupLoad 73 = .ok (.lstore_n 2, 1) := by decide +kernel
theorem dX3_groupLoad_74 : decode cX3_groupLoad 74 = .ok (.iinc 6 1, 3) := by decide +kernel
theorem dX3_groupLoad_77 : decode cX3_groupLoad 77 = .ok (.goto (-61), 3) := by decide +kernel
theorem dX3_groupLoad_80 : decode cX3_groupLoad 80 = .ok (.lload_n 2, 1) := by decide +kernel
theorem dX3_groupLoad_81 : decode cX3_groupLoad 81 = .ok (.lreturn, 1) := by decide +kernel
theorem dX3_clamp_0 : decode cX3_clamp 0 = .ok (.lload_n 0, 1) := by decide +kernel
theorem dX3_clamp_1 : decode cX3_clamp 1 = .ok (.iload_n 2, 1) := by decide +kernel
theorem dX3_clamp_2 : decode cX3_clamp 2 = .ok (.i2l, 1) := by decide +kernel
theorem dX3_clamp_3 : decode cX3_clamp 3 = .ok (.lcmp, 1) := by decide +kernel
theorem dX3_clamp_4 : decode cX3_clamp 4 = .ok (.ifCond .ge 5, 3) := by decide +kernel
theorem dX3_clamp_7 : decode cX3_clamp 7 = .ok (.iload_n 2, 1) := by decide +kernel
theorem dX3_clamp_8 : decode cX3_clamp 8 = .ok (.ireturn, 1) := by decide +kernel
theorem dX3_clamp_9 : decode cX3_clamp 9 = .ok (.lload_n 0, 1) := by decide +kernel
theorem dX3_clamp_10 : decode cX3_clamp 10 = .ok (.iload_n 3, 1) := by decide +kernel
theorem dX3_clamp_11 : decode cX3_clamp 11 = .ok (.i2l, 1) := by decide +kernel
theorem dX3_clamp_12 : decode cX3_clamp 12 = .ok (.lcmp, 1) := by decide +kernel
theorem dX3_clamp_13 : decode cX3_clamp 13 = .ok (.ifCond .le 7, 3) := by decide +kernel
theorem dX3_clamp_16 : decode cX3_clamp 16 = .ok (.iload_n 3, 1) := by decide +kernel
theorem dX3_clamp_17 : decode cX3_clamp 17 = .ok (.goto 5, 3) := by decide +kernel
theorem dX3_clamp_20 : decode cX3_clamp 20 = .ok (.lload_n 0, 1) := by decide +kernel
theorem dX3_clamp_21 : decode cX3_clamp 21 = .ok (.l2i, 1) := by decide +kernel
theorem dX3_clamp_22 : decode cX3_clamp 22 = .ok (.ireturn, 1) := by decide +kernel
abbrev vwCl : List vw_C := [(RX0, TX0, 6), (RX1, TX1, 9), (RX2, TX2, 4), (RX3, TX3, 4), (RX4, TX4, 19)]
end
section
theorem dL_pile_0 : decode cL_pile 0 = .ok (.aload 5, 2) := by decide +kernel
theorem dL_pile_2 : decode cL_pile 2 = .ok (.iconst 0, 1) := by decide +kernel
theorem dL_pile_3 : decode cL_pile 3 = .ok (.aload_n 0, 1) := by decide +kernel
theorem dL_pile_4 : decode cL_pile 4 = .ok (.iload_n 1, 1) := by decide +kernel
theorem dL_pile_5 : decode cL_pile 5 = .ok (.iload_n 2, 1) := by decide +kernel
theorem dL_pile_6 : decode cL_pile 6 = .ok (.iload_n 3, 1) := by decide +kernel
theorem dL_pile_7 : decode cL_pile 7 = .ok (.iload 4, 2) := by decide +kernel
theorem dL_pile_9 : decode cL_pile 9 = .ok (.invokevirtual 7, 3) := by decide +kernel
theorem dL_pile_12 : decode cL_pile 12 = .ok (.i2l, 1) := by decide +kernel
theorem dL_pile_13 : decode cL_pile 13 = .ok (.lastore, 1) := by decide +kernel
theorem dL_pile_14 : decode cL_pile 14 = .ok (.goto 11, 3) := by decide +kernel
theorem dL_pile_17 : decode cL_pile 17 = .ok (.astore 6, 2) := by decide +kernel
theorem dL_pile_19 : decode cL_pile 19 = .ok (.iconst 1, 1) := by decide +kernel
theorem dL_pile_20 : decode cL_pile 20 = .ok (.ireturn, 1) := by decide +kernel
theorem dL_pile_21 : decode cL_pile 21 = .ok (.astore 6, 2) := by decide +kernel
theorem dL_pile_23 : decode cL_pile 23 = .ok (.iconst 2, 1) := by decide +kernel
theorem dL_pile_24 : decode cL_pile 24 = .ok (.ireturn, 1) := by decide +kernel
theorem dL_pile_25 : decode cL_pile 25 = .ok (.iconst 0, 1) := by decide +kernel
theorem dL_pile_26 : decode cL_pile 26 = .ok (.ireturn, 1) := by decide +kernel
set_option maxRecDepth 20000 in
theorem ggL_ground_X3_ground : GoodIn wsL_ground wsX3_ground := goodIn_ca (goodIn_r _ [6, 7, 8, 9, 10, 11, 12, 5, 13, 14, 15, 16, 17, 18, 19, 20, 21, 22, 23, 24, 25, 26, 27, 28, 29, 30, 31, 32, 33, 34, 35, 36, 37, 38, 39, 40, 41] (by decide +kernel) (by decide +kernel)) (goodIn_sub (fun _ h => List.mem_cons_of_mem _ (List.mem_append_right _ h)) (by decide +kernel))
set_option maxRecDepth 20000 in
theorem gL_ground_X3_ground : GoodIn wsL_ground (wsV RL 17 RX3 yX3_ground wsX3_ground) := goodIn_app (goodIn_of _ (by decide +kernel)) ggL_ground_X3_ground
theorem dL_ground_0 : decode cL_ground 0 = .ok (.aload_n 0, 1) := by decide +kernel
theorem dL_ground_1 : decode cL_ground 1 = .ok (.iload_n 1, 1) := by decide +kernel
theorem dL_ground_2 : decode cL_ground 2 = .ok (.iload_n 2, 1) := by decide +kernel
theorem dL_ground_3 : decode cL_ground 3 = .ok (.iload_n 3, 1) := by decide +kernel
theorem dL_ground_4 : decode cL_ground 4 = .ok (.iload 4, 2) := by decide +kernel
theorem dL_ground_6 : decode cL_ground 6 = .ok (.invokevirtual 17, 3) := by decide +kernel
theorem dL_ground_9 : decode cL_ground 9 = .ok (.goto 7, 3) := by decide +kernel
theorem dL_ground_12 : decode cL_ground 12 = .ok (.astore 5, 2) := by decide +kernel
theorem dL_ground_14 : decode cL_ground 14 = .ok (.iconst 1, 1) := by decide +kernel
theorem dL_ground_15 : decode cL_ground 15 = .ok (.ireturn, 1) := by decide +kernel
theorem dL_ground_16 : decode cL_ground 16 = .ok (.iconst 0, 1) := by decide +kernel
theorem dL_ground_17 : decode cL_ground 17 = .ok (.ireturn, 1) := by decide +kernel
set_option maxRecDepth 20000 in
theorem ggL_sinks_X3_sinks : GoodIn wsL_sinks wsX3_sinks := goodIn_ca (goodIn_r _ [6, 7, 8, 9, 10, 5, 11, 12, 13, 14, 15, 16, 17, 18, 19, 20, 21, 22, 23, 24, 25, 26, 27, 28, 29, 30, 31, 32, 33, 34, 35, 36, 37, 38, 39] (by decide +kernel) (by decide +kernel)) (goodIn_sub (fun _ h => List.mem_cons_of_mem _ (List.mem_append_right _ h)) (by decide +kernel))
set_option maxRecDepth 20000 in
theorem gL_sinks_X3_sinks : GoodIn wsL_sinks (wsV RL 21 RX3 yX3_sinks wsX3_sinks) := goodIn_app (goodIn_of _ (by decide +kernel)) ggL_sinks_X3_sinks
theorem dL_sinks_0 : decode cL_sinks 0 = .ok (.aload 4, 2) := by decide +kernel
theorem dL_sinks_2 : decode cL_sinks 2 = .ok (.iconst 0, 1) := by decide +kernel
theorem dL_sinks_3 : decode cL_sinks 3 = .ok (.aload_n 0, 1) := by decide +kernel
theorem dL_sinks_4 : decode cL_sinks 4 = .ok (.iload_n 1, 1) := by decide +kernel
theorem dL_sinks_5 : decode cL_sinks 5 = .ok (.iload_n 2, 1) := by decide +kernel
theorem dL_sinks_6 : decode cL_sinks 6 = .ok (.iload_n 3, 1) := by decide +kernel
theorem dL_sinks_7 : decode cL_sinks 7 = .ok (.invokevirtual 21, 3) := by decide +kernel
theorem dL_sinks_10 : decode cL_sinks 10 = .ok (.i2l, 1) := by decide +kernel
theorem dL_sinks_11 : decode cL_sinks 11 = .ok (.lastore, 1) := by decide +kernel
theorem dL_sinks_12 : decode cL_sinks 12 = .ok (.goto 7, 3) := by decide +kernel
theorem dL_sinks_15 : decode cL_sinks 15 = .ok (.astore 5, 2) := by decide +kernel
theorem dL_sinks_17 : decode cL_sinks 17 = .ok (.iconst 1, 1) := by decide +kernel
theorem dL_sinks_18 : decode cL_sinks 18 = .ok (.ireturn, 1) := by decide +kernel
theorem dL_sinks_19 : decode cL_sinks 19 = .ok (.iconst 0, 1) := by decide +kernel
theorem dL_sinks_20 : decode cL_sinks 20 = .ok (.ireturn, 1) := by decide +kernel
set_option maxRecDepth 20000 in
theorem ggL_tip_X3_tip : GoodIn wsL_tip wsX3_tip := goodIn_ca (goodIn_r _ [6, 7, 8, 9, 10, 11, 12, 5, 13, 14, 15, 16, 17, 18, 19, 20, 21, 22, 23, 24, 25, 26, 27, 28, 29, 30, 31, 32] (by decide +kernel) (by decide +kernel)) (goodIn_sub (fun _ h => List.mem_cons_of_mem _ (List.mem_append_right _ h)) (by decide +kernel))
set_option maxRecDepth 20000 in
theorem gL_tip_X3_tip : GoodIn wsL_tip (wsV RL 25 RX3 yX3_tip wsX3_tip) := goodIn_app (goodIn_of _ (by decide +kernel)) ggL_tip_X3_tip
theorem dL_tip_0 : decode cL_tip 0 = .ok (.aload_n 0, 1) := by decide +kernel
theorem dL_tip_1 : decode cL_tip 1 = .ok (.iload_n 1, 1) := by decide +kernel
theorem dL_tip_2 : decode cL_tip 2 = .ok (.iload_n 2, 1) := by decide +kernel
theorem dL_tip_3 : decode cL_tip 3 = .ok (.iload_n 3, 1) := by decide +kernel
theorem dL_tip_4 : decode cL_tip 4 = .ok (.invokevirtual 25, 3) := by decide +kernel
theorem dL_tip_7 : decode cL_tip 7 = .ok (.goto 7, 3) := by decide +kernel
theorem dL_tip_10 : decode cL_tip 10 = .ok (.astore 4, 2) := by decide +kernel
theorem dL_tip_12 : decode cL_tip 12 = .ok (.iconst 1, 1) := by decide +kernel
theorem dL_tip_13 : decode cL_tip 13 = .ok (.ireturn, 1) := by decide +kernel
theorem dL_tip_14 : decode cL_tip 14 = .ok (.iconst 0, 1) := by decide +kernel
theorem dL_tip_15 : decode cL_tip 15 = .ok (.ireturn, 1) := by decide +kernel
set_option maxRecDepth 20000 in
theorem ggL_under_X3_under : GoodIn wsL_under wsX3_under := goodIn_ca (goodIn_r _ [6, 7, 8, 9, 10, 11, 12, 5, 13, 14, 15, 16, 17, 18, 19, 20, 21, 22, 23, 24, 25, 26, 27, 28, 29, 30, 31, 32, 33, 34, 35, 36, 37, 38, 39, 40, 41, 42, 43, 44, 45, 46, 47, 48, 49, 50, 51, 52, 53, 54, 55, 56, 57, 58, 59, 60, 61, 62, 63, 64, 65, 66, 67, 68, 69, 70, 71, 72, 73, 74, 75, 76, 77, 78, 79] (by decide +kernel) (by decide +kernel)) (goodIn_sub (fun _ h => List.mem_cons_of_mem _ (List.mem_append_right _ h)) (by decide +kernel))
set_option maxRecDepth 20000 in
theorem gL_under_X3_under : GoodIn wsL_under (wsV RL 29 RX3 yX3_under wsX3_under) := goodIn_app (goodIn_of _ (by decide +kernel)) ggL_under_X3_under
theorem dL_under_0 : decode cL_under 0 = .ok (.aload_n 3, 1) := by decide +kernel
theorem dL_under_1 : decode cL_under 1 = .ok (.iconst 0, 1) := by decide +kernel
theorem dL_under_2 : decode cL_under 2 = .ok (.aload_n 0, 1) := by decide +kernel
theorem dL_under_3 : decode cL_under 3 = .ok (.iload_n 1, 1) := by decide +kernel
theorem dL_under_4 : decode cL_under 4 = .ok (.iload_n 2, 1) := by decide +kernel
theorem dL_under_5 : decode cL_under 5 = .ok (.invokevirtual 29, 3) := by decide +kernel
theorem dL_under_8 : decode cL_under 8 = .ok (.i2l, 1) := by decide +kernel
theorem dL_under_9 : decode cL_under 9 = .ok (.lastore, 1) := by decide +kernel
theorem dL_under_10 : decode cL_under 10 = .ok (.goto 7, 3) := by decide +kernel
theorem dL_under_13 : decode cL_under 13 = .ok (.astore 4, 2) := by decide +kernel
theorem dL_under_15 : decode cL_under 15 = .ok (.iconst 1, 1) := by decide +kernel
theorem dL_under_16 : decode cL_under 16 = .ok (.ireturn, 1) := by decide +kernel
theorem dL_under_17 : decode cL_under 17 = .ok (.iconst 0, 1) := by decide +kernel
theorem dL_under_18 : decode cL_under 18 = .ok (.ireturn, 1) := by decide +kernel
set_option maxRecDepth 20000 in
theorem ggL_piece_X3_piece : GoodIn wsL_piece wsX3_piece := goodIn_ca (goodIn_r _ [6, 7, 8, 9, 10, 11, 12, 13, 14, 5, 15, 16, 17, 18, 19, 20, 21, 22, 23, 24, 25, 26, 27, 28, 29, 30, 31, 32, 33, 34, 35, 36, 37, 38, 39, 40, 41, 42, 43, 44, 45, 46, 47, 48, 49, 50, 51, 52, 53, 54, 55, 56, 57, 58, 59, 60, 61, 62, 63, 64, 65, 66, 67, 68, 69, 70, 71, 72, 73, 74, 75, 76, 77, 78, 79, 80, 81, 82, 83, 84, 85, 86] (by decide +kernel) (by decide +kernel)) (goodIn_sub (fun _ h => List.mem_cons_of_mem _ (List.mem_append_right _ h)) (by decide +kernel))
set_option maxRecDepth 20000 in
theorem gL_piece_X3_piece : GoodIn wsL_piece (wsV RL 33 RX3 yX3_piece wsX3_piece) := goodIn_app (goodIn_of _ (by decide +kernel)) ggL_piece_X3_piece
theorem dL_piece_0 : decode cL_piece 0 = .ok (.aload 5, 2) := by decide +kernel
theorem dL_piece_2 : decode cL_piece 2 = .ok (.iconst 0, 1) := by decide +kernel
theorem dL_piece_3 : decode cL_piece 3 = .ok (.aload_n 0, 1) := by decide +kernel
theorem dL_piece_4 : decode cL_piece 4 = .ok (.iload_n 1, 1) := by decide +kernel
theorem dL_piece_5 : decode cL_piece 5 = .ok (.iload_n 2, 1) := by decide +kernel
theorem dL_piece_6 : decode cL_piece 6 = .ok (.iload_n 3, 1) := by decide +kernel
theorem dL_piece_7 : decode cL_piece 7 = .ok (.iload 4, 2) := by decide +kernel
theorem dL_piece_9 : decode cL_piece 9 = .ok (.invokevirtual 33, 3) := by decide +kernel
theorem dL_piece_12 : decode cL_piece 12 = .ok (.i2l, 1) := by decide +kernel
theorem dL_piece_13 : decode cL_piece 13 = .ok (.lastore, 1) := by decide +kernel
theorem dL_piece_14 : decode cL_piece 14 = .ok (.goto 7, 3) := by decide +kernel
theorem dL_piece_17 : decode cL_piece 17 = .ok (.astore 6, 2) := by decide +kernel
theorem dL_piece_19 : decode cL_piece 19 = .ok (.iconst 1, 1) := by decide +kernel
theorem dL_piece_20 : decode cL_piece 20 = .ok (.ireturn, 1) := by decide +kernel
theorem dL_piece_21 : decode cL_piece 21 = .ok (.iconst 0, 1) := by decide +kernel
theorem dL_piece_22 : decode cL_piece 22 = .ok (.ireturn, 1) := by decide +kernel
set_option maxRecDepth 20000 in
theorem ggL_load_X3_load : GoodIn wsL_load wsX3_load := goodIn_ca (goodIn_r _ [6, 7, 8, 9, 10, 11, 12, 13, 14, 5, 15, 16, 17, 18, 19, 20, 21, 22, 23, 24, 25, 26, 27, 28, 29, 30, 31, 32, 33, 34, 35, 36, 37, 38, 39, 40, 41, 42, 43, 44, 45, 46, 47, 48, 49, 50, 51, 52, 53, 54, 55, 56, 57, 58, 59, 60, 61, 62, 63, 64, 65, 66, 67, 68, 69, 70, 71, 72, 73, 74, 75, 76, 77] (by decide +kernel) (by decide +kernel)) (goodIn_sub (fun _ h => List.mem_cons_of_mem _ (List.mem_append_right _ h)) (by decide +kernel))
set_option maxRecDepth 20000 in
theorem gL_load_X3_load : GoodIn wsL_load (wsV RL 36 RX3 yX3_load wsX3_load) := goodIn_app (goodIn_of _ (by decide +kernel)) ggL_load_X3_load
theorem dL_load_0 : decode cL_load 0 = .ok (.aload_n 3, 1) := by decide +kernel
theorem dL_load_1 : decode cL_load 1 = .ok (.iconst 0, 1) := by decide +kernel
theorem dL_load_2 : decode cL_load 2 = .ok (.aload_n 0, 1) := by decide +kernel
theorem dL_load_3 : decode cL_load 3 = .ok (.iload_n 1, 1) := by decide +kernel
theorem dL_load_4 : decode cL_load 4 = .ok (.iload_n 2, 1) := by decide +kernel
theorem dL_load_5 : decode cL_load 5 = .ok (.invokevirtual 36, 3) := by decide +kernel
theorem dL_load_8 : decode cL_load 8 = .ok (.i2l, 1) := by decide +kernel
theorem dL_load_9 : decode cL_load 9 = .ok (.lastore, 1) := by decide +kernel
theorem dL_load_10 : decode cL_load 10 = .ok (.goto 7, 3) := by decide +kernel
theorem dL_load_13 : decode cL_load 13 = .ok (.astore 4, 2) := by decide +kernel
theorem dL_load_15 : decode cL_load 15 = .ok (.iconst 1, 1) := by decide +kernel
theorem dL_load_16 : decode cL_load 16 = .ok (.ireturn, 1) := by decide +kernel
theorem dL_load_17 : decode cL_load 17 = .ok (.iconst 0, 1) := by decide +kernel
theorem dL_load_18 : decode cL_load 18 = .ok (.ireturn, 1) := by decide +kernel
set_option maxRecDepth 20000 in
theorem ggL_hold_X3_hold : GoodIn wsL_hold wsX3_hold := goodIn_ca (goodIn_r _ [6, 7, 8, 9, 10, 5, 11, 12, 13, 14, 15, 16, 17, 18, 19, 20, 21, 22, 23, 24, 25, 26, 27] (by decide +kernel) (by decide +kernel)) (goodIn_sub (fun _ h => List.mem_cons_of_mem _ (List.mem_append_right _ h)) (by decide +kernel))
set_option maxRecDepth 20000 in
theorem gL_hold_X3_hold : GoodIn wsL_hold (wsV RL 39 RX3 yX3_hold wsX3_hold) := goodIn_app (goodIn_of _ (by decide +kernel)) ggL_hold_X3_hold
theorem dL_hold_0 : decode cL_hold 0 = .ok (.aload_n 2, 1) := by decide +kernel
theorem dL_hold_1 : decode cL_hold 1 = .ok (.iconst 0, 1) := by decide +kernel
theorem dL_hold_2 : decode cL_hold 2 = .ok (.aload_n 0, 1) := by decide +kernel
theorem dL_hold_3 : decode cL_hold 3 = .ok (.iload_n 1, 1) := by decide +kernel
theorem dL_hold_4 : decode cL_hold 4 = .ok (.invokevirtual 39, 3) := by decide +kernel
theorem dL_hold_7 : decode cL_hold 7 = .ok (.i2l, 1) := by decide +kernel
theorem dL_hold_8 : decode cL_hold 8 = .ok (.lastore, 1) := by decide +kernel
theorem dL_hold_9 : decode cL_hold 9 = .ok (.goto 6, 3) := by decide +kernel
theorem dL_hold_12 : decode cL_hold 12 = .ok (.astore_n 3, 1) := by decide +kernel
theorem dL_hold_13 : decode cL_hold 13 = .ok (.iconst 1, 1) := by decide +kernel
theorem dL_hold_14 : decode cL_hold 14 = .ok (.ireturn, 1) := by decide +kernel
theorem dL_hold_15 : decode cL_hold 15 = .ok (.iconst 0, 1) := by decide +kernel
theorem dL_hold_16 : decode cL_hold 16 = .ok (.ireturn, 1) := by decide +kernel
set_option maxRecDepth 20000 in
theorem ggL_cheapest_X3_cheapest : GoodIn wsL_cheapest wsX3_cheapest := goodIn_ca (goodIn_r _ [6, 7, 8, 9, 10, 11, 12, 13, 14, 5, 15, 16, 17, 18, 19, 20, 21, 22, 23, 24, 25, 26, 27, 28, 29, 30, 31, 32, 33, 34, 35, 36, 37, 38, 39, 40, 41, 42, 43, 44, 45, 46, 47, 48, 49, 50, 51, 52, 53, 54, 55, 56, 57, 58, 59, 60, 61, 62, 63, 64, 65, 66, 67, 68, 69, 70, 71, 72, 73, 74, 75, 76, 77] (by decide +kernel) (by decide +kernel)) (goodIn_sub (fun _ h => List.mem_cons_of_mem _ (List.mem_append_right _ h)) (by decide +kernel))
set_option maxRecDepth 20000 in
theorem gL_cheapest_X3_cheapest : GoodIn wsL_cheapest (wsV RL 43 RX3 yX3_cheapest wsX3_cheapest) := goodIn_app (goodIn_of _ (by decide +kernel)) ggL_cheapest_X3_cheapest
theorem dL_cheapest_0 : decode cL_cheapest 0 = .ok (.aload_n 3, 1) := by decide +kernel
theorem dL_cheapest_1 : decode cL_cheapest 1 = .ok (.iconst 0, 1) := by decide +kernel
theorem dL_cheapest_2 : decode cL_cheapest 2 = .ok (.aload_n 0, 1) := by decide +kernel
theorem dL_cheapest_3 : decode cL_cheapest 3 = .ok (.iload_n 1, 1) := by decide +kernel
theorem dL_cheapest_4 : decode cL_cheapest 4 = .ok (.iload_n 2, 1) := by decide +kernel
theorem dL_cheapest_5 : decode cL_cheapest 5 = .ok (.invokevirtual 43, 3) := by decide +kernel
theorem dL_cheapest_8 : decode cL_cheapest 8 = .ok (.i2l, 1) := by decide +kernel
theorem dL_cheapest_9 : decode cL_cheapest 9 = .ok (.lastore, 1) := by decide +kernel
theorem dL_cheapest_10 : decode cL_cheapest 10 = .ok (.goto 7, 3) := by decide +kernel
theorem dL_cheapest_13 : decode cL_cheapest 13 = .ok (.astore 4, 2) := by decide +kernel
theorem dL_cheapest_15 : decode cL_cheapest 15 = .ok (.iconst 1, 1) := by decide +kernel
theorem dL_cheapest_16 : decode cL_cheapest 16 = .ok (.ireturn, 1) := by decide +kernel
theorem dL_cheapest_17 : decode cL_cheapest 17 = .ok (.iconst 0, 1) := by decide +kernel
theorem dL_cheapest_18 : decode cL_cheapest 18 = .ok (.ireturn, 1) := by decide +kernel
set_option maxRecDepth 20000 in
theorem ggL_join_X3_join : GoodIn wsL_join wsX3_join := goodIn_ca (goodIn_r _ [6, 7, 8, 9, 10, 5, 11, 12, 13, 14, 15, 16, 17, 18, 19, 20, 21, 22, 23, 24, 25, 26, 27] (by decide +kernel) (by decide +kernel)) (goodIn_sub (fun _ h => List.mem_cons_of_mem _ (List.mem_append_right _ h)) (by decide +kernel))
set_option maxRecDepth 20000 in
theorem gL_join_X3_join : GoodIn wsL_join (wsV RL 46 RX3 yX3_join wsX3_join) := goodIn_app (goodIn_of _ (by decide +kernel)) ggL_join_X3_join
theorem dL_join_0 : decode cL_join 0 = .ok (.aload_n 3, 1) := by decide +kernel
theorem dL_join_1 : decode cL_join 1 = .ok (.iconst 0, 1) := by decide +kernel
theorem dL_join_2 : decode cL_join 2 = .ok (.aload_n 0, 1) := by decide +kernel
theorem dL_join_3 : decode cL_join 3 = .ok (.iload_n 1, 1) := by decide +kernel
theorem dL_join_4 : decode cL_join 4 = .ok (.iload_n 2, 1) := by decide +kernel
theorem dL_join_5 : decode cL_join 5 = .ok (.invokevirtual 46, 3) := by decide +kernel
theorem dL_join_8 : decode cL_join 8 = .ok (.ifCond .eq 7, 3) := by decide +kernel
theorem dL_join_11 : decode cL_join 11 = .ok (.lconst 1, 1) := by decide +kernel
theorem dL_join_12 : decode cL_join 12 = .ok (.goto 4, 3) := by decide +kernel
theorem dL_join_15 : decode cL_join 15 = .ok (.lconst 0, 1) := by decide +kernel
theorem dL_join_16 : decode cL_join 16 = .ok (.lastore, 1) := by decide +kernel
theorem dL_join_17 : decode cL_join 17 = .ok (.goto 7, 3) := by decide +kernel
theorem dL_join_20 : decode cL_join 20 = .ok (.astore 4, 2) := by decide +kernel
theorem dL_join_22 : decode cL_join 22 = .ok (.iconst 1, 1) := by decide +kernel
theorem dL_join_23 : decode cL_join 23 = .ok (.ireturn, 1) := by decide +kernel
theorem dL_join_24 : decode cL_join 24 = .ok (.iconst 0, 1) := by decide +kernel
theorem dL_join_25 : decode cL_join 25 = .ok (.ireturn, 1) := by decide +kernel
set_option maxRecDepth 20000 in
theorem ggL_group_X3_group : GoodIn wsL_group wsX3_group := goodIn_ca (goodIn_ca (goodIn_r _ [7, 8, 9, 6, 10, 11, 12, 13, 14, 15, 16, 17, 18, 19, 20, 21, 22, 23, 24, 25, 26, 27, 28, 29, 30, 31, 32, 33, 34, 35, 36, 37, 38, 39, 40, 41, 42, 43, 44, 45, 46, 47, 48, 49, 50, 51, 52, 53, 54, 55, 56, 57, 58, 59, 60, 61, 62, 63, 64, 65, 66, 67, 68, 69, 70, 71, 72, 73, 74, 75, 76, 77, 78, 79, 80, 81, 82, 83, 84, 85, 86, 87, 88, 89, 90, 91, 92] (by decide +kernel) (by decide +kernel)) (goodIn_sub (fun _ h => List.mem_cons_of_mem _ (List.mem_append_left _ (List.mem_append_right _ h))) (by decide +kernel))) (goodIn_sub (fun _ h => List.mem_cons_of_mem _ (List.mem_append_right _ h)) (by decide +kernel))
set_option maxRecDepth 20000 in
theorem gL_group_X3_group : GoodIn wsL_group (wsV RL 50 RX3 yX3_group wsX3_group) := goodIn_app (goodIn_of _ (by decide +kernel)) ggL_group_X3_group
theorem dL_group_0 : decode cL_group 0 = .ok (.aload_n 2, 1) := by decide +kernel
theorem dL_group_1 : decode cL_group 1 = .ok (.iconst 0, 1) := by decide +kernel
theorem dL_group_2 : decode cL_group 2 = .ok (.aload_n 0, 1) := by decide +kernel
theorem dL_group_3 : decode cL_group 3 = .ok (.iload_n 1, 1) := by decide +kernel
theorem dL_group_4 : decode cL_group 4 = .ok (.invokevirtual 50, 3) := by decide +kernel
theorem dL_group_7 : decode cL_group 7 = .ok (.i2l, 1) := by decide +kernel
theorem dL_group_8 : decode cL_group 8 = .ok (.lastore, 1) := by decide +kernel
theorem dL_group_9 : decode cL_group 9 = .ok (.goto 9, 3) := by decide +kernel
theorem dL_group_12 : decode cL_group 12 = .ok (.astore_n 3, 1) := by decide +kernel
theorem dL_group_13 : decode cL_group 13 = .ok (.iconst 1, 1) := by decide +kernel
theorem dL_group_14 : decode cL_group 14 = .ok (.ireturn, 1) := by decide +kernel
theorem dL_group_15 : decode cL_group 15 = .ok (.astore_n 3, 1) := by decide +kernel
theorem dL_group_16 : decode cL_group 16 = .ok (.iconst 2, 1) := by decide +kernel
theorem dL_group_17 : decode cL_group 17 = .ok (.ireturn, 1) := by decide +kernel
theorem dL_group_18 : decode cL_group 18 = .ok (.iconst 0, 1) := by decide +kernel
theorem dL_group_19 : decode cL_group 19 = .ok (.ireturn, 1) := by decide +kernel
set_option maxRecDepth 20000 in
theorem ggL_share_X3_share : GoodIn wsL_share wsX3_share := goodIn_ca (goodIn_ca (goodIn_r _ [7, 8, 9, 10, 11, 12, 13, 14, 15, 6, 16, 17, 18, 19, 20, 21, 22, 23, 24, 25, 26, 27, 28, 29, 30, 31, 32, 33, 34, 35, 36, 37, 38, 39, 40, 41, 42, 43, 44, 45, 46, 47, 48, 49, 50, 51, 52, 53, 54, 55, 56, 57, 58, 59, 60, 61, 62, 63, 64, 65, 66, 67, 68, 69, 70, 71, 72, 73, 74, 75, 76, 77, 78, 79, 80, 81, 82, 83, 84, 85, 86, 87, 88, 89, 90, 91, 92, 93, 94, 95, 96] (by decide +kernel) (by decide +kernel)) (goodIn_sub (fun _ h => List.mem_cons_of_mem _ (List.mem_append_left _ (List.mem_append_right _ h))) (by decide +kernel))) (goodIn_sub (fun _ h => List.mem_cons_of_mem _ (List.mem_append_right _ h)) (by decide +kernel))
set_option maxRecDepth 20000 in
theorem gL_share_X3_share : GoodIn wsL_share (wsV RL 53 RX3 yX3_share wsX3_share) := goodIn_app (goodIn_of _ (by decide +kernel)) ggL_share_X3_share
theorem dL_share_0 : decode cL_share 0 = .ok (.aload_n 3, 1) := by decide +kernel
theorem dL_share_1 : decode cL_share 1 = .ok (.iconst 0, 1) := by decide +kernel
theorem dL_share_2 : decode cL_share 2 = .ok (.aload_n 0, 1) := by decide +kernel
theorem dL_share_3 : decode cL_share 3 = .ok (.iload_n 1, 1) := by decide +kernel
theorem dL_share_4 : decode cL_share 4 = .ok (.iload_n 2, 1) := by decide +kernel
theorem dL_share_5 : decode cL_share 5 = .ok (.invokevirtual 53, 3) := by decide +kernel
theorem dL_share_8 : decode cL_share 8 = .ok (.i2l, 1) := by decide +kernel
theorem dL_share_9 : decode cL_share 9 = .ok (.lastore, 1) := by decide +kernel
theorem dL_share_10 : decode cL_share 10 = .ok (.goto 11, 3) := by decide +kernel
theorem dL_share_13 : decode cL_share 13 = .ok (.astore 4, 2) := by decide +kernel
theorem dL_share_15 : decode cL_share 15 = .ok (.iconst 1, 1) := by decide +kernel
theorem dL_share_16 : decode cL_share 16 = .ok (.ireturn, 1) := by decide +kernel
theorem dL_share_17 : decode cL_share 17 = .ok (.astore 4, 2) := by decide +kernel
theorem dL_share_19 : decode cL_share 19 = .ok (.iconst 2, 1) := by decide +kernel
theorem dL_share_20 : decode cL_share 20 = .ok (.ireturn, 1) := by decide +kernel
theorem dL_share_21 : decode cL_share 21 = .ok (.iconst 0, 1) := by decide +kernel
theorem dL_share_22 : decode cL_share 22 = .ok (.ireturn, 1) := by decide +kernel
set_option maxRecDepth 20000 in
theorem ggL_blow_X3_blow : GoodIn wsL_blow wsX3_blow := goodIn_ca (goodIn_r _ [6, 7, 8, 9, 10, 5, 11, 12, 13, 14, 15, 16, 17, 18, 19, 20, 21, 22, 23, 24, 25, 26, 27, 28, 29, 30, 31, 32, 33, 34, 35, 36, 37, 38, 39, 40, 41, 42, 43, 44, 45, 46, 47, 48, 49, 50, 51, 52, 53, 54, 55, 56, 57, 58, 59, 60, 61, 62, 63, 64, 65, 66, 67, 68, 69, 70, 71, 72, 73, 74, 75, 76, 77, 78, 79, 80, 81, 82, 83, 84, 85, 86, 87, 88, 89, 90, 91, 92, 93, 94, 95, 96, 97, 98, 99, 100, 101, 102, 103, 104, 105, 106] (by decide +kernel) (by decide +kernel)) (goodIn_sub (fun _ h => List.mem_cons_of_mem _ (List.mem_append_right _ h)) (by decide +kernel))
set_option maxRecDepth 20000 in
theorem gL_blow_X3_blow : GoodIn wsL_blow (wsV RL 56 RX3 yX3_blow wsX3_blow) := goodIn_app (goodIn_of _ (by decide +kernel)) ggL_blow_X3_blow
theorem dL_blow_0 : decode cL_blow 0 = .ok (.aload 4, 2) := by decide +kernel
theorem dL_blow_2 : decode cL_blow 2 = .ok (.iconst 0, 1) := by decide +kernel
theorem dL_blow_3 : decode cL_blow 3 = .ok (.aload_n 0, 1) := by decide +kernel
theorem dL_blow_4 : decode cL_blow 4 = .ok (.iload_n 1, 1) := by decide +kernel
theorem dL_blow_5 : decode cL_blow 5 = .ok (.iload_n 2, 1) := by decide +kernel
theorem dL_blow_6 : decode cL_blow 6 = .ok (.iload_n 3, 1) := by decide +kernel
theorem dL_blow_7 : decode cL_blow 7 = .ok (.invokevirtual 56, 3) := by decide +kernel
theorem dL_blow_10 : decode cL_blow 10 = .ok (.i2l, 1) := by decide +kernel
theorem dL_blow_11 : decode cL_blow 11 = .ok (.lastore, 1) := by decide +kernel
theorem dL_blow_12 : decode cL_blow 12 = .ok (.goto 7, 3) := by decide +kernel
theorem dL_blow_15 : decode cL_blow 15 = .ok (.astore 5, 2) := by decide +kernel
theorem dL_blow_17 : decode cL_blow 17 = .ok (.iconst 1, 1) := by decide +kernel
theorem dL_blow_18 : decode cL_blow 18 = .ok (.ireturn, 1) := by decide +kernel
theorem dL_blow_19 : decode cL_blow 19 = .ok (.iconst 0, 1) := by decide +kernel
theorem dL_blow_20 : decode cL_blow 20 = .ok (.ireturn, 1) := by decide +kernel
set_option maxRecDepth 20000 in
theorem ggL_wave_X3_wave : GoodIn wsL_wave wsX3_wave := goodIn_ca (goodIn_ca (goodIn_r _ [7, 8, 9, 10, 11, 12, 13, 14, 15, 16, 17, 18, 19, 6, 20, 21, 22, 23, 24, 25, 26, 27, 28, 29, 30, 31, 32, 33, 34, 35, 36, 37, 38] (by decide +kernel) (by decide +kernel)) (goodIn_sub (fun _ h => List.mem_cons_of_mem _ (List.mem_append_left _ (List.mem_append_right _ h))) (by decide +kernel))) (goodIn_sub (fun _ h => List.mem_cons_of_mem _ (List.mem_append_right _ h)) (by decide +kernel))
set_option maxRecDepth 20000 in
theorem gL_wave_X3_wave : GoodIn wsL_wave (wsV RL 59 RX3 yX3_wave wsX3_wave) := goodIn_app (goodIn_of _ (by decide +kernel)) ggL_wave_X3_wave
theorem dL_wave_0 : decode cL_wave 0 = .ok (.aload_n 3, 1) := by decide +kernel
theorem dL_wave_1 : decode cL_wave 1 = .ok (.iconst 0, 1) := by decide +kernel
theorem dL_wave_2 : decode cL_wave 2 = .ok (.aload_n 0, 1) := by decide +kernel
theorem dL_wave_3 : decode cL_wave 3 = .ok (.iload_n 1, 1) := by decide +kernel
theorem dL_wave_4 : decode cL_wave 4 = .ok (.iload_n 2, 1) := by decide +kernel
theorem dL_wave_5 : decode cL_wave 5 = .ok (.invokevirtual 59, 3) := by decide +kernel
theorem dL_wave_8 : decode cL_wave 8 = .ok (.i2l, 1) := by decide +kernel
theorem dL_wave_9 : decode cL_wave 9 = .ok (.lastore, 1) := by decide +kernel
theorem dL_wave_10 : decode cL_wave 10 = .ok (.goto 11, 3) := by decide +kernel
theorem dL_wave_13 : decode cL_wave 13 = .ok (.astore 4, 2) := by decide +kernel
theorem dL_wave_15 : decode cL_wave 15 = .ok (.iconst 1, 1) := by decide +kernel
theorem dL_wave_16 : decode cL_wave 16 = .ok (.ireturn, 1) := by decide +kernel
theorem dL_wave_17 : decode cL_wave 17 = .ok (.astore 4, 2) := by decide +kernel
theorem dL_wave_19 : decode cL_wave 19 = .ok (.iconst 2, 1) := by decide +kernel
theorem dL_wave_20 : decode cL_wave 20 = .ok (.ireturn, 1) := by decide +kernel
theorem dL_wave_21 : decode cL_wave 21 = .ok (.iconst 0, 1) := by decide +kernel
theorem dL_wave_22 : decode cL_wave 22 = .ok (.ireturn, 1) := by decide +kernel
set_option maxRecDepth 20000 in
theorem ggL_law_X3_init : GoodIn wsL_law wsX3_init := goodIn_r _ [9, 10, 11, 12, 13, 14, 15, 16, 17, 18, 19, 20, 21, 22, 23, 24, 25, 26, 27, 28, 29, 30, 31, 32, 33, 6, 34, 35, 462, 463, 464, 465, 485, 486, 487, 488, 489, 490, 491, 492, 493, 494] (by decide +kernel) (by decide +kernel)
set_option maxRecDepth 20000 in
theorem gL_law_X3_init : GoodIn wsL_law (wsX3_init) := ggL_law_X3_init
set_option maxRecDepth 20000 in
theorem ggL_law_X4_init : GoodIn wsL_law wsX4_init := goodIn_r _ [38, 39, 11, 12, 31, 40, 6, 41, 42, 43, 44, 45, 46, 47, 48, 49, 50, 51, 52, 53, 54, 55, 56, 57, 58, 466, 467, 468, 469, 470, 471, 472, 473, 474, 475, 476, 477, 478, 479, 480, 481, 482, 483, 484] (by decide +kernel) (by decide +kernel)
set_option maxRecDepth 20000 in
theorem gL_law_X4_init : GoodIn wsL_law (wsX4_init) := ggL_law_X4_init
set_option maxRecDepth 20000 in
theorem ggL_law_L_pile : GoodIn wsL_law wsL_pile := goodIn_ca (goodIn_ca (goodIn_r _ [62, 63, 64, 65, 66, 67, 2, 68, 69, 70, 71, 23, 14, 13, 72, 73, 74, 75, 76, 77, 78, 79, 80, 81, 82, 11, 12, 83, 84, 85, 31, 86, 87, 88, 462, 463, 464, 465, 495, 496, 497, 498, 499, 500, 501, 502, 503] (by decide +kernel) (by decide +kernel)) (goodIn_sub (fun _ h => List.mem_append_left _ (List.mem_append_right _ h)) (by decide +kernel))) (goodIn_sub (fun _ h => List.mem_append_right _ h) (by decide +kernel))
set_option maxRecDepth 20000 in
theorem gL_law_L_pile : GoodIn wsL_law (va_wsS RL 66 yL_pile wsL_pile) := goodIn_app (goodIn_of _ (by decide +kernel)) ggL_law_L_pile
set_option maxRecDepth 20000 in
theorem ggL_law_X4_pile : GoodIn wsL_law wsX4_pile := goodIn_r _ [92, 93, 94, 95, 96, 97, 98, 40, 41, 42, 43, 99, 100, 5, 101, 466, 467, 468, 469, 470, 471, 472, 473, 474, 475, 476, 477, 478, 479, 480, 481, 482, 483, 484] (by decide +kernel) (by decide +kernel)
set_option maxRecDepth 20000 in
theorem gL_law_X4_pile : GoodIn wsL_law (wsV RL 71 RX4 yX4_pile wsX4_pile) := goodIn_app (goodIn_of _ (by decide +kernel)) ggL_law_X4_pile
set_option maxRecDepth 20000 in
theorem ggL_law_X4_thrown : GoodIn wsL_law wsX4_thrown := goodIn_r _ [105, 98, 466, 467, 468, 469, 470, 471, 472, 473, 474, 475, 476, 477, 478, 479, 480, 481, 482, 483, 484] (by decide +kernel) (by decide +kernel)
set_option maxRecDepth 20000 in
theorem gL_law_X4_thrown : GoodIn wsL_law (wsV RL 72 RX4 yX4_thrown wsX4_thrown) := goodIn_app (goodIn_of _ (by decide +kernel)) ggL_law_X4_thrown
set_option maxRecDepth 20000 in
theorem ggL_law_L_ground : GoodIn wsL_law wsL_ground := goodIn_ca (goodIn_r _ [108, 63, 109, 110, 111, 2, 112, 71, 113, 114, 115, 116, 117, 118, 77, 78, 14, 119, 120, 121, 122, 123, 124, 73, 125, 86, 74, 75, 76, 495, 496, 497, 498, 499, 500, 501, 502, 503, 462, 463, 464, 465] (by decide +kernel) (by decide +kernel)) (goodIn_sub (fun _ h => List.mem_append_right _ h) (by decide +kernel))
set_option maxRecDepth 20000 in
theorem gL_law_L_ground : GoodIn wsL_law (va_wsS RL 76 yL_ground wsL_ground) := goodIn_app (goodIn_of _ (by decide +kernel)) ggL_law_L_ground
set_option maxRecDepth 20000 in
theorem ggL_law_X4_ground : GoodIn wsL_law wsX4_ground := goodIn_r _ [129, 95, 96, 98, 44, 45, 130, 131, 132, 5, 133, 40, 134, 135, 136, 137, 97, 99, 100, 101, 466, 467, 468, 469, 470, 471, 472, 473, 474, 475, 476, 477, 478, 479, 480, 481, 482, 483, 484] (by decide +kernel) (by decide +kernel)
set_option maxRecDepth 20000 in
theorem gL_law_X4_ground : GoodIn wsL_law (wsV RL 79 RX4 yX4_ground wsX4_ground) := goodIn_app (goodIn_of _ (by decide +kernel)) ggL_law_X4_ground
set_option maxRecDepth 20000 in
theorem ggL_law_L_sinks : GoodIn wsL_law wsL_sinks := goodIn_ca (goodIn_r _ [140, 63, 141, 142, 143, 2, 144, 145, 115, 116, 117, 118, 77, 78, 14, 119, 120, 121, 122, 123, 124, 73, 125, 86, 74, 75, 76, 495, 496, 497, 498, 499, 500, 501, 502, 503, 462, 463, 464, 465] (by decide +kernel) (by decide +kernel)) (goodIn_sub (fun _ h => List.mem_append_right _ h) (by decide +kernel))
set_option maxRecDepth 20000 in
theorem gL_law_L_sinks : GoodIn wsL_law (va_wsS RL 80 yL_sinks wsL_sinks) := goodIn_app (goodIn_of _ (by decide +kernel)) ggL_law_L_sinks
set_option maxRecDepth 20000 in
theorem ggL_law_X4_sinks : GoodIn wsL_law wsX4_sinks := goodIn_r _ [149, 94, 98, 46, 130, 131, 132, 5, 133, 40, 134, 135, 136, 137, 97, 99, 100, 101, 466, 467, 468, 469, 470, 471, 472, 473, 474, 475, 476, 477, 478, 479, 480, 481, 482, 483, 484] (by decide +kernel) (by decide +kernel)
set_option maxRecDepth 20000 in
theorem gL_law_X4_sinks : GoodIn wsL_law (wsV RL 83 RX4 yX4_sinks wsX4_sinks) := goodIn_app (goodIn_of _ (by decide +kernel)) ggL_law_X4_sinks
set_option maxRecDepth 20000 in
theorem ggL_law_L_tip : GoodIn wsL_law wsL_tip := goodIn_ca (goodIn_r _ [152, 63, 153, 154, 155, 2, 156, 157, 158, 159, 115, 116, 117, 118, 77, 78, 14, 74, 75, 76, 495, 496, 497, 498, 499, 500, 501, 502, 503, 462, 463, 464, 465] (by decide +kernel) (by decide +kernel)) (goodIn_sub (fun _ h => List.mem_append_right _ h) (by decide +kernel))
set_option maxRecDepth 20000 in
theorem gL_law_L_tip : GoodIn wsL_law (va_wsS RL 84 yL_tip wsL_tip) := goodIn_app (goodIn_of _ (by decide +kernel)) ggL_law_L_tip
set_option maxRecDepth 20000 in
theorem ggL_law_X4_tip : GoodIn wsL_law wsX4_tip := goodIn_r _ [163, 95, 164, 98, 47, 48, 134, 135, 136, 5, 137, 97, 99, 100, 101, 466, 467, 468, 469, 470, 471, 472, 473, 474, 475, 476, 477, 478, 479, 480, 481, 482, 483, 484] (by decide +kernel) (by decide +kernel)
set_option maxRecDepth 20000 in
theorem gL_law_X4_tip : GoodIn wsL_law (wsV RL 87 RX4 yX4_tip wsX4_tip) := goodIn_app (goodIn_of _ (by decide +kernel)) ggL_law_X4_tip
set_option maxRecDepth 20000 in
theorem ggL_law_L_under : GoodIn wsL_law wsL_under := goodIn_ca (goodIn_r _ [167, 63, 168, 169, 170, 2, 171, 18, 172, 173, 115, 116, 117, 118, 77, 78, 14, 174, 175, 176, 177, 74, 75, 76, 178, 179, 180, 17, 181, 182, 183, 184, 185, 186, 187, 188, 189, 190, 191, 192, 193, 194, 195, 196, 197, 198, 199, 200, 201, 202, 203, 204, 123, 124, 73, 125, 86, 205, 206, 207, 208, 209, 210, 462, 463, 464, 465, 485, 486, 487, 488, 495, 496, 497, 498, 499, 500, 501, 502, 503] (by decide +kernel) (by decide +kernel)) (goodIn_sub (fun _ h => List.mem_append_right _ h) (by decide +kernel))
set_option maxRecDepth 20000 in
theorem gL_law_L_under : GoodIn wsL_law (va_wsS RL 88 yL_under wsL_under) := goodIn_app (goodIn_of _ (by decide +kernel)) ggL_law_L_under
set_option maxRecDepth 20000 in
theorem ggL_law_X4_under : GoodIn wsL_law wsX4_under := goodIn_r _ [214, 215, 98, 51, 55, 134, 135, 136, 5, 137, 97, 99, 100, 101, 216, 217, 218, 219, 220, 96, 221, 222, 223, 224, 225, 226, 227, 228, 229, 230, 231, 232, 233, 234, 235, 40, 47, 48, 52, 44, 46, 45, 53, 41, 236, 237, 238, 239, 240, 241, 466, 467, 468, 469, 470, 471, 472, 473, 474, 475, 476, 477, 478, 479, 480, 481, 482, 483, 484] (by decide +kernel) (by decide +kernel)
set_option maxRecDepth 20000 in
theorem gL_law_X4_under : GoodIn wsL_law (wsV RL 91 RX4 yX4_under wsX4_under) := goodIn_app (goodIn_of _ (by decide +kernel)) ggL_law_X4_under
set_option maxRecDepth 20000 in
theorem ggL_law_L_piece : GoodIn wsL_law wsL_piece := goodIn_ca (goodIn_r _ [244, 63, 245, 246, 247, 2, 248, 18, 173, 172, 249, 250, 115, 116, 117, 118, 77, 78, 14, 174, 175, 176, 177, 74, 75, 76, 119, 120, 121, 122, 123, 124, 73, 125, 86, 178, 179, 180, 17, 181, 182, 183, 184, 185, 186, 187, 188, 189, 190, 191, 192, 193, 194, 195, 196, 197, 198, 199, 200, 201, 202, 203, 204, 205, 206, 207, 208, 209, 210, 251, 462, 463, 464, 465, 485, 486, 487, 488, 495, 496, 497, 498, 499, 500, 501, 502, 503] (by decide +kernel) (by decide +kernel)) (goodIn_sub (fun _ h => List.mem_append_right _ h) (by decide +kernel))
set_option maxRecDepth 20000 in
theorem gL_law_L_piece : GoodIn wsL_law (va_wsS RL 92 yL_piece wsL_piece) := goodIn_app (goodIn_of _ (by decide +kernel)) ggL_law_L_piece
set_option maxRecDepth 20000 in
theorem ggL_law_X4_piece : GoodIn wsL_law wsX4_piece := goodIn_r _ [255, 215, 227, 98, 55, 51, 52, 53, 130, 131, 132, 5, 133, 40, 134, 135, 136, 137, 97, 99, 100, 101, 216, 217, 218, 219, 220, 96, 221, 222, 223, 224, 225, 226, 228, 229, 230, 231, 232, 233, 234, 235, 47, 48, 44, 46, 45, 41, 236, 237, 238, 239, 240, 241, 466, 467, 468, 469, 470, 471, 472, 473, 474, 475, 476, 477, 478, 479, 480, 481, 482, 483, 484] (by decide +kernel) (by decide +kernel)
set_option maxRecDepth 20000 in
theorem gL_law_X4_piece : GoodIn wsL_law (wsV RL 94 RX4 yX4_piece wsX4_piece) := goodIn_app (goodIn_of _ (by decide +kernel)) ggL_law_X4_piece
set_option maxRecDepth 20000 in
theorem ggL_law_L_load : GoodIn wsL_law wsL_load := goodIn_ca (goodIn_r _ [258, 63, 259, 260, 261, 2, 262, 263, 71, 18, 250, 173, 115, 116, 117, 118, 77, 78, 14, 74, 75, 76, 264, 265, 266, 17, 267, 184, 185, 186, 187, 188, 189, 182, 183, 190, 191, 192, 193, 194, 195, 196, 197, 198, 199, 200, 201, 202, 203, 204, 123, 124, 73, 125, 86, 205, 206, 207, 208, 209, 210, 462, 463, 464, 465, 485, 486, 487, 488, 495, 496, 497, 498, 499, 500, 501, 502, 503] (by decide +kernel) (by decide +kernel)) (goodIn_sub (fun _ h => List.mem_append_right _ h) (by decide +kernel))
set_option maxRecDepth 20000 in
theorem gL_law_L_load : GoodIn wsL_law (va_wsS RL 95 yL_load wsL_load) := goodIn_app (goodIn_of _ (by decide +kernel)) ggL_law_L_load
set_option maxRecDepth 20000 in
theorem ggL_law_X4_load : GoodIn wsL_law wsX4_load := goodIn_r _ [271, 220, 96, 98, 55, 134, 135, 136, 5, 137, 97, 99, 100, 101, 272, 273, 274, 275, 221, 222, 223, 224, 225, 226, 227, 228, 229, 230, 231, 51, 232, 233, 234, 235, 40, 47, 48, 52, 44, 46, 45, 53, 41, 236, 237, 238, 239, 240, 241, 276, 277, 278, 279, 466, 467, 468, 469, 470, 471, 472, 473, 474, 475, 476, 477, 478, 479, 480, 481, 482, 483, 484] (by decide +kernel) (by decide +kernel)
set_option maxRecDepth 20000 in
theorem gL_law_X4_load : GoodIn wsL_law (wsV RL 97 RX4 yX4_load wsX4_load) := goodIn_app (goodIn_of _ (by decide +kernel)) ggL_law_X4_load
set_option maxRecDepth 20000 in
theorem ggL_law_L_hold : GoodIn wsL_law wsL_hold := goodIn_ca (goodIn_r _ [282, 63, 283, 284, 285, 2, 286, 114, 115, 116, 117, 118, 77, 78, 14, 495, 496, 497, 498, 499, 500, 501, 502, 503, 462, 463, 464, 465] (by decide +kernel) (by decide +kernel)) (goodIn_sub (fun _ h => List.mem_append_right _ h) (by decide +kernel))
set_option maxRecDepth 20000 in
theorem gL_law_L_hold : GoodIn wsL_law (va_wsS RL 98 yL_hold wsL_hold) := goodIn_app (goodIn_of _ (by decide +kernel)) ggL_law_L_hold
set_option maxRecDepth 20000 in
theorem ggL_law_X4_hold : GoodIn wsL_law wsX4_hold := goodIn_r _ [290, 98, 40, 45, 291, 292, 134, 135, 136, 5, 137, 97, 99, 100, 101, 466, 467, 468, 469, 470, 471, 472, 473, 474, 475, 476, 477, 478, 479, 480, 481, 482, 483, 484] (by decide +kernel) (by decide +kernel)
set_option maxRecDepth 20000 in
theorem gL_law_X4_hold : GoodIn wsL_law (wsV RL 101 RX4 yX4_hold wsX4_hold) := goodIn_app (goodIn_of _ (by decide +kernel)) ggL_law_X4_hold
set_option maxRecDepth 20000 in
theorem ggL_law_L_cheapest : GoodIn wsL_law wsL_cheapest := goodIn_ca (goodIn_r _ [295, 63, 296, 297, 298, 2, 299, 71, 173, 14, 300, 18, 172, 174, 175, 176, 177, 74, 75, 76, 77, 78, 178, 179, 180, 17, 181, 182, 183, 184, 185, 186, 187, 188, 189, 190, 191, 192, 193, 194, 195, 196, 197, 198, 199, 200, 201, 202, 203, 204, 123, 124, 73, 125, 86, 205, 206, 207, 208, 209, 210, 462, 463, 464, 465, 495, 496, 497, 498, 499, 500, 501, 502, 503, 485, 486, 487, 488] (by decide +kernel) (by decide +kernel)) (goodIn_sub (fun _ h => List.mem_append_right _ h) (by decide +kernel))
set_option maxRecDepth 20000 in
theorem gL_law_L_cheapest : GoodIn wsL_law (va_wsS RL 102 yL_cheapest wsL_cheapest) := goodIn_app (goodIn_of _ (by decide +kernel)) ggL_law_L_cheapest
set_option maxRecDepth 20000 in
theorem ggL_law_X4_cheapest : GoodIn wsL_law wsX4_cheapest := goodIn_r _ [304, 215, 96, 98, 55, 97, 51, 43, 99, 100, 5, 101, 216, 217, 218, 219, 220, 221, 222, 223, 224, 225, 226, 227, 228, 229, 230, 231, 232, 233, 234, 235, 40, 47, 48, 52, 44, 46, 45, 53, 41, 236, 237, 238, 239, 240, 241, 466, 467, 468, 469, 470, 471, 472, 473, 474, 475, 476, 477, 478, 479, 480, 481, 482, 483, 484] (by decide +kernel) (by decide +kernel)
set_option maxRecDepth 20000 in
theorem gL_law_X4_cheapest : GoodIn wsL_law (wsV RL 104 RX4 yX4_cheapest wsX4_cheapest) := goodIn_app (goodIn_of _ (by decide +kernel)) ggL_law_X4_cheapest
set_option maxRecDepth 20000 in
theorem ggL_law_L_join : GoodIn wsL_law wsL_join := goodIn_ca (goodIn_r _ [307, 63, 308, 309, 310, 2, 311, 312, 115, 116, 117, 118, 77, 78, 14, 495, 496, 497, 498, 499, 500, 501, 502, 503, 462, 463, 464, 465] (by decide +kernel) (by decide +kernel)) (goodIn_sub (fun _ h => List.mem_append_right _ h) (by decide +kernel))
set_option maxRecDepth 20000 in
theorem gL_law_L_join : GoodIn wsL_law (va_wsS RL 105 yL_join wsL_join) := goodIn_app (goodIn_of _ (by decide +kernel)) ggL_law_L_join
set_option maxRecDepth 20000 in
theorem ggL_law_X4_join : GoodIn wsL_law wsX4_join := goodIn_r _ [316, 98, 50, 134, 135, 136, 5, 137, 97, 99, 100, 101, 466, 467, 468, 469, 470, 471, 472, 473, 474, 475, 476, 477, 478, 479, 480, 481, 482, 483, 484] (by decide +kernel) (by decide +kernel)
set_option maxRecDepth 20000 in
theorem gL_law_X4_join : GoodIn wsL_law (wsV RL 108 RX4 yX4_join wsX4_join) := goodIn_app (goodIn_of _ (by decide +kernel)) ggL_law_X4_join
set_option maxRecDepth 20000 in
theorem ggL_law_L_group : GoodIn wsL_law wsL_group := goodIn_ca (goodIn_ca (goodIn_r _ [319, 63, 64, 320, 321, 322, 2, 323, 174, 175, 176, 177, 74, 75, 76, 77, 78, 324, 325, 326, 327, 69, 70, 14, 312, 328, 329, 330, 331, 173, 332, 333, 334, 335, 18, 336, 250, 264, 265, 266, 17, 267, 184, 185, 186, 187, 188, 189, 182, 183, 190, 191, 192, 193, 194, 195, 196, 197, 198, 199, 200, 201, 202, 203, 204, 123, 124, 73, 125, 86, 205, 206, 207, 208, 209, 210, 462, 463, 464, 465, 495, 496, 497, 498, 499, 500, 501, 502, 503, 485, 486, 487, 488] (by decide +kernel) (by decide +kernel)) (goodIn_sub (fun _ h => List.mem_append_right _ h) (by decide +kernel))) (goodIn_sub (fun _ h => List.mem_append_left _ (List.mem_append_right _ h)) (by decide +kernel))
set_option maxRecDepth 20000 in
theorem gL_law_L_group : GoodIn wsL_law (va_wsS RL 109 yL_group wsL_group) := goodIn_app (goodIn_of _ (by decide +kernel)) ggL_law_L_group
set_option maxRecDepth 20000 in
theorem ggL_law_X4_group : GoodIn wsL_law wsX4_group := goodIn_r _ [340, 215, 98, 99, 100, 5, 101, 341, 342, 343, 344, 97, 50, 345, 346, 347, 348, 55, 94, 272, 273, 274, 275, 220, 221, 222, 223, 224, 225, 226, 96, 227, 228, 229, 230, 231, 51, 232, 233, 234, 235, 40, 47, 48, 52, 44, 46, 45, 53, 41, 236, 237, 238, 239, 240, 241, 349, 350, 351, 352, 276, 277, 278, 279, 466, 467, 468, 469, 470, 471, 472, 473, 474, 475, 476, 477, 478, 479, 480, 481, 482, 483, 484] (by decide +kernel) (by decide +kernel)
set_option maxRecDepth 20000 in
theorem gL_law_X4_group : GoodIn wsL_law (wsV RL 111 RX4 yX4_group wsX4_group) := goodIn_app (goodIn_of _ (by decide +kernel)) ggL_law_X4_group
set_option maxRecDepth 20000 in
theorem ggL_law_L_share : GoodIn wsL_law wsL_share := goodIn_ca (goodIn_ca (goodIn_r _ [355, 63, 64, 356, 357, 358, 2, 359, 77, 78, 312, 173, 18, 250, 174, 175, 176, 177, 74, 75, 76, 115, 116, 117, 118, 14, 324, 325, 326, 327, 69, 70, 328, 329, 330, 331, 332, 333, 334, 335, 336, 264, 265, 266, 17, 267, 184, 185, 186, 187, 188, 189, 182, 183, 190, 191, 192, 193, 194, 195, 196, 197, 198, 199, 200, 201, 202, 203, 204, 123, 124, 73, 125, 86, 205, 206, 207, 208, 209, 210, 495, 496, 497, 498, 499, 500, 501, 502, 503, 462, 463, 464, 465, 485, 486, 487, 488] (by decide +kernel) (by decide +kernel)) (goodIn_sub (fun _ h => List.mem_append_right _ h) (by decide +kernel))) (goodIn_sub (fun _ h => List.mem_append_left _ (List.mem_append_right _ h)) (by decide +kernel))
set_option maxRecDepth 20000 in
theorem gL_law_L_share : GoodIn wsL_law (va_wsS RL 112 yL_share wsL_share) := goodIn_app (goodIn_of _ (by decide +kernel)) ggL_law_L_share
set_option maxRecDepth 20000 in
theorem ggL_law_X4_share : GoodIn wsL_law wsX4_share := goodIn_r _ [363, 215, 50, 98, 55, 99, 100, 5, 101, 134, 135, 136, 137, 97, 341, 342, 343, 344, 345, 346, 347, 348, 94, 272, 273, 274, 275, 220, 221, 222, 223, 224, 225, 226, 96, 227, 228, 229, 230, 231, 51, 232, 233, 234, 235, 40, 47, 48, 52, 44, 46, 45, 53, 41, 236, 237, 238, 239, 240, 241, 349, 350, 351, 352, 276, 277, 278, 279, 466, 467, 468, 469, 470, 471, 472, 473, 474, 475, 476, 477, 478, 479, 480, 481, 482, 483, 484] (by decide +kernel) (by decide +kernel)
set_option maxRecDepth 20000 in
theorem gL_law_X4_share : GoodIn wsL_law (wsV RL 114 RX4 yX4_share wsX4_share) := goodIn_app (goodIn_of _ (by decide +kernel)) ggL_law_X4_share
set_option maxRecDepth 20000 in
theorem ggL_law_L_blow : GoodIn wsL_law wsL_blow := goodIn_ca (goodIn_r _ [366, 63, 367, 368, 369, 2, 370, 22, 115, 116, 117, 118, 77, 78, 14, 74, 75, 76, 371, 372, 373, 21, 374, 375, 376, 32, 33, 377, 378, 379, 380, 381, 35, 382, 383, 384, 385, 386, 123, 124, 73, 125, 86, 387, 388, 389, 390, 391, 392, 393, 394, 34, 395, 396, 397, 398, 399, 400, 401, 402, 403, 404, 405, 406, 407, 408, 409, 410, 411, 205, 206, 412, 413, 414, 415, 416, 417, 418, 419, 420, 421, 422, 423, 424, 425, 426, 427, 428, 462, 463, 464, 465, 489, 490, 491, 492, 493, 494, 495, 496, 497, 498, 499, 500, 501, 502, 503] (by decide +kernel) (by decide +kernel)) (goodIn_sub (fun _ h => List.mem_append_right _ h) (by decide +kernel))
set_option maxRecDepth 20000 in
theorem gL_law_L_blow : GoodIn wsL_law (va_wsS RL 115 yL_blow wsL_blow) := goodIn_app (goodIn_of _ (by decide +kernel)) ggL_law_L_blow
set_option maxRecDepth 20000 in
theorem ggL_law_X4_blow : GoodIn wsL_law wsX4_blow := goodIn_r _ [432, 94, 95, 98, 40, 57, 58, 56, 47, 48, 134, 135, 136, 5, 137, 97, 99, 100, 101, 433, 434, 435, 436, 292, 437, 438, 439, 44, 45, 41, 42, 54, 236, 237, 238, 466, 467, 468, 469, 470, 471, 472, 473, 474, 475, 476, 477, 478, 479, 480, 481, 482, 483, 484] (by decide +kernel) (by decide +kernel)
set_option maxRecDepth 20000 in
theorem gL_law_X4_blow : GoodIn wsL_law (wsV RL 117 RX4 yX4_blow wsX4_blow) := goodIn_app (goodIn_of _ (by decide +kernel)) ggL_law_X4_blow
set_option maxRecDepth 20000 in
theorem ggL_law_L_wave : GoodIn wsL_law wsL_wave := goodIn_ca (goodIn_ca (goodIn_r _ [442, 64, 63, 443, 444, 445, 2, 446, 69, 70, 22, 447, 448, 449, 450, 21, 451, 375, 74, 75, 76, 77, 78, 452, 453, 454, 455, 35, 456, 462, 463, 464, 465, 489, 490, 491, 492, 493, 494] (by decide +kernel) (by decide +kernel)) (goodIn_sub (fun _ h => List.mem_append_left _ (List.mem_append_right _ h)) (by decide +kernel))) (goodIn_sub (fun _ h => List.mem_append_right _ h) (by decide +kernel))
set_option maxRecDepth 20000 in
theorem gL_law_L_wave : GoodIn wsL_law (va_wsS RL 118 yL_wave wsL_wave) := goodIn_app (goodIn_of _ (by decide +kernel)) ggL_law_L_wave
set_option maxRecDepth 20000 in
theorem ggL_law_X4_wave : GoodIn wsL_law wsX4_wave := goodIn_r _ [460, 56, 55, 461, 40, 98, 54, 99, 100, 5, 101, 466, 467, 468, 469, 470, 471, 472, 473, 474, 475, 476, 477, 478, 479, 480, 481, 482, 483, 484] (by decide +kernel) (by decide +kernel)
set_option maxRecDepth 20000 in
theorem gL_law_X4_wave : GoodIn wsL_law (wsV RL 120 RX4 yX4_wave wsX4_wave) := goodIn_app (goodIn_of _ (by decide +kernel)) ggL_law_X4_wave
theorem dL_law_0 : decode cL_law 0 = .ok (.new 8, 3) := by decide +kernel
theorem dL_law_3 : decode cL_law 3 = .ok (.dup, 1) := by decide +kernel
theorem dL_law_4 : decode cL_law 4 = .ok (.invokespecial 62, 3) := by decide +kernel
theorem dL_law_7 : decode cL_law 7 = .ok (.astore_n 1, 1) := by decide +kernel
theorem dL_law_8 : decode cL_law 8 = .ok (.new 63, 3) := by decide +kernel
theorem dL_law_11 : decode cL_law 11 = .ok (.dup, 1) := by decide +kernel
theorem dL_law_12 : decode cL_law 12 = .ok (.invokespecial 65, 3) := by decide +kernel
theorem dL_law_15 : decode cL_law 15 = .ok (.astore_n 2, 1) := by decide +kernel
theorem dL_law_16 : decode cL_law 16 = .ok (.iconst 1, 1) := by decide +kernel
theorem dL_law_17 : decode cL_law 17 = .ok (.newarray .long, 2) := by decide +kernel
theorem dL_law_19 : decode cL_law 19 = .ok (.astore_n 3, 1) := by decide +kernel
theorem dL_law_20 : decode cL_law 20 = .ok (.iconst 0, 1) := by decide +kernel
theorem dL_law_21 : decode cL_law 21 = .ok (.istore 4, 2) := by decide +kernel
theorem dL_law_23 : decode cL_law 23 = .ok (.iload 4, 2) := by decide +kernel
theorem dL_law_25 : decode cL_law 25 = .ok (.aload_n 0, 1) := by decide +kernel
theorem dL_law_26 : decode cL_law 26 = .ok (.arraylength, 1) := by decide +kernel
theorem dL_law_27 : decode cL_law 27 = .ok (.iconst 5, 1) := by decide +kernel
theorem dL_law_28 : decode cL_law 28 = .ok (.isub, 1) := by decide +kernel
theorem dL_law_29 : decode cL_law 29 = .ok (.if_icmp .gt 1104, 3) := by decide +kernel
theorem dL_law_32 : decode cL_law 32 = .ok (.aload_n 0, 1) := by decide +kernel
theorem dL_law_33 : decode cL_law 33 = .ok (.iload 4, 2) := by decide +kernel
theorem dL_law_35 : decode cL_law 35 = .ok (.iaload, 1) := by decide +kernel
theorem dL_law_36 : decode cL_law 36 = .ok (.bipush 15, 2) := by decide +kernel
theorem dL_law_38 : decode cL_law 38 = .ok (.iand, 1) := by decide +kernel
theorem dL_law_39 : decode cL_law 39 = .ok (.tableswitch 1088 0 13 #[69, 161, 233, 313, 373, 441, 533, 601, 657, 725, 816, 872, 940, 1020], 69) := by decide +kernel
theorem dL_law_108 : decode cL_law 108 = .ok (.aload_n 1, 1) := by decide +kernel
theorem dL_law_109 : decode cL_law 109 = .ok (.aload_n 0, 1) := by decide +kernel
theorem dL_law_110 : decode cL_law 110 = .ok (.iload 4, 2) := by decide +kernel
theorem dL_law_112 : decode cL_law 112 = .ok (.iconst 1, 1) := by decide +kernel
theorem dL_law_113 : decode cL_law 113 = .ok (.iadd, 1) := by decide +kernel
theorem dL_law_114 : decode cL_law 114 = .ok (.iaload, 1) := by decide +kernel
theorem dL_law_115 : decode cL_law 115 = .ok (.aload_n 0, 1) := by decide +kernel
theorem dL_law_116 : decode cL_law 116 = .ok (.iload 4, 2) := by decide +kernel
theorem dL_law_118 : decode cL_law 118 = .ok (.iconst 2, 1) := by decide +kernel
theorem dL_law_119 : decode cL_law 119 = .ok (.iadd, 1) := by decide +kernel
theorem dL_law_120 : decode cL_law 120 = .ok (.iaload, 1) := by decide +kernel
theorem dL_law_121 : decode cL_law 121 = .ok (.aload_n 0, 1) := by decide +kernel
theorem dL_law_122 : decode cL_law 122 = .ok (.iload 4, 2) := by decide +kernel
theorem dL_law_124 : decode cL_law 124 = .ok (.iconst 3, 1) := by decide +kernel
theorem dL_law_125 : decode cL_law 125 = .ok (.iadd, 1) := by decide +kernel
theorem dL_law_126 : decode cL_law 126 = .ok (.iaload, 1) := by decide +kernel
theorem dL_law_127 : decode cL_law 127 = .ok (.aload_n 0, 1) := by decide +kernel
theorem dL_law_128 : decode cL_law 128 = .ok (.iload 4, 2) := by decide +kernel
theorem dL_law_130 : decode cL_law 130 = .ok (.iconst 4, 1) := by decide +kernel
theorem dL_law_131 : decode cL_law 131 = .ok (.iadd, 1) := by decide +kernel
theorem dL_law_132 : decode cL_law 132 = .ok (.iaload, 1) := by decide +kernel
theorem dL_law_133 : decode cL_law 133 = .ok (.aload_n 3, 1) := by decide +kernel
theorem dL_law_134 : decode cL_law 134 = .ok (.invokestatic 66, 3) := by decide +kernel
theorem dL_law_137 : decode cL_law 137 = .ok (.istore 5, 2) := by decide +kernel
theorem dL_law_139 : decode cL_law 139 = .ok (.aload_n 2, 1) := by decide +kernel
theorem dL_law_140 : decode cL_law 140 = .ok (.aload_n 0, 1) := by decide +kernel
theorem dL_law_141 : decode cL_law 141 = .ok (.iload 4, 2) := by decide +kernel
theorem dL_law_143 : decode cL_law 143 = .ok (.iconst 1, 1) := by decide +kernel
theorem dL_law_144 : decode cL_law 144 = .ok (.iadd, 1) := by decide +kernel
theorem dL_law_145 : decode cL_law 145 = .ok (.iaload, 1) := by decide +kernel
theorem dL_law_146 : decode cL_law 146 = .ok (.aload_n 0, 1) := by decide +kernel
theorem dL_law_147 : decode cL_law 147 = .ok (.iload 4, 2) := by decide +kernel
theorem dL_law_149 : decode cL_law 149 = .ok (.iconst 2, 1) := by decide +kernel
theorem dL_law_150 : decode cL_law 150 = .ok (.iadd, 1) := by decide +kernel
theorem dL_law_151 : decode cL_law 151 = .ok (.iaload, 1) := by decide +kernel
theorem dL_law_152 : decode cL_law 152 = .ok (.aload_n 0, 1) := by decide +kernel
theorem dL_law_153 : decode cL_law 153 = .ok (.iload 4, 2) := by decide +kernel
theorem dL_law_155 : decode cL_law 155 = .ok (.iconst 3, 1) := by decide +kernel
theorem dL_law_156 : decode cL_law 156 = .ok (.iadd, 1) := by decide +kernel
theorem dL_law_157 : decode cL_law 157 = .ok (.iaload, 1) := by decide +kernel
theorem dL_law_158 : decode cL_law 158 = .ok (.aload_n 0, 1) := by decide +kernel
theorem dL_law_159 : decode cL_law 159 = .ok (.iload 4, 2) := by decide +kernel
theorem dL_law_161 : decode cL_law 161 = .ok (.iconst 4, 1) := by decide +kernel
theorem dL_law_162 : decode cL_law 162 = .ok (.iadd, 1) := by decide +kernel
theorem dL_law_163 : decode cL_law 163 = .ok (.iaload, 1) := by decide +kernel
theorem dL_law_164 : decode cL_law 164 = .ok (.invokevirtual 71, 3) := by decide +kernel
theorem dL_law_167 : decode cL_law 167 = .ok (.istore 6, 2) := by decide +kernel
theorem dL_law_169 : decode cL_law 169 = .ok (.aload_n 2, 1) := by decide +kernel
theorem dL_law_170 : decode cL_law 170 = .ok (.invokevirtual 72, 3) := by decide +kernel
theorem dL_law_173 : decode cL_law 173 = .ok (.iload 5, 2) := by decide +kernel
theorem dL_law_175 : decode cL_law 175 = .ok (.if_icmp .eq 5, 3) := by decide +kernel
theorem dL_law_178 : decode cL_law 178 = .ok (.iconst 0, 1) := by decide +kernel
theorem dL_law_179 : decode cL_law 179 = .ok (.ireturn, 1) := by decide +kernel
theorem dL_law_180 : decode cL_law 180 = .ok (.iload 5, 2) := by decide +kernel
theorem dL_law_182 : decode cL_law 182 = .ok (.ifCond .ne 15, 3) := by decide +kernel
theorem dL_law_185 : decode cL_law 185 = .ok (.aload_n 3, 1) := by decide +kernel
theorem dL_law_186 : decode cL_law 186 = .ok (.iconst 0, 1) := by decide +kernel
theorem dL_law_187 : decode cL_law 187 = .ok (.laload, 1) := by decide +kernel
theorem dL_law_188 : decode cL_law 188 = .ok (.iload 6, 2) := by decide +kernel
theorem dL_law_190 : decode cL_law 190 = .ok (.i2l, 1) := by decide +kernel
theorem dL_law_191 : decode cL_law 191 = .ok (.lcmp, 1) := by decide +kernel
theorem dL_law_192 : decode cL_law 192 = .ok (.ifCond .eq 5, 3) := by decide +kernel
theorem dL_law_195 : decode cL_law 195 = .ok (.iconst 0, 1) := by decide +kernel
theorem dL_law_196 : decode cL_law 196 = .ok (.ireturn, 1) := by decide +kernel
theorem dL_law_197 : decode cL_law 197 = .ok (.goto 930, 3) := by decide +kernel
theorem dL_law_200 : decode cL_law 200 = .ok (.aload_n 1, 1) := by decide +kernel
theorem dL_law_201 : decode cL_law 201 = .ok (.aload_n 0, 1) := by decide +kernel
theorem dL_law_202 : decode cL_law 202 = .ok (.iload 4, 2) := by decide +kernel
theorem dL_law_204 : decode cL_law 204 = .ok (.iconst 1, 1) := by decide +kernel
theorem dL_law_205 : decode cL_law 205 = .ok (.iadd, 1) := by decide +kernel
theorem dL_law_206 : decode cL_law 206 = .ok (.iaload, 1) := by decide +kernel
theorem dL_law_207 : decode cL_law 207 = .ok (.aload_n 0, 1) := by decide +kernel
theorem dL_law_208 : decode cL_law 208 = .ok (.iload 4, 2) := by decide +kernel
theorem dL_law_210 : decode cL_law 210 = .ok (.iconst 2, 1) := by decide +kernel
theorem dL_law_211 : decode cL_law 211 = .ok (.iadd, 1) := by decide +kernel
theorem dL_law_212 : decode cL_law 212 = .ok (.iaload, 1) := by decide +kernel
theorem dL_law_213 : decode cL_law 213 = .ok (.aload_n 0, 1) := by decide +kernel
theorem dL_law_214 : decode cL_law 214 = .ok (.iload 4, 2) := by decide +kernel
theorem dL_law_216 : decode cL_law 216 = .ok (.iconst 3, 1) := by decide +kernel
theorem dL_law_217 : decode cL_law 217 = .ok (.iadd, 1) := by decide +kernel
theorem dL_law_218 : decode cL_law 218 = .ok (.iaload, 1) := by decide +kernel
theorem dL_law_219 : decode cL_law 219 = .ok (.aload_n 0, 1) := by decide +kernel
theorem dL_law_220 : decode cL_law 220 = .ok (.iload 4, 2) := by decide +kernel
theorem dL_law_222 : decode cL_law 222 = .ok (.iconst 4, 1) := by decide +kernel
theorem dL_law_223 : decode cL_law 223 = .ok (.iadd, 1) := by decide +kernel
theorem dL_law_224 : decode cL_law 224 = .ok (.iaload, 1) := by decide +kernel
theorem dL_law_225 : decode cL_law 225 = .ok (.invokestatic 76, 3) := by decide +kernel
theorem dL_law_228 : decode cL_law 228 = .ok (.istore 5, 2) := by decide +kernel
theorem dL_law_230 : decode cL_law 230 = .ok (.aload_n 2, 1) := by decide +kernel
theorem dL_law_231 : decode cL_law 231 = .ok (.aload_n 0, 1) := by decide +kernel
theorem dL_law_232 : decode cL_law 232 = .ok (.iload 4, 2) := by decide +kernel
theorem dL_law_234 : decode cL_law 234 = .ok (.iconst 1, 1) := by decide +kernel
theorem dL_law_235 : decode cL_law 235 = .ok (.iadd, 1) := by decide +kernel
theorem dL_law_236 : decode cL_law 236 = .ok (.iaload, 1) := by decide +kernel
theorem dL_law_237 : decode cL_law 237 = .ok (.aload_n 0, 1) := by decide +kernel
theorem dL_law_238 : decode cL_law 238 = .ok (.iload 4, 2) := by decide +kernel
theorem dL_law_240 : decode cL_law 240 = .ok (.iconst 2, 1) := by decide +kernel
theorem dL_law_241 : decode cL_law 241 = .ok (.iadd, 1) := by decide +kernel
theorem dL_law_242 : decode cL_law 242 = .ok (.iaload, 1) := by decide +kernel
theorem dL_law_243 : decode cL_law 243 = .ok (.aload_n 0, 1) := by decide +kernel
theorem dL_law_244 : decode cL_law 244 = .ok (.iload 4, 2) := by decide +kernel
theorem dL_law_246 : decode cL_law 246 = .ok (.iconst 3, 1) := by decide +kernel
theorem dL_law_247 : decode cL_law 247 = .ok (.iadd, 1) := by decide +kernel
theorem dL_law_248 : decode cL_law 248 = .ok (.iaload, 1) := by decide +kernel
theorem dL_law_249 : decode cL_law 249 = .ok (.aload_n 0, 1) := by decide +kernel
theorem dL_law_250 : decode cL_law 250 = .ok (.iload 4, 2) := by decide +kernel
theorem dL_law_252 : decode cL_law 252 = .ok (.iconst 4, 1) := by decide +kernel
theorem dL_law_253 : decode cL_law 253 = .ok (.iadd, 1) := by decide +kernel
theorem dL_law_254 : decode cL_law 254 = .ok (.iaload, 1) := by decide +kernel
theorem dL_law_255 : decode cL_law 255 = .ok (.invokevirtual 79, 3) := by decide +kernel
theorem dL_law_258 : decode cL_law 258 = .ok (.aload_n 2, 1) := by decide +kernel
theorem dL_law_259 : decode cL_law 259 = .ok (.invokevirtual 72, 3) := by decide +kernel
theorem dL_law_262 : decode cL_law 262 = .ok (.iload 5, 2) := by decide +kernel
theorem dL_law_264 : decode cL_law 264 = .ok (.if_icmp .eq 5, 3) := by decide +kernel
theorem dL_law_267 : decode cL_law 267 = .ok (.iconst 0, 1) := by decide +kernel
theorem dL_law_268 : decode cL_law 268 = .ok (.ireturn, 1) := by decide +kernel
theorem dL_law_269 : decode cL_law 269 = .ok (.goto 858, 3) := by decide +kernel
theorem dL_law_272 : decode cL_law 272 = .ok (.aload_n 1, 1) := by decide +kernel
theorem dL_law_273 : decode cL_law 273 = .ok (.aload_n 0, 1) := by decide +kernel
theorem dL_law_274 : decode cL_law 274 = .ok (.iload 4, 2) := by decide +kernel
theorem dL_law_276 : decode cL_law 276 = .ok (.iconst 1, 1) := by decide +kernel
theorem dL_law_277 : decode cL_law 277 = .ok (.iadd, 1) := by decide +kernel
theorem dL_law_278 : decode cL_law 278 = .ok (.iaload, 1) := by decide +kernel
theorem dL_law_279 : decode cL_law 279 = .ok (.aload_n 0, 1) := by decide +kernel
theorem dL_law_280 : decode cL_law 280 = .ok (.iload 4, 2) := by decide +kernel
theorem dL_law_282 : decode cL_law 282 = .ok (.iconst 2, 1) := by decide +kernel
theorem dL_law_283 : decode cL_law 283 = .ok (.iadd, 1) := by decide +kernel
theorem dL_law_284 : decode cL_law 284 = .ok (.iaload, 1) := by decide +kernel
theorem dL_law_285 : decode cL_law 285 = .ok (.aload_n 0, 1) := by decide +kernel
theorem dL_law_286 : decode cL_law 286 = .ok (.iload 4, 2) := by decide +kernel
theorem dL_law_288 : decode cL_law 288 = .ok (.iconst 3, 1) := by decide +kernel
theorem dL_law_289 : decode cL_law 289 = .ok (.iadd, 1) := by decide +kernel
theorem dL_law_290 : decode cL_law 290 = .ok (.iaload, 1) := by decide +kernel
theorem dL_law_291 : decode cL_law 291 = .ok (.aload_n 3, 1) := by decide +kernel
theorem dL_law_292 : decode cL_law 292 = .ok (.invokestatic 80, 3) := by decide +kernel
theorem dL_law_295 : decode cL_law 295 = .ok (.istore 5, 2) := by decide +kernel
theorem dL_law_297 : decode cL_law 297 = .ok (.aload_n 2, 1) := by decide +kernel
theorem dL_law_298 : decode cL_law 298 = .ok (.aload_n 0, 1) := by decide +kernel
theorem dL_law_299 : decode cL_law 299 = .ok (.iload 4, 2) := by decide +kernel
theorem dL_law_301 : decode cL_law 301 = .ok (.iconst 1, 1) := by decide +kernel
theorem dL_law_302 : decode cL_law 302 = .ok (.iadd, 1) := by decide +kernel
theorem dL_law_303 : decode cL_law 303 = .ok (.iaload, 1) := by decide +kernel
theorem dL_law_304 : decode cL_law 304 = .ok (.aload_n 0, 1) := by decide +kernel
theorem dL_law_305 : decode cL_law 305 = .ok (.iload 4, 2) := by decide +kernel
theorem dL_law_307 : decode cL_law 307 = .ok (.iconst 2, 1) := by decide +kernel
theorem dL_law_308 : decode cL_law 308 = .ok (.iadd, 1) := by decide +kernel
theorem dL_law_309 : decode cL_law 309 = .ok (.iaload, 1) := by decide +kernel
theorem dL_law_310 : decode cL_law 310 = .ok (.aload_n 0, 1) := by decide +kernel
theorem dL_law_311 : decode cL_law 311 = .ok (.iload 4, 2) := by decide +kernel
theorem dL_law_313 : decode cL_law 313 = .ok (.iconst 3, 1) := by decide +kernel
theorem dL_law_314 : decode cL_law 314 = .ok (.iadd, 1) := by decide +kernel
theorem dL_law_315 : decode cL_law 315 = .ok (.iaload, 1) := by decide +kernel
theorem dL_law_316 : decode cL_law 316 = .ok (.invokevirtual 83, 3) := by decide +kernel
theorem dL_law_319 : decode cL_law 319 = .ok (.istore 6, 2) := by decide +kernel
theorem dL_law_321 : decode cL_law 321 = .ok (.aload_n 2, 1) := by decide +kernel
theorem dL_law_322 : decode cL_law 322 = .ok (.invokevirtual 72, 3) := by decide +kernel
theorem dL_law_325 : decode cL_law 325 = .ok (.iload 5, 2) := by decide +kernel
theorem dL_law_327 : decode cL_law 327 = .ok (.if_icmp .eq 5, 3) := by decide +kernel
theorem dL_law_330 : decode cL_law 330 = .ok (.iconst 0, 1) := by decide +kernel
theorem dL_law_331 : decode cL_law 331 = .ok (.ireturn, 1) := by decide +kernel
theorem dL_law_332 : decode cL_law 332 = .ok (.iload 5, 2) := by decide +kernel
theorem dL_law_334 : decode cL_law 334 = .ok (.ifCond .ne 15, 3) := by decide +kernel
theorem dL_law_337 : decode cL_law 337 = .ok (.aload_n 3, 1) := by decide +kernel
theorem dL_law_338 : decode cL_law 338 = .ok (.iconst 0, 1) := by decide +kernel
theorem dL_law_339 : decode cL_law 339 = .ok (.laload, 1) := by decide +kernel
theorem dL_law_340 : decode cL_law 340 = .ok (.iload 6, 2) := by decide +kernel
theorem dL_law_342 : decode cL_law 342 = .ok (.i2l, 1) := by decide +kernel
theorem dL_law_343 : decode cL_law 343 = .ok (.lcmp, 1) := by decide +kernel
theorem dL_law_344 : decode cL_law 344 = .ok (.ifCond .eq 5, 3) := by decide +kernel
theorem dL_law_347 : decode cL_law 347 = .ok (.iconst 0, 1) := by decide +kernel
theorem dL_law_348 : decode cL_law 348 = .ok (.ireturn, 1) := by decide +kernel
theorem dL_law_349 : decode cL_law 349 = .ok (.goto 778, 3) := by decide +kernel
theorem dL_law_352 : decode cL_law 352 = .ok (.aload_n 1, 1) := by decide +kernel
theorem dL_law_353 : decode cL_law 353 = .ok (.aload_n 0, 1) := by decide +kernel
theorem dL_law_354 : decode cL_law 354 = .ok (.iload 4, 2) := by decide +kernel
theorem dL_law_356 : decode cL_law 356 = .ok (.iconst 1, 1) := by decide +kernel
theorem dL_law_357 : decode cL_law 357 = .ok (.iadd, 1) := by decide +kernel
theorem dL_law_358 : decode cL_law 358 = .ok (.iaload, 1) := by decide +kernel
theorem dL_law_359 : decode cL_law 359 = .ok (.aload_n 0, 1) := by decide +kernel
theorem dL_law_360 : decode cL_law 360 = .ok (.iload 4, 2) := by decide +kernel
theorem dL_law_362 : decode cL_law 362 = .ok (.iconst 2, 1) := by decide +kernel
theorem dL_law_363 : decode cL_law 363 = .ok (.iadd, 1) := by decide +kernel
theorem dL_law_364 : decode cL_law 364 = .ok (.iaload, 1) := by decide +kernel
theorem dL_law_365 : decode cL_law 365 = .ok (.aload_n 0, 1) := by decide +kernel
theorem dL_law_366 : decode cL_law 366 = .ok (.iload 4, 2) := by decide +kernel
theorem dL_law_368 : decode cL_law 368 = .ok (.iconst 3, 1) := by decide +kernel
theorem dL_law_369 : decode cL_law 369 = .ok (.iadd, 1) := by decide +kernel
theorem dL_law_370 : decode cL_law 370 = .ok (.iaload, 1) := by decide +kernel
theorem dL_law_371 : decode cL_law 371 = .ok (.invokestatic 84, 3) := by decide +kernel
theorem dL_law_374 : decode cL_law 374 = .ok (.istore 5, 2) := by decide +kernel
theorem dL_law_376 : decode cL_law 376 = .ok (.aload_n 2, 1) := by decide +kernel
theorem dL_law_377 : decode cL_law 377 = .ok (.aload_n 0, 1) := by decide +kernel
theorem dL_law_378 : decode cL_law 378 = .ok (.iload 4, 2) := by decide +kernel
theorem dL_law_380 : decode cL_law 380 = .ok (.iconst 1, 1) := by decide +kernel
theorem dL_law_381 : decode cL_law 381 = .ok (.iadd, 1) := by decide +kernel
theorem dL_law_382 : decode cL_law 382 = .ok (.iaload, 1) := by decide +kernel
theorem dL_law_383 : decode cL_law 383 = .ok (.aload_n 0, 1) := by decide +kernel
theorem dL_law_384 : decode cL_law 384 = .ok (.iload 4, 2) := by decide +kernel
theorem dL_law_386 : decode cL_law 386 = .ok (.iconst 2, 1) := by decide +kernel
theorem dL_law_387 : decode cL_law 387 = .ok (.iadd, 1) := by decide +kernel
theorem dL_law_388 : decode cL_law 388 = .ok (.iaload, 1) := by decide +kernel
theorem dL_law_389 : decode cL_law 389 = .ok (.aload_n 0, 1) := by decide +kernel
theorem dL_law_390 : decode cL_law 390 = .ok (.iload 4, 2) := by decide +kernel
theorem dL_law_392 : decode cL_law 392 = .ok (.iconst 3, 1) := by decide +kernel
theorem dL_law_393 : decode cL_law 393 = .ok (.iadd, 1) := by decide +kernel
theorem dL_law_394 : decode cL_law 394 = .ok (.iaload, 1) := by decide +kernel
theorem dL_law_395 : decode cL_law 395 = .ok (.invokevirtual 87, 3) := by decide +kernel
theorem dL_law_398 : decode cL_law 398 = .ok (.aload_n 2, 1) := by decide +kernel
theorem dL_law_399 : decode cL_law 399 = .ok (.invokevirtual 72, 3) := by decide +kernel
theorem dL_law_402 : decode cL_law 402 = .ok (.iload 5, 2) := by decide +kernel
theorem dL_law_404 : decode cL_law 404 = .ok (.if_icmp .eq 5, 3) := by decide +kernel
theorem dL_law_407 : decode cL_law 407 = .ok (.iconst 0, 1) := by decide +kernel
theorem dL_law_408 : decode cL_law 408 = .ok (.ireturn, 1) := by decide +kernel
theorem dL_law_409 : decode cL_law 409 = .ok (.goto 718, 3) := by decide +kernel
theorem dL_law_412 : decode cL_law 412 = .ok (.aload_n 1, 1) := by decide +kernel
theorem dL_law_413 : decode cL_law 413 = .ok (.aload_n 0, 1) := by decide +kernel
theorem dL_law_414 : decode cL_law 414 = .ok (.iload 4, 2) := by decide +kernel
theorem dL_law_416 : decode cL_law 416 = .ok (.iconst 1, 1) := by decide +kernel
theorem dL_law_417 : decode cL_law 417 = .ok (.iadd, 1) := by decide +kernel
theorem dL_law_418 : decode cL_law 418 = .ok (.iaload, 1) := by decide +kernel
theorem dL_law_419 : decode cL_law 419 = .ok (.aload_n 0, 1) := by decide +kernel
theorem dL_law_420 : decode cL_law 420 = .ok (.iload 4, 2) := by decide +kernel
theorem dL_law_422 : decode cL_law 422 = .ok (.iconst 2, 1) := by decide +kernel
theorem dL_law_423 : decode cL_law 423 = .ok (.iadd, 1) := by decide +kernel
theorem dL_law_424 : decode cL_law 424 = .ok (.iaload, 1) := by decide +kernel
theorem dL_law_425 : decode cL_law 425 = .ok (.aload_n 3, 1) := by decide +kernel
theorem dL_law_426 : decode cL_law 426 = .ok (.invokestatic 88, 3) := by decide +kernel
theorem dL_law_429 : decode cL_law 429 = .ok (.istore 5, 2) := by decide +kernel
theorem dL_law_431 : decode cL_law 431 = .ok (.aload_n 2, 1) := by decide +kernel
theorem dL_law_432 : decode cL_law 432 = .ok (.aload_n 0, 1) := by decide +kernel
theorem dL_law_433 : decode cL_law 433 = .ok (.iload 4, 2) := by decide +kernel
theorem dL_law_435 : decode cL_law 435 = .ok (.iconst 1, 1) := by decide +kernel
theorem dL_law_436 : decode cL_law 436 = .ok (.iadd, 1) := by decide +kernel
theorem dL_law_437 : decode cL_law 437 = .ok (.iaload, 1) := by decide +kernel
theorem dL_law_438 : decode cL_law 438 = .ok (.aload_n 0, 1) := by decide +kernel
theorem dL_law_439 : decode cL_law 439 = .ok (.iload 4, 2) := by decide +kernel
theorem dL_law_441 : decode cL_law 441 = .ok (.iconst 2, 1) := by decide +kernel
theorem dL_law_442 : decode cL_law 442 = .ok (.iadd, 1) := by decide +kernel
theorem dL_law_443 : decode cL_law 443 = .ok (.iaload, 1) := by decide +kernel
theorem dL_law_444 : decode cL_law 444 = .ok (.invokevirtual 91, 3) := by decide +kernel
theorem dL_law_447 : decode cL_law 447 = .ok (.istore 6, 2) := by decide +kernel
theorem dL_law_449 : decode cL_law 449 = .ok (.aload_n 2, 1) := by decide +kernel
theorem dL_law_450 : decode cL_law 450 = .ok (.invokevirtual 72, 3) := by decide +kernel
theorem dL_law_453 : decode cL_law 453 = .ok (.iload 5, 2) := by decide +kernel
theorem dL_law_455 : decode cL_law 455 = .ok (.if_icmp .eq 5, 3) := by decide +kernel
theorem dL_law_458 : decode cL_law 458 = .ok (.iconst 0, 1) := by decide +kernel
theorem dL_law_459 : decode cL_law 459 = .ok (.ireturn, 1) := by decide +kernel
theorem dL_law_460 : decode cL_law 460 = .ok (.iload 5, 2) := by decide +kernel
theorem dL_law_462 : decode cL_law 462 = .ok (.ifCond .ne 15, 3) := by decide +kernel
theorem dL_law_465 : decode cL_law 465 = .ok (.aload_n 3, 1) := by decide +kernel
theorem dL_law_466 : decode cL_law 466 = .ok (.iconst 0, 1) := by decide +kernel
theorem dL_law_467 : decode cL_law 467 = .ok (.laload, 1) := by decide +kernel
theorem dL_law_468 : decode cL_law 468 = .ok (.iload 6, 2) := by decide +kernel
theorem dL_law_470 : decode cL_law 470 = .ok (.i2l, 1) := by decide +kernel
theorem dL_law_471 : decode cL_law 471 = .ok (.lcmp, 1) := by decide +kernel
theorem dL_law_472 : decode cL_law 472 = .ok (.ifCond .eq 5, 3) := by decide +kernel
theorem dL_law_475 : decode cL_law 475 = .ok (.iconst 0, 1) := by decide +kernel
theorem dL_law_476 : decode cL_law 476 = .ok (.ireturn, 1) := by decide +kernel
theorem dL_law_477 : decode cL_law 477 = .ok (.goto 650, 3) := by decide +kernel
theorem dL_law_480 : decode cL_law 480 = .ok (.aload_n 1, 1) := by decide +kernel
theorem dL_law_481 : decode cL_law 481 = .ok (.aload_n 0, 1) := by decide +kernel
theorem dL_law_482 : decode cL_law 482 = .ok (.iload 4, 2) := by decide +kernel
theorem dL_law_484 : decode cL_law 484 = .ok (.iconst 1, 1) := by decide +kernel
theorem dL_law_485 : decode cL_law 485 = .ok (.iadd, 1) := by decide +kernel
theorem dL_law_486 : decode cL_law 486 = .ok (.iaload, 1) := by decide +kernel
theorem dL_law_487 : decode cL_law 487 = .ok (.aload_n 0, 1) := by decide +kernel
theorem dL_law_488 : decode cL_law 488 = .ok (.iload 4, 2) := by decide +kernel
theorem dL_law_490 : decode cL_law 490 = .ok (.iconst 2, 1) := by decide +kernel
theorem dL_law_491 : decode cL_law 491 = .ok (.iadd, 1) := by decide +kernel
theorem dL_law_492 : decode cL_law 492 = .ok (.iaload, 1) := by decide +kernel
theorem dL_law_493 : decode cL_law 493 = .ok (.aload_n 0, 1) := by decide +kernel
theorem dL_law_494 : decode cL_law 494 = .ok (.iload 4, 2) := by decide +kernel
theorem dL_law_496 : decode cL_law 496 = .ok (.iconst 3, 1) := by decide +kernel
theorem dL_law_497 : decode cL_law 497 = .ok (.iadd, 1) := by decide +kernel
theorem dL_law_498 : decode cL_law 498 = .ok (.iaload, 1) := by decide +kernel
theorem dL_law_499 : decode cL_law 499 = .ok (.aload_n 0, 1) := by decide +kernel
theorem dL_law_500 : decode cL_law 500 = .ok (.iload 4, 2) := by decide +kernel
theorem dL_law_502 : decode cL_law 502 = .ok (.iconst 4, 1) := by decide +kernel
theorem dL_law_503 : decode cL_law 503 = .ok (.iadd, 1) := by decide +kernel
theorem dL_law_504 : decode cL_law 504 = .ok (.iaload, 1) := by decide +kernel
theorem dL_law_505 : decode cL_law 505 = .ok (.aload_n 3, 1) := by decide +kernel
theorem dL_law_506 : decode cL_law 506 = .ok (.invokestatic 92, 3) := by decide +kernel
theorem dL_law_509 : decode cL_law 509 = .ok (.istore 5, 2) := by decide +kernel
theorem dL_law_511 : decode cL_law 511 = .ok (.aload_n 2, 1) := by decide +kernel
theorem dL_law_512 : decode cL_law 512 = .ok (.aload_n 0, 1) := by decide +kernel
theorem dL_law_513 : decode cL_law 513 = .ok (.iload 4, 2) := by decide +kernel
theorem dL_law_515 : decode cL_law 515 = .ok (.iconst 1, 1) := by decide +kernel
theorem dL_law_516 : decode cL_law 516 = .ok (.iadd, 1) := by decide +kernel
theorem dL_law_517 : decode cL_law 517 = .ok (.iaload, 1) := by decide +kernel
theorem dL_law_518 : decode cL_law 518 = .ok (.aload_n 0, 1) := by decide +kernel
theorem dL_law_519 : decode cL_law 519 = .ok (.iload 4, 2) := by decide +kernel
theorem dL_law_521 : decode cL_law 521 = .ok (.iconst 2, 1) := by decide +kernel
theorem dL_law_522 : decode cL_law 522 = .ok (.iadd, 1) := by decide +kernel
theorem dL_law_523 : decode cL_law 523 = .ok (.iaload, 1) := by decide +kernel
theorem dL_law_524 : decode cL_law 524 = .ok (.aload_n 0, 1) := by decide +kernel
theorem dL_law_525 : decode cL_law 525 = .ok (.iload 4, 2) := by decide +kernel
theorem dL_law_527 : decode cL_law 527 = .ok (.iconst 3, 1) := by decide +kernel
theorem dL_law_528 : decode cL_law 528 = .ok (.iadd, 1) := by decide +kernel
theorem dL_law_529 : decode cL_law 529 = .ok (.iaload, 1) := by decide +kernel
theorem dL_law_530 : decode cL_law 530 = .ok (.aload_n 0, 1) := by decide +kernel
theorem dL_law_531 : decode cL_law 531 = .ok (.iload 4, 2) := by decide +kernel
theorem dL_law_533 : decode cL_law 533 = .ok (.iconst 4, 1) := by decide +kernel
theorem dL_law_534 : decode cL_law 534 = .ok (.iadd, 1) := by decide +kernel
theorem dL_law_535 : decode cL_law 535 = .ok (.iaload, 1) := by decide +kernel
theorem dL_law_536 : decode cL_law 536 = .ok (.invokevirtual 94, 3) := by decide +kernel
theorem dL_law_539 : decode cL_law 539 = .ok (.istore 6, 2) := by decide +kernel
theorem dL_law_541 : decode cL_law 541 = .ok (.aload_n 2, 1) := by decide +kernel
theorem dL_law_542 : decode cL_law 542 = .ok (.invokevirtual 72, 3) := by decide +kernel
theorem dL_law_545 : decode cL_law 545 = .ok (.iload 5, 2) := by decide +kernel
theorem dL_law_547 : decode cL_law 547 = .ok (.if_icmp .eq 5, 3) := by decide +kernel
theorem dL_law_550 : decode cL_law 550 = .ok (.iconst 0, 1) := by decide +kernel
theorem dL_law_551 : decode cL_law 551 = .ok (.ireturn, 1) := by decide +kernel
theorem dL_law_552 : decode cL_law 552 = .ok (.iload 5, 2) := by decide +kernel
theorem dL_law_554 : decode cL_law 554 = .ok (.ifCond .ne 15, 3) := by decide +kernel
theorem dL_law_557 : decode cL_law 557 = .ok (.aload_n 3, 1) := by decide +kernel
theorem dL_law_558 : decode cL_law 558 = .ok (.iconst 0, 1) := by decide +kernel
theorem dL_law_559 : decode cL_law 559 = .ok (.laload, 1) := by decide +kernel
theorem dL_law_560 : decode cL_law 560 = .ok (.iload 6, 2) := by decide +kernel
theorem dL_law_562 : decode cL_law 562 = .ok (.i2l, 1) := by decide +kernel
theorem dL_law_563 : decode cL_law 563 = .ok (.lcmp, 1) := by decide +kernel
theorem dL_law_564 : decode cL_law 564 = .ok (.ifCond .eq 5, 3) := by decide +kernel
theorem dL_law_567 : decode cL_law 567 = .ok (.iconst 0, 1) := by decide +kernel
theorem dL_law_568 : decode cL_law 568 = .ok (.ireturn, 1) := by decide +kernel
theorem dL_law_569 : decode cL_law 569 = .ok (.goto 558, 3) := by decide +kernel
theorem dL_law_572 : decode cL_law 572 = .ok (.aload_n 1, 1) := by decide +kernel
theorem dL_law_573 : decode cL_law 573 = .ok (.aload_n 0, 1) := by decide +kernel
theorem dL_law_574 : decode cL_law 574 = .ok (.iload 4, 2) := by decide +kernel
theorem dL_law_576 : decode cL_law 576 = .ok (.iconst 1, 1) := by decide +kernel
theorem dL_law_577 : decode cL_law 577 = .ok (.iadd, 1) := by decide +kernel
theorem dL_law_578 : decode cL_law 578 = .ok (.iaload, 1) := by decide +kernel
theorem dL_law_579 : decode cL_law 579 = .ok (.aload_n 0, 1) := by decide +kernel
theorem dL_law_580 : decode cL_law 580 = .ok (.iload 4, 2) := by decide +kernel
theorem dL_law_582 : decode cL_law 582 = .ok (.iconst 2, 1) := by decide +kernel
theorem dL_law_583 : decode cL_law 583 = .ok (.iadd, 1) := by decide +kernel
theorem dL_law_584 : decode cL_law 584 = .ok (.iaload, 1) := by decide +kernel
theorem dL_law_585 : decode cL_law 585 = .ok (.aload_n 3, 1) := by decide +kernel
theorem dL_law_586 : decode cL_law 586 = .ok (.invokestatic 95, 3) := by decide +kernel
theorem dL_law_589 : decode cL_law 589 = .ok (.istore 5, 2) := by decide +kernel
theorem dL_law_591 : decode cL_law 591 = .ok (.aload_n 2, 1) := by decide +kernel
theorem dL_law_592 : decode cL_law 592 = .ok (.aload_n 0, 1) := by decide +kernel
theorem dL_law_593 : decode cL_law 593 = .ok (.iload 4, 2) := by decide +kernel
theorem dL_law_595 : decode cL_law 595 = .ok (.iconst 1, 1) := by decide +kernel
theorem dL_law_596 : decode cL_law 596 = .ok (.iadd, 1) := by decide +kernel
theorem dL_law_597 : decode cL_law 597 = .ok (.iaload, 1) := by decide +kernel
theorem dL_law_598 : decode cL_law 598 = .ok (.aload_n 0, 1) := by decide +kernel
theorem dL_law_599 : decode cL_law 599 = .ok (.iload 4, 2) := by decide +kernel
theorem dL_law_601 : decode cL_law 601 = .ok (.iconst 2, 1) := by decide +kernel
theorem dL_law_602 : decode cL_law 602 = .ok (.iadd, 1) := by decide +kernel
theorem dL_law_603 : decode cL_law 603 = .ok (.iaload, 1) := by decide +kernel
theorem dL_law_604 : decode cL_law 604 = .ok (.invokevirtual 97, 3) := by decide +kernel
theorem dL_law_607 : decode cL_law 607 = .ok (.istore 6, 2) := by decide +kernel
theorem dL_law_609 : decode cL_law 609 = .ok (.aload_n 2, 1) := by decide +kernel
theorem dL_law_610 : decode cL_law 610 = .ok (.invokevirtual 72, 3) := by decide +kernel
theorem dL_law_613 : decode cL_law 613 = .ok (.iload 5, 2) := by decide +kernel
theorem dL_law_615 : decode cL_law 615 = .ok (.if_icmp .eq 5, 3) := by decide +kernel
theorem dL_law_618 : decode cL_law 618 = .ok (.iconst 0, 1) := by decide +kernel
theorem dL_law_619 : decode cL_law 619 = .ok (.ireturn, 1) := by decide +kernel
theorem dL_law_620 : decode cL_law 620 = .ok (.iload 5, 2) := by decide +kernel
theorem dL_law_622 : decode cL_law 622 = .ok (.ifCond .ne 15, 3) := by decide +kernel
theorem dL_law_625 : decode cL_law 625 = .ok (.aload_n 3, 1) := by decide +kernel
theorem dL_law_626 : decode cL_law 626 = .ok (.iconst 0, 1) := by decide +kernel
theorem dL_law_627 : decode cL_law 627 = .ok (.laload, 1) := by decide +kernel
theorem dL_law_628 : decode cL_law 628 = .ok (.iload 6, 2) := by decide +kernel
theorem dL_law_630 : decode cL_law 630 = .ok (.i2l, 1) := by decide +kernel
theorem dL_law_631 : decode cL_law 631 = .ok (.lcmp, 1) := by decide +kernel
theorem dL_law_632 : decode cL_law 632 = .ok (.ifCond .eq 5, 3) := by decide +kernel
theorem dL_law_635 : decode cL_law 635 = .ok (.iconst 0, 1) := by decide +kernel
theorem dL_law_636 : decode cL_law 636 = .ok (.ireturn, 1) := by decide +kernel
theorem dL_law_637 : decode cL_law 637 = .ok (.goto 490, 3) := by decide +kernel
theorem dL_law_640 : decode cL_law 640 = .ok (.aload_n 1, 1) := by decide +kernel
theorem dL_law_641 : decode cL_law 641 = .ok (.aload_n 0, 1) := by decide +kernel
theorem dL_law_642 : decode cL_law 642 = .ok (.iload 4, 2) := by decide +kernel
theorem dL_law_644 : decode cL_law 644 = .ok (.iconst 1, 1) := by decide +kernel
theorem dL_law_645 : decode cL_law 645 = .ok (.iadd, 1) := by decide +kernel
theorem dL_law_646 : decode cL_law 646 = .ok (.iaload, 1) := by decide +kernel
theorem dL_law_647 : decode cL_law 647 = .ok (.aload_n 3, 1) := by decide +kernel
theorem dL_law_648 : decode cL_law 648 = .ok (.invokestatic 98, 3) := by decide +kernel
theorem dL_law_651 : decode cL_law 651 = .ok (.istore 5, 2) := by decide +kernel
theorem dL_law_653 : decode cL_law 653 = .ok (.aload_n 2, 1) := by decide +kernel
theorem dL_law_654 : decode cL_law 654 = .ok (.aload_n 0, 1) := by decide +kernel
theorem dL_law_655 : decode cL_law 655 = .ok (.iload 4, 2) := by decide +kernel
theorem dL_law_657 : decode cL_law 657 = .ok (.iconst 1, 1) := by decide +kernel
theorem dL_law_658 : decode cL_law 658 = .ok (.iadd, 1) := by decide +kernel
theorem dL_law_659 : decode cL_law 659 = .ok (.iaload, 1) := by decide +kernel
theorem dL_law_660 : decode cL_law 660 = .ok (.invokevirtual 101, 3) := by decide +kernel
theorem dL_law_663 : decode cL_law 663 = .ok (.istore 6, 2) := by decide +kernel
theorem dL_law_665 : decode cL_law 665 = .ok (.aload_n 2, 1) := by decide +kernel
theorem dL_law_666 : decode cL_law 666 = .ok (.invokevirtual 72, 3) := by decide +kernel
theorem dL_law_669 : decode cL_law 669 = .ok (.iload 5, 2) := by decide +kernel
theorem dL_law_671 : decode cL_law 671 = .ok (.if_icmp .eq 5, 3) := by decide +kernel
theorem dL_law_674 : decode cL_law 674 = .ok (.iconst 0, 1) := by decide +kernel
theorem dL_law_675 : decode cL_law 675 = .ok (.ireturn, 1) := by decide +kernel
theorem dL_law_676 : decode cL_law 676 = .ok (.iload 5, 2) := by decide +kernel
theorem dL_law_678 : decode cL_law 678 = .ok (.ifCond .ne 15, 3) := by decide +kernel
theorem dL_law_681 : decode cL_law 681 = .ok (.aload_n 3, 1) := by decide +kernel
theorem dL_law_682 : decode cL_law 682 = .ok (.iconst 0, 1) := by decide +kernel
theorem dL_law_683 : decode cL_law 683 = .ok (.laload, 1) := by decide +kernel
theorem dL_law_684 : decode cL_law 684 = .ok (.iload 6, 2) := by decide +kernel
theorem dL_law_686 : decode cL_law 686 = .ok (.i2l, 1) := by decide +kernel
theorem dL_law_687 : decode cL_law 687 = .ok (.lcmp, 1) := by decide +kernel
theorem dL_law_688 : decode cL_law 688 = .ok (.ifCond .eq 5, 3) := by decide +kernel
theorem dL_law_691 : decode cL_law 691 = .ok (.iconst 0, 1) := by decide +kernel
theorem dL_law_692 : decode cL_law 692 = .ok (.ireturn, 1) := by decide +kernel
theorem dL_law_693 : decode cL_law 693 = .ok (.goto 434, 3) := by decide +kernel
theorem dL_law_696 : decode cL_law 696 = .ok (.aload_n 1, 1) := by decide +kernel
theorem dL_law_697 : decode cL_law 697 = .ok (.aload_n 0, 1) := by decide +kernel
theorem dL_law_698 : decode cL_law 698 = .ok (.iload 4, 2) := by decide +kernel
theorem dL_law_700 : decode cL_law 700 = .ok (.iconst 1, 1) := by decide +kernel
theorem dL_law_701 : decode cL_law 701 = .ok (.iadd, 1) := by decide +kernel
theorem dL_law_702 : decode cL_law 702 = .ok (.iaload, 1) := by decide +kernel
theorem dL_law_703 : decode cL_law 703 = .ok (.aload_n 0, 1) := by decide +kernel
theorem dL_law_704 : decode cL_law 704 = .ok (.iload 4, 2) := by decide +kernel
theorem dL_law_706 : decode cL_law 706 = .ok (.iconst 2, 1) := by decide +kernel
theorem dL_law_707 : decode cL_law 707 = .ok (.iadd, 1) := by decide +kernel
theorem dL_law_708 : decode cL_law 708 = .ok (.iaload, 1) := by decide +kernel
theorem dL_law_709 : decode cL_law 709 = .ok (.aload_n 3, 1) := by decide +kernel
theorem dL_law_710 : decode cL_law 710 = .ok (.invokestatic 102, 3) := by decide +kernel
theorem dL_law_713 : decode cL_law 713 = .ok (.istore 5, 2) := by decide +kernel
theorem dL_law_715 : decode cL_law 715 = .ok (.aload_n 2, 1) := by decide +kernel
theorem dL_law_716 : decode cL_law 716 = .ok (.aload_n 0, 1) := by decide +kernel
theorem dL_law_717 : decode cL_law 717 = .ok (.iload 4, 2) := by decide +kernel
theorem dL_law_719 : decode cL_law 719 = .ok (.iconst 1, 1) := by decide +kernel
theorem dL_law_720 : decode cL_law 720 = .ok (.iadd, 1) := by decide +kernel
theorem dL_law_721 : decode cL_law 721 = .ok (.iaload, 1) := by decide +kernel
theorem dL_law_722 : decode cL_law 722 = .ok (.aload_n 0, 1) := by decide +kernel
theorem dL_law_723 : decode cL_law 723 = .ok (.iload 4, 2) := by decide +kernel
theorem dL_law_725 : decode cL_law 725 = .ok (.iconst 2, 1) := by decide +kernel
theorem dL_law_726 : decode cL_law 726 = .ok (.iadd, 1) := by decide +kernel
theorem dL_law_727 : decode cL_law 727 = .ok (.iaload, 1) := by decide +kernel
theorem dL_law_728 : decode cL_law 728 = .ok (.invokevirtual 104, 3) := by decide +kernel
theorem dL_law_731 : decode cL_law 731 = .ok (.istore 6, 2) := by decide +kernel
theorem dL_law_733 : decode cL_law 733 = .ok (.aload_n 2, 1) := by decide +kernel
theorem dL_law_734 : decode cL_law 734 = .ok (.invokevirtual 72, 3) := by decide +kernel
theorem dL_law_737 : decode cL_law 737 = .ok (.iload 5, 2) := by decide +kernel
theorem dL_law_739 : decode cL_law 739 = .ok (.if_icmp .eq 5, 3) := by decide +kernel
theorem dL_law_742 : decode cL_law 742 = .ok (.iconst 0, 1) := by decide +kernel
theorem dL_law_743 : decode cL_law 743 = .ok (.ireturn, 1) := by decide +kernel
theorem dL_law_744 : decode cL_law 744 = .ok (.iload 5, 2) := by decide +kernel
theorem dL_law_746 : decode cL_law 746 = .ok (.ifCond .ne 15, 3) := by decide +kernel
theorem dL_law_749 : decode cL_law 749 = .ok (.aload_n 3, 1) := by decide +kernel
theorem dL_law_750 : decode cL_law 750 = .ok (.iconst 0, 1) := by decide +kernel
theorem dL_law_751 : decode cL_law 751 = .ok (.laload, 1) := by decide +kernel
theorem dL_law_752 : decode cL_law 752 = .ok (.iload 6, 2) := by decide +kernel
theorem dL_law_754 : decode cL_law 754 = .ok (.i2l, 1) := by decide +kernel
theorem dL_law_755 : decode cL_law 755 = .ok (.lcmp, 1) := by decide +kernel
theorem dL_law_756 : decode cL_law 756 = .ok (.ifCond .eq 5, 3) := by decide +kernel
theorem dL_law_759 : decode cL_law 759 = .ok (.iconst 0, 1) := by decide +kernel
theorem dL_law_760 : decode cL_law 760 = .ok (.ireturn, 1) := by decide +kernel
theorem dL_law_761 : decode cL_law 761 = .ok (.goto 366, 3) := by decide +kernel
theorem dL_law_764 : decode cL_law 764 = .ok (.aload_n 1, 1) := by decide +kernel
theorem dL_law_765 : decode cL_law 765 = .ok (.aload_n 0, 1) := by decide +kernel
theorem dL_law_766 : decode cL_law 766 = .ok (.iload 4, 2) := by decide +kernel
theorem dL_law_768 : decode cL_law 768 = .ok (.iconst 1, 1) := by decide +kernel
theorem dL_law_769 : decode cL_law 769 = .ok (.iadd, 1) := by decide +kernel
theorem dL_law_770 : decode cL_law 770 = .ok (.iaload, 1) := by decide +kernel
theorem dL_law_771 : decode cL_law 771 = .ok (.aload_n 0, 1) := by decide +kernel
theorem dL_law_772 : decode cL_law 772 = .ok (.iload 4, 2) := by decide +kernel
theorem dL_law_774 : decode cL_law 774 = .ok (.iconst 2, 1) := by decide +kernel
theorem dL_law_775 : decode cL_law 775 = .ok (.iadd, 1) := by decide +kernel
theorem dL_law_776 : decode cL_law 776 = .ok (.iaload, 1) := by decide +kernel
theorem dL_law_777 : decode cL_law 777 = .ok (.ifCond .eq 7, 3) := by decide +kernel
theorem dL_law_780 : decode cL_law 780 = .ok (.iconst 1, 1) := by decide +kernel
theorem dL_law_781 : decode cL_law 781 = .ok (.goto 4, 3) := by decide +kernel
theorem dL_law_784 : decode cL_law 784 = .ok (.iconst 0, 1) := by decide +kernel
theorem dL_law_785 : decode cL_law 785 = .ok (.aload_n 3, 1) := by decide +kernel
theorem dL_law_786 : decode cL_law 786 = .ok (.invokestatic 105, 3) := by decide +kernel
theorem dL_law_789 : decode cL_law 789 = .ok (.istore 5, 2) := by decide +kernel
theorem dL_law_791 : decode cL_law 791 = .ok (.aload_n 2, 1) := by decide +kernel
theorem dL_law_792 : decode cL_law 792 = .ok (.aload_n 0, 1) := by decide +kernel
theorem dL_law_793 : decode cL_law 793 = .ok (.iload 4, 2) := by decide +kernel
theorem dL_law_795 : decode cL_law 795 = .ok (.iconst 1, 1) := by decide +kernel
theorem dL_law_796 : decode cL_law 796 = .ok (.iadd, 1) := by decide +kernel
theorem dL_law_797 : decode cL_law 797 = .ok (.iaload, 1) := by decide +kernel
theorem dL_law_798 : decode cL_law 798 = .ok (.aload_n 0, 1) := by decide +kernel
theorem dL_law_799 : decode cL_law 799 = .ok (.iload 4, 2) := by decide +kernel
theorem dL_law_801 : decode cL_law 801 = .ok (.iconst 2, 1) := by decide +kernel
theorem dL_law_802 : decode cL_law 802 = .ok (.iadd, 1) := by decide +kernel
theorem dL_law_803 : decode cL_law 803 = .ok (.iaload, 1) := by decide +kernel
theorem dL_law_804 : decode cL_law 804 = .ok (.ifCond .eq 7, 3) := by decide +kernel
theorem dL_law_807 : decode cL_law 807 = .ok (.iconst 1, 1) := by decide +kernel
theorem dL_law_808 : decode cL_law 808 = .ok (.goto 4, 3) := by decide +kernel
theorem dL_law_811 : decode cL_law 811 = .ok (.iconst 0, 1) := by decide +kernel
theorem dL_law_812 : decode cL_law 812 = .ok (.invokevirtual 108, 3) := by decide +kernel
theorem dL_law_815 : decode cL_law 815 = .ok (.istore 6, 2) := by decide +kernel
theorem dL_law_817 : decode cL_law 817 = .ok (.aload_n 2, 1) := by decide +kernel
theorem dL_law_818 : decode cL_law 818 = .ok (.invokevirtual 72, 3) := by decide +kernel
theorem dL_law_821 : decode cL_law 821 = .ok (.iload 5, 2) := by decide +kernel
theorem dL_law_823 : decode cL_law 823 = .ok (.if_icmp .eq 5, 3) := by decide +kernel
theorem dL_law_826 : decode cL_law 826 = .ok (.iconst 0, 1) := by decide +kernel
theorem dL_law_827 : decode cL_law 827 = .ok (.ireturn, 1) := by decide +kernel
theorem dL_law_828 : decode cL_law 828 = .ok (.iload 5, 2) := by decide +kernel
theorem dL_law_830 : decode cL_law 830 = .ok (.ifCond .ne 22, 3) := by decide +kernel
theorem dL_law_833 : decode cL_law 833 = .ok (.aload_n 3, 1) := by decide +kernel
theorem dL_law_834 : decode cL_law 834 = .ok (.iconst 0, 1) := by decide +kernel
theorem dL_law_835 : decode cL_law 835 = .ok (.laload, 1) := by decide +kernel
theorem dL_law_836 : decode cL_law 836 = .ok (.iload 6, 2) := by decide +kernel
theorem dL_law_838 : decode cL_law 838 = .ok (.ifCond .eq 7, 3) := by decide +kernel
theorem dL_law_841 : decode cL_law 841 = .ok (.lconst 1, 1) := by decide +kernel
theorem dL_law_842 : decode cL_law 842 = .ok (.goto 4, 3) := by decide +kernel
theorem dL_law_845 : decode cL_law 845 = .ok (.lconst 0, 1) := by decide +kernel
theorem dL_law_846 : decode cL_law 846 = .ok (.lcmp, 1) := by decide +kernel
theorem dL_law_847 : decode cL_law 847 = .ok (.ifCond .eq 5, 3) := by decide +kernel
theorem dL_law_850 : decode cL_law 850 = .ok (.iconst 0, 1) := by decide +kernel
theorem dL_law_851 : decode cL_law 851 = .ok (.ireturn, 1) := by decide +kernel
theorem dL_law_852 : decode cL_law 852 = .ok (.goto 275, 3) := by decide +kernel
theorem dL_law_855 : decode cL_law 855 = .ok (.aload_n 1, 1) := by decide +kernel
theorem dL_law_856 : decode cL_law 856 = .ok (.aload_n 0, 1) := by decide +kernel
theorem dL_law_857 : decode cL_law 857 = .ok (.iload 4, 2) := by decide +kernel
theorem dL_law_859 : decode cL_law 859 = .ok (.iconst 1, 1) := by decide +kernel
theorem dL_law_860 : decode cL_law 860 = .ok (.iadd, 1) := by decide +kernel
theorem dL_law_861 : decode cL_law 861 = .ok (.iaload, 1) := by decide +kernel
theorem dL_law_862 : decode cL_law 862 = .ok (.aload_n 3, 1) := by decide +kernel
theorem dL_law_863 : decode cL_law 863 = .ok (.invokestatic 109, 3) := by decide +kernel
theorem dL_law_866 : decode cL_law 866 = .ok (.istore 5, 2) := by decide +kernel
theorem dL_law_868 : decode cL_law 868 = .ok (.aload_n 2, 1) := by decide +kernel
theorem dL_law_869 : decode cL_law 869 = .ok (.aload_n 0, 1) := by decide +kernel
theorem dL_law_870 : decode cL_law 870 = .ok (.iload 4, 2) := by decide +kernel
theorem dL_law_872 : decode cL_law 872 = .ok (.iconst 1, 1) := by decide +kernel
theorem dL_law_873 : decode cL_law 873 = .ok (.iadd, 1) := by decide +kernel
theorem dL_law_874 : decode cL_law 874 = .ok (.iaload, 1) := by decide +kernel
theorem dL_law_875 : decode cL_law 875 = .ok (.invokevirtual 111, 3) := by decide +kernel
theorem dL_law_878 : decode cL_law 878 = .ok (.istore 6, 2) := by decide +kernel
theorem dL_law_880 : decode cL_law 880 = .ok (.aload_n 2, 1) := by decide +kernel
theorem dL_law_881 : decode cL_law 881 = .ok (.invokevirtual 72, 3) := by decide +kernel
theorem dL_law_884 : decode cL_law 884 = .ok (.iload 5, 2) := by decide +kernel
theorem dL_law_886 : decode cL_law 886 = .ok (.if_icmp .eq 5, 3) := by decide +kernel
theorem dL_law_889 : decode cL_law 889 = .ok (.iconst 0, 1) := by decide +kernel
theorem dL_law_890 : decode cL_law 890 = .ok (.ireturn, 1) := by decide +kernel
theorem dL_law_891 : decode cL_law 891 = .ok (.iload 5, 2) := by decide +kernel
theorem dL_law_893 : decode cL_law 893 = .ok (.ifCond .ne 15, 3) := by decide +kernel
theorem dL_law_896 : decode cL_law 896 = .ok (.aload_n 3, 1) := by decide +kernel
theorem dL_law_897 : decode cL_law 897 = .ok (.iconst 0, 1) := by decide +kernel
theorem dL_law_898 : decode cL_law 898 = .ok (.laload, 1) := by decide +kernel
theorem dL_law_899 : decode cL_law 899 = .ok (.iload 6, 2) := by decide +kernel
theorem dL_law_901 : decode cL_law 901 = .ok (.i2l, 1) := by decide +kernel
theorem dL_law_902 : decode cL_law 902 = .ok (.lcmp, 1) := by decide +kernel
theorem dL_law_903 : decode cL_law 903 = .ok (.ifCond .eq 5, 3) := by decide +kernel
theorem dL_law_906 : decode cL_law 906 = .ok (.iconst 0, 1) := by decide +kernel
theorem dL_law_907 : decode cL_law 907 = .ok (.ireturn, 1) := by decide +kernel
theorem dL_law_908 : decode cL_law 908 = .ok (.goto 219, 3) := by decide +kernel
theorem dL_law_911 : decode cL_law 911 = .ok (.aload_n 1, 1) := by decide +kernel
theorem dL_law_912 : decode cL_law 912 = .ok (.aload_n 0, 1) := by decide +kernel
theorem dL_law_913 : decode cL_law 913 = .ok (.iload 4, 2) := by decide +kernel
theorem dL_law_915 : decode cL_law 915 = .ok (.iconst 1, 1) := by decide +kernel
theorem dL_law_916 : decode cL_law 916 = .ok (.iadd, 1) := by decide +kernel
theorem dL_law_917 : decode cL_law 917 = .ok (.iaload, 1) := by decide +kernel
theorem dL_law_918 : decode cL_law 918 = .ok (.aload_n 0, 1) := by decide +kernel
theorem dL_law_919 : decode cL_law 919 = .ok (.iload 4, 2) := by decide +kernel
theorem dL_law_921 : decode cL_law 921 = .ok (.iconst 2, 1) := by decide +kernel
theorem dL_law_922 : decode cL_law 922 = .ok (.iadd, 1) := by decide +kernel
theorem dL_law_923 : decode cL_law 923 = .ok (.iaload, 1) := by decide +kernel
theorem dL_law_924 : decode cL_law 924 = .ok (.aload_n 3, 1) := by decide +kernel
theorem dL_law_925 : decode cL_law 925 = .ok (.invokestatic 112, 3) := by decide +kernel
theorem dL_law_928 : decode cL_law 928 = .ok (.istore 5, 2) := by decide +kernel
theorem dL_law_930 : decode cL_law 930 = .ok (.aload_n 2, 1) := by decide +kernel
theorem dL_law_931 : decode cL_law 931 = .ok (.aload_n 0, 1) := by decide +kernel
theorem dL_law_932 : decode cL_law 932 = .ok (.iload 4, 2) := by decide +kernel
theorem dL_law_934 : decode cL_law 934 = .ok (.iconst 1, 1) := by decide +kernel
theorem dL_law_935 : decode cL_law 935 = .ok (.iadd, 1) := by decide +kernel
theorem dL_law_936 : decode cL_law 936 = .ok (.iaload, 1) := by decide +kernel
theorem dL_law_937 : decode cL_law 937 = .ok (.aload_n 0, 1) := by decide +kernel
theorem dL_law_938 : decode cL_law 938 = .ok (.iload 4, 2) := by decide +kernel
theorem dL_law_940 : decode cL_law 940 = .ok (.iconst 2, 1) := by decide +kernel
theorem dL_law_941 : decode cL_law 941 = .ok (.iadd, 1) := by decide +kernel
theorem dL_law_942 : decode cL_law 942 = .ok (.iaload, 1) := by decide +kernel
theorem dL_law_943 : decode cL_law 943 = .ok (.invokevirtual 114, 3) := by decide +kernel
theorem dL_law_946 : decode cL_law 946 = .ok (.istore 6, 2) := by decide +kernel
theorem dL_law_948 : decode cL_law 948 = .ok (.aload_n 2, 1) := by decide +kernel
theorem dL_law_949 : decode cL_law 949 = .ok (.invokevirtual 72, 3) := by decide +kernel
theorem dL_law_952 : decode cL_law 952 = .ok (.iload 5, 2) := by decide +kernel
theorem dL_law_954 : decode cL_law 954 = .ok (.if_icmp .eq 5, 3) := by decide +kernel
theorem dL_law_957 : decode cL_law 957 = .ok (.iconst 0, 1) := by decide +kernel
theorem dL_law_958 : decode cL_law 958 = .ok (.ireturn, 1) := by decide +kernel
theorem dL_law_959 : decode cL_law 959 = .ok (.iload 5, 2) := by decide +kernel
theorem dL_law_961 : decode cL_law 961 = .ok (.ifCond .ne 15, 3) := by decide +kernel
theorem dL_law_964 : decode cL_law 964 = .ok (.aload_n 3, 1) := by decide +kernel
theorem dL_law_965 : decode cL_law 965 = .ok (.iconst 0, 1) := by decide +kernel
theorem dL_law_966 : decode cL_law 966 = .ok (.laload, 1) := by decide +kernel
theorem dL_law_967 : decode cL_law 967 = .ok (.iload 6, 2) := by decide +kernel
theorem dL_law_969 : decode cL_law 969 = .ok (.i2l, 1) := by decide +kernel
theorem dL_law_970 : decode cL_law 970 = .ok (.lcmp, 1) := by decide +kernel
theorem dL_law_971 : decode cL_law 971 = .ok (.ifCond .eq 5, 3) := by decide +kernel
theorem dL_law_974 : decode cL_law 974 = .ok (.iconst 0, 1) := by decide +kernel
theorem dL_law_975 : decode cL_law 975 = .ok (.ireturn, 1) := by decide +kernel
theorem dL_law_976 : decode cL_law 976 = .ok (.goto 151, 3) := by decide +kernel
theorem dL_law_979 : decode cL_law 979 = .ok (.aload_n 1, 1) := by decide +kernel
theorem dL_law_980 : decode cL_law 980 = .ok (.aload_n 0, 1) := by decide +kernel
theorem dL_law_981 : decode cL_law 981 = .ok (.iload 4, 2) := by decide +kernel
theorem dL_law_983 : decode cL_law 983 = .ok (.iconst 1, 1) := by decide +kernel
theorem dL_law_984 : decode cL_law 984 = .ok (.iadd, 1) := by decide +kernel
theorem dL_law_985 : decode cL_law 985 = .ok (.iaload, 1) := by decide +kernel
theorem dL_law_986 : decode cL_law 986 = .ok (.aload_n 0, 1) := by decide +kernel
theorem dL_law_987 : decode cL_law 987 = .ok (.iload 4, 2) := by decide +kernel
theorem dL_law_989 : decode cL_law 989 = .ok (.iconst 2, 1) := by decide +kernel
theorem dL_law_990 : decode cL_law 990 = .ok (.iadd, 1) := by decide +kernel
theorem dL_law_991 : decode cL_law 991 = .ok (.iaload, 1) := by decide +kernel
theorem dL_law_992 : decode cL_law 992 = .ok (.aload_n 0, 1) := by decide +kernel
theorem dL_law_993 : decode cL_law 993 = .ok (.iload 4, 2) := by decide +kernel
theorem dL_law_995 : decode cL_law 995 = .ok (.iconst 3, 1) := by decide +kernel
theorem dL_law_996 : decode cL_law 996 = .ok (.iadd, 1) := by decide +kernel
theorem dL_law_997 : decode cL_law 997 = .ok (.iaload, 1) := by decide +kernel
theorem dL_law_998 : decode cL_law 998 = .ok (.aload_n 3, 1) := by decide +kernel
theorem dL_law_999 : decode cL_law 999 = .ok (.invokestatic 115, 3) := by decide +kernel
theorem dL_law_1002 : decode cL_law 1002 = .ok (.istore 5, 2) := by decide +kernel
theorem dL_law_1004 : decode cL_law 1004 = .ok (.aload_n 2, 1) := by decide +kernel
theorem dL_law_1005 : decode cL_law 1005 = .ok (.aload_n 0, 1) := by decide +kernel
theorem dL_law_1006 : decode cL_law 1006 = .ok (.iload 4, 2) := by decide +kernel
theorem dL_law_1008 : decode cL_law 1008 = .ok (.iconst 1, 1) := by decide +kernel
theorem dL_law_1009 : decode cL_law 1009 = .ok (.iadd, 1) := by decide +kernel
theorem dL_law_1010 : decode cL_law 1010 = .ok (.iaload, 1) := by decide +kernel
theorem dL_law_1011 : decode cL_law 1011 = .ok (.aload_n 0, 1) := by decide +kernel
theorem dL_law_1012 : decode cL_law 1012 = .ok (.iload 4, 2) := by decide +kernel
theorem dL_law_1014 : decode cL_law 1014 = .ok (.iconst 2, 1) := by decide +kernel
theorem dL_law_1015 : decode cL_law 1015 = .ok (.iadd, 1) := by decide +kernel
theorem dL_law_1016 : decode cL_law 1016 = .ok (.iaload, 1) := by decide +kernel
theorem dL_law_1017 : decode cL_law 1017 = .ok (.aload_n 0, 1) := by decide +kernel
theorem dL_law_1018 : decode cL_law 1018 = .ok (.iload 4, 2) := by decide +kernel
theorem dL_law_1020 : decode cL_law 1020 = .ok (.iconst 3, 1) := by decide +kernel
theorem dL_law_1021 : decode cL_law 1021 = .ok (.iadd, 1) := by decide +kernel
theorem dL_law_1022 : decode cL_law 1022 = .ok (.iaload, 1) := by decide +kernel
theorem dL_law_1023 : decode cL_law 1023 = .ok (.invokevirtual 117, 3) := by decide +kernel
theorem dL_law_1026 : decode cL_law 1026 = .ok (.istore 6, 2) := by decide +kernel
theorem dL_law_1028 : decode cL_law 1028 = .ok (.aload_n 2, 1) := by decide +kernel
theorem dL_law_1029 : decode cL_law 1029 = .ok (.invokevirtual 72, 3) := by decide +kernel
theorem dL_law_1032 : decode cL_law 1032 = .ok (.iload 5, 2) := by decide +kernel
theorem dL_law_1034 : decode cL_law 1034 = .ok (.if_icmp .eq 5, 3) := by decide +kernel
theorem dL_law_1037 : decode cL_law 1037 = .ok (.iconst 0, 1) := by decide +kernel
theorem dL_law_1038 : decode cL_law 1038 = .ok (.ireturn, 1) := by decide +kernel
theorem dL_law_1039 : decode cL_law 1039 = .ok (.iload 5, 2) := by decide +kernel
theorem dL_law_1041 : decode cL_law 1041 = .ok (.ifCond .ne 15, 3) := by decide +kernel
theorem dL_law_1044 : decode cL_law 1044 = .ok (.aload_n 3, 1) := by decide +kernel
theorem dL_law_1045 : decode cL_law 1045 = .ok (.iconst 0, 1) := by decide +kernel
theorem dL_law_1046 : decode cL_law 1046 = .ok (.laload, 1) := by decide +kernel
theorem dL_law_1047 : decode cL_law 1047 = .ok (.iload 6, 2) := by decide +kernel
theorem dL_law_1049 : decode cL_law 1049 = .ok (.i2l, 1) := by decide +kernel
theorem dL_law_1050 : decode cL_law 1050 = .ok (.lcmp, 1) := by decide +kernel
theorem dL_law_1051 : decode cL_law 1051 = .ok (.ifCond .eq 5, 3) := by decide +kernel
theorem dL_law_1054 : decode cL_law 1054 = .ok (.iconst 0, 1) := by decide +kernel
theorem dL_law_1055 : decode cL_law 1055 = .ok (.ireturn, 1) := by decide +kernel
theorem dL_law_1056 : decode cL_law 1056 = .ok (.goto 71, 3) := by decide +kernel
theorem dL_law_1059 : decode cL_law 1059 = .ok (.aload_n 1, 1) := by decide +kernel
theorem dL_law_1060 : decode cL_law 1060 = .ok (.aload_n 0, 1) := by decide +kernel
theorem dL_law_1061 : decode cL_law 1061 = .ok (.iload 4, 2) := by decide +kernel
theorem dL_law_1063 : decode cL_law 1063 = .ok (.iconst 1, 1) := by decide +kernel
theorem dL_law_1064 : decode cL_law 1064 = .ok (.iadd, 1) := by decide +kernel
theorem dL_law_1065 : decode cL_law 1065 = .ok (.iaload, 1) := by decide +kernel
theorem dL_law_1066 : decode cL_law 1066 = .ok (.aload_n 0, 1) := by decide +kernel
theorem dL_law_1067 : decode cL_law 1067 = .ok (.iload 4, 2) := by decide +kernel
theorem dL_law_1069 : decode cL_law 1069 = .ok (.iconst 2, 1) := by decide +kernel
theorem dL_law_1070 : decode cL_law 1070 = .ok (.iadd, 1) := by decide +kernel
theorem dL_law_1071 : decode cL_law 1071 = .ok (.iaload, 1) := by decide +kernel
theorem dL_law_1072 : decode cL_law 1072 = .ok (.aload_n 3, 1) := by decide +kernel
theorem dL_law_1073 : decode cL_law 1073 = .ok (.invokestatic 118, 3) := by decide +kernel
theorem dL_law_1076 : decode cL_law 1076 = .ok (.istore 5, 2) := by decide +kernel
theorem dL_law_1078 : decode cL_law 1078 = .ok (.aload_n 2, 1) := by decide +kernel
theorem dL_law_1079 : decode cL_law 1079 = .ok (.aload_n 0, 1) := by decide +kernel
theorem dL_law_1080 : decode cL_law 1080 = .ok (.iload 4, 2) := by decide +kernel
theorem dL_law_1082 : decode cL_law 1082 = .ok (.iconst 1, 1) := by decide +kernel
theorem dL_law_1083 : decode cL_law 1083 = .ok (.iadd, 1) := by decide +kernel
theorem dL_law_1084 : decode cL_law 1084 = .ok (.iaload, 1) := by decide +kernel
theorem dL_law_1085 : decode cL_law 1085 = .ok (.aload_n 0, 1) := by decide +kernel
theorem dL_law_1086 : decode cL_law 1086 = .ok (.iload 4, 2) := by decide +kernel
theorem dL_law_1088 : decode cL_law 1088 = .ok (.iconst 2, 1) := by decide +kernel
theorem dL_law_1089 : decode cL_law 1089 = .ok (.iadd, 1) := by decide +kernel
theorem dL_law_1090 : decode cL_law 1090 = .ok (.iaload, 1) := by decide +kernel
theorem dL_law_1091 : decode cL_law 1091 = .ok (.invokevirtual 120, 3) := by decide +kernel
theorem dL_law_1094 : decode cL_law 1094 = .ok (.istore 6, 2) := by decide +kernel
theorem dL_law_1096 : decode cL_law 1096 = .ok (.aload_n 2, 1) := by decide +kernel
theorem dL_law_1097 : decode cL_law 1097 = .ok (.invokevirtual 72, 3) := by decide +kernel
theorem dL_law_1100 : decode cL_law 1100 = .ok (.iload 5, 2) := by decide +kernel
theorem dL_law_1102 : decode cL_law 1102 = .ok (.if_icmp .eq 5, 3) := by decide +kernel
theorem dL_law_1105 : decode cL_law 1105 = .ok (.iconst 0, 1) := by decide +kernel
theorem dL_law_1106 : decode cL_law 1106 = .ok (.ireturn, 1) := by decide +kernel
theorem dL_law_1107 : decode cL_law 1107 = .ok (.iload 5, 2) := by decide +kernel
theorem dL_law_1109 : decode cL_law 1109 = .ok (.ifCond .ne 15, 3) := by decide +kernel
theorem dL_law_1112 : decode cL_law 1112 = .ok (.aload_n 3, 1) := by decide +kernel
theorem dL_law_1113 : decode cL_law 1113 = .ok (.iconst 0, 1) := by decide +kernel
theorem dL_law_1114 : decode cL_law 1114 = .ok (.laload, 1) := by decide +kernel
theorem dL_law_1115 : decode cL_law 1115 = .ok (.iload 6, 2) := by decide +kernel
theorem dL_law_1117 : decode cL_law 1117 = .ok (.i2l, 1) := by decide +kernel
theorem dL_law_1118 : decode cL_law 1118 = .ok (.lcmp, 1) := by decide +kernel
theorem dL_law_1119 : decode cL_law 1119 = .ok (.ifCond .eq 5, 3) := by decide +kernel
theorem dL_law_1122 : decode cL_law 1122 = .ok (.iconst 0, 1) := by decide +kernel
theorem dL_law_1123 : decode cL_law 1123 = .ok (.ireturn, 1) := by decide +kernel
theorem dL_law_1124 : decode cL_law 1124 = .ok (.goto 3, 3) := by decide +kernel
theorem dL_law_1127 : decode cL_law 1127 = .ok (.iinc 4 5, 3) := by decide +kernel
theorem dL_law_1130 : decode cL_law 1130 = .ok (.goto (-1107), 3) := by decide +kernel
theorem dL_law_1133 : decode cL_law 1133 = .ok (.iconst 1, 1) := by decide +kernel
theorem dL_law_1134 : decode cL_law 1134 = .ok (.ireturn, 1) := by decide +kernel
end
section
/-! ===== BEGIN a constructor that throws (launches without stack traces) ===== -/
section VXIA
variable {p : Program} {l : Launch} {e : Env} {R : Room} {s : State} {m : MethodId} {args : Array Value} {below : List Frame} {meth : Method} {c : Code} {T : State} {locs : List Loc} {cells slots : Nat}
theorem vx_callI (X : Stand p l e R s m args below meth c T locs cells slots) (hexec : p.tables.exec = Jvm.exec) {own : String} {index : Nat} {y : MethodName} {bytes : ByteArray} {maxL : Nat}
    (hown : s.vm.findClass own = some m.cls) (hy1 : y.name = "<init>") (hlink : (Cond.methodLink own index y).before args s = true) (hinst : (Cond.instanceMethod y).before args s = true)
    (hcode : (Cond.code y bytes maxL none).before args s = true) (hy : y.cls ≠ "java/lang/invoke/MethodHandle" ∧ y.cls ≠ "java/lang/invoke/VarHandle")
    {W9 : Nat} {Pre : Pt → Array Value → Prop} {Post : Pt → Array Value → Option Value → Pt → Prop} {PostX : Pt → Array Value → Addr → Pt → Prop} (hK : vx_Back l R p e below s args y 3 W9 Pre Post PostX)
    {g : JFrame} (hg : g.method = m) (hsize : g.locals.size = c.maxLocals) {a : Addr} {argsL rest : List Value} (hlen : ∀ sig, parseMethodDescriptor y.desc = some sig → argsL.length = sig.parameters.length)
    (hstack : g.stack = argsL.reverse ++ .ref a :: rest) (hW : 2 * g.monitorRoom + (rest.map fun v => v.category).sum ≤ W9) (hdg : decode c.code g.pc = .ok (.invokespecial index, 3))
    (hpre : ∀ vm₁, s.WarmedH vm₁ → Pre ⟨T.setVm vm₁, locs, cells, slots⟩ (Value.ref a :: argsL).toArray) :
    (∃ (v : Option Value) (vm₁ : Vm) (B : Pt), s.WarmedH vm₁ ∧ Stand p l e R s m args below meth c B.U B.locs B.cells B.slots ∧ Post ⟨T.setVm vm₁, locs, cells, slots⟩ (Value.ref a :: argsL).toArray v B ∧
      ∀ target, Steps p.tables e below (B.U.setTop { g with pc := g.pc + 3, stack := v.toList ++ rest }) target → Steps p.tables e below (T.setTop g) target) ∨
    (∃ (q : Addr) (vm₁ : Vm) (B : Pt), s.WarmedH vm₁ ∧ Stand p l e R s m args below meth c B.U B.locs B.cells B.slots ∧ PostX ⟨T.setVm vm₁, locs, cells, slots⟩ (Value.ref a :: argsL).toArray q B ∧
      Steps p.tables e below (T.setTop g) ((B.U.setTop { g with stack := rest }).pushFrame (.throwing q))) := by
  subst hg
  have hpl : e.platform.magicAccessors = ({} : Platform).magicAccessors := by rw [X.admits.platform]
  obtain ⟨mk, methM, cM, kP, vm₁, hnamed, hmethM, hcodeM, -, hlocalsM, -, hkP, -, hW₁, hstep₁⟩ := Steps.initColdArgs (e := e) X.here hexec X.warmed hpl hown hy1 hy hlink hinst hcode (f := g) rfl hlen hstack hdg
  have X₁ := X.noted hW₁
  rcases hK g.method meth c ⟨T.setVm vm₁, locs, cells, slots⟩ { g with stack := rest } (.invokespecial index) mk (Value.ref a :: argsL).toArray X₁ rfl hsize hdg hW (X₁.named hnamed) (hpre vm₁ X₁.warmed) with ⟨v, B, X', hpost, hsteps⟩ | ⟨q, B, X', hpost, hsteps⟩
  · exact Or.inl ⟨v, vm₁, B, X₁.warmed, X', hpost, fun target h => hstep₁ _ fun acts => by rw [doInvoke_state]; exact hsteps.trans h⟩
  · exact Or.inr ⟨q, vm₁, B, X₁.warmed, X', hpost, hstep₁ _ fun acts => by rw [doInvoke_state]; exact hsteps⟩
end VXIA
section VXIB
variable {p : Program} {l : Launch} {e : Env} {R : Room} {s : State} {m : MethodId} {args : Array Value} {below : List Frame} {meth : Method} {c : Code} {H : Heap} {locs : List Loc} {cells slots : Nat}
variable {y : MethodName} {bytes cc : ByteArray} {maxL nL mc ms n index : Nat} {ret : Option FieldType} {ws : List Cond} {rm : Room} {Pc : Array Value → State → Prop} {Qc : Array Value → State → Outcome → State → Prop} {XC : String → State → State → Prop} {free : Addr → Prop} {Ts : List Cond} {own C : String} {b : Addr} {As rest : List Value} {g : JFrame}
theorem vx_runI (S : CallFix p m c cc nL s args Ts own) (hM : vx_Met l y ws rm Pc Qc XC mc ms free) (cw : CallB R s args own index y bytes maxL none ws rm mc ms n ∧ y.name = "<init>" ∧ (Cond.instanceMethod y).before args s = true) (hp : PreS s H Pc (.ref b :: As))
    (hg : g.method = m) (hn : As.length = n) (hsize : g.locals.size = nL) (hstack : g.stack = As.reverse ++ .ref b :: rest) (hW : 2 * g.monitorRoom + (rest.map fun v => v.category).sum ≤ 8) (hdg : decode cc g.pc = .ok (.invokespecial index, 3)) (hf : cells + mc ≤ R.cells ∧ slots + ms ≤ R.slots) :
    vx_Run p l e R s m args below meth c H locs cells slots mc ms g rest (Qc (Value.ref b :: As).toArray) XC free := by
  have hK : vx_Back l R p e below s args y 3 8 (PreOf R mc ms Pc) (PostOf Qc mc ms free) (vx_Post XC mc ms free) := vx_callBack cw.1 hM hp.1
  obtain ⟨⟨-, -, -, -, -, -, hcode, -, hy, hlen, hl⟩, hy1, hin⟩ := cw
  obtain ⟨hx, hb, hml, ho, -⟩ := S
  have hPc := hp.2
  intro T hT X
  rcases vx_callI X hx (bytes := bytes) (maxL := maxL) ho hy1 hl hin hcode hy hK hg (hsize.trans hml.symm) (a := b) (argsL := As) (rest := rest) (fun sig h => hn.trans (hlen sig h)) hstack hW (by rw [hb]; exact hdg)
    (fun vm₁ hW₁ => ⟨hf.1, hf.2, hPc (T.setVm vm₁) hT hW₁⟩) with ⟨v, vm₁, ⟨U', l2, c2, s2⟩, hW₁, X', ⟨g', mk, t, L, e1, e2, hq, h1, hL, h2, h3⟩, st⟩ | ⟨q, vm₁, ⟨U', l2, c2, s2⟩, hW₁, X', ⟨g', mk, t, L, E, ce, e1, e2, hq, hce, hcv, hcl, h1, hL, h2, h3⟩, st⟩
  · dsimp only [Pt.U, Pt.locs, Pt.cells, Pt.slots] at X' e1 e2 h1 h2 h3 st
    subst h1; subst h2; subst h3
    exact Or.inl ⟨v, (T.setVm vm₁).calling g' mk (Value.ref b :: As).toArray, t, U', L, hT, X', hL, e1, e2, hq, st⟩
  · dsimp only [Pt.U, Pt.locs, Pt.cells, Pt.slots] at X' e1 e2 h1 h2 h3 st hcl
    subst h1; subst h2; subst h3
    exact Or.inr ⟨q, (T.setVm vm₁).calling g' mk (Value.ref b :: As).toArray, t, U', L, E, ce, hT, X', hL, e1, e2, hq, hce, hcv, vx_cls hW₁ hcl, st⟩
end VXIB
/-! ===== END ===== -/
/-! ===== BEGIN a private constructor of a nest mate that throws ===== -/
section VXIC
variable {p : Program} {l : Launch} {e : Env} {R : Room} {s : State} {m : MethodId} {args : Array Value} {below : List Frame} {meth : Method} {c : Code} {T : State} {locs : List Loc} {cells slots : Nat}
theorem vx_callIN (X : Stand p l e R s m args below meth c T locs cells slots) (hexec : p.tables.exec = Jvm.exec) {own : String} {index : Nat} {host : String} {y : MethodName} {bytes : ByteArray} {maxL : Nat}
    (hown : s.vm.findClass own = some m.cls) (hy1 : y.name = "<init>") (hlink : (Cond.methodLinkNest own index y host).before args s = true) (hinst : (Cond.instanceMethod y).before args s = true)
    (hcode : (Cond.code y bytes maxL none).before args s = true) (hy : y.cls ≠ "java/lang/invoke/MethodHandle" ∧ y.cls ≠ "java/lang/invoke/VarHandle")
    {W9 : Nat} {Pre : Pt → Array Value → Prop} {Post : Pt → Array Value → Option Value → Pt → Prop} {PostX : Pt → Array Value → Addr → Pt → Prop} (hK : vx_Back l R p e below s args y 3 W9 Pre Post PostX)
    {g : JFrame} (hg : g.method = m) (hsize : g.locals.size = c.maxLocals) {a : Addr} {argsL rest : List Value} (hlen : ∀ sig, parseMethodDescriptor y.desc = some sig → argsL.length = sig.parameters.length)
    (hstack : g.stack = argsL.reverse ++ .ref a :: rest) (hW : 2 * g.monitorRoom + (rest.map fun v => v.category).sum ≤ W9) (hdg : decode c.code g.pc = .ok (.invokespecial index, 3))
    (hpre : ∀ vm₁, s.WarmedH vm₁ → Pre ⟨T.setVm vm₁, locs, cells, slots⟩ (Value.ref a :: argsL).toArray) :
    (∃ (v : Option Value) (vm₁ : Vm) (B : Pt), s.WarmedH vm₁ ∧ Stand p l e R s m args below meth c B.U B.locs B.cells B.slots ∧ Post ⟨T.setVm vm₁, locs, cells, slots⟩ (Value.ref a :: argsL).toArray v B ∧
      ∀ target, Steps p.tables e below (B.U.setTop { g with pc := g.pc + 3, stack := v.toList ++ rest }) target → Steps p.tables e below (T.setTop g) target) ∨
    (∃ (q : Addr) (vm₁ : Vm) (B : Pt), s.WarmedH vm₁ ∧ Stand p l e R s m args below meth c B.U B.locs B.cells B.slots ∧ PostX ⟨T.setVm vm₁, locs, cells, slots⟩ (Value.ref a :: argsL).toArray q B ∧
      Steps p.tables e below (T.setTop g) ((B.U.setTop { g with stack := rest }).pushFrame (.throwing q))) := by
  subst hg
  have hpl : e.platform.magicAccessors = ({} : Platform).magicAccessors := by rw [X.admits.platform]
  obtain ⟨mk, methM, cM, kP, vm₁, hnamed, hmethM, hcodeM, -, hlocalsM, -, hkP, -, hW₁, hstep₁⟩ := Steps.initColdArgsNest (e := e) X.here hexec X.warmed hpl hown hy1 hy hlink hinst hcode (f := g) rfl hlen hstack hdg
  have X₁ := X.noted hW₁
  rcases hK g.method meth c ⟨T.setVm vm₁, locs, cells, slots⟩ { g with stack := rest } (.invokespecial index) mk (Value.ref a :: argsL).toArray X₁ rfl hsize hdg hW (X₁.named hnamed) (hpre vm₁ X₁.warmed) with ⟨v, B, X', hpost, hsteps⟩ | ⟨q, B, X', hpost, hsteps⟩
  · exact Or.inl ⟨v, vm₁, B, X₁.warmed, X', hpost, fun target h => hstep₁ _ fun acts => by rw [doInvoke_state]; exact hsteps.trans h⟩
  · exact Or.inr ⟨q, vm₁, B, X₁.warmed, X', hpost, hstep₁ _ fun acts => by rw [doInvoke_state]; exact hsteps⟩
end VXIC
section VXID
variable {p : Program} {l : Launch} {e : Env} {R : Room} {s : State} {m : MethodId} {args : Array Value} {below : List Frame} {meth : Method} {c : Code} {H : Heap} {locs : List Loc} {cells slots : Nat}
theorem vx_runIN {y : MethodName} {bytes cc : ByteArray} {maxL nL mc ms n index : Nat} {ws : List Cond} {rm : Room} {Pc : Array Value → State → Prop} {Qc : Array Value → State → Outcome → State → Prop} {XC : String → State → State → Prop} {free : Addr → Prop} {Ts : List Cond} {own host : String} {b : Addr} {As rest : List Value} {g : JFrame}
    (S : CallFix p m c cc nL s args Ts own) (hM : vx_Met l y ws rm Pc Qc XC mc ms free) (cw : va_CN R s args own index y host bytes maxL none ws rm mc ms n ∧ y.name = "<init>" ∧ (Cond.instanceMethod y).before args s = true) (hp : PreS s H Pc (.ref b :: As))
    (hg : g.method = m) (hn : As.length = n) (hsize : g.locals.size = nL) (hstack : g.stack = As.reverse ++ .ref b :: rest) (hW : 2 * g.monitorRoom + (rest.map fun v => v.category).sum ≤ 8) (hdg : decode cc g.pc = .ok (.invokespecial index, 3)) (hf : cells + mc ≤ R.cells ∧ slots + ms ≤ R.slots) :
    vx_Run p l e R s m args below meth c H locs cells slots mc ms g rest (Qc (Value.ref b :: As).toArray) XC free := by
  obtain ⟨⟨⟨hrc, hrs, hfr, hlo, hws, hcw⟩, hcode, hini, hy, hlen, hl⟩, hx1, hx2⟩ := cw
  have hK : vx_Back l R p e below s args y 3 8 (PreOf R mc ms Pc) (PostOf Qc mc ms free) (vx_Post XC mc ms free) := vx_back (bytes := bytes) (maxL := maxL) (ret := none) hM hp.1 hrc hrs hfr hlo hws hcw (fun a' U hW => word_at hW (Or.inl (by first | rfl | simp [Cond.onTables, Cond.keeps, Cond.steady])) hini)
  obtain ⟨hx, hb, hml, ho, -⟩ := S
  have hPc := hp.2
  intro T hT X
  rcases vx_callIN X hx (bytes := bytes) (maxL := maxL) ho hx1 hl hx2 hcode hy hK hg (hsize.trans hml.symm) (a := b) (argsL := As) (rest := rest) (fun sig h => hn.trans (hlen sig h)) hstack hW (by rw [hb]; exact hdg)
    (fun vm₁ hW₁ => ⟨hf.1, hf.2, hPc (T.setVm vm₁) hT hW₁⟩) with ⟨v, vm₁, ⟨U', l2, c2, s2⟩, hW₁, X', ⟨g', mk, t, L, e1, e2, hq, h1, hL, h2, h3⟩, st⟩ | ⟨q, vm₁, ⟨U', l2, c2, s2⟩, hW₁, X', ⟨g', mk, t, L, E, ce, e1, e2, hq, hce, hcv, hcl, h1, hL, h2, h3⟩, st⟩
  · dsimp only [Pt.U, Pt.locs, Pt.cells, Pt.slots] at X' e1 e2 h1 h2 h3 st
    subst h1; subst h2; subst h3
    exact Or.inl ⟨v, (T.setVm vm₁).calling g' mk (Value.ref b :: As).toArray, t, U', L, hT, X', hL, e1, e2, hq, st⟩
  · dsimp only [Pt.U, Pt.locs, Pt.cells, Pt.slots] at X' e1 e2 h1 h2 h3 st hcl
    subst h1; subst h2; subst h3
    exact Or.inr ⟨q, (T.setVm vm₁).calling g' mk (Value.ref b :: As).toArray, t, U', L, E, ce, hT, X', hL, e1, e2, hq, hce, hcv, vx_cls hW₁ hcl, st⟩
end VXID
/-! ===== END ===== -/
/-! ===== BEGIN a private method of a nest mate that may throw (follows va_callVN, va_callSN, va_runVN, va_runSN) ===== -/
section
variable {p : Program} {l : Launch} {e : Env} {R : Room} {s : State} {m : MethodId} {args : Array Value} {below : List Frame} {meth : Method} {c : Code} {H : Heap} {locs : List Loc} {cells slots : Nat}
variable {T : State}
theorem vx_callVN (X : Stand p l e R s m args below meth c T locs cells slots) (hexec : p.tables.exec = Jvm.exec) {own C : String} {index : Nat} {host : String} {y : MethodName} {bytes : ByteArray} {maxL : Nat} {ret : Option FieldType}
    (hown : s.vm.findClass own = some m.cls) (hlink : (Cond.methodLinkNest own index y host).before args s = true) (hinst : (Cond.instanceMethod y).before args s = true) (hsel : (Cond.selects C y y).before args s = true)
    (hcode : (Cond.code y bytes maxL ret).before args s = true) (hy : y.cls ≠ "java/lang/invoke/MethodHandle" ∧ y.cls ≠ "java/lang/invoke/VarHandle")
    {W : Nat} {Pre : Pt → Array Value → Prop} {Post : Pt → Array Value → Option Value → Pt → Prop} {PostX : Pt → Array Value → Addr → Pt → Prop} (hK : vx_Back l R p e below s args y 3 W Pre Post PostX)
    {b : Addr} {cellB : Cell} (hcell : T.heap[b]? = some cellB) (hobj : cellB.vm.isStatics = false) (hcls : s.vm.findClass C = some cellB.cls)
    {g : JFrame} (hg : g.method = m) (hsize : g.locals.size = c.maxLocals) {argsL rest : List Value} (hlen : ∀ sig, parseMethodDescriptor y.desc = some sig → argsL.length = sig.parameters.length)
    (hstack : g.stack = argsL.reverse ++ .ref b :: rest) (hW : 2 * g.monitorRoom + (rest.map fun v => v.category).sum ≤ W) (hdg : decode c.code g.pc = .ok (.invokevirtual index, 3))
    (hpre : ∀ vm₁, s.WarmedH vm₁ → Pre ⟨T.setVm vm₁, locs, cells, slots⟩ (Value.ref b :: argsL).toArray) :
    (∃ (v : Option Value) (vm₁ : Vm) (B : Pt), s.WarmedH vm₁ ∧ Stand p l e R s m args below meth c B.U B.locs B.cells B.slots ∧ Post ⟨T.setVm vm₁, locs, cells, slots⟩ (Value.ref b :: argsL).toArray v B ∧
      ∀ target, Steps p.tables e below (B.U.setTop { g with pc := g.pc + 3, stack := v.toList ++ rest }) target → Steps p.tables e below (T.setTop g) target) ∨
    (∃ (q : Addr) (vm₁ : Vm) (B : Pt), s.WarmedH vm₁ ∧ Stand p l e R s m args below meth c B.U B.locs B.cells B.slots ∧ PostX ⟨T.setVm vm₁, locs, cells, slots⟩ (Value.ref b :: argsL).toArray q B ∧
      Steps p.tables e below (T.setTop g) ((B.U.setTop { g with stack := rest }).pushFrame (.throwing q))) := by
  obtain ⟨mk, methM, hnamed, hmethM, hstM, habM⟩ := Cond.instanceMethod_spec hinst
  obtain ⟨methM', cM, hmethM', -, -, -, -, -, -, hsigM⟩ := Cond.code_spec hnamed hcode
  cases hmethM.symm.trans hmethM'
  obtain ⟨c2, r2, m2, q1, q2, q3, q4, kP, hkP, hkPi⟩ := Cond.selects_spec hsel
  cases hcls.symm.trans q1
  cases (State.methodFound?_of_named hnamed hy).symm.trans q2
  cases hnamed.symm.trans q3
  have hselP : selectMethod e.platform s.vm cellB.cls mk = .method mk := by rw [Launch.admits_selectMethod X.admits]; exact q4
  obtain ⟨vm₁, X₁, hstep₁⟩ := X.invokevirtualNest hexec hown hlink hnamed hmethM hstM hkP hkPi hy (a := b) (cell := cellB) hcell
    (fun z h => by rw [h] at hobj; cases hobj) hselP hmethM habM hkP hkPi (g := g) hg (argsL := argsL) (rest := rest) (hlen _ hsigM) hstack hdg
  rcases hK m meth c ⟨T.setVm vm₁, locs, cells, slots⟩ { g with stack := rest } (.invokevirtual index) mk (Value.ref b :: argsL).toArray X₁ hg hsize hdg hW (X₁.named hnamed) (hpre vm₁ X₁.warmed) with ⟨v, B, X', hpost, hsteps⟩ | ⟨q, B, X', hpost, hsteps⟩
  · exact Or.inl ⟨v, vm₁, B, X₁.warmed, X', hpost, fun target h => hstep₁ _ fun acts => by rw [doInvoke_state]; exact hsteps.trans h⟩
  · exact Or.inr ⟨q, vm₁, B, X₁.warmed, X', hpost, hstep₁ _ fun acts => by rw [doInvoke_state]; exact hsteps⟩
theorem vx_callSN (X : Stand p l e R s m args below meth c T locs cells slots) (hexec : p.tables.exec = Jvm.exec) {own : String} {index : Nat} {host : String} {y : MethodName} {bytes : ByteArray} {maxL : Nat} {ret : Option FieldType}
    (hown : s.vm.findClass own = some m.cls) (hlink : (Cond.methodLinkNest own index y host).before args s = true) (hstat : (Cond.static y).before args s = true) (hinit : (Cond.initialized y.cls).before args s = true)
    (hcode : (Cond.code y bytes maxL ret).before args s = true) (hy : y.cls ≠ "java/lang/invoke/MethodHandle" ∧ y.cls ≠ "java/lang/invoke/VarHandle")
    {W : Nat} {Pre : Pt → Array Value → Prop} {Post : Pt → Array Value → Option Value → Pt → Prop} {PostX : Pt → Array Value → Addr → Pt → Prop} (hK : vx_Back l R p e below s args y 3 W Pre Post PostX)
    {g : JFrame} (hg : g.method = m) (hsize : g.locals.size = c.maxLocals) {argsL rest : List Value} (hlen : ∀ sig, parseMethodDescriptor y.desc = some sig → argsL.length = sig.parameters.length)
    (hstack : g.stack = argsL.reverse ++ rest) (hW : 2 * g.monitorRoom + (rest.map fun v => v.category).sum ≤ W) (hdg : decode c.code g.pc = .ok (.invokestatic index, 3))
    (hpre : ∀ vm₁, s.WarmedH vm₁ → Pre ⟨T.setVm vm₁, locs, cells, slots⟩ argsL.toArray) :
    (∃ (v : Option Value) (vm₁ : Vm) (B : Pt), s.WarmedH vm₁ ∧ Stand p l e R s m args below meth c B.U B.locs B.cells B.slots ∧ Post ⟨T.setVm vm₁, locs, cells, slots⟩ argsL.toArray v B ∧
      ∀ target, Steps p.tables e below (B.U.setTop { g with pc := g.pc + 3, stack := v.toList ++ rest }) target → Steps p.tables e below (T.setTop g) target) ∨
    (∃ (q : Addr) (vm₁ : Vm) (B : Pt), s.WarmedH vm₁ ∧ Stand p l e R s m args below meth c B.U B.locs B.cells B.slots ∧ PostX ⟨T.setVm vm₁, locs, cells, slots⟩ argsL.toArray q B ∧
      Steps p.tables e below (T.setTop g) ((B.U.setTop { g with stack := rest }).pushFrame (.throwing q))) := by
  obtain ⟨mk, hnamed⟩ := Cond.code_named hcode
  obtain ⟨methM, cM, hmethM, -, -, -, -, -, -, hsigM⟩ := Cond.code_spec hnamed hcode
  have hstatic : methM.isStatic = true := Cond.static_spec hnamed hmethM hstat
  obtain ⟨kP, hkP, -⟩ := className_of_methodNamed hnamed
  have hinitP : kP.init = .initialized := Cond.initialized_spec (findClass_of_methodNamed hnamed) hkP hinit
  obtain ⟨vm₁, X₁, hstep₁⟩ := X.invokestaticNest hexec hown hlink hnamed hmethM hstatic hkP hinitP hy (g := g) hg (argsL := argsL) (rest := rest) (hlen _ hsigM) hstack hdg
  rcases hK m meth c ⟨T.setVm vm₁, locs, cells, slots⟩ { g with stack := rest } (.invokestatic index) mk argsL.toArray X₁ hg hsize hdg hW (X₁.named hnamed) (hpre vm₁ X₁.warmed) with ⟨v, B, X', hpost, hsteps⟩ | ⟨q, B, X', hpost, hsteps⟩
  · exact Or.inl ⟨v, vm₁, B, X₁.warmed, X', hpost, fun target h => hstep₁ _ fun acts => by rw [doInvoke_state]; exact hsteps.trans h⟩
  · exact Or.inr ⟨q, vm₁, B, X₁.warmed, X', hpost, hstep₁ _ fun acts => by rw [doInvoke_state]; exact hsteps⟩
theorem vx_runVN {y : MethodName} {bytes cc : ByteArray} {maxL nL mc ms n index : Nat} {ret : Option FieldType} {ws : List Cond} {rm : Room} {Pc : Array Value → State → Prop} {Qc : Array Value → State → Outcome → State → Prop} {XC : String → State → State → Prop} {free : Addr → Prop} {Ts : List Cond} {own C host : String} {b : Addr} {As rest : List Value} {g : JFrame}
    (S : CallFix p m c cc nL s args Ts own) (hM : vx_Met l y ws rm Pc Qc XC mc ms free) (cw : va_CN R s args own index y host bytes maxL ret ws rm mc ms n ∧ (Cond.instanceMethod y).before args s = true ∧ (Cond.selects C y y).before args s = true) (hp : PreV s H C b Pc As)
    (hg : g.method = m) (hn : As.length = n) (hsize : g.locals.size = nL) (hstack : g.stack = As.reverse ++ .ref b :: rest) (hW : 2 * g.monitorRoom + (rest.map fun v => v.category).sum ≤ 8) (hdg : decode cc g.pc = .ok (.invokevirtual index, 3)) (hf : cells + mc ≤ R.cells ∧ slots + ms ≤ R.slots) :
    vx_Run p l e R s m args below meth c H locs cells slots mc ms g rest (Qc (Value.ref b :: As).toArray) XC free := by
  obtain ⟨⟨⟨hrc, hrs, hfr, hlo, hws, hcw⟩, hcode, hini, hy, hlen, hl⟩, hx1, hx2⟩ := cw
  have hK : vx_Back l R p e below s args y 3 8 (PreOf R mc ms Pc) (PostOf Qc mc ms free) (vx_Post XC mc ms free) := vx_back (bytes := bytes) (maxL := maxL) (ret := ret) hM hp.1 hrc hrs hfr hlo hws hcw (fun a' U hW => word_at hW (Or.inl (by first | rfl | simp [Cond.onTables, Cond.keeps, Cond.steady])) hini)
  obtain ⟨hx, hb, hml, ho, -⟩ := S
  obtain ⟨-, ⟨cellB, hcB, hoB, hclB⟩, hPc⟩ := hp
  intro T hT X
  rcases vx_callVN X hx (C := C) (bytes := bytes) (maxL := maxL) (ret := ret) ho hl hx1 hx2 hcode hy hK (by rw [hT]; exact hcB) hoB hclB hg (hsize.trans hml.symm) (argsL := As) (rest := rest) (fun sig h => hn.trans (hlen sig h)) hstack hW (by rw [hb]; exact hdg)
    (fun vm₁ hW₁ => ⟨hf.1, hf.2, hPc (T.setVm vm₁) hT hW₁⟩) with ⟨v, vm₁, ⟨U', l2, c2, s2⟩, hW₁, X', ⟨g', mk, t, L, e1, e2, hq, h1, hL, h2, h3⟩, st⟩ | ⟨q, vm₁, ⟨U', l2, c2, s2⟩, hW₁, X', ⟨g', mk, t, L, E, ce, e1, e2, hq, hce, hcv, hcl, h1, hL, h2, h3⟩, st⟩
  · dsimp only [Pt.U, Pt.locs, Pt.cells, Pt.slots] at X' e1 e2 h1 h2 h3 st
    subst h1; subst h2; subst h3
    exact Or.inl ⟨v, (T.setVm vm₁).calling g' mk (Value.ref b :: As).toArray, t, U', L, hT, X', hL, e1, e2, hq, st⟩
  · dsimp only [Pt.U, Pt.locs, Pt.cells, Pt.slots] at X' e1 e2 h1 h2 h3 st hcl
    subst h1; subst h2; subst h3
    exact Or.inr ⟨q, (T.setVm vm₁).calling g' mk (Value.ref b :: As).toArray, t, U', L, E, ce, hT, X', hL, e1, e2, hq, hce, hcv, vx_cls hW₁ hcl, st⟩
theorem vx_runSN {y : MethodName} {bytes cc : ByteArray} {maxL nL mc ms n index : Nat} {ret : Option FieldType} {ws : List Cond} {rm : Room} {Pc : Array Value → State → Prop} {Qc : Array Value → State → Outcome → State → Prop} {XC : String → State → State → Prop} {free : Addr → Prop} {Ts : List Cond} {own host : String} {As rest : List Value} {g : JFrame}
    (S : CallFix p m c cc nL s args Ts own) (hM : vx_Met l y ws rm Pc Qc XC mc ms free) (cw : va_CN R s args own index y host bytes maxL ret ws rm mc ms n ∧ (Cond.static y).before args s = true ∧ True) (hp : PreS s H Pc As)
    (hg : g.method = m) (hn : As.length = n) (hsize : g.locals.size = nL) (hstack : g.stack = As.reverse ++ rest) (hW : 2 * g.monitorRoom + (rest.map fun v => v.category).sum ≤ 8) (hdg : decode cc g.pc = .ok (.invokestatic index, 3)) (hf : cells + mc ≤ R.cells ∧ slots + ms ≤ R.slots) :
    vx_Run p l e R s m args below meth c H locs cells slots mc ms g rest (Qc As.toArray) XC free := by
  obtain ⟨⟨⟨hrc, hrs, hfr, hlo, hws, hcw⟩, hcode, hini, hy, hlen, hl⟩, hx1, hx2⟩ := cw
  have hK : vx_Back l R p e below s args y 3 8 (PreOf R mc ms Pc) (PostOf Qc mc ms free) (vx_Post XC mc ms free) := vx_back (bytes := bytes) (maxL := maxL) (ret := ret) hM hp.1 hrc hrs hfr hlo hws hcw (fun a' U hW => word_at hW (Or.inl (by first | rfl | simp [Cond.onTables, Cond.keeps, Cond.steady])) hini)
  obtain ⟨hx, hb, hml, ho, -⟩ := S
  have hPc := hp.2
  intro T hT X
  rcases vx_callSN X hx (bytes := bytes) (maxL := maxL) (ret := ret) ho hl hx1 hini hcode hy hK hg (hsize.trans hml.symm) (argsL := As) (rest := rest) (fun sig h => hn.trans (hlen sig h)) hstack hW (by rw [hb]; exact hdg)
    (fun vm₁ hW₁ => ⟨hf.1, hf.2, hPc (T.setVm vm₁) hT hW₁⟩) with ⟨v, vm₁, ⟨U', l2, c2, s2⟩, hW₁, X', ⟨g', mk, t, L, e1, e2, hq, h1, hL, h2, h3⟩, st⟩ | ⟨q, vm₁, ⟨U', l2, c2, s2⟩, hW₁, X', ⟨g', mk, t, L, E, ce, e1, e2, hq, hce, hcv, hcl, h1, hL, h2, h3⟩, st⟩
  · dsimp only [Pt.U, Pt.locs, Pt.cells, Pt.slots] at X' e1 e2 h1 h2 h3 st
    subst h1; subst h2; subst h3
    exact Or.inl ⟨v, (T.setVm vm₁).calling g' mk As.toArray, t, U', L, hT, X', hL, e1, e2, hq, st⟩
  · dsimp only [Pt.U, Pt.locs, Pt.cells, Pt.slots] at X' e1 e2 h1 h2 h3 st hcl
    subst h1; subst h2; subst h3
    exact Or.inr ⟨q, (T.setVm vm₁).calling g' mk As.toArray, t, U', L, E, ce, hT, X', hL, e1, e2, hq, hce, hcv, vx_cls hW₁ hcl, st⟩
end
/-! ===== END ===== -/
end
section
/-! the rows over whole numbers: ints and longs as Int32.ofInt z, Int64.ofInt z; a world as a finite map from places (Nat) to cells -/
abbrev zr (z : Int) : Prop := -2147483648 ≤ z ∧ z ≤ 2147483647
abbrev zR (z : Int) : Prop := -9223372036854775808 ≤ z ∧ z ≤ 9223372036854775807
theorem zr_i {z : Int} (h : zr z) : (Int32.ofInt z).toInt = z := Int32.toInt_ofInt_of_le (by have := h.1; omega) (by have := h.2; omega)
theorem zR_l {z : Int} (h : zR z) : (Int64.ofInt z).toInt = z := Int64.toInt_ofInt_of_le (by have := h.1; omega) (by have := h.2; omega)
theorem zi_lt {a b : Int} (ha : zr a) (hb : zr b) : Int32.ofInt a < Int32.ofInt b ↔ a < b := by rw [Int32.lt_iff_toInt_lt, zr_i ha, zr_i hb]
theorem zi_le {a b : Int} (ha : zr a) (hb : zr b) : Int32.ofInt a ≤ Int32.ofInt b ↔ a ≤ b := by rw [Int32.le_iff_toInt_le, zr_i ha, zr_i hb]
theorem zi_eq {a b : Int} (ha : zr a) (hb : zr b) : Int32.ofInt a = Int32.ofInt b ↔ a = b := by rw [← Int32.toInt_inj, zr_i ha, zr_i hb]
theorem zl_lt {a b : Int} (ha : zR a) (hb : zR b) : Int64.ofInt a < Int64.ofInt b ↔ a < b := by rw [Int64.lt_iff_toInt_lt, zR_l ha, zR_l hb]
theorem zl_le {a b : Int} (ha : zR a) (hb : zR b) : Int64.ofInt a ≤ Int64.ofInt b ↔ a ≤ b := by rw [Int64.le_iff_toInt_le, zR_l ha, zR_l hb]
theorem zl_eq {a b : Int} (ha : zR a) (hb : zR b) : Int64.ofInt a = Int64.ofInt b ↔ a = b := by rw [← Int64.toInt_inj, zR_l ha, zR_l hb]
theorem zi_0 : (0 : Int32) = Int32.ofInt 0 := rfl
theorem zr_0 : zr 0 := ⟨by omega, by omega⟩
theorem zi_any (x : Int32) : ∃ z : Int, zr z ∧ x = Int32.ofInt z := ⟨x.toInt, ⟨by have := x.le_toInt; omega, by have := x.toInt_lt; omega⟩, (Int32.ofInt_toInt x).symm⟩
theorem zi_div {a b : Int} (ha : zr a) (hb : zr b) : Int32.ofInt a / Int32.ofInt b = Int32.ofInt (a.tdiv b) := by
  rw [← Int32.toInt_inj, Int32.toInt_div, zr_i ha, zr_i hb, Int32.toInt_ofInt]
theorem zl_div {a b : Int} (ha : zR a) (hb : zR b) : Int64.ofInt a / Int64.ofInt b = Int64.ofInt (a.tdiv b) := by
  rw [← Int64.toInt_inj, Int64.toInt_div, zR_l ha, zR_l hb, Int64.toInt_ofInt]
theorem zi_i2l {a : Int} (ha : zr a) : (Int32.ofInt a).toInt64 = Int64.ofInt a := by
  rw [← Int64.toInt_inj, Int32.toInt_toInt64, zr_i ha, zR_l ⟨by have := ha.1; omega, by have := ha.2; omega⟩]
theorem zi_l2i {a : Int} (ha : zR a) : (Int64.ofInt a).toInt32 = Int32.ofInt a := by
  rw [← Int32.toInt_inj, Int64.toInt_toInt32, zR_l ha, Int32.toInt_ofInt]
theorem zi_ix {i : Int} {n : Nat} (h0 : 0 ≤ i) (h1 : i < n) (hn : n < 2147483648) : vp_in (Int32.ofInt i) n := by
  rw [vp_in_iff, zr_i ⟨by omega, by omega⟩]; exact ⟨h0, h1⟩
theorem zi_cl {i : Int} (h0 : 0 ≤ i) (h1 : i < 2147483648) : (Int32.ofInt i).toNatClampNeg = i.toNat := Int32.toNatClampNeg_ofInt_of_le (by omega) (by omega)
/-- arrays: their contents over whole numbers -/
abbrev zfi (f : Int → Int) : Nat → Int32 := fun k => Int32.ofInt (f (k : Int))
abbrev zfl (f : Int → Int) : Nat → Int64 := fun k => Int64.ofInt (f (k : Int))
def zup (f : Int → Int) (k v : Int) : Int → Int := fun j => if j = k then v else f j
theorem zup_s (f : Int → Int) (k v : Int) : zup f k v k = v := by simp [zup]
theorem zup_n (f : Int → Int) {k j : Int} (v : Int) (h : j ≠ k) : zup f k v j = f j := by simp [zup, h]
theorem zup_i (f : Int → Int) {i : Int} (v : Int) (h0 : 0 ≤ i) (h1 : i < 2147483648) : upd (zfi f) (Int32.ofInt i).toNatClampNeg (Int32.ofInt v) = zfi (zup f i v) := by
  rw [zi_cl h0 h1]; funext j; unfold upd zfi zup
  by_cases h : j = i.toNat
  · rw [if_pos h, if_pos (by omega)]
  · rw [if_neg h, if_neg (by omega)]
theorem zup_l (f : Int → Int) {i : Int} (v : Int) (h0 : 0 ≤ i) (h1 : i < 2147483648) : vp_updL (zfl f) (Int32.ofInt i).toNatClampNeg (Int64.ofInt v) = zfl (zup f i v) := by
  rw [zi_cl h0 h1]; funext j; unfold vp_updL zfl zup
  by_cases h : j = i.toNat
  · rw [if_pos h, if_pos (by omega)]
  · rw [if_neg h, if_neg (by omega)]
theorem zat_i (f : Int → Int) {i : Int} (h0 : 0 ≤ i) (h1 : i < 2147483648) : zfi f (Int32.ofInt i).toNatClampNeg = Int32.ofInt (f i) := by
  rw [zi_cl h0 h1]; unfold zfi; rw [Int.toNat_of_nonneg h0]
theorem zat_l (f : Int → Int) {i : Int} (h0 : 0 ≤ i) (h1 : i < 2147483648) : zfl f (Int32.ofInt i).toNatClampNeg = Int64.ofInt (f i) := by
  rw [zi_cl h0 h1]; unfold zfl; rw [Int.toNat_of_nonneg h0]
/-- truth as a number -/
abbrev zb (c : Prop) [Decidable c] : Int := if c then 1 else 0
/-- the world -/
abbrev zG : Type := va_G × (ClassId × ClassId × ClassId × ClassId) × (Nat → Nat)
abbrev zty (G : zG) : List (ClassId × FieldType) := [(G.2.1.1, .int), (G.2.1.2.1, .long), (G.2.1.2.2.1, .boolean), (G.2.1.2.2.2, .object "PileMoves$Pile")]
abbrev zI (G : zG) (n : Nat) (f : Int → Int) : va_E := .inl (G.2.1.1, n, .inl (zfi f))
abbrev zL (G : zG) (n : Nat) (f : Int → Int) : va_E := .inl (G.2.1.2.1, n, .inr (.inl (zfl f)))
abbrev zZ (G : zG) (n : Nat) (f : Int → Int) : va_E := .inl (G.2.1.2.2.1, n, .inl (zfi f))
abbrev zP (G : zG) (n : Nat) (f : Int → Option Nat) : va_E := .inl (G.2.1.2.2.2, n, .inr (.inr (.inr (.inr (fun k : Nat => f (k : Int))))))
abbrev zi (z : Int) : Value := .int (Int32.ofInt z)
abbrev zl (z : Int) : Value := .long (Int64.ofInt z)
abbrev zws (I : List Nat) (ad : Nat → Nat) (ct : Nat → va_E) : va_W := I.map (fun k => (ad k, ct k))
def zU (ct : Nat → va_E) (k : Nat) (e : va_E) : Nat → va_E := fun j => if j = k then e else ct j
theorem zU_s (ct : Nat → va_E) (k : Nat) (e : va_E) : zU ct k e k = e := by simp [zU]
theorem zU_n {ct : Nat → va_E} {k j : Nat} {e e2 : va_E} (h : j ≠ k) (h2 : ct j = e2) : zU ct k e j = e2 := by simp [zU, h, h2]
def zIn (G : zG) (I : List Nat) (ad : Nat → Nat) (ct : Nat → va_E) (H : Heap) : Prop := va_P G.1 vwCl (zws I ad ct) H ∧ I.Nodup ∧ ∀ i ∈ I, ∀ j ∈ I, ad i = ad j → i = j
def zA (I : List Nat) (ad : Nat → Nat) (sz : Nat) : Nat → Prop := fun q => (∃ k ∈ I, q = ad k) ∨ sz ≤ q
def zW (G : zG) (A : Nat → Prop) (H0 H : Heap) (locs : List Loc) (I : List Nat) (ad : Nat → Nat) (ct : Nat → va_E) : Prop :=
  zIn G I ad ct H ∧ (∀ k ∈ I, A (ad k)) ∧ va_S A H0 H locs ∧ ∀ q, H0.size ≤ q → A q
theorem zws_at {I : List Nat} {ad : Nat → Nat} {ct : Nat → va_E} {i : Nat} {q : Nat × va_E} (h : (zws I ad ct)[i]? = some q) : ∃ k, I[i]? = some k ∧ q = (ad k, ct k) := by
  rw [List.getElem?_map] at h
  cases hb : I[i]? with
  | none => rw [hb] at h; cases h
  | some b => rw [hb] at h; exact ⟨b, rfl, (Option.some.inj h).symm⟩
theorem zws_of {I : List Nat} {ad : Nat → Nat} {ct : Nat → va_E} {i k : Nat} (h : I[i]? = some k) : (zws I ad ct)[i]? = some (ad k, ct k) := by
  rw [List.getElem?_map, h]; rfl
theorem zIn.D {G : zG} {I : List Nat} {ad : Nat → Nat} {ct : Nat → va_E} {H : Heap} {A : Nat → Prop} (h : zIn G I ad ct H) (hA : ∀ k ∈ I, A (ad k)) : va_D A (zws I ad ct) := by
  refine ⟨fun i j p q hi hj e => ?_, fun k q hk => ?_⟩
  · obtain ⟨a, ha, rfl⟩ := zws_at hi
    obtain ⟨b, hb, rfl⟩ := zws_at hj
    have hab : a = b := h.2.2 a (List.mem_of_getElem? ha) b (List.mem_of_getElem? hb) e
    subst hab
    exact (List.getElem?_inj (List.getElem?_eq_some_iff.mp ha).1 h.2.1).mp (ha.trans hb.symm)
  · obtain ⟨a, ha, rfl⟩ := zws_at hk
    exact hA a (List.mem_of_getElem? ha)
theorem zIn.lt {G : zG} {I : List Nat} {ad : Nat → Nat} {ct : Nat → va_E} {H : Heap} (h : zIn G I ad ct H) {k : Nat} (hk : k ∈ I) : ad k < H.size := by
  obtain ⟨i, hi⟩ := List.getElem?_of_mem hk
  exact (h.1 i _ (zws_of hi)).lt
/-- one cell alone -/
theorem zIn.one {G : zG} {I : List Nat} {ad : Nat → Nat} {ct : Nat → va_E} {H : Heap} (h : zIn G I ad ct H) {k : Nat} (hk : k ∈ I) {e : va_E} (he : ct k = e) : va_P G.1 vwCl [(ad k, e)] H := by
  obtain ⟨i, hi⟩ := List.getElem?_of_mem hk
  have h1 := h.1 i _ (zws_of hi)
  rw [he] at h1
  intro j q hj
  cases j with
  | zero => cases hj; exact h1
  | succ j => simp at hj
theorem zws_set {I : List Nat} {ad : Nat → Nat} {ct : Nat → va_E} {i k : Nat} (hn : I.Nodup) (hi : I[i]? = some k) (e : va_E) : (zws I ad ct).set i (ad k, e) = zws I ad (zU ct k e) := by
  apply List.ext_getElem?
  intro j
  have hl : i < (zws I ad ct).length := by rw [List.length_map]; exact (List.getElem?_eq_some_iff.mp hi).1
  by_cases hj : j = i
  · subst hj
    rw [List.getElem?_set_self hl, zws_of hi, zU_s]
  · rw [List.getElem?_set_ne (Ne.symm hj), List.getElem?_map, List.getElem?_map]
    cases hb : I[j]? with
    | none => rfl
    | some b =>
      have hne : b ≠ k := fun q => hj ((List.getElem?_inj (List.getElem?_eq_some_iff.mp hb).1 hn).mp (by rw [hb, hi, q]))
      simp [zU, hne]
/-- a cell written anew -/
theorem zW.put {G : zG} {A : Nat → Prop} {H0 H H1 : Heap} {locs locs1 : List Loc} {I : List Nat} {ad : Nat → Nat} {ct : Nat → va_E} {i k : Nat} {e : va_E} (h : zW G A H0 H locs I ad ct) (hi : I[i]? = some k) (hP : va_P G.1 vwCl ((zws I ad ct).set i (ad k, e)) H1) (hS : va_S A H0 H1 locs1) : zW G A H0 H1 locs1 I ad (zU ct k e) := by
  rw [zws_set h.1.2.1 hi] at hP
  exact ⟨⟨hP, h.1.2⟩, h.2.1, hS, h.2.2.2⟩
/-- a new cell at a new place -/
theorem zws_push {I : List Nat} {ad : Nat → Nat} {ct : Nat → va_E} {k : Nat} (hk : k ∉ I) (e : va_E) : zws I ad ct ++ [(ad k, e)] = zws (I ++ [k]) ad (zU ct k e) := by
  unfold zws
  rw [List.map_append]
  congr 1
  · apply List.map_congr_left
    intro b hb
    have hne : b ≠ k := fun z => hk (z ▸ hb)
    simp [zU, hne]
  · simp [zU]
theorem zW.push {G : zG} {A : Nat → Prop} {H0 H H1 : Heap} {locs locs1 : List Loc} {I : List Nat} {ad : Nat → Nat} {ct : Nat → va_E} {k : Nat} {e : va_E} (h : zW G A H0 H locs I ad ct) (hk : k ∉ I) (hP : va_P G.1 vwCl (zws I ad ct ++ [(ad k, e)]) H1) (hD : va_D A (zws I ad ct ++ [(ad k, e)])) (hS : va_S A H0 H1 locs1) : zW G A H0 H1 locs1 (I ++ [k]) ad (zU ct k e) := by
  rw [zws_push hk] at hP hD
  refine ⟨⟨hP, ?_, ?_⟩, ?_, hS, h.2.2.2⟩
  · rw [List.nodup_append]
    exact ⟨h.1.2.1, List.nodup_cons.mpr ⟨List.not_mem_nil, List.nodup_nil⟩, fun a ha b hb z => by rw [List.mem_singleton.mp hb] at z; exact hk (z ▸ ha)⟩
  · intro i hi j hj hij
    obtain ⟨a, ha⟩ := List.getElem?_of_mem hi
    obtain ⟨b, hb⟩ := List.getElem?_of_mem hj
    have := hD.1 a b _ _ (zws_of ha) (zws_of hb) hij
    subst this
    exact Option.some.inj (ha.symm.trans hb)
  · intro i hi
    obtain ⟨a, ha⟩ := List.getElem?_of_mem hi
    exact hD.2 a _ (zws_of ha)
/-! what a state says of the classes, the strings, the statics that a throw reads -/
def zS (sa : Nat → Nat) (U : State) : Prop := (va_Nw (.declares (Bundle.initS "java/lang/RuntimeException")) U ∧ va_Nw (.declares (Bundle.initS "java/lang/Exception")) U ∧ va_Nw (.declares (Bundle.initS "java/lang/Throwable")) U) ∧
  va_Nw (.castable "java/lang/IllegalArgumentException" "java/lang/IllegalArgumentException") U ∧ va_Nw (.castable "java/lang/IllegalStateException" "java/lang/IllegalStateException") U ∧
  va_Nw (.methodLinkNest RX3 17 yX2_init RX3) U ∧ va_Nw (.methodLinkNest RX2 35 yX3_clamp RX3) U ∧ va_Nw (.methodLinkNest RX0 94 yX3_clamp RX3) U ∧
  va_Nc "java/lang/IllegalArgumentException" "java/lang/IllegalStateException" U ∧ va_Nc "java/lang/IllegalStateException" "java/lang/IllegalArgumentException" U ∧
  vk_R RX3 138 "a number is out of its bounds" (sa 0) U ∧ vk_R RX3 40 "there are as many piles as there may be" (sa 1) U ∧ vk_R RX3 144 "there is no such pile" (sa 2) U ∧ vk_R RX3 146 "the group is empty" (sa 3) U ∧ vk_R RX3 114 "the pile is not in the group" (sa 4) U ∧ vk_R RX3 129 "there was no blow" (sa 5) U
theorem zS.warm {sa : Nat → Nat} {s U : State} (hW : s.WarmedH U.vm) (h : zS sa s) : zS sa U := by
  obtain ⟨⟨d1, d2, d3⟩, a1, a2, a3, a4, a5, a6, a7, b0, b1, b2, b3, b4, b5⟩ := h
  exact ⟨⟨va_Nw.warmD hW d1, va_Nw.warmD hW d2, va_Nw.warmD hW d3⟩, va_Nw.warmC hW a1, va_Nw.warmC hW a2, va_Nw.warmM hW a3, va_Nw.warmM hW a4, va_Nw.warmM hW a5, va_Nc.moved hW.alike a6, va_Nc.moved hW.alike a7, b0.warm hW, b1.warm hW, b2.warm hW, b3.warm hW, b4.warm hW, b5.warm hW⟩
theorem zS.same {sa : Nat → Nat} {s U : State} (hv : s.vm = U.vm) (h : zS sa s) : zS sa U := by
  have hW : s.WarmedH U.vm := by rw [← hv]; exact State.WarmedH.refl s
  exact zS.warm hW h
def zBad (cls : String) : List Cond := [.castable cls cls, .declares (Bundle.initS "java/lang/RuntimeException"), .declares (Bundle.initS "java/lang/Exception"), .declares (Bundle.initS "java/lang/Throwable")]
theorem zS.badA {sa : Nat → Nat} {s : State} {args : Array Value} (h : zS sa s) : ∀ w ∈ zBad "java/lang/IllegalArgumentException", w.before args s = true :=
  List.forall_mem_cons.mpr ⟨va_Nw.use rfl h.2.1, List.forall_mem_cons.mpr ⟨va_Nw.use rfl h.1.1, List.forall_mem_cons.mpr ⟨va_Nw.use rfl h.1.2.1, List.forall_mem_cons.mpr ⟨va_Nw.use rfl h.1.2.2, fun _ h => absurd h List.not_mem_nil⟩⟩⟩⟩
theorem zS.badS {sa : Nat → Nat} {s : State} {args : Array Value} (h : zS sa s) : ∀ w ∈ zBad "java/lang/IllegalStateException", w.before args s = true :=
  List.forall_mem_cons.mpr ⟨va_Nw.use rfl h.2.2.1, List.forall_mem_cons.mpr ⟨va_Nw.use rfl h.1.1, List.forall_mem_cons.mpr ⟨va_Nw.use rfl h.1.2.1, List.forall_mem_cons.mpr ⟨va_Nw.use rfl h.1.2.2, fun _ h => absurd h List.not_mem_nil⟩⟩⟩⟩
/-- .. and of the heap's statics that no cell of A is -/
def zK (G : zG) (A : Nat → Prop) (U : State) (H : Heap) : Prop :=
  va_K G.1 vwCl (zty G) U ∧ zS G.2.2 U ∧ vx_Zq Bundle.tN "UNASSIGNED_STACK" Bundle.steD A U H ∧ vx_Zq Bundle.tN "SUPPRESSED_SENTINEL" Bundle.listD A U H
theorem zK.blind {G : zG} {A : Nat → Prop} {U : State} (g : JFrame) (mk : MethodId) (a : Array Value) (h : zK G A U U.heap) : zK G A (U.calling g mk a) (U.calling g mk a).heap :=
  ⟨va_K.moved (u := U) (U := U.calling g mk a) (Vm.Alike.refl U.vm) h.1, zS.same (U := U.calling g mk a) rfl h.2.1, vx_Zq.moved (u := U) (U := U.calling g mk a) (Vm.Alike.refl U.vm) h.2.2.1, vx_Zq.moved (u := U) (U := U.calling g mk a) (Vm.Alike.refl U.vm) h.2.2.2⟩
/-- a method's start -/
def zPc (G : zG) (av : List Value) (I : List Nat) (ad : Nat → Nat) (ct : Nat → va_E) (sz : Nat) : Array Value → State → Prop :=
  va_Pc av (fun U => U.heap.size = sz ∧ zIn G I ad ct U.heap ∧ zK G (zA I ad sz) U U.heap)
/-- its end: what it answers, the world's places, addresses, cells -/
abbrev zT : Type := List Nat × (Nat → va_E) × Nat
def zQ (G : zG) (A : Nat → Prop) (ad : Nat → Nat) (post : Option Value → zT → Prop) : Array Value → State → Outcome → State → Prop := fun _ st oc t =>
  (∃ (v : Option Value) (u : zT), oc = .returned v ∧ post v u ∧ zIn G u.1 ad u.2.1 t.heap ∧ (∀ k ∈ u.1, A (ad k)) ∧ t.heap.size = u.2.2) ∧ va_F A st t
def zX (G : zG) (A : Nat → Prop) (I : List Nat) (ad : Nat → Nat) (ct : Nat → va_E) (thr : String → Prop) : String → State → State → Prop := fun E st t => thr E ∧ zIn G I ad ct t.heap ∧ va_F A st t
def zN (l : Launch) (y : MethodName) (ws : List Cond) (fr lo mc ms : Nat) (G : zG) (av : List Value) (I : List Nat) (ad : Nat → Nat) (ct : Nat → va_E) (thr : String → Prop) (sz : Nat) (post : Option Value → zT → Prop) : Prop :=
  vx_Met l y ws { frames := fr, cells := mc, slots := ms, locals := lo } (zPc G av I ad ct sz) (zQ G (zA I ad sz) ad post) (zX G (zA I ad sz) I ad ct thr) mc ms (zA I ad sz)
/-- methods that make no cell of the world -/
def zk (I : List Nat) (post : Option Value → (Nat → va_E) → Prop) : Option Value → zT → Prop := fun v u => u.1 = I ∧ post v u.2.1
abbrev zM (l : Launch) (y : MethodName) (ws : List Cond) (fr lo mc ms : Nat) (G : zG) (av : List Value) (I : List Nat) (ad : Nat → Nat) (ct : Nat → va_E) (thr : String → Prop) (post : Option Value → (Nat → va_E) → Prop) : Prop :=
  ∀ sz : Nat, zN l y ws fr lo mc ms G av I ad ct thr sz (zk I post)
def zqi (P : Int → (Nat → va_E) → Prop) : Option Value → (Nat → va_E) → Prop := fun v u => ∃ z, v = some (zi z) ∧ P z u
def zql (P : Int → (Nat → va_E) → Prop) : Option Value → (Nat → va_E) → Prop := fun v u => ∃ z, v = some (zl z) ∧ P z u
def zqv (P : (Nat → va_E) → Prop) : Option Value → (Nat → va_E) → Prop := fun v u => v = none ∧ P u
def zqa (P : Nat → (Nat → va_E) → Prop) : Option Value → (Nat → va_E) → Prop := fun v u => ∃ z, v = some (.ref z) ∧ P z u
def zno : String → Prop := fun _ => False
abbrev zIA : String := "java/lang/IllegalArgumentException"
abbrev zIS : String := "java/lang/IllegalStateException"
theorem zPc.blind {G : zG} {av : List Value} {I : List Nat} {ad : Nat → Nat} {ct : Nat → va_E} {sz : Nat} : FrameBlind (zPc G av I ad ct sz) := fun a U g mk q => by
  obtain ⟨h1, h2, h3, h4⟩ := q
  exact ⟨h1, h2, h3, h4.blind g mk a⟩
/-- what a walk knows all the way -/
def zF (l : Launch) (p : Program) (m : MethodId) (c : Code) (cc : ByteArray) (nL : Nat) (s : State) (args : Array Value) (Ts : List Cond) (own : String) (meth : Method) (G : zG) (A : Nat → Prop) : Prop :=
  p.tables.exec = Jvm.exec ∧ c.code = cc ∧ c.maxLocals = nL ∧ s.vm.findClass own = some m.cls ∧ (∀ w ∈ Ts, w.before args s = true) ∧ zK G A s s.heap ∧ meth.locks = false ∧ l.stackTraces = false
/-- vx_ofW, for any method that no native stands for -/
theorem z_ofWF {l : Launch} {y : MethodName} {ws ws' : List Cond} {rm : Room} {Pc : Array Value → State → Prop} {Qc : Array Value → State → Outcome → State → Prop} {XC : String → State → State → Prop} {mc ms : Nat} {free : Addr → Prop} {cc : ByteArray} {maxL : Nat} {ret : Option FieldType}
    (hy : plainFor y = true) (hw : ws = Cond.code y cc maxL ret :: ws')
    (body : ∀ p e s m args below meth c s₁, BodyLoose p l y (headSpec ws rm) cc maxL ret e s m args below meth c s₁ → c.maxLocals = maxL → (∀ x ∈ c.exceptionTable.toList, False) → Pc args s →
      W p l e (headSpec ws rm).room s m args below meth c s.heap [] 0 0 (vx_MQ below Qc XC args s mc ms free) (entryFrame m args maxL)) : vx_Met l y ws rm Pc Qc XC mc ms free := by
  refine MetFree.of_bodySF (code := cc) (maxLocals := maxL) (ret := ret) hy ?_ ?_
  · intro args s m h hn
    obtain ⟨meth, c, h1, h2, h3, h4, h5, h6, -, -⟩ := Cond.code_spec hn (atoms_spec (ws := ws) h _ (by rw [hw]; exact List.mem_cons_self))
    exact ⟨meth, c, h1, h2, h3, h4, h5, h6⟩
  · intro p e s m args below meth c s₁ B hml hP _
    have hh0 : s₁.heap = s.heap := by rw [B.state]; rfl
    have ht : ∀ x ∈ c.exceptionTable.toList, False := by
      obtain ⟨meth9, c9, h1, h2, -, -, -, -, h7, -⟩ := Cond.code_spec B.named (atoms_spec (ws := ws) B.pre _ (by rw [hw]; exact List.mem_cons_self))
      cases Option.some.inj (h1.symm.trans B.method)
      cases Option.some.inj (h2.symm.trans (Stand.of_body B).code)
      intro x hx
      rw [Array.isEmpty_iff.mp h7] at hx
      cases hx
    obtain ⟨t, a1, o, b1, b2, b3⟩ := body p e s m args below meth c s₁ B hml ht hP s₁ hh0 (Stand.of_body B)
    exact ⟨t, o, a1, b1, b2, b3⟩
section ZB
variable {p : Program} {l : Launch} {e : Env} {R : Room} {s : State} {m : MethodId} {args : Array Value} {below : List Frame} {meth : Method} {c : Code} {H : Heap} {locs : List Loc} {cells slots : Nat} {Q : State → Prop}
variable {cc : ByteArray} {nL : Nat} {Ts : List Cond} {own : String} {G : zG} {A : Nat → Prop}
/-- a method, from its entry -/
theorem z_ofW {y : MethodName} {ws ws' : List Cond} {fr lo mc ms : Nat} {av : List Value} {I : List Nat} {ad : Nat → Nat} {ct : Nat → va_E} {thr : String → Prop} {sz : Nat} {post : Option Value → zT → Prop} {ret : Option FieldType} (hl : l.stackTraces = false) (hy : plainFor y = true) (hw : ws = Cond.code y cc nL ret :: ws') (hn : (lg_sl av).length ≤ nL)
    (body : ∀ (p : Program) (e : Env) (s : State) (m : MethodId) (args : Array Value) (below : List Frame) (meth : Method) (c : Code) (A : Nat → Prop) (ls : Array Slot), A = zA I ad sz → s.heap.size = sz → zF l p m c cc nL s args ws y.cls meth G A → meth.sig.returnType = ret → (∀ x ∈ c.exceptionTable.toList, False) → meth.name = y.name → zW G A s.heap s.heap [] I ad ct → lv_has ls nL (lv_args 0 av) →
      W p l e { frames := fr, cells := mc, slots := ms, locals := lo } s m args below meth c s.heap [] 0 0 (vx_MQ below (zQ G A ad post) (zX G A I ad ct thr) args s mc ms A) (F0 m 0 ls [])) : zN l y ws fr lo mc ms G av I ad ct thr sz post := by
  refine z_ofWF hy hw ?_
  intro p e s m args below meth c s₁ B hml ht hP
  obtain ⟨rfl, hsz, hin, hK⟩ := hP
  subst hsz
  have h0 := lv_entry av (n := nL) hn
  rw [lg_entry_eq]
  refine body p e s m _ below meth c (zA I ad s.heap.size) _ rfl rfl ⟨B.exec, B.bytes, hml, findClass_of_methodNamed B.named, atoms_spec (ws := ws) B.pre, hK, B.notSynchronized, hl⟩ B.returns ht ((name_of_methodNamed B.named B.method).1) ?_ h0
  exact ⟨hin, fun k hk => Or.inl ⟨k, hk, rfl⟩, va_S.rf, fun q hq => Or.inr hq⟩
end ZB
end
section
/-! one row an instruction, over whole numbers -/
section ZR
variable {p : Program} {l : Launch} {e : Env} {R : Room} {s : State} {m : MethodId} {args : Array Value} {below : List Frame} {meth : Method} {c : Code} {H : Heap} {locs : List Loc} {cells slots : Nat} {Q : State → Prop}
variable {cc : ByteArray} {pc : Nat} {ls : Array Slot} {rest : List Value}
theorem z_ic (hx : p.tables.exec = Jvm.exec) (hb : c.code = cc) {n : Int} (hdg : decode cc pc = .ok (.iconst n, 1)) (k : W p l e R s m args below meth c H locs cells slots Q (F0 m (pc + 1) ls (zi n :: rest))) : W p l e R s m args below meth c H locs cells slots Q (F0 m pc ls rest) := lv_iconst hx hb hdg rfl k
theorem z_bi (hx : p.tables.exec = Jvm.exec) (hb : c.code = cc) {n : Int} (hdg : decode cc pc = .ok (.bipush n, 2)) (hv : (Int8.ofInt n).toInt32 = Int32.ofInt n) (k : W p l e R s m args below meth c H locs cells slots Q (F0 m (pc + 2) ls (zi n :: rest))) : W p l e R s m args below meth c H locs cells slots Q (F0 m pc ls rest) := lv_bipush hx hb hdg hv k
theorem z_si (hx : p.tables.exec = Jvm.exec) (hb : c.code = cc) {n : Int} (hdg : decode cc pc = .ok (.sipush n, 3)) (hv : (Int16.ofInt n).toInt32 = Int32.ofInt n) (k : W p l e R s m args below meth c H locs cells slots Q (F0 m (pc + 3) ls (zi n :: rest))) : W p l e R s m args below meth c H locs cells slots Q (F0 m pc ls rest) := lv_sipush hx hb hdg hv k
theorem z_lc0 (hx : p.tables.exec = Jvm.exec) (hb : c.code = cc) (hdg : decode cc pc = .ok (.lconst 0, 1)) (k : W p l e R s m args below meth c H locs cells slots Q (F0 m (pc + 1) ls (zl 0 :: rest))) : W p l e R s m args below meth c H locs cells slots Q (F0 m pc ls rest) := lv_lconst hx hb hdg rfl k
theorem z_lc1 (hx : p.tables.exec = Jvm.exec) (hb : c.code = cc) (hdg : decode cc pc = .ok (.lconst 1, 1)) (k : W p l e R s m args below meth c H locs cells slots Q (F0 m (pc + 1) ls (zl 1 :: rest))) : W p l e R s m args below meth c H locs cells slots Q (F0 m pc ls rest) := lv_lconst hx hb hdg rfl k
theorem z_ldc (hx : p.tables.exec = Jvm.exec) (hb : c.code = cc) {own : String} {index : Nat} {v : Int32} {n : Int} (hown : s.vm.findClass own = some m.cls) (hc : (Jvm.Cond.constant own index v).before args s = true) (hv : v = Int32.ofInt n) (hdg : decode cc pc = .ok (.ldc index, 2)) (k : W p l e R s m args below meth c H locs cells slots Q (F0 m (pc + 2) ls (zi n :: rest))) : W p l e R s m args below meth c H locs cells slots Q (F0 m pc ls rest) := by
  subst hv; exact lv_ldc hx hb hown hc hdg k
theorem z_ldc2 (hx : p.tables.exec = Jvm.exec) (hb : c.code = cc) {own : String} {index : Nat} {v : Int64} {n : Int} (hown : s.vm.findClass own = some m.cls) (hc : (Jvm.Cond.constantLong own index v).before args s = true) (hv : v = Int64.ofInt n) (hdg : decode cc pc = .ok (.ldc2_w index, 3)) (k : W p l e R s m args below meth c H locs cells slots Q (F0 m (pc + 3) ls (zl n :: rest))) : W p l e R s m args below meth c H locs cells slots Q (F0 m pc ls rest) := by
  subst hv; exact lv_ldc2 hx hb hown hc hdg k
theorem z_iinc (hx : p.tables.exec = Jvm.exec) (hb : c.code = cc) {i nL k : Nat} {n z : Int} {lv lv' : List (Nat × Value)} (hdg : decode cc pc = .ok (.iinc i n, 3)) (h : lv_has ls nL lv) (hk : lv[k]? = some (i, zi z)) (hn : i < nL) (hl : (i, zi (z + n)) :: lv.filter (fun q => !(q.1 == i) && !(q.1 + 1 == i && q.2.category == 2)) = lv')
    (kk : ∀ ls' : Array Slot, lv_has ls' nL lv' → W p l e R s m args below meth c H locs cells slots Q (F0 m (pc + 3) ls' rest)) : W p l e R s m args below meth c H locs cells slots Q (F0 m pc ls rest) :=
  lv_iinc hx hb hdg h hk (Int32.ofInt_add z n).symm hn hl kk
theorem z_iadd (hx : p.tables.exec = Jvm.exec) (hb : c.code = cc) {a b : Int} (hdg : decode cc pc = .ok (.iadd, 1)) (k : W p l e R s m args below meth c H locs cells slots Q (F0 m (pc + 1) ls (zi (a + b) :: rest))) : W p l e R s m args below meth c H locs cells slots Q (F0 m pc ls (zi b :: zi a :: rest)) := lv_iadd hx hb hdg (by rw [← Int32.ofInt_add]; exact k)
theorem z_isub (hx : p.tables.exec = Jvm.exec) (hb : c.code = cc) {a b : Int} (hdg : decode cc pc = .ok (.isub, 1)) (k : W p l e R s m args below meth c H locs cells slots Q (F0 m (pc + 1) ls (zi (a - b) :: rest))) : W p l e R s m args below meth c H locs cells slots Q (F0 m pc ls (zi b :: zi a :: rest)) := lv_isub hx hb hdg (by rw [← Int32.ofInt_sub]; exact k)
theorem z_imul (hx : p.tables.exec = Jvm.exec) (hb : c.code = cc) {a b : Int} (hdg : decode cc pc = .ok (.imul, 1)) (k : W p l e R s m args below meth c H locs cells slots Q (F0 m (pc + 1) ls (zi (a * b) :: rest))) : W p l e R s m args below meth c H locs cells slots Q (F0 m pc ls (zi b :: zi a :: rest)) := lv_imul hx hb hdg (by rw [← Int32.ofInt_mul]; exact k)
theorem z_ineg (hx : p.tables.exec = Jvm.exec) (hb : c.code = cc) {a : Int} (hdg : decode cc pc = .ok (.ineg, 1)) (k : W p l e R s m args below meth c H locs cells slots Q (F0 m (pc + 1) ls (zi (-a) :: rest))) : W p l e R s m args below meth c H locs cells slots Q (F0 m pc ls (zi a :: rest)) := lv_ineg hx hb hdg (by rw [← Int32.ofInt_neg]; exact k)
theorem z_idiv (hx : p.tables.exec = Jvm.exec) (hb : c.code = cc) {a b : Int} (hdg : decode cc pc = .ok (.idiv, 1)) (ha : zr a) (hb2 : zr b) (h0 : b ≠ 0) (k : W p l e R s m args below meth c H locs cells slots Q (F0 m (pc + 1) ls (zi (a.tdiv b) :: rest))) : W p l e R s m args below meth c H locs cells slots Q (F0 m pc ls (zi b :: zi a :: rest)) :=
  lv_idiv hx hb hdg (fun h => h0 ((zi_eq hb2 zr_0).mp h)) (by rw [zi_div ha hb2]; exact k)
theorem z_ladd (hx : p.tables.exec = Jvm.exec) (hb : c.code = cc) {a b : Int} (hdg : decode cc pc = .ok (.ladd, 1)) (k : W p l e R s m args below meth c H locs cells slots Q (F0 m (pc + 1) ls (zl (a + b) :: rest))) : W p l e R s m args below meth c H locs cells slots Q (F0 m pc ls (zl b :: zl a :: rest)) := lv_ladd hx hb hdg (by rw [← Int64.ofInt_add]; exact k)
theorem z_lsub (hx : p.tables.exec = Jvm.exec) (hb : c.code = cc) {a b : Int} (hdg : decode cc pc = .ok (.lsub, 1)) (k : W p l e R s m args below meth c H locs cells slots Q (F0 m (pc + 1) ls (zl (a - b) :: rest))) : W p l e R s m args below meth c H locs cells slots Q (F0 m pc ls (zl b :: zl a :: rest)) := lv_lsub hx hb hdg (by rw [← Int64.ofInt_sub]; exact k)
theorem z_lmul (hx : p.tables.exec = Jvm.exec) (hb : c.code = cc) {a b : Int} (hdg : decode cc pc = .ok (.lmul, 1)) (k : W p l e R s m args below meth c H locs cells slots Q (F0 m (pc + 1) ls (zl (a * b) :: rest))) : W p l e R s m args below meth c H locs cells slots Q (F0 m pc ls (zl b :: zl a :: rest)) := lv_lmul hx hb hdg (by rw [← Int64.ofInt_mul]; exact k)
theorem z_lneg (hx : p.tables.exec = Jvm.exec) (hb : c.code = cc) {a : Int} (hdg : decode cc pc = .ok (.lneg, 1)) (k : W p l e R s m args below meth c H locs cells slots Q (F0 m (pc + 1) ls (zl (-a) :: rest))) : W p l e R s m args below meth c H locs cells slots Q (F0 m pc ls (zl a :: rest)) := lv_lneg hx hb hdg (by rw [← Int64.ofInt_neg]; exact k)
theorem z_ldiv (hx : p.tables.exec = Jvm.exec) (hb : c.code = cc) {a b : Int} (hdg : decode cc pc = .ok (.ldiv, 1)) (ha : zR a) (hb2 : zR b) (h0 : b ≠ 0) (k : W p l e R s m args below meth c H locs cells slots Q (F0 m (pc + 1) ls (zl (a.tdiv b) :: rest))) : W p l e R s m args below meth c H locs cells slots Q (F0 m pc ls (zl b :: zl a :: rest)) :=
  lv_ldiv hx hb hdg (fun h => h0 ((zl_eq hb2 (show zR 0 from ⟨by omega, by omega⟩)).mp h)) (by rw [zl_div ha hb2]; exact k)
theorem z_i2l (hx : p.tables.exec = Jvm.exec) (hb : c.code = cc) {a : Int} (hdg : decode cc pc = .ok (.i2l, 1)) (ha : zr a) (k : W p l e R s m args below meth c H locs cells slots Q (F0 m (pc + 1) ls (zl a :: rest))) : W p l e R s m args below meth c H locs cells slots Q (F0 m pc ls (zi a :: rest)) := lv_i2l hx hb hdg (zi_i2l ha) k
theorem z_l2i (hx : p.tables.exec = Jvm.exec) (hb : c.code = cc) {a : Int} (hdg : decode cc pc = .ok (.l2i, 1)) (ha : zR a) (k : W p l e R s m args below meth c H locs cells slots Q (F0 m (pc + 1) ls (zi a :: rest))) : W p l e R s m args below meth c H locs cells slots Q (F0 m pc ls (zl a :: rest)) := lv_l2i hx hb hdg (zi_l2i ha) k
theorem z_icmp_lt (hx : p.tables.exec = Jvm.exec) (hb : c.code = cc) {a b : Int} {off : Int} {tgt : Nat} (hdg : decode cc pc = .ok (.if_icmp .lt off, 3)) (ht : (pc : Int) + off = (tgt : Int)) (ha : zr a) (hb2 : zr b)
    (kt : a < b → W p l e R s m args below meth c H locs cells slots Q (F0 m tgt ls rest)) (kf : ¬ (a < b) → W p l e R s m args below meth c H locs cells slots Q (F0 m (pc + 3) ls rest)) : W p l e R s m args below meth c H locs cells slots Q (F0 m pc ls (zi b :: zi a :: rest)) :=
  lv_icmp_lt hx hb hdg ht (fun h => kt ((zi_lt ha hb2).mp h)) (fun h => kf (fun q => h ((zi_lt ha hb2).mpr q)))
theorem z_icmp_ge (hx : p.tables.exec = Jvm.exec) (hb : c.code = cc) {a b : Int} {off : Int} {tgt : Nat} (hdg : decode cc pc = .ok (.if_icmp .ge off, 3)) (ht : (pc : Int) + off = (tgt : Int)) (ha : zr a) (hb2 : zr b)
    (kt : b ≤ a → W p l e R s m args below meth c H locs cells slots Q (F0 m tgt ls rest)) (kf : ¬ (b ≤ a) → W p l e R s m args below meth c H locs cells slots Q (F0 m (pc + 3) ls rest)) : W p l e R s m args below meth c H locs cells slots Q (F0 m pc ls (zi b :: zi a :: rest)) :=
  lv_icmp_ge hx hb hdg ht (fun h => kt ((zi_le hb2 ha).mp h)) (fun h => kf (fun q => h ((zi_le hb2 ha).mpr q)))
theorem z_icmp_gt (hx : p.tables.exec = Jvm.exec) (hb : c.code = cc) {a b : Int} {off : Int} {tgt : Nat} (hdg : decode cc pc = .ok (.if_icmp .gt off, 3)) (ht : (pc : Int) + off = (tgt : Int)) (ha : zr a) (hb2 : zr b)
    (kt : b < a → W p l e R s m args below meth c H locs cells slots Q (F0 m tgt ls rest)) (kf : ¬ (b < a) → W p l e R s m args below meth c H locs cells slots Q (F0 m (pc + 3) ls rest)) : W p l e R s m args below meth c H locs cells slots Q (F0 m pc ls (zi b :: zi a :: rest)) :=
  lv_icmp_gt hx hb hdg ht (fun h => kt ((zi_lt hb2 ha).mp h)) (fun h => kf (fun q => h ((zi_lt hb2 ha).mpr q)))
theorem z_icmp_le (hx : p.tables.exec = Jvm.exec) (hb : c.code = cc) {a b : Int} {off : Int} {tgt : Nat} (hdg : decode cc pc = .ok (.if_icmp .le off, 3)) (ht : (pc : Int) + off = (tgt : Int)) (ha : zr a) (hb2 : zr b)
    (kt : a ≤ b → W p l e R s m args below meth c H locs cells slots Q (F0 m tgt ls rest)) (kf : ¬ (a ≤ b) → W p l e R s m args below meth c H locs cells slots Q (F0 m (pc + 3) ls rest)) : W p l e R s m args below meth c H locs cells slots Q (F0 m pc ls (zi b :: zi a :: rest)) :=
  lv_icmp_le hx hb hdg ht (fun h => kt ((zi_le ha hb2).mp h)) (fun h => kf (fun q => h ((zi_le ha hb2).mpr q)))
theorem z_icmp_eq (hx : p.tables.exec = Jvm.exec) (hb : c.code = cc) {a b : Int} {off : Int} {tgt : Nat} (hdg : decode cc pc = .ok (.if_icmp .eq off, 3)) (ht : (pc : Int) + off = (tgt : Int)) (ha : zr a) (hb2 : zr b)
    (kt : a = b → W p l e R s m args below meth c H locs cells slots Q (F0 m tgt ls rest)) (kf : ¬ (a = b) → W p l e R s m args below meth c H locs cells slots Q (F0 m (pc + 3) ls rest)) : W p l e R s m args below meth c H locs cells slots Q (F0 m pc ls (zi b :: zi a :: rest)) :=
  lv_icmp_eq hx hb hdg ht (fun h => kt ((zi_eq ha hb2).mp h)) (fun h => kf (fun q => h ((zi_eq ha hb2).mpr q)))
theorem z_icmp_ne (hx : p.tables.exec = Jvm.exec) (hb : c.code = cc) {a b : Int} {off : Int} {tgt : Nat} (hdg : decode cc pc = .ok (.if_icmp .ne off, 3)) (ht : (pc : Int) + off = (tgt : Int)) (ha : zr a) (hb2 : zr b)
    (kt : a ≠ b → W p l e R s m args below meth c H locs cells slots Q (F0 m tgt ls rest)) (kf : a = b → W p l e R s m args below meth c H locs cells slots Q (F0 m (pc + 3) ls rest)) : W p l e R s m args below meth c H locs cells slots Q (F0 m pc ls (zi b :: zi a :: rest)) :=
  lv_icmp_ne hx hb hdg ht (fun h => kt (fun q => h (by rw [q]))) (fun h => kf ((zi_eq ha hb2).mp h))
theorem z_if_lt (hx : p.tables.exec = Jvm.exec) (hb : c.code = cc) {a : Int} {off : Int} {tgt : Nat} (hdg : decode cc pc = .ok (.ifCond .lt off, 3)) (ht : (pc : Int) + off = (tgt : Int)) (ha : zr a)
    (kt : a < 0 → W p l e R s m args below meth c H locs cells slots Q (F0 m tgt ls rest)) (kf : ¬ (a < 0) → W p l e R s m args below meth c H locs cells slots Q (F0 m (pc + 3) ls rest)) : W p l e R s m args below meth c H locs cells slots Q (F0 m pc ls (zi a :: rest)) :=
  lv_if_lt hx hb hdg ht (fun h => kt ((zi_lt ha zr_0).mp h)) (fun h => kf (fun q => h ((zi_lt ha zr_0).mpr q)))
theorem z_if_ge (hx : p.tables.exec = Jvm.exec) (hb : c.code = cc) {a : Int} {off : Int} {tgt : Nat} (hdg : decode cc pc = .ok (.ifCond .ge off, 3)) (ht : (pc : Int) + off = (tgt : Int)) (ha : zr a)
    (kt : 0 ≤ a → W p l e R s m args below meth c H locs cells slots Q (F0 m tgt ls rest)) (kf : ¬ (0 ≤ a) → W p l e R s m args below meth c H locs cells slots Q (F0 m (pc + 3) ls rest)) : W p l e R s m args below meth c H locs cells slots Q (F0 m pc ls (zi a :: rest)) :=
  lv_if_ge hx hb hdg ht (fun h => kt ((zi_le zr_0 ha).mp h)) (fun h => kf (fun q => h ((zi_le zr_0 ha).mpr q)))
theorem z_if_gt (hx : p.tables.exec = Jvm.exec) (hb : c.code = cc) {a : Int} {off : Int} {tgt : Nat} (hdg : decode cc pc = .ok (.ifCond .gt off, 3)) (ht : (pc : Int) + off = (tgt : Int)) (ha : zr a)
    (kt : 0 < a → W p l e R s m args below meth c H locs cells slots Q (F0 m tgt ls rest)) (kf : ¬ (0 < a) → W p l e R s m args below meth c H locs cells slots Q (F0 m (pc + 3) ls rest)) : W p l e R s m args below meth c H locs cells slots Q (F0 m pc ls (zi a :: rest)) :=
  lv_if_gt hx hb hdg ht (fun h => kt ((zi_lt zr_0 ha).mp h)) (fun h => kf (fun q => h ((zi_lt zr_0 ha).mpr q)))
theorem z_if_le (hx : p.tables.exec = Jvm.exec) (hb : c.code = cc) {a : Int} {off : Int} {tgt : Nat} (hdg : decode cc pc = .ok (.ifCond .le off, 3)) (ht : (pc : Int) + off = (tgt : Int)) (ha : zr a)
    (kt : a ≤ 0 → W p l e R s m args below meth c H locs cells slots Q (F0 m tgt ls rest)) (kf : ¬ (a ≤ 0) → W p l e R s m args below meth c H locs cells slots Q (F0 m (pc + 3) ls rest)) : W p l e R s m args below meth c H locs cells slots Q (F0 m pc ls (zi a :: rest)) :=
  lv_if_le hx hb hdg ht (fun h => kt ((zi_le ha zr_0).mp h)) (fun h => kf (fun q => h ((zi_le ha zr_0).mpr q)))
theorem z_if_eq (hx : p.tables.exec = Jvm.exec) (hb : c.code = cc) {a : Int} {off : Int} {tgt : Nat} (hdg : decode cc pc = .ok (.ifCond .eq off, 3)) (ht : (pc : Int) + off = (tgt : Int)) (ha : zr a)
    (kt : a = 0 → W p l e R s m args below meth c H locs cells slots Q (F0 m tgt ls rest)) (kf : ¬ (a = 0) → W p l e R s m args below meth c H locs cells slots Q (F0 m (pc + 3) ls rest)) : W p l e R s m args below meth c H locs cells slots Q (F0 m pc ls (zi a :: rest)) :=
  lv_if_eq hx hb hdg ht (fun h => kt ((zi_eq ha zr_0).mp h)) (fun h => kf (fun q => h ((zi_eq ha zr_0).mpr q)))
theorem z_if_ne (hx : p.tables.exec = Jvm.exec) (hb : c.code = cc) {a : Int} {off : Int} {tgt : Nat} (hdg : decode cc pc = .ok (.ifCond .ne off, 3)) (ht : (pc : Int) + off = (tgt : Int)) (ha : zr a)
    (kt : a ≠ 0 → W p l e R s m args below meth c H locs cells slots Q (F0 m tgt ls rest)) (kf : a = 0 → W p l e R s m args below meth c H locs cells slots Q (F0 m (pc + 3) ls rest)) : W p l e R s m args below meth c H locs cells slots Q (F0 m pc ls (zi a :: rest)) :=
  lv_if_ne hx hb hdg ht (fun h => kt (fun q => h (by rw [q]; rfl))) (fun h => kf ((zi_eq ha zr_0).mp h))
theorem z_lcmp_lt (hx : p.tables.exec = Jvm.exec) (hb : c.code = cc) {a b : Int} {off : Int} {tgt : Nat} (hd0 : decode cc pc = .ok (.lcmp, 1)) (hdg : decode cc (pc + 1) = .ok (.ifCond .lt off, 3)) (ht : ((pc + 1 : Nat) : Int) + off = (tgt : Int)) (ha : zR a) (hb2 : zR b)
    (kt : a < b → W p l e R s m args below meth c H locs cells slots Q (F0 m tgt ls rest)) (kf : ¬ (a < b) → W p l e R s m args below meth c H locs cells slots Q (F0 m (pc + 4) ls rest)) : W p l e R s m args below meth c H locs cells slots Q (F0 m pc ls (zl b :: zl a :: rest)) :=
  W.lcmp hx hb hd0 (lv_if_lt hx hb hdg ht (fun h => kt ((zl_lt ha hb2).mp ((lg_cmp_lt _ _).mp h))) (fun h => kf (fun q => h ((lg_cmp_lt _ _).mpr ((zl_lt ha hb2).mpr q)))))
theorem z_lcmp_ge (hx : p.tables.exec = Jvm.exec) (hb : c.code = cc) {a b : Int} {off : Int} {tgt : Nat} (hd0 : decode cc pc = .ok (.lcmp, 1)) (hdg : decode cc (pc + 1) = .ok (.ifCond .ge off, 3)) (ht : ((pc + 1 : Nat) : Int) + off = (tgt : Int)) (ha : zR a) (hb2 : zR b)
    (kt : b ≤ a → W p l e R s m args below meth c H locs cells slots Q (F0 m tgt ls rest)) (kf : ¬ (b ≤ a) → W p l e R s m args below meth c H locs cells slots Q (F0 m (pc + 4) ls rest)) : W p l e R s m args below meth c H locs cells slots Q (F0 m pc ls (zl b :: zl a :: rest)) :=
  W.lcmp hx hb hd0 (lv_if_ge hx hb hdg ht (fun h => kt ((zl_le hb2 ha).mp ((lg_cmp_ge _ _).mp h))) (fun h => kf (fun q => h ((lg_cmp_ge _ _).mpr ((zl_le hb2 ha).mpr q)))))
theorem z_lcmp_gt (hx : p.tables.exec = Jvm.exec) (hb : c.code = cc) {a b : Int} {off : Int} {tgt : Nat} (hd0 : decode cc pc = .ok (.lcmp, 1)) (hdg : decode cc (pc + 1) = .ok (.ifCond .gt off, 3)) (ht : ((pc + 1 : Nat) : Int) + off = (tgt : Int)) (ha : zR a) (hb2 : zR b)
    (kt : b < a → W p l e R s m args below meth c H locs cells slots Q (F0 m tgt ls rest)) (kf : ¬ (b < a) → W p l e R s m args below meth c H locs cells slots Q (F0 m (pc + 4) ls rest)) : W p l e R s m args below meth c H locs cells slots Q (F0 m pc ls (zl b :: zl a :: rest)) :=
  W.lcmp hx hb hd0 (lv_if_gt hx hb hdg ht (fun h => kt ((zl_lt hb2 ha).mp ((lg_cmp_gt _ _).mp h))) (fun h => kf (fun q => h ((lg_cmp_gt _ _).mpr ((zl_lt hb2 ha).mpr q)))))
theorem z_lcmp_le (hx : p.tables.exec = Jvm.exec) (hb : c.code = cc) {a b : Int} {off : Int} {tgt : Nat} (hd0 : decode cc pc = .ok (.lcmp, 1)) (hdg : decode cc (pc + 1) = .ok (.ifCond .le off, 3)) (ht : ((pc + 1 : Nat) : Int) + off = (tgt : Int)) (ha : zR a) (hb2 : zR b)
    (kt : a ≤ b → W p l e R s m args below meth c H locs cells slots Q (F0 m tgt ls rest)) (kf : ¬ (a ≤ b) → W p l e R s m args below meth c H locs cells slots Q (F0 m (pc + 4) ls rest)) : W p l e R s m args below meth c H locs cells slots Q (F0 m pc ls (zl b :: zl a :: rest)) :=
  W.lcmp hx hb hd0 (lv_if_le hx hb hdg ht (fun h => kt ((zl_le ha hb2).mp ((lg_cmp_le _ _).mp h))) (fun h => kf (fun q => h ((lg_cmp_le _ _).mpr ((zl_le ha hb2).mpr q)))))
theorem z_lcmp_eq (hx : p.tables.exec = Jvm.exec) (hb : c.code = cc) {a b : Int} {off : Int} {tgt : Nat} (hd0 : decode cc pc = .ok (.lcmp, 1)) (hdg : decode cc (pc + 1) = .ok (.ifCond .eq off, 3)) (ht : ((pc + 1 : Nat) : Int) + off = (tgt : Int)) (ha : zR a) (hb2 : zR b)
    (kt : a = b → W p l e R s m args below meth c H locs cells slots Q (F0 m tgt ls rest)) (kf : ¬ (a = b) → W p l e R s m args below meth c H locs cells slots Q (F0 m (pc + 4) ls rest)) : W p l e R s m args below meth c H locs cells slots Q (F0 m pc ls (zl b :: zl a :: rest)) :=
  W.lcmp hx hb hd0 (lv_if_eq hx hb hdg ht (fun h => kt ((zl_eq ha hb2).mp ((lg_cmp_eq _ _).mp h))) (fun h => kf (fun q => h ((lg_cmp_eq _ _).mpr ((zl_eq ha hb2).mpr q)))))
theorem z_lcmp_ne (hx : p.tables.exec = Jvm.exec) (hb : c.code = cc) {a b : Int} {off : Int} {tgt : Nat} (hd0 : decode cc pc = .ok (.lcmp, 1)) (hdg : decode cc (pc + 1) = .ok (.ifCond .ne off, 3)) (ht : ((pc + 1 : Nat) : Int) + off = (tgt : Int)) (ha : zR a) (hb2 : zR b)
    (kt : a ≠ b → W p l e R s m args below meth c H locs cells slots Q (F0 m tgt ls rest)) (kf : a = b → W p l e R s m args below meth c H locs cells slots Q (F0 m (pc + 4) ls rest)) : W p l e R s m args below meth c H locs cells slots Q (F0 m pc ls (zl b :: zl a :: rest)) :=
  W.lcmp hx hb hd0 (lv_if_ne hx hb hdg ht (fun h => kt (fun q => h ((lg_cmp_eq _ _).mpr ((zl_eq ha hb2).mpr q)))) (fun h => kf ((zl_eq ha hb2).mp ((lg_cmp_eq _ _).mp h))))
theorem zb_1 {c : Prop} [Decidable c] (h : c) : Int32.ofInt (zb c) = 1 := by rw [show zb c = 1 from if_pos h]; rfl
theorem zb_0 {c : Prop} [Decidable c] (h : ¬ c) : Int32.ofInt (zb c) = 0 := by rw [show zb c = 0 from if_neg h]; rfl
theorem z_ifb_eq (hx : p.tables.exec = Jvm.exec) (hb : c.code = cc) {c2 : Prop} {hd : Decidable c2} {off : Int} {tgt : Nat} (hdg : decode cc pc = .ok (.ifCond .eq off, 3)) (ht : (pc : Int) + off = (tgt : Int))
    (kt : ¬ c2 → W p l e R s m args below meth c H locs cells slots Q (F0 m tgt ls rest)) (kf : c2 → W p l e R s m args below meth c H locs cells slots Q (F0 m (pc + 3) ls rest)) : W p l e R s m args below meth c H locs cells slots Q (F0 m pc ls (zi (zb c2) :: rest)) :=
  lv_if_eq hx hb hdg ht (fun h => kt (fun q => by rw [zb_1 q] at h; exact absurd h (by decide))) (fun h => kf (Decidable.byContradiction fun q => h (zb_0 q)))
theorem z_ifb_ne (hx : p.tables.exec = Jvm.exec) (hb : c.code = cc) {c2 : Prop} {hd : Decidable c2} {off : Int} {tgt : Nat} (hdg : decode cc pc = .ok (.ifCond .ne off, 3)) (ht : (pc : Int) + off = (tgt : Int))
    (kt : c2 → W p l e R s m args below meth c H locs cells slots Q (F0 m tgt ls rest)) (kf : ¬ c2 → W p l e R s m args below meth c H locs cells slots Q (F0 m (pc + 3) ls rest)) : W p l e R s m args below meth c H locs cells slots Q (F0 m pc ls (zi (zb c2) :: rest)) :=
  lv_if_ne hx hb hdg ht (fun h => kt (Decidable.byContradiction fun q => h (zb_0 q))) (fun h => kf (fun q => by rw [zb_1 q] at h; exact absurd h (by decide)))
end ZR
section ZH
variable {p : Program} {l : Launch} {e : Env} {R : Room} {s : State} {m : MethodId} {args : Array Value} {below : List Frame} {meth : Method} {c : Code} {H : Heap} {locs : List Loc} {cells slots : Nat} {Q : State → Prop}
variable {cc : ByteArray} {pc : Nat} {ls : Array Slot} {rest : List Value} {G : zG} {A : Nat → Prop} {H0 : Heap} {I : List Nat} {ad : Nat → Nat} {ct : Nat → va_E}
theorem z_get (hx : p.tables.exec = Jvm.exec) (hb : c.code = cc) {own ref C : String} {T : u_T} {N ci index : Nat} {Ts : List Cond} (hts : ∀ w ∈ Ts, w.before args s = true) (hin : ∀ w ∈ u_ws C T N, w ∈ Ts) (hown : s.vm.findClass own = some m.cls) (hK : zK G A s H0) (hw : zW G A H0 H locs I ad ct) {k : Nat} (hk : k ∈ I) {fs : List Value} (he : ct k = .inr (ci, fs)) (hc : vwCl[ci]? = some (C, T, N)) (j : Nat) (hj : j < N) (hlink : (Cond.fieldLink own index ref (T j).2.1 (T j).2.2.1).before args s = true) (href : (T j).1 = ref) {v : Value} (hv : fs[j]? = some v) (hdg : decode cc pc = .ok (.getfield index, 3))
    (kk : W p l e R s m args below meth c H locs cells slots Q (F0 m (pc + 3) ls (v :: rest))) : W p l e R s m args below meth c H locs cells slots Q (F0 m pc ls (.ref (ad k) :: rest)) :=
  va_get (D := G.1) (cl := vwCl) hx hb hts hin hown hK.1 (hw.1.one hk he) 0 rfl hc j hj hlink (fun x h => by rw [← href]; exact h) hv hdg kk
theorem z_put (hx : p.tables.exec = Jvm.exec) (hb : c.code = cc) {own ref C : String} {T : u_T} {N ci index : Nat} {Ts : List Cond} (hts : ∀ w ∈ Ts, w.before args s = true) (hin : ∀ w ∈ u_ws C T N, w ∈ Ts) {ty : Nat → FieldType} (hty : ∀ k, k < N → parseFieldDescriptor (T k).2.2.1 = some (ty k)) (hnm : ∀ a, a < N → ∀ b, b < N → a ≠ b → (T a).2.1 ≠ (T b).2.1) (hown : s.vm.findClass own = some m.cls) (hK : zK G A s H0) (hw : zW G A H0 H locs I ad ct) {k : Nat} (hk : k ∈ I) {fs : List Value} (he : ct k = .inr (ci, fs)) (hc : vwCl[ci]? = some (C, T, N)) (j : Nat) (hj : j < N) (hlink : (Cond.fieldLink own index ref (T j).2.1 (T j).2.2.1).before args s = true) (href : (T j).1 = ref) (hfin : (T j).2.2.2 = false) {v : Value} (hn : narrow (ty j) v = v) (hfit : fits (ty j) v = true) (hl : j < fs.length) {fs' : List Value} (hfs : fs.set j v = fs') (hdg : decode cc pc = .ok (.putfield index, 3))
    (kk : ∀ (H1 : Heap) (locs1 : List Loc), zW G A H0 H1 locs1 I ad (zU ct k (.inr (ci, fs'))) → W p l e R s m args below meth c H1 locs1 cells slots Q (F0 m (pc + 3) ls rest)) : W p l e R s m args below meth c H locs cells slots Q (F0 m pc ls (v :: .ref (ad k) :: rest)) := by
  obtain ⟨i, hi⟩ := List.getElem?_of_mem hk
  have hp := zws_of (ad := ad) (ct := ct) hi
  rw [he] at hp
  subst hfs
  exact va_put (D := G.1) (cl := vwCl) hx hb hts hin ty hty hnm hown hK.1 hw.1.1 (hw.1.D hw.2.1) hw.2.2.1 i hp hc j hj hlink (fun x h => by rw [← href]; exact h) hfin (hty j hj) hn hfit hl hdg (fun H1 locs1 hP hD hS => kk H1 locs1 (hw.put hi hP hS))
theorem z_putF (hx : p.tables.exec = Jvm.exec) (hb : c.code = cc) {own ref C : String} {T : u_T} {N ci index : Nat} {Ts : List Cond} (hts : ∀ w ∈ Ts, w.before args s = true) (hin : ∀ w ∈ u_ws C T N, w ∈ Ts) {ty : Nat → FieldType} (hty : ∀ k, k < N → parseFieldDescriptor (T k).2.2.1 = some (ty k)) (hnm : ∀ a, a < N → ∀ b, b < N → a ≠ b → (T a).2.1 ≠ (T b).2.1) (hown : s.vm.findClass own = some m.cls) (hK : zK G A s H0) (hw : zW G A H0 H locs I ad ct) {k : Nat} (hk : k ∈ I) {fs : List Value} (he : ct k = .inr (ci, fs)) (hc : vwCl[ci]? = some (C, T, N)) (j : Nat) (hj : j < N) (hlink : (Cond.fieldLink own index ref (T j).2.1 (T j).2.2.1).before args s = true) (href : (T j).1 = ref) (hfin : (T j).2.2.2 = true) (hin2 : meth.name = "<init>") (hdecl : (T j).1 = own) {v : Value} (hn : narrow (ty j) v = v) (hfit : fits (ty j) v = true) (hl : j < fs.length) {fs' : List Value} (hfs : fs.set j v = fs') (hdg : decode cc pc = .ok (.putfield index, 3))
    (kk : ∀ (H1 : Heap) (locs1 : List Loc), zW G A H0 H1 locs1 I ad (zU ct k (.inr (ci, fs'))) → W p l e R s m args below meth c H1 locs1 cells slots Q (F0 m (pc + 3) ls rest)) : W p l e R s m args below meth c H locs cells slots Q (F0 m pc ls (v :: .ref (ad k) :: rest)) := by
  obtain ⟨i, hi⟩ := List.getElem?_of_mem hk
  have hp := zws_of (ad := ad) (ct := ct) hi
  rw [he] at hp
  subst hfs
  exact va_putF (D := G.1) (cl := vwCl) hx hb hts hin ty hty hnm hown hK.1 hw.1.1 (hw.1.D hw.2.1) hw.2.2.1 i hp hc j hj hlink (fun x h => by rw [← href]; exact h) hfin hin2 hdecl (hty j hj) hn hfit hl hdg (fun H1 locs1 hP hD hS => kk H1 locs1 (hw.put hi hP hS))
theorem z_iald (hx : p.tables.exec = Jvm.exec) (hb : c.code = cc) (hK : zK G A s H0) (hw : zW G A H0 H locs I ad ct) {k : Nat} (hk : k ∈ I) {n : Nat} {f : Int → Int} (he : ct k = zI G n f) {i : Int} (h0 : 0 ≤ i) (h1 : i < n) (hn : n < 2147483648) (hdg : decode cc pc = .ok (.iaload, 1))
    (kk : W p l e R s m args below meth c H locs cells slots Q (F0 m (pc + 1) ls (zi (f i) :: rest))) : W p l e R s m args below meth c H locs cells slots Q (F0 m pc ls (zi i :: .ref (ad k) :: rest)) :=
  va_iald (D := G.1) (cl := vwCl) hx hb hK.1 (hw.1.one hk he) 0 0 rfl rfl (zi_ix h0 h1 hn) hdg (by rw [zat_i f h0 (by omega)]; exact kk)
theorem z_zald (hx : p.tables.exec = Jvm.exec) (hb : c.code = cc) (hK : zK G A s H0) (hw : zW G A H0 H locs I ad ct) {k : Nat} (hk : k ∈ I) {n : Nat} {f : Int → Int} (he : ct k = zZ G n f) {i : Int} (h0 : 0 ≤ i) (h1 : i < n) (hn : n < 2147483648) (hdg : decode cc pc = .ok (.baload, 1))
    (kk : W p l e R s m args below meth c H locs cells slots Q (F0 m (pc + 1) ls (zi (f i) :: rest))) : W p l e R s m args below meth c H locs cells slots Q (F0 m pc ls (zi i :: .ref (ad k) :: rest)) :=
  va_zald (D := G.1) (cl := vwCl) hx hb hK.1 (hw.1.one hk he) 0 2 rfl rfl (zi_ix h0 h1 hn) hdg (by rw [zat_i f h0 (by omega)]; exact kk)
theorem z_lald (hx : p.tables.exec = Jvm.exec) (hb : c.code = cc) (hK : zK G A s H0) (hw : zW G A H0 H locs I ad ct) {k : Nat} (hk : k ∈ I) {n : Nat} {f : Int → Int} (he : ct k = zL G n f) {i : Int} (h0 : 0 ≤ i) (h1 : i < n) (hn : n < 2147483648) (hdg : decode cc pc = .ok (.laload, 1))
    (kk : W p l e R s m args below meth c H locs cells slots Q (F0 m (pc + 1) ls (zl (f i) :: rest))) : W p l e R s m args below meth c H locs cells slots Q (F0 m pc ls (zi i :: .ref (ad k) :: rest)) :=
  va_lald (D := G.1) (cl := vwCl) hx hb hK.1 (hw.1.one hk he) 0 1 rfl rfl (zi_ix h0 h1 hn) hdg (by rw [zat_l f h0 (by omega)]; exact kk)
theorem z_aald (hx : p.tables.exec = Jvm.exec) (hb : c.code = cc) (hK : zK G A s H0) (hw : zW G A H0 H locs I ad ct) {k : Nat} (hk : k ∈ I) {n : Nat} {f : Int → Option Nat} (he : ct k = zP G n f) {i : Int} (h0 : 0 ≤ i) (h1 : i < n) (hn : n < 2147483648) {v : Value} (hv : va_rf (f i) = v) (hdg : decode cc pc = .ok (.aaload, 1))
    (kk : W p l e R s m args below meth c H locs cells slots Q (F0 m (pc + 1) ls (v :: rest))) : W p l e R s m args below meth c H locs cells slots Q (F0 m pc ls (zi i :: .ref (ad k) :: rest)) :=
  va_aldq (D := G.1) (cl := vwCl) (C := "PileMoves$Pile") hx hb hK.1 (hw.1.one hk he) 0 3 rfl rfl (zi_ix h0 h1 hn) hdg (by rw [zi_cl h0 (by omega), Int.toNat_of_nonneg h0, hv]; exact kk)
theorem z_iast (hx : p.tables.exec = Jvm.exec) (hb : c.code = cc) (hK : zK G A s H0) (hw : zW G A H0 H locs I ad ct) {k : Nat} (hk : k ∈ I) {n : Nat} {f : Int → Int} (he : ct k = zI G n f) {i v : Int} (h0 : 0 ≤ i) (h1 : i < n) (hn : n < 2147483648) (hdg : decode cc pc = .ok (.iastore, 1))
    (kk : ∀ (H1 : Heap) (locs1 : List Loc), zW G A H0 H1 locs1 I ad (zU ct k (zI G n (zup f i v))) → W p l e R s m args below meth c H1 locs1 cells slots Q (F0 m (pc + 1) ls rest)) : W p l e R s m args below meth c H locs cells slots Q (F0 m pc ls (zi v :: zi i :: .ref (ad k) :: rest)) := by
  obtain ⟨j, hj⟩ := List.getElem?_of_mem hk
  have hp := zws_of (ad := ad) (ct := ct) hj
  rw [he] at hp
  refine va_iast (D := G.1) (cl := vwCl) hx hb hK.1 hw.1.1 (hw.1.D hw.2.1) hw.2.2.1 j 0 hp rfl (zi_ix h0 h1 hn) hdg (fun H1 locs1 hP hD hS => ?_)
  rw [zup_i f v h0 (by omega)] at hP
  exact kk H1 locs1 (hw.put hj hP hS)
theorem z_zast (hx : p.tables.exec = Jvm.exec) (hb : c.code = cc) (hK : zK G A s H0) (hw : zW G A H0 H locs I ad ct) {k : Nat} (hk : k ∈ I) {n : Nat} {f : Int → Int} (he : ct k = zZ G n f) {i v : Int} (h0 : 0 ≤ i) (h1 : i < n) (hn : n < 2147483648) (hv : v = 0 ∨ v = 1) (hdg : decode cc pc = .ok (.bastore, 1))
    (kk : ∀ (H1 : Heap) (locs1 : List Loc), zW G A H0 H1 locs1 I ad (zU ct k (zZ G n (zup f i v))) → W p l e R s m args below meth c H1 locs1 cells slots Q (F0 m (pc + 1) ls rest)) : W p l e R s m args below meth c H locs cells slots Q (F0 m pc ls (zi v :: zi i :: .ref (ad k) :: rest)) := by
  obtain ⟨j, hj⟩ := List.getElem?_of_mem hk
  have hp := zws_of (ad := ad) (ct := ct) hj
  rw [he] at hp
  have hb2 : vp_nar .boolean (Int32.ofInt v) = Int32.ofInt v := by rcases hv with rfl | rfl <;> rfl
  refine va_zast (D := G.1) (cl := vwCl) hx hb hK.1 hw.1.1 (hw.1.D hw.2.1) hw.2.2.1 j 2 hp rfl (zi_ix h0 h1 hn) hdg (fun H1 locs1 hP hD hS => ?_)
  rw [hb2, zup_i f v h0 (by omega)] at hP
  exact kk H1 locs1 (hw.put hj hP hS)
theorem z_last (hx : p.tables.exec = Jvm.exec) (hb : c.code = cc) (hK : zK G A s H0) (hw : zW G A H0 H locs I ad ct) {k : Nat} (hk : k ∈ I) {n : Nat} {f : Int → Int} (he : ct k = zL G n f) {i v : Int} (h0 : 0 ≤ i) (h1 : i < n) (hn : n < 2147483648) (hdg : decode cc pc = .ok (.lastore, 1))
    (kk : ∀ (H1 : Heap) (locs1 : List Loc), zW G A H0 H1 locs1 I ad (zU ct k (zL G n (zup f i v))) → W p l e R s m args below meth c H1 locs1 cells slots Q (F0 m (pc + 1) ls rest)) : W p l e R s m args below meth c H locs cells slots Q (F0 m pc ls (zl v :: zi i :: .ref (ad k) :: rest)) := by
  obtain ⟨j, hj⟩ := List.getElem?_of_mem hk
  have hp := zws_of (ad := ad) (ct := ct) hj
  rw [he] at hp
  refine va_last (D := G.1) (cl := vwCl) hx hb hK.1 hw.1.1 (hw.1.D hw.2.1) hw.2.2.1 j 1 hp rfl (zi_ix h0 h1 hn) hdg (fun H1 locs1 hP hD hS => ?_)
  rw [zup_l f v h0 (by omega)] at hP
  exact kk H1 locs1 (hw.put hj hP hS)
theorem z_alen (hx : p.tables.exec = Jvm.exec) (hb : c.code = cc) (hK : zK G A s H0) (hw : zW G A H0 H locs I ad ct) {k : Nat} (hk : k ∈ I) {cA : ClassId} {x : vp_A} (he : ct k = .inl (cA, x)) (t0 : Nat) {ty : FieldType} (ht : (zty G)[t0]? = some (cA, ty)) {n : Int} (hn : (x.1 : Int) = n) (hdg : decode cc pc = .ok (.arraylength, 1))
    (kk : W p l e R s m args below meth c H locs cells slots Q (F0 m (pc + 1) ls (zi n :: rest))) : W p l e R s m args below meth c H locs cells slots Q (F0 m pc ls (.ref (ad k) :: rest)) :=
  va_alen (D := G.1) (cl := vwCl) hx hb hK.1 (hw.1.one hk he) 0 t0 rfl ht (by rw [← hn, Int32.ofInt_eq_ofNat]) hdg kk
end ZH
section ZC
variable {p : Program} {l : Launch} {e : Env} {R : Room} {s : State} {m : MethodId} {args : Array Value} {below : List Frame} {meth : Method} {c : Code} {H : Heap} {locs : List Loc} {cells slots : Nat} {Q : State → Prop}
variable {cc : ByteArray} {pc : Nat} {ls : Array Slot} {rest st0 : List Value} {G : zG} {A : Nat → Prop} {I : List Nat} {ad : Nat → Nat} {ct : Nat → va_E}
theorem zW.free (hw : zW G A s.heap H locs I ad ct) : ∀ q, zA I ad H.size q → A q := fun q h => by
  rcases h with ⟨k, hk, rfl⟩ | h
  · exact hw.2.1 k hk
  · exact hw.2.2.2 q (Nat.le_trans hw.2.2.1.1 h)
theorem zK.to (hK : zK G A s s.heap) (hw : zW G A s.heap H locs I ad ct) {U : State} (hU : U.heap = H) (hW : s.WarmedH U.vm) : zK G (zA I ad H.size) U U.heap := by
  rw [hU]
  exact ⟨va_K.moved hW.alike hK.1, zS.warm hW hK.2.1, vx_Zq.narrow (vx_Zq.moved hW.alike (hK.2.2.1.kept hw.2.2.1.2.1)) hw.free, vx_Zq.narrow (vx_Zq.moved hW.alike (hK.2.2.2.kept hw.2.2.1.2.1)) hw.free⟩
theorem zPre (hK : zK G A s s.heap) (hw : zW G A s.heap H locs I ad ct) (av : List Value) : PreS s H (zPc G av I ad ct H.size) av :=
  ⟨zPc.blind, fun U hU hW => ⟨rfl, by rw [hU], by rw [hU]; exact hw.1, hK.to hw hU hW⟩⟩
variable {y : MethodName} {bytes : ByteArray} {maxL nL mc ms fr lo n index : Nat} {ret : Option FieldType} {ws : List Cond} {thr : String → Prop} {post : Option Value → zT → Prop} {Ts : List Cond} {own C host : String} {As : List Value} {k : Nat}
/-- a call of the machine, told in the world's words -/
def zRun (p : Program) (l : Launch) (e : Env) (R : Room) (s : State) (m : MethodId) (args : Array Value) (below : List Frame) (meth : Method) (c : Code) (H : Heap) (locs : List Loc) (cells slots mc ms : Nat) (g : JFrame) (rest : List Value) (G : zG) (I : List Nat) (ad : Nat → Nat) (ct : Nat → va_E) (thr : String → Prop) (post : Option Value → zT → Prop) : Prop :=
  ∃ a : Array Value, vx_Run p l e R s m args below meth c H locs cells slots mc ms g rest (zQ G (zA I ad H.size) ad post a) (zX G (zA I ad H.size) I ad ct thr) (zA I ad H.size)
theorem z_runS (S : CallFix p m c cc nL s args Ts own) (hK : zK G A s s.heap) (hw : zW G A s.heap H locs I ad ct) (hM : zN l y ws fr lo mc ms G As I ad ct thr H.size post) (cw : CallB R s args own index y bytes maxL ret ws { frames := fr, cells := mc, slots := ms, locals := lo } mc ms n ∧ (Cond.static y).before args s = true)
    (hn : As.length = n) (hls : ls.size = nL) (hst : st0 = As.reverse ++ rest) (hW : (rest.map fun v => v.category).sum ≤ 8) (hdg : decode cc pc = .ok (.invokestatic index, 3)) (hf : cells + mc ≤ R.cells ∧ slots + ms ≤ R.slots) : zRun p l e R s m args below meth c H locs cells slots mc ms (F0 m pc ls st0) rest G I ad ct thr post :=
  ⟨_, vx_runS S hM cw (zPre hK hw As) rfl hn hls hst (lv_room hW) hdg hf⟩
theorem z_runSN (S : CallFix p m c cc nL s args Ts own) (hK : zK G A s s.heap) (hw : zW G A s.heap H locs I ad ct) (hM : zN l y ws fr lo mc ms G As I ad ct thr H.size post) (cw : va_CN R s args own index y host bytes maxL ret ws { frames := fr, cells := mc, slots := ms, locals := lo } mc ms n ∧ (Cond.static y).before args s = true ∧ True)
    (hn : As.length = n) (hls : ls.size = nL) (hst : st0 = As.reverse ++ rest) (hW : (rest.map fun v => v.category).sum ≤ 8) (hdg : decode cc pc = .ok (.invokestatic index, 3)) (hf : cells + mc ≤ R.cells ∧ slots + ms ≤ R.slots) : zRun p l e R s m args below meth c H locs cells slots mc ms (F0 m pc ls st0) rest G I ad ct thr post :=
  ⟨_, vx_runSN S hM cw (zPre hK hw As) rfl hn hls hst (lv_room hW) hdg hf⟩
theorem z_runV (S : CallFix p m c cc nL s args Ts own) (hK : zK G A s s.heap) (hw : zW G A s.heap H locs I ad ct) (hM : zN l y ws fr lo mc ms G (.ref (ad k) :: As) I ad ct thr H.size post) (cw : CallW R s args own C index y bytes maxL ret ws { frames := fr, cells := mc, slots := ms, locals := lo } mc ms n)
    (hk : k ∈ I) {ci : Nat} {fs : List Value} (he : ct k = .inr (ci, fs)) {r : vw_C} (hc : vwCl[ci]? = some r) (hC : r.1 = C)
    (hn : As.length = n) (hls : ls.size = nL) (hst : st0 = As.reverse ++ .ref (ad k) :: rest) (hW : (rest.map fun v => v.category).sum ≤ 8) (hdg : decode cc pc = .ok (.invokevirtual index, 3)) (hf : cells + mc ≤ R.cells ∧ slots + ms ≤ R.slots) : zRun p l e R s m args below meth c H locs cells slots mc ms (F0 m pc ls st0) rest G I ad ct thr post := by
  subst hC
  exact ⟨_, vx_runV S hM cw ⟨zPc.blind, va_recv hK.1 (hw.1.one hk he) hc (q0 := 0) rfl, (zPre hK hw (.ref (ad k) :: As)).2⟩ rfl hn hls hst (lv_room hW) hdg hf⟩
theorem z_runI (S : CallFix p m c cc nL s args Ts own) (hK : zK G A s s.heap) (hw : zW G A s.heap H locs I ad ct) (hM : zN l y ws fr lo mc ms G (.ref (ad k) :: As) I ad ct thr H.size post) (cw : CallB R s args own index y bytes maxL none ws { frames := fr, cells := mc, slots := ms, locals := lo } mc ms n ∧ y.name = "<init>" ∧ (Cond.instanceMethod y).before args s = true)
    (hn : As.length = n) (hls : ls.size = nL) (hst : st0 = As.reverse ++ .ref (ad k) :: rest) (hW : (rest.map fun v => v.category).sum ≤ 8) (hdg : decode cc pc = .ok (.invokespecial index, 3)) (hf : cells + mc ≤ R.cells ∧ slots + ms ≤ R.slots) : zRun p l e R s m args below meth c H locs cells slots mc ms (F0 m pc ls st0) rest G I ad ct thr post :=
  ⟨_, vx_runI S hM cw (zPre hK hw (.ref (ad k) :: As)) rfl hn hls hst (lv_room hW) hdg hf⟩
theorem z_runIN (S : CallFix p m c cc nL s args Ts own) (hK : zK G A s s.heap) (hw : zW G A s.heap H locs I ad ct) (hM : zN l y ws fr lo mc ms G (.ref (ad k) :: As) I ad ct thr H.size post) (cw : va_CN R s args own index y host bytes maxL none ws { frames := fr, cells := mc, slots := ms, locals := lo } mc ms n ∧ y.name = "<init>" ∧ (Cond.instanceMethod y).before args s = true)
    (hn : As.length = n) (hls : ls.size = nL) (hst : st0 = As.reverse ++ .ref (ad k) :: rest) (hW : (rest.map fun v => v.category).sum ≤ 8) (hdg : decode cc pc = .ok (.invokespecial index, 3)) (hf : cells + mc ≤ R.cells ∧ slots + ms ≤ R.slots) : zRun p l e R s m args below meth c H locs cells slots mc ms (F0 m pc ls st0) rest G I ad ct thr post :=
  ⟨_, vx_runIN S hM cw (zPre hK hw (.ref (ad k) :: As)) rfl hn hls hst (lv_room hW) hdg hf⟩
/-- behind it -/
theorem z_call (hr : zRun p l e R s m args below meth c H locs cells slots mc ms (F0 m pc ls st0) rest G I ad ct thr post) (hw : zW G A s.heap H locs I ad ct)
    (kx : ∀ (E : String) (ce : Cell) (q : Addr) (H1 : Heap) (locs1 : List Loc), thr E → zW G A s.heap H1 locs1 I ad ct → H1[q]? = some ce → ce.vm = .none → s.vm.findClass E = some ce.cls → vx_W p l e R s m args below meth c H1 locs1 (cells + mc) (slots + ms) Q (F0 m pc ls rest) q)
    (kk : ∀ (v : Option Value) (u : zT) (H1 : Heap) (locs1 : List Loc), post v u → zW G A s.heap H1 locs1 u.1 ad u.2.1 → H1.size = u.2.2 → W p l e R s m args below meth c H1 locs1 (cells + mc) (slots + ms) Q (F0 m (pc + 3) ls (v.toList ++ rest))) : W p l e R s m args below meth c H locs cells slots Q (F0 m pc ls st0) := by
  obtain ⟨a, hr⟩ := hr
  have hfr := hw.free
  obtain ⟨hin, hIA, hS, hA⟩ := hw
  intro T hT X
  rcases hr T hT X with ⟨v, st₀, t, T', L, h0, X', hL, e1, e2, ⟨⟨v2, u, hv, hp, hi, hu, hz⟩, hF⟩, st⟩ | ⟨q, st₀, t, T', L, E, ce, h0, X', hL, e1, e2, ⟨ht, hi, hF⟩, hce, hcv, hcl, st⟩
  · cases hv
    obtain ⟨k1, k2, k3⟩ := vx_keep h0 e1 hS (fun q _ h => hfr q h) hfr hL hF
    obtain ⟨t2, a1, b1⟩ := kk v u T'.heap (locs ++ L) hp ⟨by rw [e1]; exact hi, fun k hk => hfr _ (hu k hk), k3, hA⟩ (by rw [e1]; exact hz) T' rfl X'
    exact ⟨t2, st t2 a1, b1⟩
  · obtain ⟨k1, k2, k3⟩ := vx_keep h0 e1 hS (fun q _ h => hfr q h) hfr hL hF
    obtain ⟨t2, a1, b1⟩ := kx E ce q T'.heap (locs ++ L) ht ⟨by rw [e1]; exact hi, hIA, k3, hA⟩ (by rw [e1]; exact hce) hcv hcl T' rfl X'
    exact ⟨t2, st.trans a1, b1⟩
/-- .. of a method that throws nothing -/
theorem z_kI {P : Int → (Nat → va_E) → Prop} (hr : zRun p l e R s m args below meth c H locs cells slots mc ms (F0 m pc ls st0) rest G I ad ct zno (zk I (zqi P))) (hw : zW G A s.heap H locs I ad ct)
    (kk : ∀ (z : Int) (ct1 : Nat → va_E) (H1 : Heap) (locs1 : List Loc), P z ct1 → zW G A s.heap H1 locs1 I ad ct1 → W p l e R s m args below meth c H1 locs1 (cells + mc) (slots + ms) Q (F0 m (pc + 3) ls (zi z :: rest))) : W p l e R s m args below meth c H locs cells slots Q (F0 m pc ls st0) :=
  z_call hr hw (fun E ce q H1 locs1 ht => ht.elim) (fun v u H1 locs1 hp hw1 _ => by
    obtain ⟨u1, u2, u3⟩ := u
    obtain ⟨rfl, z, rfl, hP⟩ := hp
    exact kk z u2 H1 locs1 hP hw1)
theorem z_kL {P : Int → (Nat → va_E) → Prop} (hr : zRun p l e R s m args below meth c H locs cells slots mc ms (F0 m pc ls st0) rest G I ad ct zno (zk I (zql P))) (hw : zW G A s.heap H locs I ad ct)
    (kk : ∀ (z : Int) (ct1 : Nat → va_E) (H1 : Heap) (locs1 : List Loc), P z ct1 → zW G A s.heap H1 locs1 I ad ct1 → W p l e R s m args below meth c H1 locs1 (cells + mc) (slots + ms) Q (F0 m (pc + 3) ls (zl z :: rest))) : W p l e R s m args below meth c H locs cells slots Q (F0 m pc ls st0) :=
  z_call hr hw (fun E ce q H1 locs1 ht => ht.elim) (fun v u H1 locs1 hp hw1 _ => by
    obtain ⟨u1, u2, u3⟩ := u
    obtain ⟨rfl, z, rfl, hP⟩ := hp
    exact kk z u2 H1 locs1 hP hw1)
theorem z_kV {P : (Nat → va_E) → Prop} (hr : zRun p l e R s m args below meth c H locs cells slots mc ms (F0 m pc ls st0) rest G I ad ct zno (zk I (zqv P))) (hw : zW G A s.heap H locs I ad ct)
    (kk : ∀ (ct1 : Nat → va_E) (H1 : Heap) (locs1 : List Loc), P ct1 → zW G A s.heap H1 locs1 I ad ct1 → W p l e R s m args below meth c H1 locs1 (cells + mc) (slots + ms) Q (F0 m (pc + 3) ls rest)) : W p l e R s m args below meth c H locs cells slots Q (F0 m pc ls st0) :=
  z_call hr hw (fun E ce q H1 locs1 ht => ht.elim) (fun v u H1 locs1 hp hw1 _ => by
    obtain ⟨u1, u2, u3⟩ := u
    obtain ⟨rfl, rfl, hP⟩ := hp
    exact kk u2 H1 locs1 hP hw1)
variable {pst : Option Value → zT → Prop} {I0 : List Nat} {ad0 : Nat → Nat} {ct0 : Nat → va_E} {thr0 : String → Prop} {mc0 ms0 : Nat}
/-- a callee's throw goes on to the caller: nothing was changed -/
theorem z_pass (hout : ∀ x ∈ c.exceptionTable.toList, False) (hlk : meth.locks = false) {E : String} {ce : Cell} {q : Addr} (ht : thr0 E) (hw : zW G A s.heap H locs I ad ct) (hce : H[q]? = some ce) (hcv : ce.vm = .none) (hcl : s.vm.findClass E = some ce.cls) (hc : cells ≤ mc0) (hs : slots ≤ ms0) :
    vx_W p l e R s m args below meth c H locs cells slots (vx_MQ below (zQ G A ad pst) (zX G A I ad ct thr0) args s mc0 ms0 A) (F0 m pc ls rest) q :=
  vx_out (fun x h => (hout x h).elim) hlk hce hcv hcl (fun t h9 _ => ⟨ht, by rw [h9]; exact hw.1, hw.2.2.1.F h9⟩) hw.2.2.1.2.2 hc hs
/-- the same, of a method that may throw: what it throws, the caller throws, its world as it began -/
theorem z_tI {P : Int → (Nat → va_E) → Prop} (hr : zRun p l e R s m args below meth c H locs cells slots mc ms (F0 m pc ls st0) rest G I ad ct thr (zk I (zqi P))) (hw : zW G A s.heap H locs I ad ct) (hout : ∀ x ∈ c.exceptionTable.toList, False) (hlk : meth.locks = false) (hthr : ∀ E, thr E → thr0 E) (hc : cells + mc ≤ mc0) (hs : slots + ms ≤ ms0)
    (kk : ∀ (z : Int) (ct1 : Nat → va_E) (H1 : Heap) (locs1 : List Loc), P z ct1 → zW G A s.heap H1 locs1 I ad ct1 → W p l e R s m args below meth c H1 locs1 (cells + mc) (slots + ms) (vx_MQ below (zQ G A ad pst) (zX G A I ad ct thr0) args s mc0 ms0 A) (F0 m (pc + 3) ls (zi z :: rest))) : W p l e R s m args below meth c H locs cells slots (vx_MQ below (zQ G A ad pst) (zX G A I ad ct thr0) args s mc0 ms0 A) (F0 m pc ls st0) :=
  z_call hr hw (fun E ce q H1 locs1 ht hw1 h1 h2 h3 => z_pass hout hlk (hthr E ht) hw1 h1 h2 h3 hc hs) (fun v u H1 locs1 hp hw1 _ => by
    obtain ⟨u1, u2, u3⟩ := u
    obtain ⟨rfl, z, rfl, hP⟩ := hp
    exact kk z u2 H1 locs1 hP hw1)
theorem z_tV {P : (Nat → va_E) → Prop} (hr : zRun p l e R s m args below meth c H locs cells slots mc ms (F0 m pc ls st0) rest G I ad ct thr (zk I (zqv P))) (hw : zW G A s.heap H locs I ad ct) (hout : ∀ x ∈ c.exceptionTable.toList, False) (hlk : meth.locks = false) (hthr : ∀ E, thr E → thr0 E) (hc : cells + mc ≤ mc0) (hs : slots + ms ≤ ms0)
    (kk : ∀ (ct1 : Nat → va_E) (H1 : Heap) (locs1 : List Loc), P ct1 → zW G A s.heap H1 locs1 I ad ct1 → W p l e R s m args below meth c H1 locs1 (cells + mc) (slots + ms) (vx_MQ below (zQ G A ad pst) (zX G A I ad ct thr0) args s mc0 ms0 A) (F0 m (pc + 3) ls rest)) : W p l e R s m args below meth c H locs cells slots (vx_MQ below (zQ G A ad pst) (zX G A I ad ct thr0) args s mc0 ms0 A) (F0 m pc ls st0) :=
  z_call hr hw (fun E ce q H1 locs1 ht hw1 h1 h2 h3 => z_pass hout hlk (hthr E ht) hw1 h1 h2 h3 hc hs) (fun v u H1 locs1 hp hw1 _ => by
    obtain ⟨u1, u2, u3⟩ := u
    obtain ⟨rfl, rfl, hP⟩ := hp
    exact kk u2 H1 locs1 hP hw1)
theorem z_tA {P : Nat → (Nat → va_E) → Prop} (hr : zRun p l e R s m args below meth c H locs cells slots mc ms (F0 m pc ls st0) rest G I ad ct thr (zk I (zqa P))) (hw : zW G A s.heap H locs I ad ct) (hout : ∀ x ∈ c.exceptionTable.toList, False) (hlk : meth.locks = false) (hthr : ∀ E, thr E → thr0 E) (hc : cells + mc ≤ mc0) (hs : slots + ms ≤ ms0)
    (kk : ∀ (z : Nat) (ct1 : Nat → va_E) (H1 : Heap) (locs1 : List Loc), P z ct1 → zW G A s.heap H1 locs1 I ad ct1 → W p l e R s m args below meth c H1 locs1 (cells + mc) (slots + ms) (vx_MQ below (zQ G A ad pst) (zX G A I ad ct thr0) args s mc0 ms0 A) (F0 m (pc + 3) ls (.ref z :: rest))) : W p l e R s m args below meth c H locs cells slots (vx_MQ below (zQ G A ad pst) (zX G A I ad ct thr0) args s mc0 ms0 A) (F0 m pc ls st0) :=
  z_call hr hw (fun E ce q H1 locs1 ht hw1 h1 h2 h3 => z_pass hout hlk (hthr E ht) hw1 h1 h2 h3 hc hs) (fun v u H1 locs1 hp hw1 _ => by
    obtain ⟨u1, u2, u3⟩ := u
    obtain ⟨rfl, z, rfl, hP⟩ := hp
    exact kk z u2 H1 locs1 hP hw1)
/-- throw new E("text"): nothing was changed -/
theorem z_throw (hx : p.tables.exec = Jvm.exec) (hb : c.code = cc) (hst : l.stackTraces = false) (hK : zK G A s s.heap) (hw : zW G A s.heap H locs I ad ct) (hout : ∀ x ∈ c.exceptionTable.toList, False) (hlk : meth.locks = false) {cls text : String} {names : List String} {ik is ic sa : Nat} (hown : s.vm.findClass own = some m.cls) (hcls : Bundle.fit cls = true) (hnames : ∀ n ∈ names, Bundle.fit n = true)
    (hk : (Cond.classLink own ik cls).before args s = true) (hini : (Cond.initialized cls).before args s = true) (hstr : vk_R own is text sa s) (hat : ∀ w ∈ (vx_atS own ic cls names).filter goodWord, w.before args s = true) {B : List Cond} (hB : ∀ w ∈ B, w.before args s = true) (hbad : ∀ w ∈ (vx_atS own ic cls names).filter (fun w => !goodWord w), w ∈ B)
    (hgood : ∀ w ∈ Cond.classLink own ik cls :: Cond.initialized cls :: vx_atS own ic cls names, vx_ot w = true) (hsize : ls.size = c.maxLocals)
    (d0 : decode cc pc = .ok (.new ik, 3)) (d3 : decode cc (pc + 3) = .ok (.dup, 1)) (d4 : decode cc (pc + 4) = .ok (.ldc is, 2)) (d6 : decode cc (pc + 6) = .ok (.invokespecial ic, 3)) (d9 : decode cc (pc + 9) = .ok (.athrow, 1))
    (hRf : names.length + 3 < R.frames) (hRl : (rest.map fun v => v.category).sum + (13 * (names.length + 1) + 43) ≤ R.locals) (hRc : cells + 1 ≤ R.cells) (hRs : slots + 6 ≤ R.slots) (ht : thr0 cls) (hc : cells + 1 ≤ mc0) (hs : slots + 6 ≤ ms0) :
    W p l e R s m args below meth c H locs cells slots (vx_MQ below (zQ G A ad pst) (zX G A I ad ct thr0) args s mc0 ms0 A) (F0 m pc ls rest) :=
  vx_throwS hx hb hst hown hcls hnames hk hini hstr (vx_hat hat hbad hB) hgood hK.2.2.1 hK.2.2.2 hw.2.2.1 hsize d0 d3 d4 d6 d9 (fun x h => (hout x h).elim) hRf hRl hRc hRs hlk
    (fun t _ h1 h2 => ⟨ht, ⟨hw.1.1.kept (fun k q h => h2 q.1 (hw.1.1 k q h).lt), hw.1.2⟩, ⟨Nat.le_trans hw.2.2.1.1 h1, fun q hq hn => by rw [h2 q (Nat.lt_of_lt_of_le hq hw.2.2.1.1)]; exact hw.2.2.1.2.1 q hq hn⟩⟩) hw.2.2.1.2.2 hc hs
/-- ends -/
theorem z_iret (hx : p.tables.exec = Jvm.exec) (hb : c.code = cc) (hlk : meth.locks = false) (hr : meth.sig.returnType = some .int) {I1 : List Nat} {ct1 : Nat → va_E} (hw : zW G A s.heap H locs I1 ad ct1) {z : Int} (hdg : decode cc pc = .ok (.ireturn, 1)) (hc : cells ≤ mc0) (hs : slots ≤ ms0) (hp : pst (some (zi z)) (I1, ct1, H.size)) :
    W p l e R s m args below meth c H locs cells slots (vx_MQ below (zQ G A ad pst) (zX G A I ad ct thr0) args s mc0 ms0 A) (F0 m pc ls [zi z]) :=
  vx_ret (W.widen hc hs (W.iret hx hb hr (fun t h9 _ => ⟨⟨_, (I1, ct1, H.size), rfl, hp, by rw [h9]; exact hw.1, hw.2.1, by rw [h9]⟩, hw.2.2.1.F h9⟩) hw.2.2.1.2.2 hdg hlk))
theorem z_zret (hx : p.tables.exec = Jvm.exec) (hb : c.code = cc) (hlk : meth.locks = false) (hr : meth.sig.returnType = some .boolean) {I1 : List Nat} {ct1 : Nat → va_E} (hw : zW G A s.heap H locs I1 ad ct1) {z : Int} (hz : z = 0 ∨ z = 1) (hdg : decode cc pc = .ok (.ireturn, 1)) (hc : cells ≤ mc0) (hs : slots ≤ ms0) (hp : pst (some (zi z)) (I1, ct1, H.size)) :
    W p l e R s m args below meth c H locs cells slots (vx_MQ below (zQ G A ad pst) (zX G A I ad ct thr0) args s mc0 ms0 A) (F0 m pc ls [zi z]) :=
  vx_ret (W.widen hc hs (W.zret hx hb hr (by rcases hz with rfl | rfl <;> rfl) (fun t h9 _ => ⟨⟨_, (I1, ct1, H.size), rfl, hp, by rw [h9]; exact hw.1, hw.2.1, by rw [h9]⟩, hw.2.2.1.F h9⟩) hw.2.2.1.2.2 hdg hlk))
theorem z_lret (hx : p.tables.exec = Jvm.exec) (hb : c.code = cc) (hlk : meth.locks = false) (hr : meth.sig.returnType = some .long) {I1 : List Nat} {ct1 : Nat → va_E} (hw : zW G A s.heap H locs I1 ad ct1) {z : Int} (hdg : decode cc pc = .ok (.lreturn, 1)) (hc : cells ≤ mc0) (hs : slots ≤ ms0) (hp : pst (some (zl z)) (I1, ct1, H.size)) :
    W p l e R s m args below meth c H locs cells slots (vx_MQ below (zQ G A ad pst) (zX G A I ad ct thr0) args s mc0 ms0 A) (F0 m pc ls [zl z]) :=
  vx_ret (W.widen hc hs (W.lret hx hb hr (fun t h9 _ => ⟨⟨_, (I1, ct1, H.size), rfl, hp, by rw [h9]; exact hw.1, hw.2.1, by rw [h9]⟩, hw.2.2.1.F h9⟩) hw.2.2.1.2.2 hdg hlk))
theorem z_vret (hx : p.tables.exec = Jvm.exec) (hb : c.code = cc) (hlk : meth.locks = false) (hr : meth.sig.returnType = none) {I1 : List Nat} {ct1 : Nat → va_E} (hw : zW G A s.heap H locs I1 ad ct1) (hdg : decode cc pc = .ok (.return_, 1)) (hc : cells ≤ mc0) (hs : slots ≤ ms0) (hp : pst none (I1, ct1, H.size)) :
    W p l e R s m args below meth c H locs cells slots (vx_MQ below (zQ G A ad pst) (zX G A I ad ct thr0) args s mc0 ms0 A) (F0 m pc ls []) :=
  vx_ret (W.widen hc hs (W.vret hx hb hr (fun t h9 _ => ⟨⟨_, (I1, ct1, H.size), rfl, hp, by rw [h9]; exact hw.1, hw.2.1, by rw [h9]⟩, hw.2.2.1.F h9⟩) hw.2.2.1.2.2 hdg hlk))
theorem z_aret (hx : p.tables.exec = Jvm.exec) (hb : c.code = cc) (hlk : meth.locks = false) {nm : String} (hr : meth.sig.returnType = some (.object nm)) {I1 : List Nat} {ct1 : Nat → va_E} (hw : zW G A s.heap H locs I1 ad ct1) {z : Nat} (hdg : decode cc pc = .ok (.areturn, 1)) (hc : cells ≤ mc0) (hs : slots ≤ ms0) (hp : pst (some (.ref z)) (I1, ct1, H.size)) :
    W p l e R s m args below meth c H locs cells slots (vx_MQ below (zQ G A ad pst) (zX G A I ad ct thr0) args s mc0 ms0 A) (F0 m pc ls [.ref z]) :=
  vx_ret (W.widen hc hs (W.aret hx hb hr (Or.inl ⟨_, rfl⟩) (Or.inr ⟨_, rfl⟩) (fun t h9 _ => ⟨⟨_, (I1, ct1, H.size), rfl, hp, by rw [h9]; exact hw.1, hw.2.1, by rw [h9]⟩, hw.2.2.1.F h9⟩) hw.2.2.1.2.2 hdg hlk))
end ZC
end
section
/-! the pile, in whole numbers -/
abbrev zPl : Type := Nat × (Nat → Int) × (Int → Int) × (Int → Int) × (Int → Int)
def pn (q : zPl) : Int := (q.1 : Int)
def psp (q : zPl) : Int := q.2.1 0
def pma (q : zPl) : Int := q.2.1 1
def pco (q : zPl) : Int := q.2.1 2
def pts (q : zPl) : Int := q.2.1 3
def ptm (q : zPl) : Int := q.2.1 4
def pjo (q : zPl) : Int := q.2.1 5
def pst (q : zPl) : Int → Int := q.2.2.1
def pmo (q : zPl) : Int → Int := q.2.2.2.1
def psk (q : zPl) : Int → Int := q.2.2.2.2
def zGood (q : zPl) : Prop := (1 ≤ pn q ∧ pn q ≤ 12) ∧ (1 ≤ psp q ∧ psp q ≤ 10000) ∧ (1 ≤ pma q ∧ pma q ≤ 1000) ∧ (0 ≤ pco q ∧ pco q ≤ 100000) ∧ (0 ≤ pts q ∧ pts q ≤ 1000) ∧ (0 ≤ ptm q ∧ ptm q ≤ 1000000) ∧ (pjo q = 0 ∨ pjo q = 1) ∧ (∀ i, 0 ≤ pst q i ∧ pst q i ≤ 1000) ∧ (∀ i, 0 ≤ pmo q i ∧ pmo q i ≤ 100000) ∧ ∀ i, 0 ≤ psk q i ∧ psk q i ≤ 10000
def zcl (v lo hi : Int) : Int := if v < lo then lo else if v > hi then hi else v
theorem zcl_bd {v lo hi : Int} (h : lo ≤ hi) : lo ≤ zcl v lo hi ∧ zcl v lo hi ≤ hi := by unfold zcl; (repeat' split) <;> omega
theorem zcl_mono {v v2 lo hi : Int} (h : v ≤ v2) : zcl v lo hi ≤ zcl v2 lo hi ∨ hi < lo := by unfold zcl; (repeat' split) <;> omega
theorem zmulb {a b A B : Int} (ha : 0 ≤ a) (ha2 : a ≤ A) (hb : -B ≤ b) (hb2 : b ≤ B) : -(A * B) ≤ a * b ∧ a * b ≤ A * B := by
  have hB : 0 ≤ B := by omega
  have h1 : a * B ≤ A * B := Int.mul_le_mul_of_nonneg_right ha2 hB
  have h2 : a * b ≤ a * B := Int.mul_le_mul_of_nonneg_left hb2 ha
  have h3 : a * (-B) ≤ a * b := Int.mul_le_mul_of_nonneg_left hb ha
  rw [Int.mul_neg] at h3
  constructor <;> omega
theorem zdivb {x d B : Int} (hd : 1 ≤ d) (h1 : -B ≤ x) (h2 : x ≤ B) : -B ≤ x / d ∧ x / d ≤ B := by
  have hB : 0 ≤ B := by omega
  constructor
  · apply Int.le_ediv_of_mul_le (by omega)
    have : B * 1 ≤ B * d := Int.mul_le_mul_of_nonneg_left hd hB
    rw [Int.neg_mul]; omega
  · apply Int.ediv_le_of_le_mul (by omega)
    have : B * 1 ≤ B * d := Int.mul_le_mul_of_nonneg_left hd hB
    omega
theorem zdiv_mono {x y d : Int} (hd : 1 ≤ d) (h : x ≤ y) : x / d ≤ y / d := Int.ediv_le_ediv (by omega) h
def ztf (q : zPl) (w : Int) : Int := zcl (pts q * w) 0 (ptm q)
def zgf (q : zPl) (i u : Int) : Int := zcl (pst q i * (u - psk q i)) (-(pmo q i)) (pmo q i)
def zPF (q : zPl) (w : Int) : Nat → Int × Int
  | 0 => (w, ztf q w)
  | k + 1 => ((zPF q w k).1 + ((zPF q w k).2 + zgf q (pn q - 1 - k) (zPF q w k).1) / psp q, (zPF q w k).2 + zgf q (pn q - 1 - k) (zPF q w k).1)
def zp (q : zPl) (w : Int) (k : Nat) : Int := (zPF q w k).1
def zf (q : zPl) (w : Int) (k : Nat) : Int := (zPF q w k).2
theorem zp_0 (q : zPl) (w : Int) : zp q w 0 = w := rfl
theorem zf_0 (q : zPl) (w : Int) : zf q w 0 = ztf q w := rfl
theorem zf_s (q : zPl) (w : Int) (k : Nat) : zf q w (k + 1) = zf q w k + zgf q (pn q - 1 - k) (zp q w k) := rfl
theorem zp_s (q : zPl) (w : Int) (k : Nat) : zp q w (k + 1) = zp q w k + zf q w (k + 1) / psp q := rfl
theorem zgf_bd {q : zPl} (h : zGood q) (i u : Int) : -100000 ≤ zgf q i u ∧ zgf q i u ≤ 100000 := by
  have h1 := h.2.2.2.2.2.2.2.2.1 i
  have h2 := zcl_bd (v := pst q i * (u - psk q i)) (lo := -(pmo q i)) (hi := pmo q i) (by omega)
  unfold zgf; omega
theorem ztf_bd {q : zPl} (h : zGood q) (w : Int) : 0 ≤ ztf q w ∧ ztf q w ≤ 1000000 := by
  have h1 := h.2.2.2.2.2.1
  have h2 := zcl_bd (v := pts q * w) (lo := 0) (hi := ptm q) (by omega)
  unfold ztf; omega
theorem zf_bd {q : zPl} (h : zGood q) (w : Int) : ∀ k : Nat, -(100000 * (k : Int)) ≤ zf q w k ∧ zf q w k ≤ 1000000 + 100000 * (k : Int)
  | 0 => by have := ztf_bd h w; rw [zf_0]; omega
  | k + 1 => by
    have h1 := zf_bd h w k
    have h2 := zgf_bd h (pn q - 1 - k) (zp q w k)
    rw [zf_s]; omega
theorem zf_bd2 {q : zPl} (h : zGood q) (w : Int) {k : Nat} (hk : k ≤ 12) : -2200000 ≤ zf q w k ∧ zf q w k ≤ 2200000 := by
  have := zf_bd h w k; omega
theorem zp_bd {q : zPl} (h : zGood q) (w : Int) : ∀ k : Nat, k ≤ 12 → w - 2200000 * (k : Int) ≤ zp q w k ∧ zp q w k ≤ w + 2200000 * (k : Int)
  | 0, _ => by rw [zp_0]; omega
  | k + 1, hk => by
    have h1 := zp_bd h w k (by omega)
    have h2 := zf_bd2 h w hk
    have h3 := zdivb h.2.1.1 h2.1 h2.2
    rw [zp_s]; omega
theorem zp_bd2 {q : zPl} (h : zGood q) {w : Int} (h1 : -200000 ≤ w) (h2 : w ≤ 200000) {k : Nat} (hk : k ≤ 12) : -30000000 ≤ zp q w k ∧ zp q w k ≤ 30000000 := by
  have := zp_bd h w k hk; omega
theorem zPF_mono {q : zPl} (h : zGood q) {w v : Int} (hw : w ≤ v) : ∀ k : Nat, zp q w k ≤ zp q v k ∧ zf q w k ≤ zf q v k
  | 0 => by
    refine ⟨hw, ?_⟩
    have h1 := h.2.2.2.2.1.1
    have h2 := h.2.2.2.2.2.1.1
    have h3 : pts q * w ≤ pts q * v := Int.mul_le_mul_of_nonneg_left hw h1
    rw [zf_0, zf_0]; unfold ztf
    rcases zcl_mono (lo := 0) (hi := ptm q) h3 with h4 | h4 <;> omega
  | k + 1 => by
    obtain ⟨h1, h2⟩ := zPF_mono h hw k
    have h3 := h.2.2.2.2.2.2.2.1 (pn q - 1 - k)
    have h4 := h.2.2.2.2.2.2.2.2.1 (pn q - 1 - k)
    have h5 : pst q (pn q - 1 - k) * (zp q w k - psk q (pn q - 1 - k)) ≤ pst q (pn q - 1 - k) * (zp q v k - psk q (pn q - 1 - k)) := Int.mul_le_mul_of_nonneg_left (by omega) h3.1
    have h6 : zgf q (pn q - 1 - k) (zp q w k) ≤ zgf q (pn q - 1 - k) (zp q v k) := by
      unfold zgf
      rcases zcl_mono (lo := -(pmo q (pn q - 1 - k))) (hi := pmo q (pn q - 1 - k)) h5 with h7 | h7 <;> omega
    have h8 : zf q w (k + 1) ≤ zf q v (k + 1) := by rw [zf_s, zf_s]; omega
    have h9 := zdiv_mono h.2.1.1 h8
    exact ⟨by rw [zp_s, zp_s]; omega, h8⟩
/-- the head's place, the load -/
def zhp (q : zPl) (w : Int) : Int := zp q w (q.1 - 1)
def zld (q : zPl) (w : Int) : Int := zf q w q.1
/-- whether the state of w is within a bound: by its load, or else by the head's place -/
def zin (q : zPl) (b : Bool) (bound w : Int) : Bool := if b then decide (zld q w ≤ bound) else decide (zhp q w ≤ bound)
theorem zin_mono {q : zPl} (h : zGood q) {b : Bool} {bound w v : Int} (hw : w ≤ v) (hv : zin q b bound v = true) : zin q b bound w = true := by
  unfold zin at *
  cases b
  · have := (zPF_mono h hw (q.1 - 1)).1
    simp only [Bool.false_eq_true, if_false, decide_eq_true_eq] at *
    unfold zhp at *; omega
  · have := (zPF_mono h hw q.1).2
    simp only [if_true, decide_eq_true_eq] at *
    unfold zld at *; omega
def zsr (P : Int → Bool) : Nat → Int
  | 0 => -100001
  | k + 1 => if P (-100000 + k) then -100000 + k else zsr P k
def zIsG (P : Int → Bool) (r : Int) : Prop := -100001 ≤ r ∧ r ≤ 100000 ∧ (-100000 ≤ r → P r = true) ∧ ∀ w, r < w → w ≤ 100000 → -100000 ≤ w → P w = false
theorem zsr_ok (P : Int → Bool) : ∀ k : Nat, -100001 ≤ zsr P k ∧ zsr P k < -100000 + k ∧ (-100000 ≤ zsr P k → P (zsr P k) = true) ∧ ∀ w, zsr P k < w → w < -100000 + k → -100000 ≤ w → P w = false
  | 0 => ⟨Int.le_refl _, by show (-100001 : Int) < _; omega, fun h => absurd h (by show ¬ (-100000 : Int) ≤ -100001; omega), fun w _ h2 h3 => absurd h2 (by omega)⟩
  | k + 1 => by
    obtain ⟨h1, h2, h3, h4⟩ := zsr_ok P k
    unfold zsr
    by_cases h : P (-100000 + k) = true
    · rw [if_pos h]
      exact ⟨by omega, by omega, fun _ => h, fun w h5 h6 _ => absurd h5 (by omega)⟩
    · rw [if_neg h]
      refine ⟨h1, by omega, h3, fun w h5 h6 h7 => ?_⟩
      by_cases hw : w = -100000 + k
      · rw [hw]; simpa using h
      · exact h4 w h5 (by omega) h7
/-- the greatest place within; below all when there is none -/
def zg (q : zPl) (b : Bool) (bound : Int) : Int := zsr (zin q b bound) 200001
theorem zg_is (q : zPl) (b : Bool) (bound : Int) : zIsG (zin q b bound) (zg q b bound) := by
  obtain ⟨h1, h2, h3, h4⟩ := zsr_ok (zin q b bound) 200001
  exact ⟨h1, by unfold zg; omega, h3, fun w h5 h6 h7 => h4 w h5 (by omega) h7⟩
theorem zg_uniq {P : Int → Bool} {r s : Int} (hr : zIsG P r) (hs : zIsG P s) : r = s := by
  obtain ⟨a1, a2, a3, a4⟩ := hr
  obtain ⟨b1, b2, b3, b4⟩ := hs
  rcases Int.lt_trichotomy r s with h | h | h
  · have h1 := a4 s h b2 (by omega)
    rw [b3 (by omega)] at h1; cases h1
  · exact h
  · have h1 := b4 r h a2 (by omega)
    rw [a3 (by omega)] at h1; cases h1
theorem zg_bd (q : zPl) (b : Bool) (bound : Int) : -100001 ≤ zg q b bound ∧ zg q b bound ≤ 100000 := ⟨(zg_is q b bound).1, (zg_is q b bound).2.1⟩
/-- steps that are halved -/
def zp2 (s : Int) : Prop := s = 0 ∨ ∃ j : Nat, j ≤ 17 ∧ s = 2 ^ j
theorem zp2_half {s : Int} (h : zp2 s) (h0 : 0 < s) : zp2 (s.tdiv 2) ∧ 0 ≤ s.tdiv 2 ∧ s.tdiv 2 < s ∧ (s = 1 ∧ s.tdiv 2 = 0 ∨ s = 2 * s.tdiv 2) := by
  rcases h with h | ⟨j, hj, h⟩
  · omega
  · have : j = 0 ∨ j = 1 ∨ j = 2 ∨ j = 3 ∨ j = 4 ∨ j = 5 ∨ j = 6 ∨ j = 7 ∨ j = 8 ∨ j = 9 ∨ j = 10 ∨ j = 11 ∨ j = 12 ∨ j = 13 ∨ j = 14 ∨ j = 15 ∨ j = 16 ∨ j = 17 := by omega
    rcases this with rfl | rfl | rfl | rfl | rfl | rfl | rfl | rfl | rfl | rfl | rfl | rfl | rfl | rfl | rfl | rfl | rfl | rfl
    · subst h; exact ⟨Or.inl (by decide), by decide, by decide, Or.inl (by decide)⟩
    · subst h; exact ⟨Or.inr ⟨0, by omega, by decide⟩, by decide, by decide, Or.inr (by decide)⟩
    · subst h; exact ⟨Or.inr ⟨1, by omega, by decide⟩, by decide, by decide, Or.inr (by decide)⟩
    · subst h; exact ⟨Or.inr ⟨2, by omega, by decide⟩, by decide, by decide, Or.inr (by decide)⟩
    · subst h; exact ⟨Or.inr ⟨3, by omega, by decide⟩, by decide, by decide, Or.inr (by decide)⟩
    · subst h; exact ⟨Or.inr ⟨4, by omega, by decide⟩, by decide, by decide, Or.inr (by decide)⟩
    · subst h; exact ⟨Or.inr ⟨5, by omega, by decide⟩, by decide, by decide, Or.inr (by decide)⟩
    · subst h; exact ⟨Or.inr ⟨6, by omega, by decide⟩, by decide, by decide, Or.inr (by decide)⟩
    · subst h; exact ⟨Or.inr ⟨7, by omega, by decide⟩, by decide, by decide, Or.inr (by decide)⟩
    · subst h; exact ⟨Or.inr ⟨8, by omega, by decide⟩, by decide, by decide, Or.inr (by decide)⟩
    · subst h; exact ⟨Or.inr ⟨9, by omega, by decide⟩, by decide, by decide, Or.inr (by decide)⟩
    · subst h; exact ⟨Or.inr ⟨10, by omega, by decide⟩, by decide, by decide, Or.inr (by decide)⟩
    · subst h; exact ⟨Or.inr ⟨11, by omega, by decide⟩, by decide, by decide, Or.inr (by decide)⟩
    · subst h; exact ⟨Or.inr ⟨12, by omega, by decide⟩, by decide, by decide, Or.inr (by decide)⟩
    · subst h; exact ⟨Or.inr ⟨13, by omega, by decide⟩, by decide, by decide, Or.inr (by decide)⟩
    · subst h; exact ⟨Or.inr ⟨14, by omega, by decide⟩, by decide, by decide, Or.inr (by decide)⟩
    · subst h; exact ⟨Or.inr ⟨15, by omega, by decide⟩, by decide, by decide, Or.inr (by decide)⟩
    · subst h; exact ⟨Or.inr ⟨16, by omega, by decide⟩, by decide, by decide, Or.inr (by decide)⟩
/-- the search by halves: at found, with the next step s, all above found + 2 s (found, if s is 0) is beyond -/
def zSch (P : Int → Bool) (found s : Int) : Prop := -100001 ≤ found ∧ found ≤ 100000 ∧ zp2 s ∧ 0 ≤ s ∧ s ≤ 131072 ∧ (-100000 ≤ found → P found = true) ∧ ∀ w, (found + 2 * s ≤ w ∧ found < w) → w ≤ 100000 → -100000 ≤ w → P w = false
theorem zSch_done {P : Int → Bool} {found : Int} (h : zSch P found 0) : zIsG P found := ⟨h.1, h.2.1, h.2.2.2.2.2.1, fun w h1 h2 h3 => h.2.2.2.2.2.2 w ⟨by omega, h1⟩ h2 h3⟩
theorem zSch_far {P : Int → Bool} {found s : Int} (h : zSch P found s) (h0 : 0 < s) (hf : 100000 < found + s) : zSch P found (s.tdiv 2) := by
  obtain ⟨a, b, c, d⟩ := zp2_half h.2.2.1 h0
  exact ⟨h.1, h.2.1, a, b, by have := h.2.2.2.2.1; omega, h.2.2.2.2.2.1, fun w h1 h2 h3 => absurd h2 (by rcases d with d | d <;> omega)⟩
theorem zSch_yes {P : Int → Bool} {found s : Int} (h : zSch P found s) (h0 : 0 < s) (hf : found + s ≤ 100000) (hp : P (found + s) = true) : zSch P (found + s) (s.tdiv 2) := by
  obtain ⟨a, b, c, d⟩ := zp2_half h.2.2.1 h0
  have := h.1
  exact ⟨by omega, hf, a, b, by have := h.2.2.2.2.1; omega, fun _ => hp, fun w h1 h2 h3 => h.2.2.2.2.2.2 w (by rcases d with d | d <;> omega) h2 h3⟩
theorem zSch_no {P : Int → Bool} {found s : Int} (h : zSch P found s) (h0 : 0 < s) (hm : ∀ w v : Int, w ≤ v → P v = true → P w = true) (hp : P (found + s) = false) : zSch P found (s.tdiv 2) := by
  obtain ⟨a, b, c, d⟩ := zp2_half h.2.2.1 h0
  refine ⟨h.1, h.2.1, a, b, by have := h.2.2.2.2.1; omega, h.2.2.2.2.2.1, fun w h1 h2 h3 => ?_⟩
  cases hw : P w with
  | false => rfl
  | true =>
    have := hm (found + s) w (by rcases d with d | d <;> omega) hw
    rw [hp] at this; cases this
def zqk (q : zPl) : Int := if pts q = 0 then 0 else (1000 * ptm q).tdiv (pts q)
end
section
/-! what the walks lean on -/
theorem zWe {G : zG} {A : Nat → Prop} {H0 H : Heap} {locs : List Loc} {I : List Nat} {ad : Nat → Nat} {ct ct1 : Nat → va_E} (hw : zW G A H0 H locs I ad ct) (h : ct = ct1) : zW G A H0 H locs I ad ct1 := h ▸ hw
theorem zU_zU (ct : Nat → va_E) (k : Nat) (a b : va_E) : zU (zU ct k a) k b = zU ct k b := by
  funext j; unfold zU; split <;> rfl
theorem zU_c {ct : Nat → va_E} {k j : Nat} {a b : va_E} (h : k ≠ j) : zU (zU ct k a) j b = zU (zU ct j b) k a := by
  funext i; unfold zU
  by_cases h1 : i = k
  · by_cases h2 : i = j
    · exact absurd (h1.symm.trans h2) h
    · simp [h1, h]
  · simp [h1]
theorem zU_id {ct : Nat → va_E} {k : Nat} {e : va_E} (h : ct k = e) : zU ct k e = ct := by
  funext j; unfold zU
  by_cases hj : j = k
  · rw [if_pos hj, hj, h]
  · rw [if_neg hj]
theorem zfd_neg {a b : Int} (hb : 1 ≤ b) (ha : a < 0) : a / b = if a.tdiv b * b = a then a.tdiv b else a.tdiv b - 1 := by
  have h1 : a.tdiv b * b + a.tmod b = a := Int.tdiv_mul_add_tmod a b
  have h2 : a.tmod b ≤ 0 := by
    have := Int.tmod_nonneg b (show 0 ≤ -a by omega)
    rw [Int.neg_tmod] at this; omega
  have h3 : -b < a.tmod b := by
    have := Int.tmod_lt_of_pos (-a) (show 0 < b by omega)
    rw [Int.neg_tmod] at this; omega
  split
  · next h =>
    apply Int.le_antisymm
    · rw [← h, Int.mul_ediv_cancel _ (by omega)]; rw [h]; exact Int.le_refl _
    · apply Int.le_ediv_of_mul_le (by omega); omega
  · next h =>
    have h4 : a.tmod b < 0 := by
      rcases Int.lt_or_eq_of_le h2 with h5 | h5
      · exact h5
      · rw [h5] at h1; exact absurd (by omega) h
    have h5 : (a.tdiv b - 1) * b = a.tdiv b * b - b := by rw [Int.sub_mul, Int.one_mul]
    apply Int.le_antisymm
    · have : a / b < a.tdiv b := by
        apply Int.ediv_lt_of_lt_mul (by omega); omega
      omega
    · apply Int.le_ediv_of_mul_le (by omega); omega
theorem zdn_neg {a b : Int} (hb : 1 ≤ b) (ha : a < 0) : -((-a + b - 1).tdiv b) = a / b := by
  rw [Int.tdiv_eq_ediv_of_nonneg (by omega)]
  have h1 := Int.mul_ediv_add_emod a b
  have h2 := Int.emod_nonneg a (show b ≠ 0 by omega)
  have h3 := Int.emod_lt_of_pos a (show 0 < b by omega)
  have h4 : -a + b - 1 = (-(a / b)) * b + (b - 1 - a % b) := by
    rw [Int.neg_mul]
    have : b * (a / b) = a / b * b := Int.mul_comm _ _
    omega
  rw [h4, Int.add_comm, Int.add_mul_ediv_right _ _ (by omega), Int.ediv_eq_zero_of_lt (by omega) (by omega)]
  omega
theorem zxorn {x y : Int32} (hy : 0 < y) : 0 ≤ x ^^^ y ↔ 0 ≤ x := by
  have e : ∀ z : Int32, 0 ≤ z ↔ z.toBitVec.msb = false := fun z => by
    rw [Int32.le_iff_toInt_le]
    have h := BitVec.toInt_eq_msb_cond z.toBitVec
    have hz : z.toInt = z.toBitVec.toInt := rfl
    have hlt := z.toBitVec.isLt
    rw [show (0 : Int32).toInt = 0 from rfl, hz, h]
    cases hm : z.toBitVec.msb <;> simp <;> omega
  have hy0 : y.toBitVec.msb = false := (e y).mp (Int32.le_of_lt hy)
  rw [e, e, Int32.toBitVec_xor, BitVec.msb_xor, hy0]
  simp
section ZX
variable {p : Program} {l : Launch} {e : Env} {R : Room} {s : State} {m : MethodId} {args : Array Value} {below : List Frame} {meth : Method} {c : Code} {H : Heap} {locs : List Loc} {cells slots : Nat} {Q : State → Prop}
variable {cc : ByteArray} {pc : Nat} {ls : Array Slot} {rest : List Value}
theorem z_xorge (hx : p.tables.exec = Jvm.exec) (hb : c.code = cc) {a b : Int} {off : Int} {tgt : Nat} (hd0 : decode cc pc = .ok (.ixor, 1)) (hdg : decode cc (pc + 1) = .ok (.ifCond .ge off, 3)) (ht : ((pc + 1 : Nat) : Int) + off = (tgt : Int)) (ha : zr a) (hb2 : zr b) (hpos : 0 < b)
    (kt : 0 ≤ a → W p l e R s m args below meth c H locs cells slots Q (F0 m tgt ls rest)) (kf : ¬ 0 ≤ a → W p l e R s m args below meth c H locs cells slots Q (F0 m (pc + 4) ls rest)) : W p l e R s m args below meth c H locs cells slots Q (F0 m pc ls (zi b :: zi a :: rest)) := by
  have hp : (0 : Int32) < Int32.ofInt b := (zi_lt zr_0 hb2).mpr hpos
  exact lv_ixor hx hb hd0 (lv_if_ge hx hb hdg ht (fun h => kt ((zi_le zr_0 ha).mp ((zxorn hp).mp h))) (fun h => kf (fun q => h ((zxorn hp).mpr ((zi_le zr_0 ha).mpr q)))))
end ZX
/-- where a pile lies: its object at k, its rows behind it -/
def zPileAt (G : zG) (ad : Nat → Nat) (ct : Nat → va_E) (k : Nat) (q : zPl) : Prop :=
  ct k = .inr (1, [zi (psp q), zi (pma q), zi (pco q), .ref (ad (k + 1)), .ref (ad (k + 2)), .ref (ad (k + 3)), zi (pts q), zi (ptm q), zi (pjo q)]) ∧ ct (k + 1) = zI G q.1 (pst q) ∧ ct (k + 2) = zI G q.1 (pmo q) ∧ ct (k + 3) = zI G q.1 (psk q)
def zMem4 (I : List Nat) (k : Nat) : Prop := k ∈ I ∧ k + 1 ∈ I ∧ k + 2 ∈ I ∧ k + 3 ∈ I
end
section
set_option maxHeartbeats 4000000 in
set_option maxRecDepth 100000 in
/-- clamp -/
theorem k_clamp (l : Launch) (hl0 : l.stackTraces = false) (G : zG) (I : List Nat) (ad : Nat → Nat) (ct : Nat → va_E) (sz : Nat) (v lo hi : Int) (hv : zR v) (h1 : zr lo) (h2 : zr hi) : zN l yX3_clamp wsX3_clamp 0 0 0 0 G [zl (v), zi (lo), zi (hi)] I ad ct zno sz (zk I (zqi fun z u => z = zcl v lo hi ∧ u = ct)) := by
  refine z_ofW (ret := (some .int)) hl0 (by decide +kernel) rfl (Nat.le_of_ble_eq_true rfl) ?_
  intro p e s m args below meth c A ls hA0 hsz hF hr hout hnm hw hl
  obtain ⟨hx, hb, hml, hown, hts, hK, hlk, hst⟩ := hF
  have hown : s.vm.findClass RX3 = some m.cls := hown
  have hl : lv_has ls 4 [(0, zl (v)), (2, zi (lo)), (3, zi (hi))] := hl
  refine lv_lload_n hx hb dX3_clamp_0 rfl (lv_at hl 0 rfl) ?_
  refine lv_iload_n hx hb dX3_clamp_1 rfl (lv_at hl 1 rfl) ?_
  refine z_i2l hx hb dX3_clamp_2 ⟨by omega, by omega⟩ ?_
  refine z_lcmp_ge (tgt := 9) hx hb dX3_clamp_3 dX3_clamp_4 (by decide) hv ⟨by omega, by omega⟩ (fun c_1 => ?_) (fun c_1 => ?_)
  · refine lv_lload_n hx hb dX3_clamp_9 rfl (lv_at hl 0 rfl) ?_
    refine lv_iload_n hx hb dX3_clamp_10 rfl (lv_at hl 2 rfl) ?_
    refine z_i2l hx hb dX3_clamp_11 ⟨by omega, by omega⟩ ?_
    refine z_lcmp_le (tgt := 20) hx hb dX3_clamp_12 dX3_clamp_13 (by decide) hv ⟨by omega, by omega⟩ (fun c_2 => ?_) (fun c_2 => ?_)
    · refine lv_lload_n hx hb dX3_clamp_20 rfl (lv_at hl 0 rfl) ?_
      refine z_l2i hx hb dX3_clamp_21 hv ?_
      exact z_iret hx hb hlk hr hw dX3_clamp_22 (Nat.zero_le _) (Nat.zero_le _) ⟨rfl, _, rfl, ⟨by unfold zcl; (repeat' split) <;> omega, rfl⟩⟩
    · refine lv_iload_n hx hb dX3_clamp_16 rfl (lv_at hl 2 rfl) ?_
      refine lv_goto (tgt := 22) hx hb dX3_clamp_17 (by decide) ?_
      exact z_iret hx hb hlk hr hw dX3_clamp_22 (Nat.zero_le _) (Nat.zero_le _) ⟨rfl, _, rfl, ⟨by unfold zcl; (repeat' split) <;> omega, rfl⟩⟩
  · refine lv_iload_n hx hb dX3_clamp_7 rfl (lv_at hl 1 rfl) ?_
    exact z_iret hx hb hlk hr hw dX3_clamp_8 (Nat.zero_le _) (Nat.zero_le _) ⟨rfl, _, rfl, ⟨by unfold zcl; (repeat' split) <;> omega, rfl⟩⟩

set_option maxHeartbeats 4000000 in
set_option maxRecDepth 100000 in
theorem k_in (l : Launch) (hl0 : l.stackTraces = false) (G : zG) (I : List Nat) (ad : Nat → Nat) (ct : Nat → va_E) (sz : Nat) (v lo hi : Int) (hv : zR v) (h1 : zR lo) (h2 : zR hi) : zN l yX4_in wsX4_in 0 0 0 0 G [zl (v), zl (lo), zl (hi)] I ad ct zno sz (zk I (zqi fun z u => z = zb (lo ≤ v ∧ v ≤ hi) ∧ u = ct)) := by
  refine z_ofW (ret := (some .boolean)) hl0 (by decide +kernel) rfl (Nat.le_of_ble_eq_true rfl) ?_
  intro p e s m args below meth c A ls hA0 hsz hF hr hout hnm hw hl
  obtain ⟨hx, hb, hml, hown, hts, hK, hlk, hst⟩ := hF
  have hown : s.vm.findClass RX4 = some m.cls := hown
  have hl : lv_has ls 6 [(0, zl (v)), (2, zl (lo)), (4, zl (hi))] := hl
  refine lv_lload_n hx hb dX4_in_0 rfl (lv_at hl 0 rfl) ?_
  refine lv_lload_n hx hb dX4_in_1 rfl (lv_at hl 1 rfl) ?_
  refine z_lcmp_lt (tgt := 17) hx hb dX4_in_2 dX4_in_3 (by decide) hv h1 (fun c_1 => ?_) (fun c_1 => ?_)
  · refine z_ic hx hb dX4_in_17 ?_
    exact z_zret hx hb hlk hr hw (Or.inl rfl) dX4_in_18 (Nat.zero_le _) (Nat.zero_le _) ⟨rfl, _, rfl, ⟨by show _ = ite _ _ _; split <;> omega, rfl⟩⟩
  · refine lv_lload_n hx hb dX4_in_6 rfl (lv_at hl 0 rfl) ?_
    refine lv_lload hx hb dX4_in_7 (lv_at hl 2 rfl) ?_
    refine z_lcmp_gt (tgt := 17) hx hb dX4_in_9 dX4_in_10 (by decide) hv h2 (fun c_2 => ?_) (fun c_2 => ?_)
    · refine z_ic hx hb dX4_in_17 ?_
      exact z_zret hx hb hlk hr hw (Or.inl rfl) dX4_in_18 (Nat.zero_le _) (Nat.zero_le _) ⟨rfl, _, rfl, ⟨by show _ = ite _ _ _; split <;> omega, rfl⟩⟩
    · refine z_ic hx hb dX4_in_13 ?_
      refine lv_goto (tgt := 18) hx hb dX4_in_14 (by decide) ?_
      exact z_zret hx hb hlk hr hw (Or.inr rfl) dX4_in_18 (Nat.zero_le _) (Nat.zero_le _) ⟨rfl, _, rfl, ⟨by show _ = ite _ _ _; split <;> omega, rfl⟩⟩

set_option maxHeartbeats 4000000 in
set_option maxRecDepth 100000 in
theorem k_cut (l : Launch) (hl0 : l.stackTraces = false) (G : zG) (I : List Nat) (ad : Nat → Nat) (ct : Nat → va_E) (sz : Nat) (v lo hi : Int) (hv : zR v) (h1 : zR lo) (h2 : zR hi) : zN l yX4_cut wsX4_cut 0 0 0 0 G [zl (v), zl (lo), zl (hi)] I ad ct zno sz (zk I (zql fun z u => z = zcl v lo hi ∧ u = ct)) := by
  refine z_ofW (ret := (some .long)) hl0 (by decide +kernel) rfl (Nat.le_of_ble_eq_true rfl) ?_
  intro p e s m args below meth c A ls hA0 hsz hF hr hout hnm hw hl
  obtain ⟨hx, hb, hml, hown, hts, hK, hlk, hst⟩ := hF
  have hown : s.vm.findClass RX4 = some m.cls := hown
  have hl : lv_has ls 6 [(0, zl (v)), (2, zl (lo)), (4, zl (hi))] := hl
  refine lv_lload_n hx hb dX4_cut_0 rfl (lv_at hl 0 rfl) ?_
  refine lv_lload_n hx hb dX4_cut_1 rfl (lv_at hl 1 rfl) ?_
  refine z_lcmp_ge (tgt := 10) hx hb dX4_cut_2 dX4_cut_3 (by decide) hv h1 (fun c_1 => ?_) (fun c_1 => ?_)
  · refine lv_lload_n hx hb dX4_cut_10 rfl (lv_at hl 0 rfl) ?_
    refine lv_lload hx hb dX4_cut_11 (lv_at hl 2 rfl) ?_
    refine z_lcmp_le (tgt := 22) hx hb dX4_cut_13 dX4_cut_14 (by decide) hv h2 (fun c_2 => ?_) (fun c_2 => ?_)
    · refine lv_lload_n hx hb dX4_cut_22 rfl (lv_at hl 0 rfl) ?_
      exact z_lret hx hb hlk hr hw dX4_cut_23 (Nat.zero_le _) (Nat.zero_le _) ⟨rfl, _, rfl, ⟨by unfold zcl; (repeat' split) <;> omega, rfl⟩⟩
    · refine lv_lload hx hb dX4_cut_17 (lv_at hl 2 rfl) ?_
      refine lv_goto (tgt := 23) hx hb dX4_cut_19 (by decide) ?_
      exact z_lret hx hb hlk hr hw dX4_cut_23 (Nat.zero_le _) (Nat.zero_le _) ⟨rfl, _, rfl, ⟨by unfold zcl; (repeat' split) <;> omega, rfl⟩⟩
  · refine lv_lload_n hx hb dX4_cut_6 rfl (lv_at hl 1 rfl) ?_
    refine lv_goto (tgt := 23) hx hb dX4_cut_7 (by decide) ?_
    exact z_lret hx hb hlk hr hw dX4_cut_23 (Nat.zero_le _) (Nat.zero_le _) ⟨rfl, _, rfl, ⟨by unfold zcl; (repeat' split) <;> omega, rfl⟩⟩

set_option maxHeartbeats 4000000 in
set_option maxRecDepth 100000 in
theorem k_down (l : Launch) (hl0 : l.stackTraces = false) (G : zG) (I : List Nat) (ad : Nat → Nat) (ct : Nat → va_E) (sz : Nat) (a b : Int) (ha : -4000000000000000000 ≤ a ∧ a ≤ 4000000000000000000) (hb1 : 1 ≤ b) (hb2 : b ≤ 4000000000000000000) : zN l yX4_down wsX4_down 0 0 0 0 G [zl (a), zl (b)] I ad ct zno sz (zk I (zql fun z u => z = a / b ∧ u = ct)) := by
  refine z_ofW (ret := (some .long)) hl0 (by decide +kernel) rfl (Nat.le_of_ble_eq_true rfl) ?_
  intro p e s m args below meth c A ls hA0 hsz hF hr hout hnm hw hl
  obtain ⟨hx, hb, hml, hown, hts, hK, hlk, hst⟩ := hF
  have hown : s.vm.findClass RX4 = some m.cls := hown
  have hl : lv_has ls 4 [(0, zl (a)), (2, zl (b))] := hl
  refine lv_lload_n hx hb dX4_down_0 rfl (lv_at hl 0 rfl) ?_
  refine z_lc0 hx hb dX4_down_1 ?_
  refine z_lcmp_lt (tgt := 12) hx hb dX4_down_2 dX4_down_3 (by decide) ⟨by omega, by omega⟩ ⟨by decide, by decide⟩ (fun c_1 => ?_) (fun c_1 => ?_)
  · refine lv_lload_n hx hb dX4_down_12 rfl (lv_at hl 0 rfl) ?_
    refine z_lneg hx hb dX4_down_13 ?_
    refine lv_lload_n hx hb dX4_down_14 rfl (lv_at hl 1 rfl) ?_
    refine z_ladd hx hb dX4_down_15 ?_
    refine z_lc1 hx hb dX4_down_16 ?_
    refine z_lsub hx hb dX4_down_17 ?_
    refine lv_lload_n hx hb dX4_down_18 rfl (lv_at hl 1 rfl) ?_
    refine z_ldiv hx hb dX4_down_19 ⟨by omega, by omega⟩ ⟨by omega, by omega⟩ (by omega) ?_
    refine z_lneg hx hb dX4_down_20 ?_
    exact z_lret hx hb hlk hr hw dX4_down_21 (Nat.zero_le _) (Nat.zero_le _) ⟨rfl, _, rfl, ⟨zdn_neg hb1 (by omega), rfl⟩⟩
  · refine lv_lload_n hx hb dX4_down_6 rfl (lv_at hl 0 rfl) ?_
    refine lv_lload_n hx hb dX4_down_7 rfl (lv_at hl 1 rfl) ?_
    refine z_ldiv hx hb dX4_down_8 ⟨by omega, by omega⟩ ⟨by omega, by omega⟩ (by omega) ?_
    refine lv_goto (tgt := 21) hx hb dX4_down_9 (by decide) ?_
    exact z_lret hx hb hlk hr hw dX4_down_21 (Nat.zero_le _) (Nat.zero_le _) ⟨rfl, _, rfl, ⟨Int.tdiv_eq_ediv_of_nonneg (by omega), rfl⟩⟩

set_option maxHeartbeats 4000000 in
set_option maxRecDepth 100000 in
theorem k_fdiv (l : Launch) (hl0 : l.stackTraces = false) (G : zG) (I : List Nat) (ad : Nat → Nat) (ct : Nat → va_E) (sz : Nat) (a b : Int) (ha : -2147483647 ≤ a ∧ a ≤ 2147483647) (hb1 : 1 ≤ b) (hb2 : b ≤ 2147483647) : zN l yJ9_floorDiv_7cf53 wsJ9_floorDiv_7cf53 0 0 0 0 G [zi (a), zi (b)] I ad ct zno sz (zk I (zqi fun z u => z = a / b ∧ u = ct)) := by
  have hq : -2147483647 ≤ a.tdiv b * b ∧ a.tdiv b * b ≤ 2147483647 := by
    have h1 : a.tdiv b * b + a.tmod b = a := Int.tdiv_mul_add_tmod a b
    have h2 := Int.tmod_nonneg b (a := a)
    have h3 := Int.tmod_lt_of_pos a (show 0 < b by omega)
    have h4 := Int.tmod_nonneg b (a := -a)
    have h5 := Int.tmod_lt_of_pos (-a) (show 0 < b by omega)
    rw [Int.neg_tmod] at h4 h5
    rcases Int.le_total 0 a with h | h
    · have h6 : 0 ≤ a.tdiv b * b := Int.mul_nonneg (Int.tdiv_nonneg h (by omega)) (by omega)
      have := h2 h; omega
    · have h6 : a.tdiv b * b ≤ 0 := Int.mul_nonpos_of_nonpos_of_nonneg (by have := Int.tdiv_nonneg (show 0 ≤ -a by omega) (show 0 ≤ b by omega); rw [Int.neg_tdiv] at this; omega) (by omega)
      have := h4 (by omega); omega
  refine z_ofW (ret := (some .int)) hl0 (by decide +kernel) rfl (Nat.le_of_ble_eq_true rfl) ?_
  intro p e s m args below meth c A ls hA0 hsz hF hr hout hnm hw hl
  obtain ⟨hx, hb, hml, hown, hts, hK, hlk, hst⟩ := hF
  have hown : s.vm.findClass RJ9 = some m.cls := hown
  have hl : lv_has ls 3 [(0, zi (a)), (1, zi (b))] := hl
  refine lv_iload_n hx hb dJ9_floorDiv_7cf53_0 rfl (lv_at hl 0 rfl) ?_
  refine lv_iload_n hx hb dJ9_floorDiv_7cf53_1 rfl (lv_at hl 1 rfl) ?_
  refine z_idiv hx hb dJ9_floorDiv_7cf53_2 ⟨by omega, by omega⟩ ⟨by omega, by omega⟩ (by omega) ?_
  refine lv_istore_n (lv' := [(2, zi ((a).tdiv (b))), (0, zi (a)), (1, zi (b))]) hx hb dJ9_floorDiv_7cf53_3 rfl hl (by decide) rfl (fun ls hl => ?_)
  refine lv_iload_n hx hb dJ9_floorDiv_7cf53_4 rfl (lv_at hl 1 rfl) ?_
  refine lv_iload_n hx hb dJ9_floorDiv_7cf53_5 rfl (lv_at hl 2 rfl) ?_
  refine z_xorge (tgt := 21) hx hb dJ9_floorDiv_7cf53_6 dJ9_floorDiv_7cf53_7 (by decide) ⟨by omega, by omega⟩ ⟨by omega, by omega⟩ (by omega) (fun c_1 => ?_) (fun c_1 => ?_)
  · refine lv_iload_n hx hb dJ9_floorDiv_7cf53_21 rfl (lv_at hl 0 rfl) ?_
    exact z_iret hx hb hlk hr hw dJ9_floorDiv_7cf53_22 (Nat.zero_le _) (Nat.zero_le _) ⟨rfl, _, rfl, ⟨Int.tdiv_eq_ediv_of_nonneg (by omega), rfl⟩⟩
  · refine lv_iload_n hx hb dJ9_floorDiv_7cf53_10 rfl (lv_at hl 0 rfl) ?_
    refine lv_iload_n hx hb dJ9_floorDiv_7cf53_11 rfl (lv_at hl 2 rfl) ?_
    refine z_imul hx hb dJ9_floorDiv_7cf53_12 ?_
    refine lv_iload_n hx hb dJ9_floorDiv_7cf53_13 rfl (lv_at hl 1 rfl) ?_
    refine z_icmp_eq (tgt := 21) hx hb dJ9_floorDiv_7cf53_14 (by decide) ⟨by omega, by omega⟩ ⟨by omega, by omega⟩ (fun c_2 => ?_) (fun c_2 => ?_)
    · refine lv_iload_n hx hb dJ9_floorDiv_7cf53_21 rfl (lv_at hl 0 rfl) ?_
      exact z_iret hx hb hlk hr hw dJ9_floorDiv_7cf53_22 (Nat.zero_le _) (Nat.zero_le _) ⟨rfl, _, rfl, ⟨by rw [zfd_neg hb1 (by omega)]; split <;> omega, rfl⟩⟩
    · refine lv_iload_n hx hb dJ9_floorDiv_7cf53_17 rfl (lv_at hl 0 rfl) ?_
      refine z_ic hx hb dJ9_floorDiv_7cf53_18 ?_
      refine z_isub hx hb dJ9_floorDiv_7cf53_19 ?_
      exact z_iret hx hb hlk hr hw dJ9_floorDiv_7cf53_20 (Nat.zero_le _) (Nat.zero_le _) ⟨rfl, _, rfl, ⟨by rw [zfd_neg hb1 (by omega)]; split <;> omega, rfl⟩⟩

set_option maxHeartbeats 4000000 in
set_option maxRecDepth 100000 in
theorem k_pieces (l : Launch) (hl0 : l.stackTraces = false) (G : zG) (I : List Nat) (ad : Nat → Nat) (ct : Nat → va_E) (sz : Nat) (k : Nat) (q : zPl) (hg : zGood q) (hk : zMem4 I k) (hp : zPileAt G ad ct k q) : zN l yX1_pieces wsX1_pieces 0 0 0 0 G [.ref (ad (k))] I ad ct zno sz (zk I (zqi fun z u => z = pn q ∧ u = ct)) := by
  obtain ⟨hp0, hp1, hp2, hp3⟩ := hp
  obtain ⟨hk0, hk1, hk2, hk3⟩ := hk
  have hg0 := hg
  obtain ⟨⟨g1, g2⟩, ⟨g3, g4⟩, ⟨g5, g6⟩, ⟨g7, g8⟩, ⟨g9, g10⟩, ⟨g11, g12⟩, g13, g14, g15, g16⟩ := hg0
  have gn : (q.1 : Int) = pn q := rfl
  refine z_ofW (ret := (some .int)) hl0 (by decide +kernel) rfl (Nat.le_of_ble_eq_true rfl) ?_
  intro p e s m args below meth c A ls hA0 hsz hF hr hout hnm hw hl
  obtain ⟨hx, hb, hml, hown, hts, hK, hlk, hst⟩ := hF
  have hown : s.vm.findClass RX1 = some m.cls := hown
  have hl : lv_has ls 1 [(0, .ref (ad (k)))] := hl
  have w_0 := hts (.fieldLink RX1 19 "PileMoves$Pile" "stiff" "[I") (by decide +kernel)
  have w_1 : ∀ w ∈ wsX10, w ∈ wsX1_pieces := by decide +kernel
  refine lv_aload_n hx hb dX1_pieces_0 rfl (lv_at hl 0 rfl) ?_
  refine z_get (C := RX1) (T := TX1) (N := 9) (fs := [zi (psp q), zi (pma q), zi (pco q), .ref (ad (k + 1)), .ref (ad (k + 2)), .ref (ad (k + 3)), zi (pts q), zi (ptm q), zi (pjo q)]) hx hb hts w_1 hown hK hw hk0 hp0 rfl 3 (by decide) w_0 rfl rfl dX1_pieces_1 ?_
  refine z_alen (n := pn q) hx hb hK hw hk1 hp1 0 rfl rfl dX1_pieces_4 ?_
  exact z_iret hx hb hlk hr hw dX1_pieces_5 (Nat.zero_le _) (Nat.zero_le _) ⟨rfl, _, rfl, ⟨rfl, rfl⟩⟩

set_option maxHeartbeats 4000000 in
set_option maxRecDepth 100000 in
theorem k_quake (l : Launch) (hl0 : l.stackTraces = false) (G : zG) (I : List Nat) (ad : Nat → Nat) (ct : Nat → va_E) (sz : Nat) (k : Nat) (q : zPl) (hg : zGood q) (hk : zMem4 I k) (hp : zPileAt G ad ct k q) : zN l yX1_quake wsX1_quake 0 0 0 0 G [.ref (ad (k))] I ad ct zno sz (zk I (zql fun z u => z = zqk q ∧ u = ct)) := by
  obtain ⟨hp0, hp1, hp2, hp3⟩ := hp
  obtain ⟨hk0, hk1, hk2, hk3⟩ := hk
  have hg0 := hg
  obtain ⟨⟨g1, g2⟩, ⟨g3, g4⟩, ⟨g5, g6⟩, ⟨g7, g8⟩, ⟨g9, g10⟩, ⟨g11, g12⟩, g13, g14, g15, g16⟩ := hg0
  have gn : (q.1 : Int) = pn q := rfl
  refine z_ofW (ret := (some .long)) hl0 (by decide +kernel) rfl (Nat.le_of_ble_eq_true rfl) ?_
  intro p e s m args below meth c A ls hA0 hsz hF hr hout hnm hw hl
  obtain ⟨hx, hb, hml, hown, hts, hK, hlk, hst⟩ := hF
  have hown : s.vm.findClass RX1 = some m.cls := hown
  have hl : lv_has ls 1 [(0, .ref (ad (k)))] := hl
  have w_0 := hts (.fieldLink RX1 29 "PileMoves$Pile" "tipStiff" "I") (by decide +kernel)
  have w_1 : ∀ w ∈ wsX10, w ∈ wsX1_quake := by decide +kernel
  have w_2 := hts (.constantLong RX1 32 (1000)) (by decide +kernel)
  have w_3 := hts (.fieldLink RX1 34 "PileMoves$Pile" "tipMost" "I") (by decide +kernel)
  refine lv_aload_n hx hb dX1_quake_0 rfl (lv_at hl 0 rfl) ?_
  refine z_get (C := RX1) (T := TX1) (N := 9) (fs := [zi (psp q), zi (pma q), zi (pco q), .ref (ad (k + 1)), .ref (ad (k + 2)), .ref (ad (k + 3)), zi (pts q), zi (ptm q), zi (pjo q)]) hx hb hts w_1 hown hK hw hk0 hp0 rfl 6 (by decide) w_0 rfl rfl dX1_quake_1 ?_
  refine z_if_ne (tgt := 11) hx hb dX1_quake_4 (by decide) ⟨by omega, by omega⟩ (fun c_1 => ?_) (fun c_1 => ?_)
  · refine z_ldc2 (n := 1000) hx hb hown w_2 (by decide) dX1_quake_11 ?_
    refine lv_aload_n hx hb dX1_quake_14 rfl (lv_at hl 0 rfl) ?_
    refine z_get (C := RX1) (T := TX1) (N := 9) (fs := [zi (psp q), zi (pma q), zi (pco q), .ref (ad (k + 1)), .ref (ad (k + 2)), .ref (ad (k + 3)), zi (pts q), zi (ptm q), zi (pjo q)]) hx hb hts w_1 hown hK hw hk0 hp0 rfl 7 (by decide) w_3 rfl rfl dX1_quake_15 ?_
    refine z_i2l hx hb dX1_quake_18 ⟨by omega, by omega⟩ ?_
    refine z_lmul hx hb dX1_quake_19 ?_
    refine lv_aload_n hx hb dX1_quake_20 rfl (lv_at hl 0 rfl) ?_
    refine z_get (C := RX1) (T := TX1) (N := 9) (fs := [zi (psp q), zi (pma q), zi (pco q), .ref (ad (k + 1)), .ref (ad (k + 2)), .ref (ad (k + 3)), zi (pts q), zi (ptm q), zi (pjo q)]) hx hb hts w_1 hown hK hw hk0 hp0 rfl 6 (by decide) w_0 rfl rfl dX1_quake_21 ?_
    refine z_i2l hx hb dX1_quake_24 ⟨by omega, by omega⟩ ?_
    refine z_ldiv hx hb dX1_quake_25 ⟨by omega, by omega⟩ ⟨by omega, by omega⟩ (by omega) ?_
    exact z_lret hx hb hlk hr hw dX1_quake_26 (Nat.zero_le _) (Nat.zero_le _) ⟨rfl, _, rfl, ⟨by unfold zqk; split <;> first | rfl | omega, rfl⟩⟩
  · refine z_lc0 hx hb dX1_quake_7 ?_
    refine lv_goto (tgt := 26) hx hb dX1_quake_8 (by decide) ?_
    exact z_lret hx hb hlk hr hw dX1_quake_26 (Nat.zero_le _) (Nat.zero_le _) ⟨rfl, _, rfl, ⟨by unfold zqk; split <;> first | rfl | omega, rfl⟩⟩
end
section
set_option maxHeartbeats 4000000 in
set_option maxRecDepth 100000 in
/-- climb to the piece pi, j + 1 pieces up -/
theorem k_climb (l : Launch) (hl0 : l.stackTraces = false) (G : zG) (I : List Nat) (ad : Nat → Nat) (ct : Nat → va_E) (sz : Nat) (k : Nat) (q : zPl) (hg : zGood q) (hk : zMem4 I k) (hp : zPileAt G ad ct k q) (w p0 f0 a0 : Int) (h2m : 2 ∈ I) (h2 : ct 2 = .inr (2, [zi w, zi p0, zi f0, zi a0])) (hkk : 40 ≤ k) (hw1 : -200000 ≤ w) (hw2 : w ≤ 200000) (j : Nat) (pi : Int) (hj : j < q.1) (hpi : pi = pn q - 1 - j) : zN l yX2_climb wsX2_climb 1 23 0 0 G [.ref (ad (2)), .ref (ad (k)), zi (pi)] I ad ct zno sz (zk I (zqv fun u => u = zU ct 2 (.inr (2, [zi w, zi (zp q w j), zi (zgf q pi (zp q w j)), zi (zf q w (j + 1))])))) := by
  obtain ⟨hp0, hp1, hp2, hp3⟩ := hp
  obtain ⟨hk0, hk1, hk2, hk3⟩ := hk
  have hg0 := hg
  obtain ⟨⟨g1, g2⟩, ⟨g3, g4⟩, ⟨g5, g6⟩, ⟨g7, g8⟩, ⟨g9, g10⟩, ⟨g11, g12⟩, g13, g14, g15, g16⟩ := hg0
  have gn : (q.1 : Int) = pn q := rfl
  have rT := zmulb g9 g10 (b := w) (B := 200000) (by omega) hw2
  refine z_ofW (ret := none) hl0 (by decide +kernel) rfl (Nat.le_of_ble_eq_true rfl) ?_
  intro p e s m args below meth c A ls hA0 hsz hF hr hout hnm hw hl
  obtain ⟨hx, hb, hml, hown, hts, hK, hlk, hst⟩ := hF
  have hown : s.vm.findClass RX2 = some m.cls := hown
  have hl : lv_has ls 7 [(0, .ref (ad (2))), (1, .ref (ad (k))), (2, zi (pi))] := hl
  have w_0 := hts (.fieldLink RX2 15 "PileMoves$State" "last" "I") (by decide +kernel)
  have w_1 : ∀ w ∈ wsX20, w ∈ wsX2_climb := by decide +kernel
  have w_2 := hts (.fieldLink RX2 26 "PileMoves$State" "place" "I") (by decide +kernel)
  have w_3 := hts (.fieldLink RX2 29 "PileMoves$Pile" "tipStiff" "I") (by decide +kernel)
  have w_4 : ∀ w ∈ wsX10, w ∈ wsX2_climb := by decide +kernel
  have w_5 := hts (.fieldLink RX2 32 "PileMoves$Pile" "tipMost" "I") (by decide +kernel)
  have w_6 := hts (.initialized RX3) (by decide +kernel)
  have w_7 := hts (.static yX3_clamp) (by decide +kernel)
  have w_8 := hts (.fieldLink RX2 39 "PileMoves$State" "forceAbove" "I") (by decide +kernel)
  have w_9 := hts (.fieldLink RX2 51 "PileMoves$Pile" "stiff" "[I") (by decide +kernel)
  have w_10 := hts (.fieldLink RX2 55 "PileMoves$Pile" "sunk" "[I") (by decide +kernel)
  have w_11 := hts (.fieldLink RX2 58 "PileMoves$Pile" "most" "[I") (by decide +kernel)
  have w_12 := hts (.fieldLink RX2 61 "PileMoves$State" "groundForce" "I") (by decide +kernel)
  have w_13 := hts (.fieldLink RX2 42 "PileMoves$Pile" "spring" "I") (by decide +kernel)
  refine lv_aload_n hx hb dX2_climb_0 rfl (lv_at hl 1 rfl) ?_
  refine z_kI (z_runV (As := []) (rest := []) (k := k) (fs := [zi (psp q), zi (pma q), zi (pco q), .ref (ad (k + 1)), .ref (ad (k + 2)), .ref (ad (k + 3)), zi (pts q), zi (ptm q), zi (pjo q)]) ⟨hx, hb, hml, hown, hts⟩ hK hw (k_pieces l hl0 G I ad _ _ (k) q hg ⟨hk0, hk1, hk2, hk3⟩ ⟨hp0, hp1, hp2, hp3⟩) (cwV 0 hts gX2_climb_X1_pieces rfl rfl rfl (by decide +kernel) ⟨Nat.le_of_ble_eq_true rfl, Nat.le_of_ble_eq_true rfl⟩) hk0 hp0 rfl rfl rfl hl.1 rfl (Nat.le_of_ble_eq_true rfl) dX2_climb_1 ⟨Nat.le_of_ble_eq_true rfl, Nat.le_of_ble_eq_true rfl⟩) hw (fun r_1 ct_2 H locs hP hw => ?_)
  obtain ⟨rfl, hct⟩ := hP
  rw [hct] at hw
  clear hct
  refine z_ic hx hb dX2_climb_4 ?_
  refine z_isub hx hb dX2_climb_5 ?_
  refine lv_istore_n (lv' := [(3, zi ((pn q) - (1))), (0, .ref (ad (2))), (1, .ref (ad (k))), (2, zi (pi))]) hx hb dX2_climb_6 rfl hl (by decide) rfl (fun ls hl => ?_)
  refine lv_aload_n hx hb dX2_climb_7 rfl (lv_at hl 1 rfl) ?_
  refine lv_aload_n hx hb dX2_climb_8 rfl (lv_at hl 1 rfl) ?_
  refine z_get (C := RX2) (T := TX2) (N := 4) (fs := [zi (w), zi (p0), zi (f0), zi (a0)]) hx hb hts w_1 hown hK hw h2m h2 rfl 0 (by decide) w_0 rfl rfl dX2_climb_9 ?_
  refine z_put (C := RX2) (T := TX2) (N := 4) (fs := [zi (w), zi (p0), zi (f0), zi (a0)]) (fs' := [zi (w), zi (w), zi (f0), zi (a0)]) hx hb hts w_1 tyX2_ok nmX2 hown hK hw h2m h2 rfl 1 (by decide) w_2 rfl rfl rfl rfl (Nat.le_of_ble_eq_true rfl) rfl dX2_climb_12 (fun H locs hw => ?_)
  refine lv_aload_n hx hb dX2_climb_15 rfl (lv_at hl 1 rfl) ?_
  refine lv_aload_n hx hb dX2_climb_16 rfl (lv_at hl 2 rfl) ?_
  refine z_get (C := RX1) (T := TX1) (N := 9) (fs := [zi (psp q), zi (pma q), zi (pco q), .ref (ad (k + 1)), .ref (ad (k + 2)), .ref (ad (k + 3)), zi (pts q), zi (ptm q), zi (pjo q)]) hx hb hts w_4 hown hK hw hk0 (zU_n (by omega) hp0) rfl 6 (by decide) w_3 rfl rfl dX2_climb_17 ?_
  refine z_i2l hx hb dX2_climb_20 ⟨by omega, by omega⟩ ?_
  refine lv_aload_n hx hb dX2_climb_21 rfl (lv_at hl 1 rfl) ?_
  refine z_get (C := RX2) (T := TX2) (N := 4) (fs := [zi (w), zi (w), zi (f0), zi (a0)]) hx hb hts w_1 hown hK hw h2m (zU_s _ _ _) rfl 0 (by decide) w_0 rfl rfl dX2_climb_22 ?_
  refine z_i2l hx hb dX2_climb_25 ⟨by omega, by omega⟩ ?_
  refine z_lmul hx hb dX2_climb_26 ?_
  refine z_ic hx hb dX2_climb_27 ?_
  refine lv_aload_n hx hb dX2_climb_28 rfl (lv_at hl 2 rfl) ?_
  refine z_get (C := RX1) (T := TX1) (N := 9) (fs := [zi (psp q), zi (pma q), zi (pco q), .ref (ad (k + 1)), .ref (ad (k + 2)), .ref (ad (k + 3)), zi (pts q), zi (ptm q), zi (pjo q)]) hx hb hts w_4 hown hK hw hk0 (zU_n (by omega) hp0) rfl 7 (by decide) w_5 rfl rfl dX2_climb_29 ?_
  refine z_kI (z_runSN (As := [zl ((pts q) * (w)), zi (0), zi (ptm q)]) (rest := [.ref (ad (2))]) ⟨hx, hb, hml, hown, hts⟩ hK hw (k_clamp l hl0 G I ad _ _ ((pts q) * (w)) (0) (ptm q) ⟨by omega, by omega⟩ ⟨by decide, by decide⟩ ⟨by omega, by omega⟩) (⟨va_cnB 3 hts gX2_climb_X3_clamp_n35 rfl rfl rfl hK.2.1.2.2.2.2.1 w_6 (by decide +kernel) ⟨Nat.le_of_ble_eq_true rfl, Nat.le_of_ble_eq_true rfl⟩, w_7, trivial⟩) rfl hl.1 rfl (Nat.le_of_ble_eq_true rfl) dX2_climb_32 ⟨Nat.le_of_ble_eq_true rfl, Nat.le_of_ble_eq_true rfl⟩) hw (fun r_3 ct_4 H locs hP hw => ?_)
  obtain ⟨rfl, hct⟩ := hP
  rw [hct] at hw
  clear hct
  refine z_put (C := RX2) (T := TX2) (N := 4) (fs := [zi (w), zi (w), zi (f0), zi (a0)]) (fs' := [zi (w), zi (w), zi (f0), zi (zcl ((pts q) * (w)) (0) (ptm q))]) hx hb hts w_1 tyX2_ok nmX2 hown hK hw h2m (zU_s _ _ _) rfl 3 (by decide) w_8 rfl rfl rfl rfl (Nat.le_of_ble_eq_true rfl) rfl dX2_climb_35 (fun H locs hw => ?_)
  refine lv_iload_n hx hb dX2_climb_38 rfl (lv_at hl 0 rfl) ?_
  refine lv_istore (lv' := [(4, zi ((pn q) - (1))), (3, zi ((pn q) - (1))), (0, .ref (ad (2))), (1, .ref (ad (k))), (2, zi (pi))]) hx hb dX2_climb_39 hl (by decide) rfl (fun ls hl => ?_)
  have L41 : ∀ (nn : Nat) (K : Nat) (i : Int) (P : Int) (Gf : Int) (F : Int), (j + 1 - K) < nn → (K ≤ j + 1) → (i = pn q - 1 - K) → (K = 0 → P = w) → (∀ n : Nat, K = n + 1 → P = zp q w n) → (F = zf q w K) → (∀ n : Nat, K = n + 1 → Gf = zgf q (pn q - 1 - n) (zp q w n)) → ∀ (H : Heap) (locs : List Loc), zW G A s.heap H locs I ad (zU ct 2 (.inr (2, [zi w, zi P, zi Gf, zi F]))) → ∀ ls, lv_has ls 7 [(0, .ref (ad (2))), (1, .ref (ad (k))), (2, zi (pi)), (3, zi ((pn q) - (1))), (4, zi (i))] → W p l e ({ frames := 1, cells := 0, slots := 0, locals := 23 } : Room) s m args below meth c H locs 0 0 (vx_MQ below (zQ G A ad (zk I (zqv fun u => u = zU ct 2 (.inr (2, [zi w, zi (zp q w j), zi (zgf q pi (zp q w j)), zi (zf q w (j + 1))]))))) (zX G A I ad ct zno) args s 0 0 A) (F0 m 41 ls []) := by
    intro nn
    induction nn with
    | zero => intro K i P Gf F hme; exact absurd hme (Nat.not_lt_zero _)
    | succ nn ih41 =>
      intro K i P Gf F hme41 hKj hi hP0 hP1 hF hG H locs hw ls hl
      have bF := zf_bd2 hg w (k := K) (by omega)
      rw [← hF] at bF
      refine lv_iload hx hb dX2_climb_41 (lv_at hl 4 rfl) ?_
      refine lv_iload_n hx hb dX2_climb_43 rfl (lv_at hl 2 rfl) ?_
      refine z_icmp_lt (tgt := 152) hx hb dX2_climb_44 (by decide) ⟨by omega, by omega⟩ ⟨by omega, by omega⟩ (fun c_5 => ?_) (fun c_5 => ?_)
      · exact z_vret hx hb hlk hr hw dX2_climb_152 (Nat.zero_le _) (Nat.zero_le _) ⟨rfl, rfl, by rw [hP1 j (by omega), hG j (by omega), hF, show K = j + 1 by omega, hpi]⟩
      · refine lv_iload hx hb dX2_climb_47 (lv_at hl 4 rfl) ?_
        refine z_if_lt (tgt := 152) hx hb dX2_climb_49 (by decide) ⟨by omega, by omega⟩ (fun c_6 => ?_) (fun c_6 => ?_)
        · exact absurd c_6 (by omega)
        · refine lv_iload hx hb dX2_climb_52 (lv_at hl 4 rfl) ?_
          refine lv_iload_n hx hb dX2_climb_54 rfl (lv_at hl 3 rfl) ?_
          refine z_icmp_ge (tgt := 85) hx hb dX2_climb_55 (by decide) ⟨by omega, by omega⟩ ⟨by omega, by omega⟩ (fun c_7 => ?_) (fun c_7 => ?_)
          · have eP : (P : Int) = zp q w K := by
              rw [hP0 (by omega), show K = 0 by omega, zp_0]
            rw [eP] at hw
            have bP := zp_bd2 hg hw1 hw2 (k := K) (by omega)
            have bs := g14 (i)
            have bm := g15 (i)
            have bk := g16 (i)
            have r1 := zmulb (b := zp q w K - psk q i) (B := 40000000) bs.1 bs.2 (by omega) (by omega)
            refine lv_aload_n hx hb dX2_climb_85 rfl (lv_at hl 1 rfl) ?_
            refine z_get (C := RX1) (T := TX1) (N := 9) (fs := [zi (psp q), zi (pma q), zi (pco q), .ref (ad (k + 1)), .ref (ad (k + 2)), .ref (ad (k + 3)), zi (pts q), zi (ptm q), zi (pjo q)]) hx hb hts w_4 hown hK hw hk0 (zU_n (by omega) hp0) rfl 3 (by decide) w_9 rfl rfl dX2_climb_86 ?_
            refine lv_iload hx hb dX2_climb_89 (lv_at hl 4 rfl) ?_
            refine z_iald (f := pst q) hx hb hK hw hk1 (zU_n (by omega) hp1) (by omega) (by omega) (by omega) dX2_climb_91 ?_
            refine z_i2l hx hb dX2_climb_92 ⟨by omega, by omega⟩ ?_
            refine lv_aload_n hx hb dX2_climb_93 rfl (lv_at hl 0 rfl) ?_
            refine z_get (C := RX2) (T := TX2) (N := 4) (fs := [zi (w), zi (zp q w K), zi (Gf), zi (F)]) hx hb hts w_1 hown hK hw h2m (zU_s _ _ _) rfl 1 (by decide) w_2 rfl rfl dX2_climb_94 ?_
            refine lv_aload_n hx hb dX2_climb_97 rfl (lv_at hl 1 rfl) ?_
            refine z_get (C := RX1) (T := TX1) (N := 9) (fs := [zi (psp q), zi (pma q), zi (pco q), .ref (ad (k + 1)), .ref (ad (k + 2)), .ref (ad (k + 3)), zi (pts q), zi (ptm q), zi (pjo q)]) hx hb hts w_4 hown hK hw hk0 (zU_n (by omega) hp0) rfl 5 (by decide) w_10 rfl rfl dX2_climb_98 ?_
            refine lv_iload hx hb dX2_climb_101 (lv_at hl 4 rfl) ?_
            refine z_iald (f := psk q) hx hb hK hw hk3 (zU_n (by omega) hp3) (by omega) (by omega) (by omega) dX2_climb_103 ?_
            refine z_isub hx hb dX2_climb_104 ?_
            refine z_i2l hx hb dX2_climb_105 ⟨by omega, by omega⟩ ?_
            refine z_lmul hx hb dX2_climb_106 ?_
            refine lv_lstore (lv' := [(5, zl (((pst q) (i)) * ((zp q w K) - ((psk q) (i))))), (0, .ref (ad (2))), (1, .ref (ad (k))), (2, zi (pi)), (3, zi ((pn q) - (1))), (4, zi (i))]) hx hb dX2_climb_107 hl (by decide) rfl (fun ls hl => ?_)
            refine lv_aload_n hx hb dX2_climb_109 rfl (lv_at hl 1 rfl) ?_
            refine lv_lload hx hb dX2_climb_110 (lv_at hl 0 rfl) ?_
            refine lv_aload_n hx hb dX2_climb_112 rfl (lv_at hl 2 rfl) ?_
            refine z_get (C := RX1) (T := TX1) (N := 9) (fs := [zi (psp q), zi (pma q), zi (pco q), .ref (ad (k + 1)), .ref (ad (k + 2)), .ref (ad (k + 3)), zi (pts q), zi (ptm q), zi (pjo q)]) hx hb hts w_4 hown hK hw hk0 (zU_n (by omega) hp0) rfl 4 (by decide) w_11 rfl rfl dX2_climb_113 ?_
            refine lv_iload hx hb dX2_climb_116 (lv_at hl 5 rfl) ?_
            refine z_iald (f := pmo q) hx hb hK hw hk2 (zU_n (by omega) hp2) (by omega) (by omega) (by omega) dX2_climb_118 ?_
            refine z_ineg hx hb dX2_climb_119 ?_
            refine lv_aload_n hx hb dX2_climb_120 rfl (lv_at hl 2 rfl) ?_
            refine z_get (C := RX1) (T := TX1) (N := 9) (fs := [zi (psp q), zi (pma q), zi (pco q), .ref (ad (k + 1)), .ref (ad (k + 2)), .ref (ad (k + 3)), zi (pts q), zi (ptm q), zi (pjo q)]) hx hb hts w_4 hown hK hw hk0 (zU_n (by omega) hp0) rfl 4 (by decide) w_11 rfl rfl dX2_climb_121 ?_
            refine lv_iload hx hb dX2_climb_124 (lv_at hl 5 rfl) ?_
            refine z_iald (f := pmo q) hx hb hK hw hk2 (zU_n (by omega) hp2) (by omega) (by omega) (by omega) dX2_climb_126 ?_
            refine z_kI (z_runSN (As := [zl (((pst q) (i)) * ((zp q w K) - ((psk q) (i)))), zi (-((pmo q) (i))), zi ((pmo q) (i))]) (rest := [.ref (ad (2))]) ⟨hx, hb, hml, hown, hts⟩ hK hw (k_clamp l hl0 G I ad _ _ (((pst q) (i)) * ((zp q w K) - ((psk q) (i)))) (-((pmo q) (i))) ((pmo q) (i)) ⟨by omega, by omega⟩ ⟨by omega, by omega⟩ ⟨by omega, by omega⟩) (⟨va_cnB 3 hts gX2_climb_X3_clamp_n35 rfl rfl rfl hK.2.1.2.2.2.2.1 w_6 (by decide +kernel) ⟨Nat.le_of_ble_eq_true rfl, Nat.le_of_ble_eq_true rfl⟩, w_7, trivial⟩) rfl hl.1 rfl (Nat.le_of_ble_eq_true rfl) dX2_climb_127 ⟨Nat.le_of_ble_eq_true rfl, Nat.le_of_ble_eq_true rfl⟩) hw (fun r_8 ct_9 H locs hP hw => ?_)
            obtain ⟨rfl, hct⟩ := hP
            rw [hct] at hw
            clear hct
            refine z_put (C := RX2) (T := TX2) (N := 4) (fs := [zi (w), zi (zp q w K), zi (Gf), zi (F)]) (fs' := [zi (w), zi (zp q w K), zi (zcl (((pst q) (i)) * ((zp q w K) - ((psk q) (i)))) (-((pmo q) (i))) ((pmo q) (i))), zi (F)]) hx hb hts w_1 tyX2_ok nmX2 hown hK hw h2m (zU_s _ _ _) rfl 2 (by decide) w_12 rfl rfl rfl rfl (Nat.le_of_ble_eq_true rfl) rfl dX2_climb_130 (fun H locs hw => ?_)
            refine lv_aload_n hx hb dX2_climb_133 rfl (lv_at hl 1 rfl) ?_
            refine lv_dup hx hb dX2_climb_134 rfl ?_
            refine z_get (C := RX2) (T := TX2) (N := 4) (fs := [zi (w), zi (zp q w K), zi (zcl (((pst q) (i)) * ((zp q w K) - ((psk q) (i)))) (-((pmo q) (i))) ((pmo q) (i))), zi (F)]) hx hb hts w_1 hown hK hw h2m (zU_s _ _ _) rfl 3 (by decide) w_8 rfl rfl dX2_climb_135 ?_
            refine lv_aload_n hx hb dX2_climb_138 rfl (lv_at hl 1 rfl) ?_
            refine z_get (C := RX2) (T := TX2) (N := 4) (fs := [zi (w), zi (zp q w K), zi (zcl (((pst q) (i)) * ((zp q w K) - ((psk q) (i)))) (-((pmo q) (i))) ((pmo q) (i))), zi (F)]) hx hb hts w_1 hown hK hw h2m (zU_s _ _ _) rfl 2 (by decide) w_12 rfl rfl dX2_climb_139 ?_
            refine z_iadd hx hb dX2_climb_142 ?_
            refine z_put (C := RX2) (T := TX2) (N := 4) (fs := [zi (w), zi (zp q w K), zi (zcl (((pst q) (i)) * ((zp q w K) - ((psk q) (i)))) (-((pmo q) (i))) ((pmo q) (i))), zi (F)]) (fs' := [zi (w), zi (zp q w K), zi (zcl (((pst q) (i)) * ((zp q w K) - ((psk q) (i)))) (-((pmo q) (i))) ((pmo q) (i))), zi ((F) + (zcl (((pst q) (i)) * ((zp q w K) - ((psk q) (i)))) (-((pmo q) (i))) ((pmo q) (i))))]) hx hb hts w_1 tyX2_ok nmX2 hown hK hw h2m (zU_s _ _ _) rfl 3 (by decide) w_8 rfl rfl rfl rfl (Nat.le_of_ble_eq_true rfl) rfl dX2_climb_143 (fun H locs hw => ?_)
            refine z_iinc (lv' := [(4, zi (i + (-1))), (5, zl (((pst q) (i)) * ((zp q w K) - ((psk q) (i))))), (0, .ref (ad (2))), (1, .ref (ad (k))), (2, zi (pi)), (3, zi ((pn q) - (1)))]) hx hb dX2_climb_146 hl (k := 5) rfl (by decide) rfl (fun ls hl => ?_)
            refine lv_goto (tgt := 41) hx hb dX2_climb_149 (by decide) ?_
            exact ih41 (K + 1) (i + (-1)) (zp q w K) (zcl (((pst q) (i)) * ((zp q w K) - ((psk q) (i)))) (-((pmo q) (i))) ((pmo q) (i))) ((F) + (zcl (((pst q) (i)) * ((zp q w K) - ((psk q) (i)))) (-((pmo q) (i))) ((pmo q) (i)))) (by omega) (by omega) (by omega) (fun h => absurd h (by omega)) (fun n h => by rw [show n = K by omega]) (by rw [zf_s, hF, hi]; rfl) (fun n h => by rw [show n = K by omega, hi]; rfl) _ _ (zWe hw (by simp only [zU_zU])) _ (lv_sub hl [2, 3, 4, 5, 0] rfl)
          · refine lv_aload_n hx hb dX2_climb_58 rfl (lv_at hl 1 rfl) ?_
            refine z_get (C := RX1) (T := TX1) (N := 9) (fs := [zi (psp q), zi (pma q), zi (pco q), .ref (ad (k + 1)), .ref (ad (k + 2)), .ref (ad (k + 3)), zi (pts q), zi (ptm q), zi (pjo q)]) hx hb hts w_4 hown hK hw hk0 (zU_n (by omega) hp0) rfl 0 (by decide) w_13 rfl rfl dX2_climb_59 ?_
            refine z_if_le (tgt := 85) hx hb dX2_climb_62 (by decide) ⟨by omega, by omega⟩ (fun c_10 => ?_) (fun c_10 => ?_)
            · exact absurd c_10 (by omega)
            · refine lv_aload_n hx hb dX2_climb_65 rfl (lv_at hl 0 rfl) ?_
              refine lv_dup hx hb dX2_climb_66 rfl ?_
              refine z_get (C := RX2) (T := TX2) (N := 4) (fs := [zi (w), zi (P), zi (Gf), zi (F)]) hx hb hts w_1 hown hK hw h2m (zU_s _ _ _) rfl 1 (by decide) w_2 rfl rfl dX2_climb_67 ?_
              refine lv_aload_n hx hb dX2_climb_70 rfl (lv_at hl 0 rfl) ?_
              refine z_get (C := RX2) (T := TX2) (N := 4) (fs := [zi (w), zi (P), zi (Gf), zi (F)]) hx hb hts w_1 hown hK hw h2m (zU_s _ _ _) rfl 3 (by decide) w_8 rfl rfl dX2_climb_71 ?_
              refine lv_aload_n hx hb dX2_climb_74 rfl (lv_at hl 1 rfl) ?_
              refine z_get (C := RX1) (T := TX1) (N := 9) (fs := [zi (psp q), zi (pma q), zi (pco q), .ref (ad (k + 1)), .ref (ad (k + 2)), .ref (ad (k + 3)), zi (pts q), zi (ptm q), zi (pjo q)]) hx hb hts w_4 hown hK hw hk0 (zU_n (by omega) hp0) rfl 0 (by decide) w_13 rfl rfl dX2_climb_75 ?_
              refine z_kI (z_runS (As := [zi (F), zi (psp q)]) (rest := [zi (P), .ref (ad (2))]) ⟨hx, hb, hml, hown, hts⟩ hK hw (k_fdiv l hl0 G I ad _ _ (F) (psp q) ⟨by omega, by omega⟩ (by omega) (by omega)) (va_cwS 2 hts gX2_climb_J9_floorDiv_7cf53 rfl rfl rfl (by decide +kernel) ⟨Nat.le_of_ble_eq_true rfl, Nat.le_of_ble_eq_true rfl⟩) rfl hl.1 rfl (Nat.le_of_ble_eq_true rfl) dX2_climb_78 ⟨Nat.le_of_ble_eq_true rfl, Nat.le_of_ble_eq_true rfl⟩) hw (fun r_11 ct_12 H locs hP hw => ?_)
              obtain ⟨rfl, hct⟩ := hP
              rw [hct] at hw
              clear hct
              refine z_iadd hx hb dX2_climb_81 ?_
              refine z_put (C := RX2) (T := TX2) (N := 4) (fs := [zi (w), zi (P), zi (Gf), zi (F)]) (fs' := [zi (w), zi ((P) + ((F) / (psp q))), zi (Gf), zi (F)]) hx hb hts w_1 tyX2_ok nmX2 hown hK hw h2m (zU_s _ _ _) rfl 1 (by decide) w_2 rfl rfl rfl rfl (Nat.le_of_ble_eq_true rfl) rfl dX2_climb_82 (fun H locs hw => ?_)
              have eP : ((P) + ((F) / (psp q)) : Int) = zp q w K := by
                have e1 := hP1 (K - 1) (by omega)
                have e2 := zp_s q w (K - 1)
                rw [show K - 1 + 1 = K by omega] at e2
                rw [e1, hF, e2]
              rw [eP] at hw
              have bP := zp_bd2 hg hw1 hw2 (k := K) (by omega)
              have bs := g14 (i)
              have bm := g15 (i)
              have bk := g16 (i)
              have r1 := zmulb (b := zp q w K - psk q i) (B := 40000000) bs.1 bs.2 (by omega) (by omega)
              refine lv_aload_n hx hb dX2_climb_85 rfl (lv_at hl 1 rfl) ?_
              refine z_get (C := RX1) (T := TX1) (N := 9) (fs := [zi (psp q), zi (pma q), zi (pco q), .ref (ad (k + 1)), .ref (ad (k + 2)), .ref (ad (k + 3)), zi (pts q), zi (ptm q), zi (pjo q)]) hx hb hts w_4 hown hK hw hk0 (zU_n (by omega) (zU_n (by omega) hp0)) rfl 3 (by decide) w_9 rfl rfl dX2_climb_86 ?_
              refine lv_iload hx hb dX2_climb_89 (lv_at hl 4 rfl) ?_
              refine z_iald (f := pst q) hx hb hK hw hk1 (zU_n (by omega) (zU_n (by omega) hp1)) (by omega) (by omega) (by omega) dX2_climb_91 ?_
              refine z_i2l hx hb dX2_climb_92 ⟨by omega, by omega⟩ ?_
              refine lv_aload_n hx hb dX2_climb_93 rfl (lv_at hl 0 rfl) ?_
              refine z_get (C := RX2) (T := TX2) (N := 4) (fs := [zi (w), zi (zp q w K), zi (Gf), zi (F)]) hx hb hts w_1 hown hK hw h2m (zU_s _ _ _) rfl 1 (by decide) w_2 rfl rfl dX2_climb_94 ?_
              refine lv_aload_n hx hb dX2_climb_97 rfl (lv_at hl 1 rfl) ?_
              refine z_get (C := RX1) (T := TX1) (N := 9) (fs := [zi (psp q), zi (pma q), zi (pco q), .ref (ad (k + 1)), .ref (ad (k + 2)), .ref (ad (k + 3)), zi (pts q), zi (ptm q), zi (pjo q)]) hx hb hts w_4 hown hK hw hk0 (zU_n (by omega) (zU_n (by omega) hp0)) rfl 5 (by decide) w_10 rfl rfl dX2_climb_98 ?_
              refine lv_iload hx hb dX2_climb_101 (lv_at hl 4 rfl) ?_
              refine z_iald (f := psk q) hx hb hK hw hk3 (zU_n (by omega) (zU_n (by omega) hp3)) (by omega) (by omega) (by omega) dX2_climb_103 ?_
              refine z_isub hx hb dX2_climb_104 ?_
              refine z_i2l hx hb dX2_climb_105 ⟨by omega, by omega⟩ ?_
              refine z_lmul hx hb dX2_climb_106 ?_
              refine lv_lstore (lv' := [(5, zl (((pst q) (i)) * ((zp q w K) - ((psk q) (i))))), (0, .ref (ad (2))), (1, .ref (ad (k))), (2, zi (pi)), (3, zi ((pn q) - (1))), (4, zi (i))]) hx hb dX2_climb_107 hl (by decide) rfl (fun ls hl => ?_)
              refine lv_aload_n hx hb dX2_climb_109 rfl (lv_at hl 1 rfl) ?_
              refine lv_lload hx hb dX2_climb_110 (lv_at hl 0 rfl) ?_
              refine lv_aload_n hx hb dX2_climb_112 rfl (lv_at hl 2 rfl) ?_
              refine z_get (C := RX1) (T := TX1) (N := 9) (fs := [zi (psp q), zi (pma q), zi (pco q), .ref (ad (k + 1)), .ref (ad (k + 2)), .ref (ad (k + 3)), zi (pts q), zi (ptm q), zi (pjo q)]) hx hb hts w_4 hown hK hw hk0 (zU_n (by omega) (zU_n (by omega) hp0)) rfl 4 (by decide) w_11 rfl rfl dX2_climb_113 ?_
              refine lv_iload hx hb dX2_climb_116 (lv_at hl 5 rfl) ?_
              refine z_iald (f := pmo q) hx hb hK hw hk2 (zU_n (by omega) (zU_n (by omega) hp2)) (by omega) (by omega) (by omega) dX2_climb_118 ?_
              refine z_ineg hx hb dX2_climb_119 ?_
              refine lv_aload_n hx hb dX2_climb_120 rfl (lv_at hl 2 rfl) ?_
              refine z_get (C := RX1) (T := TX1) (N := 9) (fs := [zi (psp q), zi (pma q), zi (pco q), .ref (ad (k + 1)), .ref (ad (k + 2)), .ref (ad (k + 3)), zi (pts q), zi (ptm q), zi (pjo q)]) hx hb hts w_4 hown hK hw hk0 (zU_n (by omega) (zU_n (by omega) hp0)) rfl 4 (by decide) w_11 rfl rfl dX2_climb_121 ?_
              refine lv_iload hx hb dX2_climb_124 (lv_at hl 5 rfl) ?_
              refine z_iald (f := pmo q) hx hb hK hw hk2 (zU_n (by omega) (zU_n (by omega) hp2)) (by omega) (by omega) (by omega) dX2_climb_126 ?_
              refine z_kI (z_runSN (As := [zl (((pst q) (i)) * ((zp q w K) - ((psk q) (i)))), zi (-((pmo q) (i))), zi ((pmo q) (i))]) (rest := [.ref (ad (2))]) ⟨hx, hb, hml, hown, hts⟩ hK hw (k_clamp l hl0 G I ad _ _ (((pst q) (i)) * ((zp q w K) - ((psk q) (i)))) (-((pmo q) (i))) ((pmo q) (i)) ⟨by omega, by omega⟩ ⟨by omega, by omega⟩ ⟨by omega, by omega⟩) (⟨va_cnB 3 hts gX2_climb_X3_clamp_n35 rfl rfl rfl hK.2.1.2.2.2.2.1 w_6 (by decide +kernel) ⟨Nat.le_of_ble_eq_true rfl, Nat.le_of_ble_eq_true rfl⟩, w_7, trivial⟩) rfl hl.1 rfl (Nat.le_of_ble_eq_true rfl) dX2_climb_127 ⟨Nat.le_of_ble_eq_true rfl, Nat.le_of_ble_eq_true rfl⟩) hw (fun r_13 ct_14 H locs hP hw => ?_)
              obtain ⟨rfl, hct⟩ := hP
              rw [hct] at hw
              clear hct
              refine z_put (C := RX2) (T := TX2) (N := 4) (fs := [zi (w), zi (zp q w K), zi (Gf), zi (F)]) (fs' := [zi (w), zi (zp q w K), zi (zcl (((pst q) (i)) * ((zp q w K) - ((psk q) (i)))) (-((pmo q) (i))) ((pmo q) (i))), zi (F)]) hx hb hts w_1 tyX2_ok nmX2 hown hK hw h2m (zU_s _ _ _) rfl 2 (by decide) w_12 rfl rfl rfl rfl (Nat.le_of_ble_eq_true rfl) rfl dX2_climb_130 (fun H locs hw => ?_)
              refine lv_aload_n hx hb dX2_climb_133 rfl (lv_at hl 1 rfl) ?_
              refine lv_dup hx hb dX2_climb_134 rfl ?_
              refine z_get (C := RX2) (T := TX2) (N := 4) (fs := [zi (w), zi (zp q w K), zi (zcl (((pst q) (i)) * ((zp q w K) - ((psk q) (i)))) (-((pmo q) (i))) ((pmo q) (i))), zi (F)]) hx hb hts w_1 hown hK hw h2m (zU_s _ _ _) rfl 3 (by decide) w_8 rfl rfl dX2_climb_135 ?_
              refine lv_aload_n hx hb dX2_climb_138 rfl (lv_at hl 1 rfl) ?_
              refine z_get (C := RX2) (T := TX2) (N := 4) (fs := [zi (w), zi (zp q w K), zi (zcl (((pst q) (i)) * ((zp q w K) - ((psk q) (i)))) (-((pmo q) (i))) ((pmo q) (i))), zi (F)]) hx hb hts w_1 hown hK hw h2m (zU_s _ _ _) rfl 2 (by decide) w_12 rfl rfl dX2_climb_139 ?_
              refine z_iadd hx hb dX2_climb_142 ?_
              refine z_put (C := RX2) (T := TX2) (N := 4) (fs := [zi (w), zi (zp q w K), zi (zcl (((pst q) (i)) * ((zp q w K) - ((psk q) (i)))) (-((pmo q) (i))) ((pmo q) (i))), zi (F)]) (fs' := [zi (w), zi (zp q w K), zi (zcl (((pst q) (i)) * ((zp q w K) - ((psk q) (i)))) (-((pmo q) (i))) ((pmo q) (i))), zi ((F) + (zcl (((pst q) (i)) * ((zp q w K) - ((psk q) (i)))) (-((pmo q) (i))) ((pmo q) (i))))]) hx hb hts w_1 tyX2_ok nmX2 hown hK hw h2m (zU_s _ _ _) rfl 3 (by decide) w_8 rfl rfl rfl rfl (Nat.le_of_ble_eq_true rfl) rfl dX2_climb_143 (fun H locs hw => ?_)
              refine z_iinc (lv' := [(4, zi (i + (-1))), (5, zl (((pst q) (i)) * ((zp q w K) - ((psk q) (i))))), (0, .ref (ad (2))), (1, .ref (ad (k))), (2, zi (pi)), (3, zi ((pn q) - (1)))]) hx hb dX2_climb_146 hl (k := 5) rfl (by decide) rfl (fun ls hl => ?_)
              refine lv_goto (tgt := 41) hx hb dX2_climb_149 (by decide) ?_
              exact ih41 (K + 1) (i + (-1)) (zp q w K) (zcl (((pst q) (i)) * ((zp q w K) - ((psk q) (i)))) (-((pmo q) (i))) ((pmo q) (i))) ((F) + (zcl (((pst q) (i)) * ((zp q w K) - ((psk q) (i)))) (-((pmo q) (i))) ((pmo q) (i)))) (by omega) (by omega) (by omega) (fun h => absurd h (by omega)) (fun n h => by rw [show n = K by omega]) (by rw [zf_s, hF, hi]; rfl) (fun n h => by rw [show n = K by omega, hi]; rfl) _ _ (zWe hw (by simp only [zU_zU])) _ (lv_sub hl [2, 3, 4, 5, 0] rfl)
  exact L41 _ (0) ((pn q) - (1)) (w) (f0) (zcl ((pts q) * (w)) (0) (ptm q)) (Nat.lt_succ_self _) (by omega) (by omega) (fun _ => rfl) (fun n h => absurd h (by omega)) rfl (fun n h => absurd h (by omega)) _ _ (zWe hw (by simp only [zU_zU])) _ (lv_sub hl [2, 3, 4, 1, 0] rfl)

theorem k_climb0 (l : Launch) (hl0 : l.stackTraces = false) (G : zG) (I : List Nat) (ad : Nat → Nat) (ct : Nat → va_E) (sz : Nat) (k : Nat) (q : zPl) (hg : zGood q) (hk : zMem4 I k) (hp : zPileAt G ad ct k q) (w p0 f0 a0 : Int) (h2m : 2 ∈ I) (h2 : ct 2 = .inr (2, [zi w, zi p0, zi f0, zi a0])) (hkk : 40 ≤ k) (hw1 : -200000 ≤ w) (hw2 : w ≤ 200000) : zN l yX2_climb wsX2_climb 1 23 0 0 G [.ref (ad (2)), .ref (ad (k)), zi (0)] I ad ct zno sz (zk I (zqv fun u => u = zU ct 2 (.inr (2, [zi w, zi (zhp q w), zi (zgf q 0 (zhp q w)), zi (zld q w)])))) := by
  have gn : (q.1 : Int) = pn q := rfl
  have g1 := hg.1.1
  have h := k_climb l hl0 G I ad ct sz k q hg hk hp w p0 f0 a0 h2m h2 hkk hw1 hw2 (q.1 - 1) 0 (by omega) (by omega)
  rw [show q.1 - 1 + 1 = q.1 by omega] at h
  exact h

set_option maxHeartbeats 4000000 in
set_option maxRecDepth 100000 in
/-- find -/
theorem k_find (l : Launch) (hl0 : l.stackTraces = false) (G : zG) (I : List Nat) (ad : Nat → Nat) (ct : Nat → va_E) (sz : Nat) (k : Nat) (q : zPl) (hg : zGood q) (hk : zMem4 I k) (hp : zPileAt G ad ct k q) (w p0 f0 a0 : Int) (h2m : 2 ∈ I) (h2 : ct 2 = .inr (2, [zi w, zi p0, zi f0, zi a0])) (hkk : 40 ≤ k) (b : Bool) (bd : Int) (hbd : zr bd) : zN l yX2_find wsX2_find 2 49 0 0 G [.ref (ad (2)), .ref (ad (k)), zi (bd), zi (zb (b = true))] I ad ct zno sz (zk I (zqi fun z u => z = zb (-100000 ≤ zg q b bd) ∧ u = zU ct 2 (.inr (2, [zi (zg q b bd), zi (zhp q (zg q b bd)), zi (zgf q 0 (zhp q (zg q b bd))), zi (zld q (zg q b bd))])))) := by
  obtain ⟨hp0, hp1, hp2, hp3⟩ := hp
  obtain ⟨hk0, hk1, hk2, hk3⟩ := hk
  have hg0 := hg
  obtain ⟨⟨g1, g2⟩, ⟨g3, g4⟩, ⟨g5, g6⟩, ⟨g7, g8⟩, ⟨g9, g10⟩, ⟨g11, g12⟩, g13, g14, g15, g16⟩ := hg0
  have gn : (q.1 : Int) = pn q := rfl
  refine z_ofW (ret := (some .boolean)) hl0 (by decide +kernel) rfl (Nat.le_of_ble_eq_true rfl) ?_
  intro p e s m args below meth c A ls hA0 hsz hF hr hout hnm hw hl
  obtain ⟨hx, hb, hml, hown, hts, hK, hlk, hst⟩ := hF
  have hown : s.vm.findClass RX2 = some m.cls := hown
  have hl : lv_has ls 6 [(0, .ref (ad (2))), (1, .ref (ad (k))), (2, zi (bd)), (3, zi (zb (b = true)))] := hl
  have w_0 := hts (.constant RX2 64 (-100001)) (by decide +kernel)
  have w_1 := hts (.constant RX2 65 (131072)) (by decide +kernel)
  have w_2 := hts (.fieldLink RX2 15 "PileMoves$State" "last" "I") (by decide +kernel)
  have w_3 : ∀ w ∈ wsX20, w ∈ wsX2_find := by decide +kernel
  have w_4 := hts (.constant RX2 70 (-100000)) (by decide +kernel)
  have w_5 := hts (.constant RX2 19 (100000)) (by decide +kernel)
  have w_6 := hts (.fieldLink RX2 26 "PileMoves$State" "place" "I") (by decide +kernel)
  have w_7 := hts (.fieldLink RX2 39 "PileMoves$State" "forceAbove" "I") (by decide +kernel)
  refine z_ldc (n := -100001) hx hb hown w_0 (by decide) dX2_find_0 ?_
  refine lv_istore (lv' := [(4, zi (-100001)), (0, .ref (ad (2))), (1, .ref (ad (k))), (2, zi (bd)), (3, zi (zb (b = true)))]) hx hb dX2_find_2 hl (by decide) rfl (fun ls hl => ?_)
  refine z_ldc (n := 131072) hx hb hown w_1 (by decide) dX2_find_4 ?_
  refine lv_istore (lv' := [(5, zi (131072)), (4, zi (-100001)), (0, .ref (ad (2))), (1, .ref (ad (k))), (2, zi (bd)), (3, zi (zb (b = true)))]) hx hb dX2_find_6 hl (by decide) rfl (fun ls hl => ?_)
  have L8 : ∀ (nn : Nat) (f : Int) (s2 : Int) (w1 : Int) (p1 : Int) (f1 : Int) (a1 : Int), (s2.toNat) < nn → (zSch (zin q b bd) f s2) → ∀ (H : Heap) (locs : List Loc), zW G A s.heap H locs I ad (zU ct 2 (.inr (2, [zi w1, zi p1, zi f1, zi a1]))) → ∀ ls, lv_has ls 6 [(0, .ref (ad (2))), (1, .ref (ad (k))), (2, zi (bd)), (3, zi (zb (b = true))), (4, zi (f)), (5, zi (s2))] → W p l e ({ frames := 2, cells := 0, slots := 0, locals := 49 } : Room) s m args below meth c H locs 0 0 (vx_MQ below (zQ G A ad (zk I (zqi fun z u => z = zb (-100000 ≤ zg q b bd) ∧ u = zU ct 2 (.inr (2, [zi (zg q b bd), zi (zhp q (zg q b bd)), zi (zgf q 0 (zhp q (zg q b bd))), zi (zld q (zg q b bd))]))))) (zX G A I ad ct zno) args s 0 0 A) (F0 m 8 ls []) := by
    intro nn
    induction nn with
    | zero => intro f s2 w1 p1 f1 a1 hme; exact absurd hme (Nat.not_lt_zero _)
    | succ nn ih8 =>
      intro f s2 w1 p1 f1 a1 hme8 hz H locs hw ls hl
      have q1 := hz.1
      have q2 := hz.2.1
      have q4 := hz.2.2.2.1
      have q5 := hz.2.2.2.2.1
      refine lv_iload hx hb dX2_find_8 (lv_at hl 5 rfl) ?_
      refine z_if_le (tgt := 74) hx hb dX2_find_10 (by decide) ⟨by omega, by omega⟩ (fun c_1 => ?_) (fun c_1 => ?_)
      · have es : s2 = 0 := by have := hz.2.2.2.1; omega
        rw [es] at hz
        have ef : f = zg q b bd := zg_uniq (zSch_done hz) (zg_is q b bd)
        refine lv_aload_n hx hb dX2_find_74 rfl (lv_at hl 0 rfl) ?_
        refine lv_iload hx hb dX2_find_75 (lv_at hl 4 rfl) ?_
        refine z_put (C := RX2) (T := TX2) (N := 4) (fs := [zi (w1), zi (p1), zi (f1), zi (a1)]) (fs' := [zi (f), zi (p1), zi (f1), zi (a1)]) hx hb hts w_3 tyX2_ok nmX2 hown hK hw h2m (zU_s _ _ _) rfl 0 (by decide) w_2 rfl rfl rfl rfl (Nat.le_of_ble_eq_true rfl) rfl dX2_find_77 (fun H locs hw => ?_)
        refine lv_aload_n hx hb dX2_find_80 rfl (lv_at hl 0 rfl) ?_
        refine lv_aload_n hx hb dX2_find_81 rfl (lv_at hl 1 rfl) ?_
        refine z_ic hx hb dX2_find_82 ?_
        refine z_kV (z_runV (As := [.ref (ad (k)), zi (0)]) (rest := []) (k := 2) (fs := [zi (f), zi (p1), zi (f1), zi (a1)]) ⟨hx, hb, hml, hown, hts⟩ hK hw (k_climb0 l hl0 G I ad _ _ (k) q hg ⟨hk0, hk1, hk2, hk3⟩ ⟨(zU_n (by omega) (zU_n (by omega) hp0)), (zU_n (by omega) (zU_n (by omega) hp1)), (zU_n (by omega) (zU_n (by omega) hp2)), (zU_n (by omega) (zU_n (by omega) hp3))⟩ (f) (p1) (f1) (a1) h2m (zU_s _ _ _) (by omega) (by omega) (by omega)) (cwV 2 hts gX2_find_X2_climb rfl rfl rfl (by decide +kernel) ⟨Nat.le_of_ble_eq_true rfl, Nat.le_of_ble_eq_true rfl⟩) h2m (zU_s _ _ _) rfl rfl rfl hl.1 rfl (Nat.le_of_ble_eq_true rfl) dX2_find_83 ⟨Nat.le_of_ble_eq_true rfl, Nat.le_of_ble_eq_true rfl⟩) hw (fun ct_3 H locs hP hw => ?_)
        rw [hP] at hw
        clear hP
        refine lv_iload hx hb dX2_find_86 (lv_at hl 4 rfl) ?_
        refine z_ldc (n := -100000) hx hb hown w_4 (by decide) dX2_find_88 ?_
        refine z_icmp_lt (tgt := 97) hx hb dX2_find_90 (by decide) ⟨by omega, by omega⟩ ⟨by decide, by decide⟩ (fun c_4 => ?_) (fun c_4 => ?_)
        · refine z_ic hx hb dX2_find_97 ?_
          exact z_zret hx hb hlk hr hw (Or.inl rfl) dX2_find_98 (Nat.zero_le _) (Nat.zero_le _) ⟨rfl, _, rfl, ⟨by rw [← ef]; show _ = ite _ _ _; split <;> omega, by simp only [zU_zU, ef]⟩⟩
        · refine z_ic hx hb dX2_find_93 ?_
          refine lv_goto (tgt := 98) hx hb dX2_find_94 (by decide) ?_
          exact z_zret hx hb hlk hr hw (Or.inr rfl) dX2_find_98 (Nat.zero_le _) (Nat.zero_le _) ⟨rfl, _, rfl, ⟨by rw [← ef]; show _ = ite _ _ _; split <;> omega, by simp only [zU_zU, ef]⟩⟩
      · refine lv_aload_n hx hb dX2_find_13 rfl (lv_at hl 0 rfl) ?_
        refine lv_iload hx hb dX2_find_14 (lv_at hl 4 rfl) ?_
        refine lv_iload hx hb dX2_find_16 (lv_at hl 5 rfl) ?_
        refine z_iadd hx hb dX2_find_18 ?_
        refine z_put (C := RX2) (T := TX2) (N := 4) (fs := [zi (w1), zi (p1), zi (f1), zi (a1)]) (fs' := [zi ((f) + (s2)), zi (p1), zi (f1), zi (a1)]) hx hb hts w_3 tyX2_ok nmX2 hown hK hw h2m (zU_s _ _ _) rfl 0 (by decide) w_2 rfl rfl rfl rfl (Nat.le_of_ble_eq_true rfl) rfl dX2_find_19 (fun H locs hw => ?_)
        refine lv_aload_n hx hb dX2_find_22 rfl (lv_at hl 0 rfl) ?_
        refine z_get (C := RX2) (T := TX2) (N := 4) (fs := [zi ((f) + (s2)), zi (p1), zi (f1), zi (a1)]) hx hb hts w_3 hown hK hw h2m (zU_s _ _ _) rfl 0 (by decide) w_2 rfl rfl dX2_find_23 ?_
        refine z_ldc (n := 100000) hx hb hown w_5 (by decide) dX2_find_26 ?_
        refine z_icmp_le (tgt := 34) hx hb dX2_find_28 (by decide) ⟨by omega, by omega⟩ ⟨by decide, by decide⟩ (fun c_5 => ?_) (fun c_5 => ?_)
        · refine lv_aload_n hx hb dX2_find_34 rfl (lv_at hl 0 rfl) ?_
          refine lv_aload_n hx hb dX2_find_35 rfl (lv_at hl 1 rfl) ?_
          refine z_ic hx hb dX2_find_36 ?_
          refine z_kV (z_runV (As := [.ref (ad (k)), zi (0)]) (rest := []) (k := 2) (fs := [zi ((f) + (s2)), zi (p1), zi (f1), zi (a1)]) ⟨hx, hb, hml, hown, hts⟩ hK hw (k_climb0 l hl0 G I ad _ _ (k) q hg ⟨hk0, hk1, hk2, hk3⟩ ⟨(zU_n (by omega) (zU_n (by omega) hp0)), (zU_n (by omega) (zU_n (by omega) hp1)), (zU_n (by omega) (zU_n (by omega) hp2)), (zU_n (by omega) (zU_n (by omega) hp3))⟩ ((f) + (s2)) (p1) (f1) (a1) h2m (zU_s _ _ _) (by omega) (by omega) (by omega)) (cwV 2 hts gX2_find_X2_climb rfl rfl rfl (by decide +kernel) ⟨Nat.le_of_ble_eq_true rfl, Nat.le_of_ble_eq_true rfl⟩) h2m (zU_s _ _ _) rfl rfl rfl hl.1 rfl (Nat.le_of_ble_eq_true rfl) dX2_find_37 ⟨Nat.le_of_ble_eq_true rfl, Nat.le_of_ble_eq_true rfl⟩) hw (fun ct_7 H locs hP hw => ?_)
          rw [hP] at hw
          clear hP
          refine lv_iload_n hx hb dX2_find_40 rfl (lv_at hl 3 rfl) ?_
          refine z_ifb_eq (tgt := 51) hx hb dX2_find_41 (by decide) (fun c_8 => ?_) (fun c_8 => ?_)
          · refine lv_aload_n hx hb dX2_find_51 rfl (lv_at hl 0 rfl) ?_
            refine z_get (C := RX2) (T := TX2) (N := 4) (fs := [zi ((f) + (s2)), zi (zhp q ((f) + (s2))), zi (zgf q 0 (zhp q ((f) + (s2)))), zi (zld q ((f) + (s2)))]) hx hb hts w_3 hown hK hw h2m (zU_s _ _ _) rfl 1 (by decide) w_6 rfl rfl dX2_find_52 ?_
            refine lv_iload_n hx hb dX2_find_55 rfl (lv_at hl 2 rfl) ?_
            refine z_icmp_gt (tgt := 65) hx hb dX2_find_56 (by decide) ⟨by have := zp_bd2 hg (w := ((f) + (s2))) (by omega) (by omega) (k := q.1 - 1) (by omega); unfold zhp; omega, by have := zp_bd2 hg (w := ((f) + (s2))) (by omega) (by omega) (k := q.1 - 1) (by omega); unfold zhp; omega⟩ ⟨by omega, by omega⟩ (fun c_9 => ?_) (fun c_9 => ?_)
            · refine lv_iload hx hb dX2_find_65 (lv_at hl 5 rfl) ?_
              refine z_ic hx hb dX2_find_67 ?_
              refine z_idiv hx hb dX2_find_68 ⟨by omega, by omega⟩ ⟨by decide, by decide⟩ (by decide) ?_
              refine lv_istore (lv' := [(5, zi ((s2).tdiv (2))), (0, .ref (ad (2))), (1, .ref (ad (k))), (2, zi (bd)), (3, zi (zb (b = true))), (4, zi (f))]) hx hb dX2_find_69 hl (by decide) rfl (fun ls hl => ?_)
              refine lv_goto (tgt := 8) hx hb dX2_find_71 (by decide) ?_
              obtain ⟨-, b2, b3, -⟩ := zp2_half hz.2.2.1 (by omega)
              have hbt : b = false := by simpa using c_8
              exact ih8 (f) ((s2).tdiv (2)) ((f) + (s2)) (zhp q ((f) + (s2))) (zgf q 0 (zhp q ((f) + (s2)))) (zld q ((f) + (s2))) (by omega) (zSch_no hz (by omega) (fun w9 v9 h1 h2 => zin_mono hg h1 h2) (by unfold zin; simp only [hbt, if_true, if_false, decide_eq_false_iff_not, Bool.false_eq_true]; omega)) _ _ (zWe hw (by simp only [zU_zU])) _ (lv_sub hl [1, 2, 3, 4, 5, 0] rfl)
            · refine lv_aload_n hx hb dX2_find_59 rfl (lv_at hl 0 rfl) ?_
              refine z_get (C := RX2) (T := TX2) (N := 4) (fs := [zi ((f) + (s2)), zi (zhp q ((f) + (s2))), zi (zgf q 0 (zhp q ((f) + (s2)))), zi (zld q ((f) + (s2)))]) hx hb hts w_3 hown hK hw h2m (zU_s _ _ _) rfl 0 (by decide) w_2 rfl rfl dX2_find_60 ?_
              refine lv_istore (lv' := [(4, zi ((f) + (s2))), (0, .ref (ad (2))), (1, .ref (ad (k))), (2, zi (bd)), (3, zi (zb (b = true))), (5, zi (s2))]) hx hb dX2_find_63 hl (by decide) rfl (fun ls hl => ?_)
              refine lv_iload hx hb dX2_find_65 (lv_at hl 5 rfl) ?_
              refine z_ic hx hb dX2_find_67 ?_
              refine z_idiv hx hb dX2_find_68 ⟨by omega, by omega⟩ ⟨by decide, by decide⟩ (by decide) ?_
              refine lv_istore (lv' := [(5, zi ((s2).tdiv (2))), (4, zi ((f) + (s2))), (0, .ref (ad (2))), (1, .ref (ad (k))), (2, zi (bd)), (3, zi (zb (b = true)))]) hx hb dX2_find_69 hl (by decide) rfl (fun ls hl => ?_)
              refine lv_goto (tgt := 8) hx hb dX2_find_71 (by decide) ?_
              obtain ⟨-, b2, b3, -⟩ := zp2_half hz.2.2.1 (by omega)
              have hbt : b = false := by simpa using c_8
              exact ih8 ((f) + (s2)) ((s2).tdiv (2)) ((f) + (s2)) (zhp q ((f) + (s2))) (zgf q 0 (zhp q ((f) + (s2)))) (zld q ((f) + (s2))) (by omega) (zSch_yes hz (by omega) (by omega) (by unfold zin; simp only [hbt, if_true, if_false, decide_eq_true_eq, Bool.false_eq_true]; omega)) _ _ (zWe hw (by simp only [zU_zU])) _ (lv_sub hl [2, 3, 4, 5, 1, 0] rfl)
          · refine lv_aload_n hx hb dX2_find_44 rfl (lv_at hl 0 rfl) ?_
            refine z_get (C := RX2) (T := TX2) (N := 4) (fs := [zi ((f) + (s2)), zi (zhp q ((f) + (s2))), zi (zgf q 0 (zhp q ((f) + (s2)))), zi (zld q ((f) + (s2)))]) hx hb hts w_3 hown hK hw h2m (zU_s _ _ _) rfl 3 (by decide) w_7 rfl rfl dX2_find_45 ?_
            refine lv_goto (tgt := 55) hx hb dX2_find_48 (by decide) ?_
            refine lv_iload_n hx hb dX2_find_55 rfl (lv_at hl 2 rfl) ?_
            refine z_icmp_gt (tgt := 65) hx hb dX2_find_56 (by decide) ⟨by have := zf_bd2 hg ((f) + (s2)) (k := q.1) (by omega); unfold zld; omega, by have := zf_bd2 hg ((f) + (s2)) (k := q.1) (by omega); unfold zld; omega⟩ ⟨by omega, by omega⟩ (fun c_10 => ?_) (fun c_10 => ?_)
            · refine lv_iload hx hb dX2_find_65 (lv_at hl 5 rfl) ?_
              refine z_ic hx hb dX2_find_67 ?_
              refine z_idiv hx hb dX2_find_68 ⟨by omega, by omega⟩ ⟨by decide, by decide⟩ (by decide) ?_
              refine lv_istore (lv' := [(5, zi ((s2).tdiv (2))), (0, .ref (ad (2))), (1, .ref (ad (k))), (2, zi (bd)), (3, zi (zb (b = true))), (4, zi (f))]) hx hb dX2_find_69 hl (by decide) rfl (fun ls hl => ?_)
              refine lv_goto (tgt := 8) hx hb dX2_find_71 (by decide) ?_
              obtain ⟨-, b2, b3, -⟩ := zp2_half hz.2.2.1 (by omega)
              have hbt : b = true := by simpa using c_8
              exact ih8 (f) ((s2).tdiv (2)) ((f) + (s2)) (zhp q ((f) + (s2))) (zgf q 0 (zhp q ((f) + (s2)))) (zld q ((f) + (s2))) (by omega) (zSch_no hz (by omega) (fun w9 v9 h1 h2 => zin_mono hg h1 h2) (by unfold zin; simp only [hbt, if_true, if_false, decide_eq_false_iff_not, Bool.false_eq_true]; omega)) _ _ (zWe hw (by simp only [zU_zU])) _ (lv_sub hl [1, 2, 3, 4, 5, 0] rfl)
            · refine lv_aload_n hx hb dX2_find_59 rfl (lv_at hl 0 rfl) ?_
              refine z_get (C := RX2) (T := TX2) (N := 4) (fs := [zi ((f) + (s2)), zi (zhp q ((f) + (s2))), zi (zgf q 0 (zhp q ((f) + (s2)))), zi (zld q ((f) + (s2)))]) hx hb hts w_3 hown hK hw h2m (zU_s _ _ _) rfl 0 (by decide) w_2 rfl rfl dX2_find_60 ?_
              refine lv_istore (lv' := [(4, zi ((f) + (s2))), (0, .ref (ad (2))), (1, .ref (ad (k))), (2, zi (bd)), (3, zi (zb (b = true))), (5, zi (s2))]) hx hb dX2_find_63 hl (by decide) rfl (fun ls hl => ?_)
              refine lv_iload hx hb dX2_find_65 (lv_at hl 5 rfl) ?_
              refine z_ic hx hb dX2_find_67 ?_
              refine z_idiv hx hb dX2_find_68 ⟨by omega, by omega⟩ ⟨by decide, by decide⟩ (by decide) ?_
              refine lv_istore (lv' := [(5, zi ((s2).tdiv (2))), (4, zi ((f) + (s2))), (0, .ref (ad (2))), (1, .ref (ad (k))), (2, zi (bd)), (3, zi (zb (b = true)))]) hx hb dX2_find_69 hl (by decide) rfl (fun ls hl => ?_)
              refine lv_goto (tgt := 8) hx hb dX2_find_71 (by decide) ?_
              obtain ⟨-, b2, b3, -⟩ := zp2_half hz.2.2.1 (by omega)
              have hbt : b = true := by simpa using c_8
              exact ih8 ((f) + (s2)) ((s2).tdiv (2)) ((f) + (s2)) (zhp q ((f) + (s2))) (zgf q 0 (zhp q ((f) + (s2)))) (zld q ((f) + (s2))) (by omega) (zSch_yes hz (by omega) (by omega) (by unfold zin; simp only [hbt, if_true, if_false, decide_eq_true_eq, Bool.false_eq_true]; omega)) _ _ (zWe hw (by simp only [zU_zU])) _ (lv_sub hl [2, 3, 4, 5, 1, 0] rfl)
        · refine lv_goto (tgt := 65) hx hb dX2_find_31 (by decide) ?_
          refine lv_iload hx hb dX2_find_65 (lv_at hl 5 rfl) ?_
          refine z_ic hx hb dX2_find_67 ?_
          refine z_idiv hx hb dX2_find_68 ⟨by omega, by omega⟩ ⟨by decide, by decide⟩ (by decide) ?_
          refine lv_istore (lv' := [(5, zi ((s2).tdiv (2))), (0, .ref (ad (2))), (1, .ref (ad (k))), (2, zi (bd)), (3, zi (zb (b = true))), (4, zi (f))]) hx hb dX2_find_69 hl (by decide) rfl (fun ls hl => ?_)
          refine lv_goto (tgt := 8) hx hb dX2_find_71 (by decide) ?_
          obtain ⟨-, b2, b3, -⟩ := zp2_half hz.2.2.1 (by omega)
          exact ih8 (f) ((s2).tdiv (2)) ((f) + (s2)) (p1) (f1) (a1) (by omega) (zSch_far hz (by omega) (by omega)) _ _ (zWe hw (by simp only [zU_zU])) _ (lv_sub hl [1, 2, 3, 4, 5, 0] rfl)
  exact L8 _ (-100001) (131072) (w) (p0) (f0) (a0) (Nat.lt_succ_self _) ⟨by decide, by decide, Or.inr ⟨17, by decide, by decide⟩, by decide, by decide, fun h => absurd h (by decide), fun w9 h1 h2 h3 => absurd h2 (by omega)⟩ _ _ (zWe hw (zU_id h2).symm) _ (lv_sub hl [2, 3, 4, 5, 1, 0] rfl)

set_option maxHeartbeats 4000000 in
set_option maxRecDepth 100000 in
theorem k_findUnder (l : Launch) (hl0 : l.stackTraces = false) (G : zG) (I : List Nat) (ad : Nat → Nat) (ct : Nat → va_E) (sz : Nat) (k : Nat) (q : zPl) (hg : zGood q) (hk : zMem4 I k) (hp : zPileAt G ad ct k q) (w p0 f0 a0 : Int) (h2m : 2 ∈ I) (h2 : ct 2 = .inr (2, [zi w, zi p0, zi f0, zi a0])) (hkk : 40 ≤ k) (bd : Int) (hbd : zr bd) : zN l yX2_findUnder wsX2_findUnder 3 74 0 0 G [.ref (ad (2)), .ref (ad (k)), zi (bd)] I ad ct zno sz (zk I (zqi fun z u => z = zb (-100000 ≤ zg q true bd ∧ zg q true bd < 100000) ∧ u = zU ct 2 (.inr (2, [zi (zg q true bd), zi (zhp q (zg q true bd)), zi (zgf q 0 (zhp q (zg q true bd))), zi (zld q (zg q true bd))])))) := by
  obtain ⟨hp0, hp1, hp2, hp3⟩ := hp
  obtain ⟨hk0, hk1, hk2, hk3⟩ := hk
  have hg0 := hg
  obtain ⟨⟨g1, g2⟩, ⟨g3, g4⟩, ⟨g5, g6⟩, ⟨g7, g8⟩, ⟨g9, g10⟩, ⟨g11, g12⟩, g13, g14, g15, g16⟩ := hg0
  have gn : (q.1 : Int) = pn q := rfl
  have gb := zg_bd q true bd
  refine z_ofW (ret := (some .boolean)) hl0 (by decide +kernel) rfl (Nat.le_of_ble_eq_true rfl) ?_
  intro p e s m args below meth c A ls hA0 hsz hF hr hout hnm hw hl
  obtain ⟨hx, hb, hml, hown, hts, hK, hlk, hst⟩ := hF
  have hown : s.vm.findClass RX2 = some m.cls := hown
  have hl : lv_has ls 3 [(0, .ref (ad (2))), (1, .ref (ad (k))), (2, zi (bd))] := hl
  have w_0 := hts (.fieldLink RX2 15 "PileMoves$State" "last" "I") (by decide +kernel)
  have w_1 : ∀ w ∈ wsX20, w ∈ wsX2_findUnder := by decide +kernel
  have w_2 := hts (.constant RX2 19 (100000)) (by decide +kernel)
  refine lv_aload_n hx hb dX2_findUnder_0 rfl (lv_at hl 0 rfl) ?_
  refine lv_aload_n hx hb dX2_findUnder_1 rfl (lv_at hl 1 rfl) ?_
  refine lv_iload_n hx hb dX2_findUnder_2 rfl (lv_at hl 2 rfl) ?_
  refine z_ic hx hb dX2_findUnder_3 ?_
  refine z_kI (z_runV (As := [.ref (ad (k)), zi (bd), zi (1)]) (rest := []) (k := 2) (fs := [zi (w), zi (p0), zi (f0), zi (a0)]) ⟨hx, hb, hml, hown, hts⟩ hK hw (k_find l hl0 G I ad _ _ (k) q hg ⟨hk0, hk1, hk2, hk3⟩ ⟨hp0, hp1, hp2, hp3⟩ (w) (p0) (f0) (a0) h2m h2 (by omega) true (bd) hbd) (cwV 3 hts gX2_findUnder_X2_find rfl rfl rfl (by decide +kernel) ⟨Nat.le_of_ble_eq_true rfl, Nat.le_of_ble_eq_true rfl⟩) h2m h2 rfl rfl rfl hl.1 rfl (Nat.le_of_ble_eq_true rfl) dX2_findUnder_4 ⟨Nat.le_of_ble_eq_true rfl, Nat.le_of_ble_eq_true rfl⟩) hw (fun r_1 ct_2 H locs hP hw => ?_)
  obtain ⟨rfl, hct⟩ := hP
  rw [hct] at hw
  clear hct
  refine z_ifb_eq (tgt := 23) hx hb dX2_findUnder_7 (by decide) (fun c_3 => ?_) (fun c_3 => ?_)
  · refine z_ic hx hb dX2_findUnder_23 ?_
    exact z_zret hx hb hlk hr hw (Or.inl rfl) dX2_findUnder_24 (Nat.zero_le _) (Nat.zero_le _) ⟨rfl, _, rfl, ⟨by show _ = ite _ _ _; split <;> omega, rfl⟩⟩
  · refine lv_aload_n hx hb dX2_findUnder_10 rfl (lv_at hl 0 rfl) ?_
    refine z_get (C := RX2) (T := TX2) (N := 4) (fs := [zi (zg q true (bd)), zi (zhp q (zg q true (bd))), zi (zgf q 0 (zhp q (zg q true (bd)))), zi (zld q (zg q true (bd)))]) hx hb hts w_1 hown hK hw h2m (zU_s _ _ _) rfl 0 (by decide) w_0 rfl rfl dX2_findUnder_11 ?_
    refine z_ldc (n := 100000) hx hb hown w_2 (by decide) dX2_findUnder_14 ?_
    refine z_icmp_ge (tgt := 23) hx hb dX2_findUnder_16 (by decide) ⟨by omega, by omega⟩ ⟨by decide, by decide⟩ (fun c_4 => ?_) (fun c_4 => ?_)
    · refine z_ic hx hb dX2_findUnder_23 ?_
      exact z_zret hx hb hlk hr hw (Or.inl rfl) dX2_findUnder_24 (Nat.zero_le _) (Nat.zero_le _) ⟨rfl, _, rfl, ⟨by show _ = ite _ _ _; split <;> omega, rfl⟩⟩
    · refine z_ic hx hb dX2_findUnder_19 ?_
      refine lv_goto (tgt := 24) hx hb dX2_findUnder_20 (by decide) ?_
      exact z_zret hx hb hlk hr hw (Or.inr rfl) dX2_findUnder_24 (Nat.zero_le _) (Nat.zero_le _) ⟨rfl, _, rfl, ⟨by show _ = ite _ _ _; split <;> omega, rfl⟩⟩

set_option maxHeartbeats 4000000 in
set_option maxRecDepth 100000 in
theorem k_findAt (l : Launch) (hl0 : l.stackTraces = false) (G : zG) (I : List Nat) (ad : Nat → Nat) (ct : Nat → va_E) (sz : Nat) (k : Nat) (q : zPl) (hg : zGood q) (hk : zMem4 I k) (hp : zPileAt G ad ct k q) (w p0 f0 a0 : Int) (h2m : 2 ∈ I) (h2 : ct 2 = .inr (2, [zi w, zi p0, zi f0, zi a0])) (hkk : 40 ≤ k) (bd : Int) (hbd : zr bd) : zN l yX2_findAt wsX2_findAt 3 74 0 0 G [.ref (ad (2)), .ref (ad (k)), zi (bd)] I ad ct zno sz (zk I (zqi fun z u => z = zb (-100000 ≤ zg q false bd) ∧ u = zU ct 2 (.inr (2, [zi (zg q false bd), zi (zhp q (zg q false bd)), zi (zgf q 0 (zhp q (zg q false bd))), zi (zld q (zg q false bd))])))) := by
  obtain ⟨hp0, hp1, hp2, hp3⟩ := hp
  obtain ⟨hk0, hk1, hk2, hk3⟩ := hk
  have hg0 := hg
  obtain ⟨⟨g1, g2⟩, ⟨g3, g4⟩, ⟨g5, g6⟩, ⟨g7, g8⟩, ⟨g9, g10⟩, ⟨g11, g12⟩, g13, g14, g15, g16⟩ := hg0
  have gn : (q.1 : Int) = pn q := rfl
  refine z_ofW (ret := (some .boolean)) hl0 (by decide +kernel) rfl (Nat.le_of_ble_eq_true rfl) ?_
  intro p e s m args below meth c A ls hA0 hsz hF hr hout hnm hw hl
  obtain ⟨hx, hb, hml, hown, hts, hK, hlk, hst⟩ := hF
  have hown : s.vm.findClass RX2 = some m.cls := hown
  have hl : lv_has ls 3 [(0, .ref (ad (2))), (1, .ref (ad (k))), (2, zi (bd))] := hl
  refine lv_aload_n hx hb dX2_findAt_0 rfl (lv_at hl 0 rfl) ?_
  refine lv_aload_n hx hb dX2_findAt_1 rfl (lv_at hl 1 rfl) ?_
  refine lv_iload_n hx hb dX2_findAt_2 rfl (lv_at hl 2 rfl) ?_
  refine z_ic hx hb dX2_findAt_3 ?_
  refine z_kI (z_runV (As := [.ref (ad (k)), zi (bd), zi (0)]) (rest := []) (k := 2) (fs := [zi (w), zi (p0), zi (f0), zi (a0)]) ⟨hx, hb, hml, hown, hts⟩ hK hw (k_find l hl0 G I ad _ _ (k) q hg ⟨hk0, hk1, hk2, hk3⟩ ⟨hp0, hp1, hp2, hp3⟩ (w) (p0) (f0) (a0) h2m h2 (by omega) false (bd) hbd) (cwV 3 hts gX2_findAt_X2_find rfl rfl rfl (by decide +kernel) ⟨Nat.le_of_ble_eq_true rfl, Nat.le_of_ble_eq_true rfl⟩) h2m h2 rfl rfl rfl hl.1 rfl (Nat.le_of_ble_eq_true rfl) dX2_findAt_4 ⟨Nat.le_of_ble_eq_true rfl, Nat.le_of_ble_eq_true rfl⟩) hw (fun r_1 ct_2 H locs hP hw => ?_)
  obtain ⟨rfl, hct⟩ := hP
  rw [hct] at hw
  clear hct
  exact z_zret hx hb hlk hr hw (by show ite _ _ _ = _ ∨ ite _ _ _ = _; split <;> omega) dX2_findAt_7 (Nat.zero_le _) (Nat.zero_le _) ⟨rfl, _, rfl, ⟨rfl, rfl⟩⟩
end
section
/-! a blow, in whole numbers -/
theorem ztdivb {x d B : Int} (hd : 1 ≤ d) (h1 : -B ≤ x) (h2 : x ≤ B) : -B ≤ x.tdiv d ∧ x.tdiv d ≤ B := by
  rcases Int.le_total 0 x with h | h
  · rw [Int.tdiv_eq_ediv_of_nonneg h]; exact zdivb hd h1 h2
  · have h3 : x.tdiv d = -((-x).tdiv d) := by rw [Int.neg_tdiv, Int.neg_neg]
    rw [h3, Int.tdiv_eq_ediv_of_nonneg (by omega)]
    have := zdivb (x := -x) (B := B) hd (by omega) (by omega)
    omega
theorem zt1000 {x B : Int} (h1 : -(1000 * B) ≤ x) (h2 : x ≤ 1000 * B) : -B ≤ x.tdiv 1000 ∧ x.tdiv 1000 ≤ B := by
  rcases Int.le_total 0 x with h | h
  · rw [Int.tdiv_eq_ediv_of_nonneg h]; omega
  · have h3 : x.tdiv 1000 = -((-x).tdiv 1000) := by rw [Int.neg_tdiv, Int.neg_neg]
    rw [h3, Int.tdiv_eq_ediv_of_nonneg (by omega)]; omega
def zcu (q : zPl) (pl : Int → Int) : Int := if 10 * (pl (pn q) - pl 0) < 0 then 0 else 10 * (pl (pn q) - pl 0)
def zsf (q : zPl) (pl : Int → Int) (i : Int) : Int := (psp q * (pl i - pl (i + 1))).tdiv 1000
def zgb (q : zPl) (pl : Int → Int) (i : Int) : Int := zcl ((pst q i * pl i).tdiv 1000) (-(pmo q i)) (pmo q i)
def ztb (q : zPl) (pl : Int → Int) : Int := zcl ((pts q * pl (pn q - 1)).tdiv 1000) 0 (ptm q)
def zab (q : zPl) (pl : Int → Int) (i : Int) : Int := if i = 0 then zcu q pl else zsf q pl (i - 1)
def zbe (q : zPl) (pl : Int → Int) (i : Int) : Int := if i + 1 < pn q then zsf q pl i else ztb q pl
def zpu (q : zPl) (pl : Int → Int) (i : Int) : Int := if i = pn q then -(zcu q pl) else zab q pl i - zgb q pl i - zbe q pl i
def zms (q : zPl) (hm i : Int) : Int := if i = pn q then hm else pma q
def znv (q : zPl) (hm : Int) (pl sp : Int → Int) (i : Int) : Int := zcl (sp i + (1000 * zpu q pl i).tdiv (zms q hm i)) (-1000000000) 1000000000
def znp (q : zPl) (hm : Int) (pl sp : Int → Int) (i : Int) : Int := pl i + (znv q hm pl sp i).tdiv 1000
/-- they speak of the places 0 .. n alone -/
def zEq (q : zPl) (a b : Int → Int) : Prop := ∀ i : Int, 0 ≤ i → i ≤ pn q → a i = b i
theorem zcu_c {q : zPl} (hg : zGood q) {a b : Int → Int} (h : zEq q a b) : zcu q a = zcu q b := by
  have g := hg.1.1
  unfold zcu; rw [h (pn q) (by omega) (by omega), h 0 (by omega) (by omega)]
theorem zsf_c {q : zPl} {a b : Int → Int} (h : zEq q a b) {i : Int} (h0 : 0 ≤ i) (h1 : i + 1 ≤ pn q) : zsf q a i = zsf q b i := by
  unfold zsf; rw [h i h0 (by omega), h (i + 1) (by omega) h1]
theorem zpu_c {q : zPl} (hg : zGood q) {a b : Int → Int} (h : zEq q a b) {i : Int} (h0 : 0 ≤ i) (h1 : i ≤ pn q) : zpu q a i = zpu q b i := by
  have g := hg.1.1
  unfold zpu
  by_cases hi : i = pn q
  · rw [if_pos hi, if_pos hi, zcu_c hg h]
  · rw [if_neg hi, if_neg hi]
    have e1 : zab q a i = zab q b i := by
      unfold zab
      by_cases h2 : i = 0
      · rw [if_pos h2, if_pos h2, zcu_c hg h]
      · rw [if_neg h2, if_neg h2, zsf_c h (by omega) (by omega)]
    have e2 : zgb q a i = zgb q b i := by unfold zgb; rw [h i h0 h1]
    have e3 : zbe q a i = zbe q b i := by
      unfold zbe ztb
      by_cases h2 : i + 1 < pn q
      · rw [if_pos h2, if_pos h2, zsf_c h h0 (by omega)]
      · rw [if_neg h2, if_neg h2, h (pn q - 1) (by omega) (by omega)]
    rw [e1, e2, e3]
theorem znv_c {q : zPl} (hg : zGood q) (hm : Int) {a b c d : Int → Int} (h : zEq q a b) (h2 : zEq q c d) {i : Int} (h0 : 0 ≤ i) (h1 : i ≤ pn q) : znv q hm a c i = znv q hm b d i := by
  unfold znv; rw [zpu_c hg h h0 h1, h2 i h0 h1]
theorem znp_c {q : zPl} (hg : zGood q) (hm : Int) {a b c d : Int → Int} (h : zEq q a b) (h2 : zEq q c d) {i : Int} (h0 : 0 ≤ i) (h1 : i ≤ pn q) : znp q hm a c i = znp q hm b d i := by
  unfold znp; rw [znv_c hg hm h h2 h0 h1, h i h0 h1]
/-- round by round: places, speeds -/
def zro (q : zPl) (hm v : Int) : Nat → (Int → Int) × (Int → Int)
  | 0 => (fun _ => 0, fun i => if i = pn q then 1000 * v else 0)
  | r + 1 => (znp q hm (zro q hm v r).1 (zro q hm v r).2, znv q hm (zro q hm v r).1 (zro q hm v r).2)
theorem znv_bd (q : zPl) (hm : Int) (pl sp : Int → Int) (i : Int) : -1000000000 ≤ znv q hm pl sp i ∧ znv q hm pl sp i ≤ 1000000000 := by
  unfold znv; exact zcl_bd (by omega)
theorem zro_sp {q : zPl} {hm v : Int} (hv : 0 ≤ v) (hv2 : v ≤ 1000) : ∀ (r : Nat) (i : Int), -1000000000 ≤ (zro q hm v r).2 i ∧ (zro q hm v r).2 i ≤ 1000000000
  | 0, i => by show _ ≤ (if i = pn q then 1000 * v else 0) ∧ (if i = pn q then 1000 * v else 0) ≤ _; split <;> omega
  | r + 1, i => znv_bd q hm _ _ i
theorem zro_pl (q : zPl) (hm v : Int) : ∀ (r : Nat) (i : Int), -(1000000 * (r : Int)) ≤ (zro q hm v r).1 i ∧ (zro q hm v r).1 i ≤ 1000000 * (r : Int)
  | 0, i => by show _ ≤ (0 : Int) ∧ (0 : Int) ≤ _; omega
  | r + 1, i => by
    have h1 := zro_pl q hm v r i
    have h2 := znv_bd q hm (zro q hm v r).1 (zro q hm v r).2 i
    have h3 := zt1000 (B := 1000000) (by omega) (show znv q hm (zro q hm v r).1 (zro q hm v r).2 i ≤ 1000 * 1000000 by omega)
    show _ ≤ (zro q hm v r).1 i + (znv q hm (zro q hm v r).1 (zro q hm v r).2 i).tdiv 1000 ∧ (zro q hm v r).1 i + (znv q hm (zro q hm v r).1 (zro q hm v r).2 i).tdiv 1000 ≤ _
    omega
/-- bounds of what pushes -/
def zB (q : zPl) (pl : Int → Int) : Prop := ∀ i : Int, 0 ≤ i → i ≤ pn q → -200000000 ≤ pl i ∧ pl i ≤ 200000000
theorem zcu_bd {q : zPl} (hg : zGood q) {pl : Int → Int} (h : zB q pl) : 0 ≤ zcu q pl ∧ zcu q pl ≤ 4000000000 := by
  have g := hg.1.1
  have h1 := h (pn q) (by omega) (by omega)
  have h2 := h 0 (by omega) (by omega)
  unfold zcu; split <;> omega
theorem zsf_bd {q : zPl} (hg : zGood q) {pl : Int → Int} (h : zB q pl) {i : Int} (h0 : 0 ≤ i) (hi : i + 1 ≤ pn q) : (-4000000000000 ≤ psp q * (pl i - pl (i + 1)) ∧ psp q * (pl i - pl (i + 1)) ≤ 4000000000000) ∧ -4000000000 ≤ zsf q pl i ∧ zsf q pl i ≤ 4000000000 := by
  have g := hg.2.1
  have h1 := h i h0 (by omega)
  have h2 := h (i + 1) (by omega) hi
  have h3 := zmulb (B := 400000000) (A := 10000) (by omega) g.2 (show -400000000 ≤ pl i - pl (i + 1) by omega) (by omega)
  have h4 := zt1000 (x := psp q * (pl i - pl (i + 1))) (B := 4000000000) (by omega) (by omega)
  unfold zsf; omega
theorem zgb_bd {q : zPl} (hg : zGood q) (pl : Int → Int) (i : Int) : -100000 ≤ zgb q pl i ∧ zgb q pl i ≤ 100000 := by
  have h1 := hg.2.2.2.2.2.2.2.2.1 i
  have h2 := zcl_bd (v := (pst q i * pl i).tdiv 1000) (lo := -(pmo q i)) (hi := pmo q i) (by omega)
  unfold zgb; omega
theorem ztb_bd {q : zPl} (hg : zGood q) (pl : Int → Int) : 0 ≤ ztb q pl ∧ ztb q pl ≤ 1000000 := by
  have h1 := hg.2.2.2.2.2.1
  have h2 := zcl_bd (v := (pts q * pl (pn q - 1)).tdiv 1000) (lo := 0) (hi := ptm q) (by omega)
  unfold ztb; omega
theorem zpu_bd {q : zPl} (hg : zGood q) {pl : Int → Int} (h : zB q pl) {i : Int} (h0 : 0 ≤ i) (hi : i ≤ pn q) : -10000000000 ≤ zpu q pl i ∧ zpu q pl i ≤ 10000000000 := by
  have h1 := zcu_bd hg h
  have h2 := zgb_bd hg pl i
  have h3 := ztb_bd hg pl
  unfold zpu zab zbe
  by_cases e1 : i = pn q
  · rw [if_pos e1]; omega
  · rw [if_neg e1]
    have h4 : i ≠ 0 → -4000000000 ≤ zsf q pl (i - 1) ∧ zsf q pl (i - 1) ≤ 4000000000 := fun e => (zsf_bd hg h (i := i - 1) (by omega) (by omega)).2
    have h5 : -4000000000 ≤ zsf q pl i ∧ zsf q pl i ≤ 4000000000 := (zsf_bd hg h h0 (by omega)).2
    split <;> split <;> omega
/-- how far down the last piece came at most -/
def zdp (q : zPl) (hm v : Int) : Nat → Int
  | 0 => 0
  | r + 1 => if zdp q hm v r < (zro q hm v (r + 1)).1 (pn q - 1) then (zro q hm v (r + 1)).1 (pn q - 1) else zdp q hm v r
theorem zdp_bd (q : zPl) (hm v : Int) : ∀ r : Nat, 0 ≤ zdp q hm v r ∧ zdp q hm v r ≤ 1000000 * (r : Int)
  | 0 => by show (0 : Int) ≤ 0 ∧ (0 : Int) ≤ _; omega
  | r + 1 => by
    have h1 := zdp_bd q hm v r
    have h2 := zro_pl q hm v (r + 1) (pn q - 1)
    unfold zdp
    split <;> omega
theorem zqk_bd {q : zPl} (hg : zGood q) : 0 ≤ zqk q ∧ zqk q ≤ 1000000000 := by
  have h1 := hg.2.2.2.2.1
  have h2 := hg.2.2.2.2.2.1
  unfold zqk
  split
  · omega
  · have h3 : 0 ≤ (1000 * ptm q).tdiv (pts q) := Int.tdiv_nonneg (by omega) (by omega)
    have := ztdivb (x := 1000 * ptm q) (d := pts q) (B := 1000000000) (by omega) (by omega) (by omega)
    omega
def zset (q : zPl) (hm v : Int) : Int := if zdp q hm v 200 - zqk q < 0 then 0 else zdp q hm v 200 - zqk q
def zcpy (f g : Int → Int) (dp n : Int) : Int → Int := fun j => if dp ≤ j ∧ j < dp + n then f (j - dp) else g j
section ZM
variable {p : Program} {l : Launch} {e : Env} {R : Room} {s : State} {m : MethodId} {args : Array Value} {below : List Frame} {meth : Method} {c : Code} {H : Heap} {locs : List Loc} {cells slots : Nat} {Q : State → Prop}
variable {cc : ByteArray} {pc : Nat} {ls : Array Slot} {rest : List Value} {G : zG} {A : Nat → Prop} {H0 : Heap} {I : List Nat} {ad : Nat → Nat} {ct : Nat → va_E}
theorem z_mmax (hx : p.tables.exec = Jvm.exec) (hb : c.code = cc) (hml : c.maxLocals = ls.size) {own : String} {index : Nat} (hown : s.vm.findClass own = some m.cls) (hlink : (Cond.methodLink own index Lib.Math.max.name).before args s = true) (hstat : (Cond.static Lib.Math.max.name).before args s = true) (hini : (Cond.initialized "java/lang/Math").before args s = true) (hcode : (Cond.code Lib.Math.max.name Lib.Math.max.code 2 (some .int)).before args s = true)
    (hframes : 1 ≤ R.frames) (hlocals : (rest.map fun v => v.category).sum + 13 ≤ R.locals) (hc : cells ≤ R.cells) (hs : slots ≤ R.slots) {a b : Int} (ha : zr a) (hb2 : zr b) (hdg : decode cc pc = .ok (.invokestatic index, 3))
    (kk : W p l e R s m args below meth c H locs cells slots Q (F0 m (pc + 3) ls (zi (if a < b then b else a) :: rest))) : W p l e R s m args below meth c H locs cells slots Q (F0 m pc ls (zi b :: zi a :: rest)) :=
  va_mmax hx hb hml hown hlink hstat hini hcode hframes hlocals hc hs hdg (by
    have e : (if Int32.ofInt a < Int32.ofInt b then Int32.ofInt b else Int32.ofInt a) = Int32.ofInt (if a < b then b else a) := by
      by_cases h : a < b
      · rw [if_pos h, if_pos ((zi_lt ha hb2).mpr h)]
      · rw [if_neg h, if_neg (fun q => h ((zi_lt ha hb2).mp q))]
    rw [e]; exact kk)
theorem z_mmaxl (hx : p.tables.exec = Jvm.exec) (hb : c.code = cc) (hml : c.maxLocals = ls.size) {own : String} {index : Nat} (hown : s.vm.findClass own = some m.cls) (hlink : (Cond.methodLink own index Lib.MathLoose.max_long.x).before args s = true) (hstat : (Cond.static Lib.MathLoose.max_long.x).before args s = true) (hini : (Cond.initialized "java/lang/Math").before args s = true) (hcode : (Cond.code Lib.MathLoose.max_long.x Lib.MathLoose.max_long.code 4 (some .long)).before args s = true)
    (hframes : 1 ≤ R.frames) (hlocals : (rest.map fun v => v.category).sum + 15 ≤ R.locals) (hc : cells ≤ R.cells) (hs : slots ≤ R.slots) {a b : Int} (ha : zR a) (hb2 : zR b) (hdg : decode cc pc = .ok (.invokestatic index, 3))
    (kk : W p l e R s m args below meth c H locs cells slots Q (F0 m (pc + 3) ls (zl (if b < a then a else b) :: rest))) : W p l e R s m args below meth c H locs cells slots Q (F0 m pc ls (zl b :: zl a :: rest)) :=
  va_mmax_long hx hb hml hown hlink hstat hini hcode hframes hlocals hc hs hdg (by
    have e : (if Int64.ofInt b < Int64.ofInt a then Int64.ofInt a else Int64.ofInt b) = Int64.ofInt (if b < a then a else b) := by
      by_cases h : b < a
      · rw [if_pos h, if_pos ((zl_lt hb2 ha).mpr h)]
      · rw [if_neg h, if_neg (fun q => h ((zl_lt hb2 ha).mp q))]
    rw [e]; exact kk)
/-- System.arraycopy of a whole row of ints into another -/
theorem z_copyi (hx : p.tables.exec = Jvm.exec) (hb : c.code = cc) (hml : c.maxLocals = ls.size) {own : String} {index : Nat} (hown : s.vm.findClass own = some m.cls) (hlink : (Cond.methodLink own index arraycopyName).before args s = true) (hnat : (Cond.native arraycopyName).before args s = true) (hstat : (Cond.static arraycopyName).before args s = true) (hini : (Cond.initialized "java/lang/System").before args s = true)
    (hK : zK G A s H0) (hw : zW G A H0 H locs I ad ct) {k0 k1 : Nat} (hk0 : k0 ∈ I) (hk1 : k1 ∈ I) {n0 n1 : Nat} {f g : Int → Int} (he0 : ct k0 = zI G n0 f) (he1 : ct k1 = zI G n1 g) {dp n : Int} (h2 : 0 ≤ dp) (h3 : 0 ≤ n) (h4 : n ≤ n0) (h5 : dp + n ≤ n1) (hn0 : n0 < 2147483648) (hn1 : n1 < 2147483648)
    (hframes : 1 ≤ R.frames) (hlocals : (rest.map fun v => v.category).sum + (nativeFrameWords "java/lang/System" "arraycopy" 5 + 11) ≤ R.locals) (hdg : decode cc pc = .ok (.invokestatic index, 3))
    (kk : ∀ (H1 : Heap) (locs1 : List Loc), zW G A H0 H1 locs1 I ad (zU ct k1 (zI G n1 (zcpy f g dp n))) → W p l e R s m args below meth c H1 locs1 cells slots Q (F0 m (pc + 3) ls rest)) : W p l e R s m args below meth c H locs cells slots Q (F0 m pc ls (zi n :: zi dp :: .ref (ad k1) :: zi 0 :: .ref (ad k0) :: rest)) := by
  obtain ⟨i0, hi0⟩ := List.getElem?_of_mem hk0
  obtain ⟨i1, hi1⟩ := List.getElem?_of_mem hk1
  have hp0 := zws_of (ad := ad) (ct := ct) hi0
  have hp1 := zws_of (ad := ad) (ct := ct) hi1
  rw [he0] at hp0
  rw [he1] at hp1
  have c0 : (Int32.ofInt 0).toNatClampNeg = 0 := rfl
  have cd : (Int32.ofInt dp).toNatClampNeg = dp.toNat := zi_cl h2 (by omega)
  have cn : (Int32.ofInt n).toNatClampNeg = n.toNat := zi_cl h3 (by omega)
  have ng : ∀ z : Int, 0 ≤ z → z < 2147483648 → ¬ Int32.ofInt z < 0 := fun z h1 h2 h => by
    have := (zi_lt (a := z) (b := 0) ⟨by omega, by omega⟩ zr_0).mp h
    omega
  refine va_copyi (D := G.1) (cl := vwCl) hx hb hml hown hlink hnat hstat hini hK.1 hw.1.1 (hw.1.D hw.2.1) hw.2.2.1 i0 i1 0 0 (ty := .int) hp0 hp1 rfl rfl rfl (ng 0 (by omega) (by omega)) (ng dp h2 (by omega)) (ng n h3 (by omega)) (by rw [c0, cn]; omega) (by rw [cd, cn]; omega) (fun _ _ => rfl) hframes hlocals hdg (fun H1 locs1 hP hD hS => ?_)
  have e : va_cpy (zfi f) (zfi g) (Int32.ofInt 0).toNatClampNeg (Int32.ofInt dp).toNatClampNeg (Int32.ofInt n).toNatClampNeg = zfi (zcpy f g dp n) := by
    rw [c0, cd, cn]
    funext j
    unfold va_cpy zfi zcpy
    by_cases h : dp.toNat ≤ j ∧ j < dp.toNat + n.toNat
    · rw [if_pos h, if_pos (by omega), show ((0 + (j - dp.toNat) : Nat) : Int) = (j : Int) - dp by omega]
    · rw [if_neg h, if_neg (by omega)]
  rw [e] at hP
  exact kk H1 locs1 (hw.put hi1 hP hS)
end ZM
end
section
set_option maxHeartbeats 4000000 in
set_option maxRecDepth 100000 in
theorem k_happened (l : Launch) (hl0 : l.stackTraces = false) (G : zG) (I : List Nat) (ad : Nat → Nat) (ct : Nat → va_E) (sz : Nat) (b0 b1 : Int) (r4 r5 r6 r7 : Nat) (hI3 : 3 ∈ I) (h3 : ct 3 = .inr (0, [zi b0, zi b1, .ref r4, .ref r5, .ref r6, .ref r7])) (hb0 : zr b0) : zN l yX0_happened wsX0_happened 0 0 0 0 G [.ref (ad (3))] I ad ct zno sz (zk I (zqi fun z u => z = zb (0 < b0) ∧ u = ct)) := by
  refine z_ofW (ret := (some .boolean)) hl0 (by decide +kernel) rfl (Nat.le_of_ble_eq_true rfl) ?_
  intro p e s m args below meth c A ls hA0 hsz hF hr hout hnm hw hl
  obtain ⟨hx, hb, hml, hown, hts, hK, hlk, hst⟩ := hF
  have hown : s.vm.findClass RX0 = some m.cls := hown
  have hl : lv_has ls 1 [(0, .ref (ad (3)))] := hl
  have w_0 := hts (.fieldLink RX0 25 "PileMoves$Blow" "pieces" "I") (by decide +kernel)
  have w_1 : ∀ w ∈ wsX00, w ∈ wsX0_happened := by decide +kernel
  refine lv_aload_n hx hb dX0_happened_0 rfl (lv_at hl 0 rfl) ?_
  refine z_get (C := RX0) (T := TX0) (N := 6) (fs := [zi (b0), zi (b1), .ref r4, .ref r5, .ref r6, .ref r7]) hx hb hts w_1 hown hK hw hI3 h3 rfl 0 (by decide) w_0 rfl rfl dX0_happened_1 ?_
  refine z_if_le (tgt := 11) hx hb dX0_happened_4 (by decide) ⟨by omega, by omega⟩ (fun c_1 => ?_) (fun c_1 => ?_)
  · refine z_ic hx hb dX0_happened_11 ?_
    exact z_zret hx hb hlk hr hw (Or.inl rfl) dX0_happened_12 (Nat.zero_le _) (Nat.zero_le _) ⟨rfl, _, rfl, ⟨by show _ = ite _ _ _; split <;> omega, rfl⟩⟩
  · refine z_ic hx hb dX0_happened_7 ?_
    refine lv_goto (tgt := 12) hx hb dX0_happened_8 (by decide) ?_
    exact z_zret hx hb hlk hr hw (Or.inr rfl) dX0_happened_12 (Nat.zero_le _) (Nat.zero_le _) ⟨rfl, _, rfl, ⟨by show _ = ite _ _ _; split <;> omega, rfl⟩⟩

set_option maxHeartbeats 4000000 in
set_option maxRecDepth 100000 in
theorem k_behind (l : Launch) (hl0 : l.stackTraces = false) (G : zG) (I : List Nat) (ad : Nat → Nat) (ct : Nat → va_E) (sz : Nat) (b0 b1 : Int) (f g h wv : Int → Int) (hI3 : 3 ∈ I) (hI4 : 4 ∈ I) (hI5 : 5 ∈ I) (hI6 : 6 ∈ I) (hI7 : 7 ∈ I) (h3 : ct 3 = .inr (0, [zi b0, zi b1, .ref (ad 4), .ref (ad 5), .ref (ad 6), .ref (ad 7)])) (h4 : ct 4 = zI G 13 f) (h5 : ct 5 = zI G 13 g) (h6 : ct 6 = zL G 13 h) (h7 : ct 7 = zI G 2600 wv) (ro pi : Int) (hr0 : 0 ≤ ro) (hr1 : ro < 200) (hp0 : 0 ≤ pi) (hp1 : pi ≤ 12) : zN l yX0_behindRound wsX0_behindRound 0 0 0 0 G [.ref (ad (3)), zi (ro), zi (pi)] I ad ct zno sz (zk I (zqi fun z u => z = wv (13 * ro + pi) ∧ u = ct)) := by
  refine z_ofW (ret := (some .int)) hl0 (by decide +kernel) rfl (Nat.le_of_ble_eq_true rfl) ?_
  intro p e s m args below meth c A ls hA0 hsz hF hr hout hnm hw hl
  obtain ⟨hx, hb, hml, hown, hts, hK, hlk, hst⟩ := hF
  have hown : s.vm.findClass RX0 = some m.cls := hown
  have hl : lv_has ls 4 [(0, .ref (ad (3))), (1, zi (ro)), (2, zi (pi))] := hl
  have w_0 := hts (.fieldLink RX0 22 "PileMoves$Blow" "waves" "[I") (by decide +kernel)
  have w_1 : ∀ w ∈ wsX00, w ∈ wsX0_behindRound := by decide +kernel
  refine lv_iload_n hx hb dX0_behindRound_0 rfl (lv_at hl 1 rfl) ?_
  refine z_bi hx hb dX0_behindRound_1 (by decide) ?_
  refine z_imul hx hb dX0_behindRound_3 ?_
  refine lv_iload_n hx hb dX0_behindRound_4 rfl (lv_at hl 2 rfl) ?_
  refine z_iadd hx hb dX0_behindRound_5 ?_
  refine lv_istore_n (lv' := [(3, zi (((ro) * (13)) + (pi))), (0, .ref (ad (3))), (1, zi (ro)), (2, zi (pi))]) hx hb dX0_behindRound_6 rfl hl (by decide) rfl (fun ls hl => ?_)
  refine lv_iload_n hx hb dX0_behindRound_7 rfl (lv_at hl 0 rfl) ?_
  refine z_if_lt (tgt := 20) hx hb dX0_behindRound_8 (by decide) ⟨by omega, by omega⟩ (fun c_1 => ?_) (fun c_1 => ?_)
  · exact absurd c_1 (by omega)
  · refine lv_iload_n hx hb dX0_behindRound_11 rfl (lv_at hl 0 rfl) ?_
    refine lv_aload_n hx hb dX0_behindRound_12 rfl (lv_at hl 1 rfl) ?_
    refine z_get (C := RX0) (T := TX0) (N := 6) (fs := [zi (b0), zi (b1), .ref (ad (4)), .ref (ad (5)), .ref (ad (6)), .ref (ad (7))]) hx hb hts w_1 hown hK hw hI3 h3 rfl 5 (by decide) w_0 rfl rfl dX0_behindRound_13 ?_
    refine z_alen (n := 2600) hx hb hK hw hI7 h7 0 rfl rfl dX0_behindRound_16 ?_
    refine z_icmp_lt (tgt := 25) hx hb dX0_behindRound_17 (by decide) ⟨by omega, by omega⟩ ⟨by decide, by decide⟩ (fun c_2 => ?_) (fun c_2 => ?_)
    · refine lv_aload_n hx hb dX0_behindRound_25 rfl (lv_at hl 1 rfl) ?_
      refine z_get (C := RX0) (T := TX0) (N := 6) (fs := [zi (b0), zi (b1), .ref (ad (4)), .ref (ad (5)), .ref (ad (6)), .ref (ad (7))]) hx hb hts w_1 hown hK hw hI3 h3 rfl 5 (by decide) w_0 rfl rfl dX0_behindRound_26 ?_
      refine lv_iload_n hx hb dX0_behindRound_29 rfl (lv_at hl 0 rfl) ?_
      refine z_iald (f := wv) hx hb hK hw hI7 h7 (by omega) (by omega) (by decide) dX0_behindRound_30 ?_
      exact z_iret hx hb hlk hr hw dX0_behindRound_31 (Nat.zero_le _) (Nat.zero_le _) ⟨rfl, _, rfl, ⟨by rw [Int.mul_comm ro 13], rfl⟩⟩
    · exact absurd c_2 (by omega)

set_option maxHeartbeats 4000000 in
set_option maxRecDepth 100000 in
theorem k_press (l : Launch) (hl0 : l.stackTraces = false) (G : zG) (I : List Nat) (ad : Nat → Nat) (ct : Nat → va_E) (sz : Nat) (b0 b1 : Int) (f g h wv : Int → Int) (hI3 : 3 ∈ I) (hI4 : 4 ∈ I) (hI5 : 5 ∈ I) (hI6 : 6 ∈ I) (hI7 : 7 ∈ I) (h3 : ct 3 = .inr (0, [zi b0, zi b1, .ref (ad 4), .ref (ad 5), .ref (ad 6), .ref (ad 7)])) (h4 : ct 4 = zI G 13 f) (h5 : ct 5 = zI G 13 g) (h6 : ct 6 = zL G 13 h) (h7 : ct 7 = zI G 2600 wv) (i j fo : Int) (hi0 : 0 ≤ i) (hi1 : i < 13) (hj0 : 0 ≤ j) (hj1 : j < 13) : zN l yX0_press wsX0_press 0 0 0 0 G [.ref (ad (3)), zi (i), zi (j), zl (fo)] I ad ct zno sz (zk I (zqv fun u => u = zU ct 6 (zL G 13 (zup (zup h i (h i - fo)) j ((zup h i (h i - fo)) j + fo))))) := by
  refine z_ofW (ret := none) hl0 (by decide +kernel) rfl (Nat.le_of_ble_eq_true rfl) ?_
  intro p e s m args below meth c A ls hA0 hsz hF hr hout hnm hw hl
  obtain ⟨hx, hb, hml, hown, hts, hK, hlk, hst⟩ := hF
  have hown : s.vm.findClass RX0 = some m.cls := hown
  have hl : lv_has ls 5 [(0, .ref (ad (3))), (1, zi (i)), (2, zi (j)), (3, zl (fo))] := hl
  have w_0 := hts (.fieldLink RX0 18 "PileMoves$Blow" "pushes" "[J") (by decide +kernel)
  have w_1 : ∀ w ∈ wsX00, w ∈ wsX0_press := by decide +kernel
  refine lv_aload_n hx hb dX0_press_0 rfl (lv_at hl 0 rfl) ?_
  refine z_get (C := RX0) (T := TX0) (N := 6) (fs := [zi (b0), zi (b1), .ref (ad (4)), .ref (ad (5)), .ref (ad (6)), .ref (ad (7))]) hx hb hts w_1 hown hK hw hI3 h3 rfl 4 (by decide) w_0 rfl rfl dX0_press_1 ?_
  refine lv_iload_n hx hb dX0_press_4 rfl (lv_at hl 1 rfl) ?_
  refine lv_dup2_11 hx hb dX0_press_5 rfl rfl ?_
  refine z_lald (f := h) hx hb hK hw hI6 h6 (by omega) (by omega) (by decide) dX0_press_6 ?_
  refine lv_lload_n hx hb dX0_press_7 rfl (lv_at hl 3 rfl) ?_
  refine z_lsub hx hb dX0_press_8 ?_
  refine z_last (f := h) hx hb hK hw hI6 h6 (by omega) (by omega) (by decide) dX0_press_9 (fun H locs hw => ?_)
  refine lv_aload_n hx hb dX0_press_10 rfl (lv_at hl 0 rfl) ?_
  refine z_get (C := RX0) (T := TX0) (N := 6) (fs := [zi (b0), zi (b1), .ref (ad (4)), .ref (ad (5)), .ref (ad (6)), .ref (ad (7))]) hx hb hts w_1 hown hK hw hI3 (zU_n (by decide) h3) rfl 4 (by decide) w_0 rfl rfl dX0_press_11 ?_
  refine lv_iload_n hx hb dX0_press_14 rfl (lv_at hl 2 rfl) ?_
  refine lv_dup2_11 hx hb dX0_press_15 rfl rfl ?_
  refine z_lald (f := zup (h) (i) ((h (i)) - (fo))) hx hb hK hw hI6 (zU_s _ _ _) (by omega) (by omega) (by decide) dX0_press_16 ?_
  refine lv_lload_n hx hb dX0_press_17 rfl (lv_at hl 3 rfl) ?_
  refine z_ladd hx hb dX0_press_18 ?_
  refine z_last (f := zup (h) (i) ((h (i)) - (fo))) hx hb hK hw hI6 (zU_s _ _ _) (by omega) (by omega) (by decide) dX0_press_19 (fun H locs hw => ?_)
  exact z_vret hx hb hlk hr hw dX0_press_20 (Nat.zero_le _) (Nat.zero_le _) ⟨rfl, rfl, by simp only [zU_zU]⟩

set_option maxHeartbeats 4000000 in
set_option maxRecDepth 100000 in
theorem k_settled (l : Launch) (hl0 : l.stackTraces = false) (G : zG) (I : List Nat) (ad : Nat → Nat) (ct : Nat → va_E) (sz : Nat) (k : Nat) (q : zPl) (hg : zGood q) (hk : zMem4 I k) (hp : zPileAt G ad ct k q) (b0 b1 : Int) (r4 r5 r6 r7 : Nat) (hI3 : 3 ∈ I) (h3 : ct 3 = .inr (0, [zi b0, zi b1, .ref r4, .ref r5, .ref r6, .ref r7])) (hb1 : 0 ≤ b1 ∧ b1 ≤ 200000000) : zN l yX0_settled wsX0_settled 1 23 0 0 G [.ref (ad (3)), .ref (ad (k))] I ad ct zno sz (zk I (zqi fun z u => z = (if b1 - zqk q < 0 then 0 else b1 - zqk q) ∧ u = ct)) := by
  obtain ⟨hp0, hp1, hp2, hp3⟩ := hp
  obtain ⟨hk0, hk1, hk2, hk3⟩ := hk
  have hg0 := hg
  obtain ⟨⟨g1, g2⟩, ⟨g3, g4⟩, ⟨g5, g6⟩, ⟨g7, g8⟩, ⟨g9, g10⟩, ⟨g11, g12⟩, g13, g14, g15, g16⟩ := hg0
  have gn : (q.1 : Int) = pn q := rfl
  have gq := zqk_bd hg
  refine z_ofW (ret := (some .int)) hl0 (by decide +kernel) rfl (Nat.le_of_ble_eq_true rfl) ?_
  intro p e s m args below meth c A ls hA0 hsz hF hr hout hnm hw hl
  obtain ⟨hx, hb, hml, hown, hts, hK, hlk, hst⟩ := hF
  have hown : s.vm.findClass RX0 = some m.cls := hown
  have hl : lv_has ls 2 [(0, .ref (ad (3))), (1, .ref (ad (k)))] := hl
  have w_0 := hts (.fieldLink RX0 30 "PileMoves$Blow" "deepest" "I") (by decide +kernel)
  have w_1 : ∀ w ∈ wsX00, w ∈ wsX0_settled := by decide +kernel
  have w_2 := hts (.methodLink RX0 39 Lib.MathLoose.max_long.x) (by decide +kernel)
  have w_3 := hts (.static Lib.MathLoose.max_long.x) (by decide +kernel)
  have w_4 := hts (.initialized "java/lang/Math") (by decide +kernel)
  have w_5 := hts (.code Lib.MathLoose.max_long.x Lib.MathLoose.max_long.code 4 (some .long)) (by decide +kernel)
  refine z_lc0 hx hb dX0_settled_0 ?_
  refine lv_aload_n hx hb dX0_settled_1 rfl (lv_at hl 0 rfl) ?_
  refine z_get (C := RX0) (T := TX0) (N := 6) (fs := [zi (b0), zi (b1), .ref r4, .ref r5, .ref r6, .ref r7]) hx hb hts w_1 hown hK hw hI3 h3 rfl 1 (by decide) w_0 rfl rfl dX0_settled_2 ?_
  refine z_i2l hx hb dX0_settled_5 ⟨by omega, by omega⟩ ?_
  refine lv_aload_n hx hb dX0_settled_6 rfl (lv_at hl 1 rfl) ?_
  refine z_kL (z_runV (As := []) (rest := [zl (b1), zl (0)]) (k := k) (fs := [zi (psp q), zi (pma q), zi (pco q), .ref (ad (k + 1)), .ref (ad (k + 2)), .ref (ad (k + 3)), zi (pts q), zi (ptm q), zi (pjo q)]) ⟨hx, hb, hml, hown, hts⟩ hK hw (k_quake l hl0 G I ad _ _ (k) q hg ⟨hk0, hk1, hk2, hk3⟩ ⟨hp0, hp1, hp2, hp3⟩) (cwV 0 hts gX0_settled_X1_quake rfl rfl rfl (by decide +kernel) ⟨Nat.le_of_ble_eq_true rfl, Nat.le_of_ble_eq_true rfl⟩) hk0 hp0 rfl rfl rfl hl.1 rfl (Nat.le_of_ble_eq_true rfl) dX0_settled_7 ⟨Nat.le_of_ble_eq_true rfl, Nat.le_of_ble_eq_true rfl⟩) hw (fun r_1 ct_2 H locs hP hw => ?_)
  obtain ⟨rfl, hct⟩ := hP
  rw [hct] at hw
  clear hct
  refine z_lsub hx hb dX0_settled_10 ?_
  refine z_mmaxl hx hb (hml.trans hl.1.symm) hown w_2 w_3 w_4 w_5 (Nat.le_of_ble_eq_true rfl) (Nat.le_of_ble_eq_true rfl) (Nat.le_of_ble_eq_true rfl) (Nat.le_of_ble_eq_true rfl) ⟨by decide, by decide⟩ ⟨by omega, by omega⟩ dX0_settled_11 ?_
  have rr : zR (if (b1 - zqk q) < 0 then 0 else b1 - zqk q) := ⟨by split <;> omega, by split <;> omega⟩
  refine z_l2i hx hb dX0_settled_14 rr ?_
  exact z_iret hx hb hlk hr hw dX0_settled_15 (Nat.zero_le _) (Nat.zero_le _) ⟨rfl, _, rfl, ⟨rfl, rfl⟩⟩

theorem zfill_s {F : Int → Int} {v i : Int} (hF : ∀ x : Int, 0 ≤ x → x < i → F x = v) : ∀ x : Int, 0 ≤ x → x < i + 1 → zup F i v x = v := fun x h1 h2 => by
  by_cases hx9 : x = i
  · rw [hx9, zup_s]
  · rw [zup_n _ _ hx9]; exact hF x h1 (by omega)

set_option maxHeartbeats 4000000 in
set_option maxRecDepth 100000 in
theorem k_filli (l : Launch) (hl0 : l.stackTraces = false) (G : zG) (I : List Nat) (ad : Nat → Nat) (ct : Nat → va_E) (sz : Nat) (a N : Nat) (f : Int → Int) (v : Int) (hN : N < 2147483648) (hIa : a ∈ I) (ha : ct a = zI G N f) : zN l yJ7_fill_53178 wsJ7_fill_53178 0 0 0 0 G [.ref (ad (a)), zi (v)] I ad ct zno sz (zk I (zqv fun u => ∃ F : Int → Int, (∀ x : Int, 0 ≤ x → x < N → F x = v) ∧ u = zU ct a (zI G N F))) := by
  refine z_ofW (ret := none) hl0 (by decide +kernel) rfl (Nat.le_of_ble_eq_true rfl) ?_
  intro p e s m args below meth c A ls hA0 hsz hF hr hout hnm hw hl
  obtain ⟨hx, hb, hml, hown, hts, hK, hlk, hst⟩ := hF
  have hown : s.vm.findClass RJ7 = some m.cls := hown
  have hl : lv_has ls 4 [(0, .ref (ad (a))), (1, zi (v))] := hl
  refine z_ic hx hb dJ7_fill_53178_0 ?_
  refine lv_istore_n (lv' := [(2, zi (0)), (0, .ref (ad (a))), (1, zi (v))]) hx hb dJ7_fill_53178_1 rfl hl (by decide) rfl (fun ls hl => ?_)
  refine lv_aload_n hx hb dJ7_fill_53178_2 rfl (lv_at hl 1 rfl) ?_
  refine z_alen (n := N) hx hb hK hw hIa ha 0 rfl rfl dJ7_fill_53178_3 ?_
  refine lv_istore_n (lv' := [(3, zi (N)), (2, zi (0)), (0, .ref (ad (a))), (1, zi (v))]) hx hb dJ7_fill_53178_4 rfl hl (by decide) rfl (fun ls hl => ?_)
  have L5 : ∀ (nn : Nat) (i : Int) (F : Int → Int), ((N - i).toNat) < nn → (0 ≤ i) → (i ≤ N) → (∀ x : Int, 0 ≤ x → x < i → F x = v) → ∀ (H : Heap) (locs : List Loc), zW G A s.heap H locs I ad (zU ct a (zI G N F)) → ∀ ls, lv_has ls 4 [(0, .ref (ad (a))), (1, zi (v)), (2, zi (i)), (3, zi (N))] → W p l e ({ frames := 0, cells := 0, slots := 0, locals := 0 } : Room) s m args below meth c H locs 0 0 (vx_MQ below (zQ G A ad (zk I (zqv fun u => ∃ F : Int → Int, (∀ x : Int, 0 ≤ x → x < N → F x = v) ∧ u = zU ct a (zI G N F)))) (zX G A I ad ct zno) args s 0 0 A) (F0 m 5 ls []) := by
    intro nn
    induction nn with
    | zero => intro i F hme; exact absurd hme (Nat.not_lt_zero _)
    | succ nn ih5 =>
      intro i F hme5 hi0 hi1 hF H locs hw ls hl
      refine lv_iload_n hx hb dJ7_fill_53178_5 rfl (lv_at hl 2 rfl) ?_
      refine lv_iload_n hx hb dJ7_fill_53178_6 rfl (lv_at hl 3 rfl) ?_
      refine z_icmp_ge (tgt := 20) hx hb dJ7_fill_53178_7 (by decide) ⟨by omega, by omega⟩ ⟨by omega, by omega⟩ (fun c_1 => ?_) (fun c_1 => ?_)
      · exact z_vret hx hb hlk hr hw dJ7_fill_53178_20 (Nat.zero_le _) (Nat.zero_le _) ⟨rfl, rfl, ⟨F, fun x h1 h2 => hF x h1 (by omega), rfl⟩⟩
      · refine lv_aload_n hx hb dJ7_fill_53178_10 rfl (lv_at hl 0 rfl) ?_
        refine lv_iload_n hx hb dJ7_fill_53178_11 rfl (lv_at hl 2 rfl) ?_
        refine lv_iload_n hx hb dJ7_fill_53178_12 rfl (lv_at hl 1 rfl) ?_
        refine z_iast (f := F) hx hb hK hw hIa (zU_s _ _ _) (by omega) (by omega) (by omega) dJ7_fill_53178_13 (fun H locs hw => ?_)
        refine z_iinc (lv' := [(2, zi (i + 1)), (0, .ref (ad (a))), (1, zi (v)), (3, zi (N))]) hx hb dJ7_fill_53178_14 hl (k := 2) rfl (by decide) rfl (fun ls hl => ?_)
        refine lv_goto (tgt := 5) hx hb dJ7_fill_53178_17 (by decide) ?_
        exact ih5 (i + 1) (zup F i v) (by omega) (by omega) (by omega) (zfill_s hF) _ _ (zWe hw (by simp only [zU_zU])) _ (lv_sub hl [1, 2, 0, 3] rfl)
  exact L5 _ (0) (f) (Nat.lt_succ_self _) (by omega) (by omega) (fun x h1 h2 => absurd h2 (by omega)) _ _ (zWe hw (zU_id ha).symm) _ (lv_sub hl [2, 3, 1, 0] rfl)

set_option maxHeartbeats 4000000 in
set_option maxRecDepth 100000 in
theorem k_filll (l : Launch) (hl0 : l.stackTraces = false) (G : zG) (I : List Nat) (ad : Nat → Nat) (ct : Nat → va_E) (sz : Nat) (a N : Nat) (f : Int → Int) (v : Int) (hN : N < 2147483648) (hIa : a ∈ I) (ha : ct a = zL G N f) : zN l yJ7_fill_d0a16 wsJ7_fill_d0a16 0 0 0 0 G [.ref (ad (a)), zl (v)] I ad ct zno sz (zk I (zqv fun u => ∃ F : Int → Int, (∀ x : Int, 0 ≤ x → x < N → F x = v) ∧ u = zU ct a (zL G N F))) := by
  refine z_ofW (ret := none) hl0 (by decide +kernel) rfl (Nat.le_of_ble_eq_true rfl) ?_
  intro p e s m args below meth c A ls hA0 hsz hF hr hout hnm hw hl
  obtain ⟨hx, hb, hml, hown, hts, hK, hlk, hst⟩ := hF
  have hown : s.vm.findClass RJ7 = some m.cls := hown
  have hl : lv_has ls 5 [(0, .ref (ad (a))), (1, zl (v))] := hl
  refine z_ic hx hb dJ7_fill_d0a16_0 ?_
  refine lv_istore_n (lv' := [(3, zi (0)), (0, .ref (ad (a))), (1, zl (v))]) hx hb dJ7_fill_d0a16_1 rfl hl (by decide) rfl (fun ls hl => ?_)
  refine lv_aload_n hx hb dJ7_fill_d0a16_2 rfl (lv_at hl 1 rfl) ?_
  refine z_alen (n := N) hx hb hK hw hIa ha 1 rfl rfl dJ7_fill_d0a16_3 ?_
  refine lv_istore (lv' := [(4, zi (N)), (3, zi (0)), (0, .ref (ad (a))), (1, zl (v))]) hx hb dJ7_fill_d0a16_4 hl (by decide) rfl (fun ls hl => ?_)
  have L6 : ∀ (nn : Nat) (i : Int) (F : Int → Int), ((N - i).toNat) < nn → (0 ≤ i) → (i ≤ N) → (∀ x : Int, 0 ≤ x → x < i → F x = v) → ∀ (H : Heap) (locs : List Loc), zW G A s.heap H locs I ad (zU ct a (zL G N F)) → ∀ ls, lv_has ls 5 [(0, .ref (ad (a))), (1, zl (v)), (3, zi (i)), (4, zi (N))] → W p l e ({ frames := 0, cells := 0, slots := 0, locals := 0 } : Room) s m args below meth c H locs 0 0 (vx_MQ below (zQ G A ad (zk I (zqv fun u => ∃ F : Int → Int, (∀ x : Int, 0 ≤ x → x < N → F x = v) ∧ u = zU ct a (zL G N F)))) (zX G A I ad ct zno) args s 0 0 A) (F0 m 6 ls []) := by
    intro nn
    induction nn with
    | zero => intro i F hme; exact absurd hme (Nat.not_lt_zero _)
    | succ nn ih6 =>
      intro i F hme6 hi0 hi1 hF H locs hw ls hl
      refine lv_iload_n hx hb dJ7_fill_d0a16_6 rfl (lv_at hl 2 rfl) ?_
      refine lv_iload hx hb dJ7_fill_d0a16_7 (lv_at hl 3 rfl) ?_
      refine z_icmp_ge (tgt := 22) hx hb dJ7_fill_d0a16_9 (by decide) ⟨by omega, by omega⟩ ⟨by omega, by omega⟩ (fun c_1 => ?_) (fun c_1 => ?_)
      · exact z_vret hx hb hlk hr hw dJ7_fill_d0a16_22 (Nat.zero_le _) (Nat.zero_le _) ⟨rfl, rfl, ⟨F, fun x h1 h2 => hF x h1 (by omega), rfl⟩⟩
      · refine lv_aload_n hx hb dJ7_fill_d0a16_12 rfl (lv_at hl 0 rfl) ?_
        refine lv_iload_n hx hb dJ7_fill_d0a16_13 rfl (lv_at hl 2 rfl) ?_
        refine lv_lload_n hx hb dJ7_fill_d0a16_14 rfl (lv_at hl 1 rfl) ?_
        refine z_last (f := F) hx hb hK hw hIa (zU_s _ _ _) (by omega) (by omega) (by omega) dJ7_fill_d0a16_15 (fun H locs hw => ?_)
        refine z_iinc (lv' := [(3, zi (i + 1)), (0, .ref (ad (a))), (1, zl (v)), (4, zi (N))]) hx hb dJ7_fill_d0a16_16 hl (k := 2) rfl (by decide) rfl (fun ls hl => ?_)
        refine lv_goto (tgt := 6) hx hb dJ7_fill_d0a16_19 (by decide) ?_
        exact ih6 (i + 1) (zup F i v) (by omega) (by omega) (by omega) (zfill_s hF) _ _ (zWe hw (by simp only [zU_zU])) _ (lv_sub hl [1, 2, 0, 3] rfl)
  exact L6 _ (0) (f) (Nat.lt_succ_self _) (by omega) (by omega) (fun x h1 h2 => absurd h2 (by omega)) _ _ (zWe hw (zU_id ha).symm) _ (lv_sub hl [2, 3, 1, 0] rfl)

set_option maxHeartbeats 4000000 in
set_option maxRecDepth 100000 in
theorem k_move (l : Launch) (hl0 : l.stackTraces = false) (G : zG) (I : List Nat) (ad : Nat → Nat) (ct : Nat → va_E) (sz : Nat) (b0 b1 : Int) (f g h wv : Int → Int) (hI3 : 3 ∈ I) (hI4 : 4 ∈ I) (hI5 : 5 ∈ I) (hI6 : 6 ∈ I) (hI7 : 7 ∈ I) (h3 : ct 3 = .inr (0, [zi b0, zi b1, .ref (ad 4), .ref (ad 5), .ref (ad 6), .ref (ad 7)])) (h4 : ct 4 = zI G 13 f) (h5 : ct 5 = zI G 13 g) (h6 : ct 6 = zL G 13 h) (h7 : ct 7 = zI G 2600 wv) (i mm : Int) (hi0 : 0 ≤ i) (hi1 : i < 13) (hm1 : 1 ≤ mm) (hm2 : mm ≤ 10000) (hh : -1000000000000 ≤ h i ∧ h i ≤ 1000000000000) (hg5 : -1000000000 ≤ g i ∧ g i ≤ 1000000000) : zN l yX0_move wsX0_move 1 23 0 0 G [.ref (ad (3)), zi (i), zi (mm)] I ad ct zno sz (zk I (zqv fun u => u = zU (zU ct 5 (zI G 13 (zup g i (zcl (g i + (1000 * h i).tdiv mm) (-1000000000) 1000000000)))) 4 (zI G 13 (zup f i (f i + (zcl (g i + (1000 * h i).tdiv mm) (-1000000000) 1000000000).tdiv 1000))))) := by
  have hd := ztdivb (x := 1000 * h i) (B := 1000000000000000) hm1 (by omega) (by omega)
  have hv := zcl_bd (v := g i + (1000 * h i).tdiv mm) (lo := -1000000000) (hi := 1000000000) (by omega)
  refine z_ofW (ret := none) hl0 (by decide +kernel) rfl (Nat.le_of_ble_eq_true rfl) ?_
  intro p e s m args below meth c A ls hA0 hsz hF hr hout hnm hw hl
  obtain ⟨hx, hb, hml, hown, hts, hK, hlk, hst⟩ := hF
  have hown : s.vm.findClass RX0 = some m.cls := hown
  have hl : lv_has ls 5 [(0, .ref (ad (3))), (1, zi (i)), (2, zi (mm))] := hl
  have w_0 := hts (.constantLong RX0 86 (1000)) (by decide +kernel)
  have w_1 := hts (.fieldLink RX0 18 "PileMoves$Blow" "pushes" "[J") (by decide +kernel)
  have w_2 : ∀ w ∈ wsX00, w ∈ wsX0_move := by decide +kernel
  have w_3 := hts (.fieldLink RX0 15 "PileMoves$Blow" "speeds" "[I") (by decide +kernel)
  have w_4 := hts (.constant RX0 104 (-1000000000)) (by decide +kernel)
  have w_5 := hts (.constant RX0 105 (1000000000)) (by decide +kernel)
  have w_6 := hts (.initialized RX3) (by decide +kernel)
  have w_7 := hts (.static yX3_clamp) (by decide +kernel)
  have w_8 := hts (.fieldLink RX0 11 "PileMoves$Blow" "places" "[I") (by decide +kernel)
  refine lv_iload_n hx hb dX0_move_0 rfl (lv_at hl 2 rfl) ?_
  refine z_if_ne (tgt := 8) hx hb dX0_move_1 (by decide) ⟨by omega, by omega⟩ (fun c_1 => ?_) (fun c_1 => ?_)
  · refine z_ldc2 (n := 1000) hx hb hown w_0 (by decide) dX0_move_8 ?_
    refine lv_aload_n hx hb dX0_move_11 rfl (lv_at hl 0 rfl) ?_
    refine z_get (C := RX0) (T := TX0) (N := 6) (fs := [zi (b0), zi (b1), .ref (ad (4)), .ref (ad (5)), .ref (ad (6)), .ref (ad (7))]) hx hb hts w_2 hown hK hw hI3 h3 rfl 4 (by decide) w_1 rfl rfl dX0_move_12 ?_
    refine lv_iload_n hx hb dX0_move_15 rfl (lv_at hl 1 rfl) ?_
    refine z_lald (f := h) hx hb hK hw hI6 h6 (by omega) (by omega) (by decide) dX0_move_16 ?_
    refine z_lmul hx hb dX0_move_17 ?_
    refine lv_iload_n hx hb dX0_move_18 rfl (lv_at hl 2 rfl) ?_
    refine z_i2l hx hb dX0_move_19 ⟨by omega, by omega⟩ ?_
    refine z_ldiv hx hb dX0_move_20 ⟨by omega, by omega⟩ ⟨by omega, by omega⟩ (by omega) ?_
    generalize edv : (((1000) * (h (i))).tdiv (mm) : Int) = dv
    refine lv_lstore_n (lv' := [(3, zl (dv)), (0, .ref (ad (3))), (1, zi (i)), (2, zi (mm))]) hx hb dX0_move_21 rfl hl (by decide) rfl (fun ls hl => ?_)
    refine lv_aload_n hx hb dX0_move_22 rfl (lv_at hl 1 rfl) ?_
    refine z_get (C := RX0) (T := TX0) (N := 6) (fs := [zi (b0), zi (b1), .ref (ad (4)), .ref (ad (5)), .ref (ad (6)), .ref (ad (7))]) hx hb hts w_2 hown hK hw hI3 h3 rfl 3 (by decide) w_3 rfl rfl dX0_move_23 ?_
    refine lv_iload_n hx hb dX0_move_26 rfl (lv_at hl 2 rfl) ?_
    refine lv_aload_n hx hb dX0_move_27 rfl (lv_at hl 1 rfl) ?_
    refine z_get (C := RX0) (T := TX0) (N := 6) (fs := [zi (b0), zi (b1), .ref (ad (4)), .ref (ad (5)), .ref (ad (6)), .ref (ad (7))]) hx hb hts w_2 hown hK hw hI3 h3 rfl 3 (by decide) w_3 rfl rfl dX0_move_28 ?_
    refine lv_iload_n hx hb dX0_move_31 rfl (lv_at hl 2 rfl) ?_
    refine z_iald (f := g) hx hb hK hw hI5 h5 (by omega) (by omega) (by decide) dX0_move_32 ?_
    refine z_i2l hx hb dX0_move_33 ⟨by omega, by omega⟩ ?_
    refine lv_lload_n hx hb dX0_move_34 rfl (lv_at hl 0 rfl) ?_
    refine z_ladd hx hb dX0_move_35 ?_
    refine z_ldc (n := -1000000000) hx hb hown w_4 (by decide) dX0_move_36 ?_
    refine z_ldc (n := 1000000000) hx hb hown w_5 (by decide) dX0_move_38 ?_
    refine z_kI (z_runSN (As := [zl ((g (i)) + (dv)), zi (-1000000000), zi (1000000000)]) (rest := [zi (i), .ref (ad (5))]) ⟨hx, hb, hml, hown, hts⟩ hK hw (k_clamp l hl0 G I ad _ _ ((g (i)) + (dv)) (-1000000000) (1000000000) ⟨by rw [← edv]; omega, by rw [← edv]; omega⟩ ⟨by decide, by decide⟩ ⟨by decide, by decide⟩) (⟨va_cnB 3 hts gX0_move_X3_clamp_n94 rfl rfl rfl hK.2.1.2.2.2.2.2.1 w_6 (by decide +kernel) ⟨Nat.le_of_ble_eq_true rfl, Nat.le_of_ble_eq_true rfl⟩, w_7, trivial⟩) rfl hl.1 rfl (Nat.le_of_ble_eq_true rfl) dX0_move_40 ⟨Nat.le_of_ble_eq_true rfl, Nat.le_of_ble_eq_true rfl⟩) hw (fun r_2 ct_3 H locs hP hw => ?_)
    obtain ⟨rfl, hct⟩ := hP
    rw [hct] at hw
    clear hct
    refine z_iast (f := g) hx hb hK hw hI5 h5 (by omega) (by omega) (by decide) dX0_move_43 (fun H locs hw => ?_)
    refine lv_aload_n hx hb dX0_move_44 rfl (lv_at hl 1 rfl) ?_
    refine z_get (C := RX0) (T := TX0) (N := 6) (fs := [zi (b0), zi (b1), .ref (ad (4)), .ref (ad (5)), .ref (ad (6)), .ref (ad (7))]) hx hb hts w_2 hown hK hw hI3 (zU_n (by decide) h3) rfl 2 (by decide) w_8 rfl rfl dX0_move_45 ?_
    refine lv_iload_n hx hb dX0_move_48 rfl (lv_at hl 2 rfl) ?_
    refine lv_dup2_11 hx hb dX0_move_49 rfl rfl ?_
    refine z_iald (f := f) hx hb hK hw hI4 (zU_n (by decide) h4) (by omega) (by omega) (by decide) dX0_move_50 ?_
    refine lv_aload_n hx hb dX0_move_51 rfl (lv_at hl 1 rfl) ?_
    refine z_get (C := RX0) (T := TX0) (N := 6) (fs := [zi (b0), zi (b1), .ref (ad (4)), .ref (ad (5)), .ref (ad (6)), .ref (ad (7))]) hx hb hts w_2 hown hK hw hI3 (zU_n (by decide) h3) rfl 3 (by decide) w_3 rfl rfl dX0_move_52 ?_
    refine lv_iload_n hx hb dX0_move_55 rfl (lv_at hl 2 rfl) ?_
    refine z_iald (f := zup (g) (i) (zcl ((g (i)) + (dv)) (-1000000000) (1000000000))) hx hb hK hw hI5 (zU_s _ _ _) (by omega) (by omega) (by decide) dX0_move_56 ?_
    rw [zup_s]
    refine z_si hx hb dX0_move_57 (by decide) ?_
    refine z_idiv hx hb dX0_move_60 ⟨by rw [← edv]; omega, by rw [← edv]; omega⟩ ⟨by decide, by decide⟩ (by decide) ?_
    refine z_iadd hx hb dX0_move_61 ?_
    refine z_iast (f := f) hx hb hK hw hI4 (zU_n (by decide) h4) (by omega) (by omega) (by decide) dX0_move_62 (fun H locs hw => ?_)
    exact z_vret hx hb hlk hr hw dX0_move_63 (Nat.zero_le _) (Nat.zero_le _) ⟨rfl, rfl, by rw [← edv]⟩
  · exact absurd c_1 (by omega)
end
section
/-! gathering pushes, step by step -/
def zG1 (q : zPl) (f : Int → Int) (i x : Int) : Int := if x = pn q then -(zcu q f) else if x < i then zab q f x - zsf q f x else if x = i then zab q f x else 0
def zG2 (q : zPl) (f : Int → Int) (i x : Int) : Int := if x = pn q then -(zcu q f) else zab q f x - (if x + 1 < pn q then zsf q f x else 0) - (if x < i then zgb q f x else 0)
theorem zgp1 {q : zPl} (hg : zGood q) (f : Int → Int) {F : Int → Int} (hF : ∀ x : Int, 0 ≤ x → x < (13 : Nat) → F x = 0) : ∀ x : Int, 0 ≤ x → x ≤ pn q → (zup (zup F (pn q) (F (pn q) - zcu q f)) 0 ((zup F (pn q) (F (pn q) - zcu q f)) 0 + zcu q f)) x = zG1 q f 0 x := fun x h0 h1 => by
  have g := hg.1
  have e1 := hF x h0 (by omega)
  have e2 := hF 0 (by omega) (by omega)
  have e3 := hF (pn q) (by omega) (by omega)
  unfold zG1
  by_cases a1 : x = pn q
  · rw [if_pos a1, zup_n _ _ (by omega), a1, zup_s]; omega
  · rw [if_neg a1, if_neg (by omega)]
    by_cases a2 : x = 0
    · rw [if_pos a2, a2, zup_s, zup_n _ _ (by omega)]; unfold zab; rw [if_pos rfl]; omega
    · rw [if_neg a2, zup_n _ _ a2, zup_n _ _ a1]; exact e1
theorem zgp2 {q : zPl} {f h : Int → Int} {i : Int} (hi : 0 ≤ i) (hn : i + 1 < pn q) (hh : ∀ x : Int, 0 ≤ x → x ≤ pn q → h x = zG1 q f i x) : ∀ x : Int, 0 ≤ x → x ≤ pn q → (zup (zup h i (h i - zsf q f i)) (i + 1) ((zup h i (h i - zsf q f i)) (i + 1) + zsf q f i)) x = zG1 q f (i + 1) x := fun x h0 h1 => by
  have e1 := hh x h0 h1
  have e2 := hh (i + 1) (by omega) (by omega)
  have e3 := hh i (by omega) (by omega)
  unfold zG1 at *
  by_cases a1 : x = i + 1
  · rw [a1, zup_s, zup_n _ _ (by omega), if_neg (by omega), if_neg (by omega), if_pos rfl]
    rw [if_neg (by omega), if_neg (by omega), if_neg (by omega)] at e2
    unfold zab; rw [if_neg (by omega), show i + 1 - 1 = i by omega]; omega
  · rw [zup_n _ _ a1]
    by_cases a2 : x = i
    · rw [a2, zup_s, if_neg (by omega), if_pos (by omega)]
      rw [if_neg (by omega), if_neg (by omega), if_pos rfl] at e3
      omega
    · rw [zup_n _ _ a2, e1]
      by_cases a3 : x = pn q
      · rw [if_pos a3, if_pos a3]
      · rw [if_neg a3, if_neg a3]
        by_cases a4 : x < i
        · rw [if_pos a4, if_pos (by omega)]
        · rw [if_neg a4, if_neg a2, if_neg (by omega), if_neg a1]
theorem zgp3 {q : zPl} {f h : Int → Int} {i : Int} (hn : i + 1 = pn q) (hh : ∀ x : Int, 0 ≤ x → x ≤ pn q → h x = zG1 q f i x) : ∀ x : Int, 0 ≤ x → x ≤ pn q → h x = zG2 q f 0 x := fun x h0 h1 => by
  rw [hh x h0 h1]
  unfold zG1 zG2
  by_cases a1 : x = pn q
  · rw [if_pos a1, if_pos a1]
  · rw [if_neg a1, if_neg a1, if_neg (show ¬ x < 0 by omega)]
    by_cases a2 : x < i
    · rw [if_pos a2, if_pos (by omega)]; omega
    · rw [if_neg a2, if_pos (by omega), if_neg (by omega)]; omega
theorem zgp4 {q : zPl} {f h : Int → Int} {i : Int} (hi : 0 ≤ i) (hn : i < pn q) (hh : ∀ x : Int, 0 ≤ x → x ≤ pn q → h x = zG2 q f i x) : ∀ x : Int, 0 ≤ x → x ≤ pn q → (zup h i (h i - zgb q f i)) x = zG2 q f (i + 1) x := fun x h0 h1 => by
  have e1 := hh x h0 h1
  have e2 := hh i hi (by omega)
  unfold zG2 at *
  by_cases a1 : x = i
  · rw [a1, zup_s, if_neg (by omega), if_pos (show i < i + 1 by omega)]
    rw [if_neg (by omega), if_neg (show ¬ i < i by omega)] at e2
    omega
  · rw [zup_n _ _ a1, e1]
    by_cases a3 : x = pn q
    · rw [if_pos a3, if_pos a3]
    · rw [if_neg a3, if_neg a3]
      by_cases a4 : x < i
      · rw [if_pos a4, if_pos (show x < i + 1 by omega)]
      · rw [if_neg a4, if_neg (show ¬ x < i + 1 by omega)]
theorem zgp5 {q : zPl} {f h : Int → Int} {i : Int} (hn : i = pn q) (hh : ∀ x : Int, 0 ≤ x → x ≤ pn q → h x = zG2 q f i x) (g1 : 1 ≤ pn q) : ∀ x : Int, 0 ≤ x → x ≤ pn q → (zup h (pn q - 1) (h (pn q - 1) - ztb q f)) x = zpu q f x := fun x h0 h1 => by
  have e1 := hh x h0 h1
  have e2 := hh (pn q - 1) (by omega) (by omega)
  unfold zG2 at *
  unfold zpu zbe
  by_cases a1 : x = pn q - 1
  · rw [a1, zup_s, if_neg (by omega), if_neg (by omega)]
    rw [if_neg (by omega), if_neg (by omega), if_pos (by omega)] at e2
    omega
  · rw [zup_n _ _ a1, e1]
    by_cases a3 : x = pn q
    · rw [if_pos a3, if_pos a3]
    · rw [if_neg a3, if_neg a3, if_pos (by omega), if_pos (by omega), if_pos (by omega)]; omega
/-- the cells 3 .. 7 of a world -/
def zU5 (ct : Nat → va_E) (a b c d e : va_E) : Nat → va_E := fun j => if j = 3 then a else if j = 4 then b else if j = 5 then c else if j = 6 then d else if j = 7 then e else ct j
theorem zU5_id {ct : Nat → va_E} {a b c d e : va_E} (h3 : ct 3 = a) (h4 : ct 4 = b) (h5 : ct 5 = c) (h6 : ct 6 = d) (h7 : ct 7 = e) : zU5 ct a b c d e = ct := by
  funext j; unfold zU5
  by_cases e3 : j = 3
  · rw [if_pos e3, e3, h3]
  by_cases e4 : j = 4
  · rw [if_neg e3, if_pos e4, e4, h4]
  by_cases e5 : j = 5
  · rw [if_neg e3, if_neg e4, if_pos e5, e5, h5]
  by_cases e6 : j = 6
  · rw [if_neg e3, if_neg e4, if_neg e5, if_pos e6, e6, h6]
  by_cases e7 : j = 7
  · rw [if_neg e3, if_neg e4, if_neg e5, if_neg e6, if_pos e7, e7, h7]
  rw [if_neg e3, if_neg e4, if_neg e5, if_neg e6, if_neg e7]
theorem zU5_p3 (ct : Nat → va_E) (a b c d e x : va_E) : zU (zU5 ct a b c d e) 3 x = zU5 ct x b c d e := by
  funext j; unfold zU zU5; by_cases h : j = 3 <;> simp [h]
theorem zU5_p4 (ct : Nat → va_E) (a b c d e x : va_E) : zU (zU5 ct a b c d e) 4 x = zU5 ct a x c d e := by
  funext j; unfold zU zU5; by_cases h : j = 4 <;> simp [h]
theorem zU5_p5 (ct : Nat → va_E) (a b c d e x : va_E) : zU (zU5 ct a b c d e) 5 x = zU5 ct a b x d e := by
  funext j; unfold zU zU5; by_cases h : j = 5 <;> simp [h]
theorem zU5_p6 (ct : Nat → va_E) (a b c d e x : va_E) : zU (zU5 ct a b c d e) 6 x = zU5 ct a b c x e := by
  funext j; unfold zU zU5; by_cases h : j = 6 <;> simp [h]
theorem zU5_p7 (ct : Nat → va_E) (a b c d e x : va_E) : zU (zU5 ct a b c d e) 7 x = zU5 ct a b c d x := by
  funext j; unfold zU zU5; by_cases h : j = 7 <;> simp [h]
theorem zU5_n {ct : Nat → va_E} {a b c d e x : va_E} {j : Nat} (h : j < 3 ∨ 7 < j) (hx : ct j = x) : zU5 ct a b c d e j = x := by
  unfold zU5; rw [if_neg (by omega), if_neg (by omega), if_neg (by omega), if_neg (by omega), if_neg (by omega), hx]
/-- a move's numbers -/
theorem zmv {q : zPl} {hm mm i : Int} {f g h g2 : Int → Int} (hh : h i = zpu q f i) (hg : g2 i = g i) (hmm : mm = zms q hm i) : zcl (g2 i + (1000 * h i).tdiv mm) (-1000000000) 1000000000 = znv q hm f g i := by
  unfold znv; rw [hh, hg, hmm]
def zmid (f f2 w : Int → Int) (n i : Int) : Prop := ∀ x : Int, 0 ≤ x → x ≤ n → f2 x = if x < i then w x else f x
theorem zmid_0 (f w : Int → Int) (n : Int) : zmid f f w n 0 := fun x h0 _ => (if_neg (by omega)).symm
theorem zmid_s {f f2 w : Int → Int} {n i v : Int} (h : zmid f f2 w n i) (hv : v = w i) : zmid f (zup f2 i v) w n (i + 1) := fun x h0 h1 => by
  by_cases a : x = i
  · rw [a, zup_s, if_pos (by omega), hv]
  · rw [zup_n _ _ a, h x h0 h1]
    by_cases b : x < i
    · rw [if_pos b, if_pos (by omega)]
    · rw [if_neg b, if_neg (by omega)]
theorem zmid_at {f f2 w : Int → Int} {n i : Int} (h : zmid f f2 w n i) (h0 : 0 ≤ i) (h1 : i ≤ n) : f2 i = f i := by rw [h i h0 h1, if_neg (by omega)]
theorem zmid_e {f f2 w : Int → Int} {n i : Int} (h : zmid f f2 w n i) (hi : n < i) : ∀ x : Int, 0 ≤ x → x ≤ n → f2 x = w x := fun x h0 h1 => by rw [h x h0 h1, if_pos (by omega)]
def zwv (q : zPl) (hm v : Int) (K : Nat) (wv : Int → Int) : Prop := ∀ r : Nat, r < K → ∀ i : Int, 0 ≤ i → i ≤ pn q → wv (13 * r + i) = (zro q hm v (r + 1)).1 i
theorem zwv_s {q : zPl} (hg : zGood q) {hm v : Int} {K : Nat} {wv f : Int → Int} (h : zwv q hm v K wv) (hf : zEq q f (zro q hm v (K + 1)).1) {d : Int} (hd : d = 13 * K) : zwv q hm v (K + 1) (zcpy f wv d 13) := fun r hr i h0 h1 => by
  have g := hg.1
  unfold zcpy
  by_cases a : r = K
  · rw [if_pos (by omega), show 13 * (r : Int) + i - d = i by omega, a]; exact hf i h0 h1
  · rw [if_neg (by omega)]; exact h r (by omega) i h0 h1
end
section
set_option maxHeartbeats 4000000 in
set_option maxRecDepth 100000 in
theorem k_gather (l : Launch) (hl0 : l.stackTraces = false) (G : zG) (I : List Nat) (ad : Nat → Nat) (ct : Nat → va_E) (sz : Nat) (k : Nat) (q : zPl) (hg : zGood q) (hk : zMem4 I k) (hp : zPileAt G ad ct k q) (b1 : Int) (f g h wv : Int → Int) (hI3 : 3 ∈ I) (hI4 : 4 ∈ I) (hI5 : 5 ∈ I) (hI6 : 6 ∈ I) (hI7 : 7 ∈ I) (h3 : ct 3 = .inr (0, [zi (pn q), zi b1, .ref (ad 4), .ref (ad 5), .ref (ad 6), .ref (ad 7)])) (h4 : ct 4 = zI G 13 f) (h5 : ct 5 = zI G 13 g) (h6 : ct 6 = zL G 13 h) (h7 : ct 7 = zI G 2600 wv) (hfB : zB q f) (hkk : 40 ≤ k) : zN l yX0_gatherPushes wsX0_gatherPushes 1 24 0 0 G [.ref (ad (3)), .ref (ad (k))] I ad ct zno sz (zk I (zqv fun u => ∃ h1 : Int → Int, (∀ x : Int, 0 ≤ x → x ≤ pn q → h1 x = zpu q f x) ∧ u = zU ct 6 (zL G 13 h1))) := by
  obtain ⟨hp0, hp1, hp2, hp3⟩ := hp
  obtain ⟨hk0, hk1, hk2, hk3⟩ := hk
  have hg0 := hg
  obtain ⟨⟨g1, g2⟩, ⟨g3, g4⟩, ⟨g5, g6⟩, ⟨g7, g8⟩, ⟨g9, g10⟩, ⟨g11, g12⟩, g13, g14, g15, g16⟩ := hg0
  have gn : (q.1 : Int) = pn q := rfl
  refine z_ofW (ret := none) hl0 (by decide +kernel) rfl (Nat.le_of_ble_eq_true rfl) ?_
  intro p e s m args below meth c A ls hA0 hsz hF hr hout hnm hw hl
  obtain ⟨hx, hb, hml, hown, hts, hK, hlk, hst⟩ := hF
  have hown : s.vm.findClass RX0 = some m.cls := hown
  have hl : lv_has ls 3 [(0, .ref (ad (3))), (1, .ref (ad (k)))] := hl
  have w_0 := hts (.fieldLink RX0 18 "PileMoves$Blow" "pushes" "[J") (by decide +kernel)
  have w_1 : ∀ w ∈ wsX00, w ∈ wsX0_gatherPushes := by decide +kernel
  have w_2 := hts (.fieldLink RX0 25 "PileMoves$Blow" "pieces" "I") (by decide +kernel)
  have w_3 := hts (.constantLong RX0 77 (10)) (by decide +kernel)
  have w_4 := hts (.fieldLink RX0 11 "PileMoves$Blow" "places" "[I") (by decide +kernel)
  have w_5 := hts (.methodLink RX0 39 Lib.MathLoose.max_long.x) (by decide +kernel)
  have w_6 := hts (.static Lib.MathLoose.max_long.x) (by decide +kernel)
  have w_7 := hts (.initialized "java/lang/Math") (by decide +kernel)
  have w_8 := hts (.code Lib.MathLoose.max_long.x Lib.MathLoose.max_long.code 4 (some .long)) (by decide +kernel)
  have w_9 := hts (.fieldLink RX0 98 "PileMoves$Pile" "tipStiff" "I") (by decide +kernel)
  have w_10 : ∀ w ∈ wsX10, w ∈ wsX0_gatherPushes := by decide +kernel
  have w_11 := hts (.constantLong RX0 86 (1000)) (by decide +kernel)
  have w_12 := hts (.fieldLink RX0 101 "PileMoves$Pile" "tipMost" "I") (by decide +kernel)
  have w_13 := hts (.initialized RX3) (by decide +kernel)
  have w_14 := hts (.static yX3_clamp) (by decide +kernel)
  have w_15 := hts (.fieldLink RX0 88 "PileMoves$Pile" "stiff" "[I") (by decide +kernel)
  have w_16 := hts (.fieldLink RX0 91 "PileMoves$Pile" "most" "[I") (by decide +kernel)
  have w_17 := hts (.fieldLink RX0 83 "PileMoves$Pile" "spring" "I") (by decide +kernel)
  refine lv_aload_n hx hb dX0_gatherPushes_0 rfl (lv_at hl 0 rfl) ?_
  refine z_get (C := RX0) (T := TX0) (N := 6) (fs := [zi (pn q), zi (b1), .ref (ad (4)), .ref (ad (5)), .ref (ad (6)), .ref (ad (7))]) hx hb hts w_1 hown hK hw hI3 h3 rfl 4 (by decide) w_0 rfl rfl dX0_gatherPushes_1 ?_
  refine z_lc0 hx hb dX0_gatherPushes_4 ?_
  refine z_kV (z_runS (As := [.ref (ad (6)), zl (0)]) (rest := []) ⟨hx, hb, hml, hown, hts⟩ hK hw (k_filll l hl0 G I ad _ _ (6) (13) (h) (0) (by decide) hI6 h6) (va_cwS 2 hts gX0_gatherPushes_J7_fill_d0a16 rfl rfl rfl (by decide +kernel) ⟨Nat.le_of_ble_eq_true rfl, Nat.le_of_ble_eq_true rfl⟩) rfl hl.1 rfl (Nat.le_of_ble_eq_true rfl) dX0_gatherPushes_5 ⟨Nat.le_of_ble_eq_true rfl, Nat.le_of_ble_eq_true rfl⟩) hw (fun ct_3 H locs hP hw => ?_)
  obtain ⟨F_1, hF_1, hct⟩ := hP
  rw [hct] at hw
  clear hct
  refine lv_aload_n hx hb dX0_gatherPushes_8 rfl (lv_at hl 0 rfl) ?_
  refine lv_aload_n hx hb dX0_gatherPushes_9 rfl (lv_at hl 0 rfl) ?_
  refine z_get (C := RX0) (T := TX0) (N := 6) (fs := [zi (pn q), zi (b1), .ref (ad (4)), .ref (ad (5)), .ref (ad (6)), .ref (ad (7))]) hx hb hts w_1 hown hK hw hI3 (zU_n (by decide) h3) rfl 0 (by decide) w_2 rfl rfl dX0_gatherPushes_10 ?_
  refine z_ic hx hb dX0_gatherPushes_13 ?_
  refine z_lc0 hx hb dX0_gatherPushes_14 ?_
  refine z_ldc2 (n := 10) hx hb hown w_3 (by decide) dX0_gatherPushes_15 ?_
  have b2 := hfB (pn q) (by omega) (by omega)
  have b3 := hfB 0 (by omega) (by omega)
  refine lv_aload_n hx hb dX0_gatherPushes_18 rfl (lv_at hl 0 rfl) ?_
  refine z_get (C := RX0) (T := TX0) (N := 6) (fs := [zi (pn q), zi (b1), .ref (ad (4)), .ref (ad (5)), .ref (ad (6)), .ref (ad (7))]) hx hb hts w_1 hown hK hw hI3 (zU_n (by decide) h3) rfl 2 (by decide) w_4 rfl rfl dX0_gatherPushes_19 ?_
  refine lv_aload_n hx hb dX0_gatherPushes_22 rfl (lv_at hl 0 rfl) ?_
  refine z_get (C := RX0) (T := TX0) (N := 6) (fs := [zi (pn q), zi (b1), .ref (ad (4)), .ref (ad (5)), .ref (ad (6)), .ref (ad (7))]) hx hb hts w_1 hown hK hw hI3 (zU_n (by decide) h3) rfl 0 (by decide) w_2 rfl rfl dX0_gatherPushes_23 ?_
  refine z_iald (f := f) hx hb hK hw hI4 (zU_n (by decide) h4) (by omega) (by omega) (by decide) dX0_gatherPushes_26 ?_
  refine lv_aload_n hx hb dX0_gatherPushes_27 rfl (lv_at hl 0 rfl) ?_
  refine z_get (C := RX0) (T := TX0) (N := 6) (fs := [zi (pn q), zi (b1), .ref (ad (4)), .ref (ad (5)), .ref (ad (6)), .ref (ad (7))]) hx hb hts w_1 hown hK hw hI3 (zU_n (by decide) h3) rfl 2 (by decide) w_4 rfl rfl dX0_gatherPushes_28 ?_
  refine z_ic hx hb dX0_gatherPushes_31 ?_
  refine z_iald (f := f) hx hb hK hw hI4 (zU_n (by decide) h4) (by decide) (by decide) (by decide) dX0_gatherPushes_32 ?_
  refine z_isub hx hb dX0_gatherPushes_33 ?_
  refine z_i2l hx hb dX0_gatherPushes_34 ⟨by omega, by omega⟩ ?_
  refine z_lmul hx hb dX0_gatherPushes_35 ?_
  refine z_mmaxl hx hb (hml.trans hl.1.symm) hown w_5 w_6 w_7 w_8 (Nat.le_of_ble_eq_true rfl) (Nat.le_of_ble_eq_true rfl) (Nat.le_of_ble_eq_true rfl) (Nat.le_of_ble_eq_true rfl) ⟨by decide, by decide⟩ ⟨by omega, by omega⟩ dX0_gatherPushes_36 ?_
  rw [show (if ((10) * ((f (pn q)) - (f (0)))) < (0) then (0) else ((10) * ((f (pn q)) - (f (0)))) : Int) = zcu q f from rfl]
  refine z_kV (z_runV (As := [zi (pn q), zi (0), zl (zcu q f)]) (rest := []) (k := 3) (fs := [zi (pn q), zi (b1), .ref (ad (4)), .ref (ad (5)), .ref (ad (6)), .ref (ad (7))]) ⟨hx, hb, hml, hown, hts⟩ hK hw (k_press l hl0 G I ad _ _ (pn q) (b1) (f) (g) (F_1) (wv) hI3 hI4 hI5 hI6 hI7 (zU_n (by decide) h3) (zU_n (by decide) h4) (zU_n (by decide) h5) (zU_s _ _ _) (zU_n (by decide) h7)  (pn q) (0) (zcu q f) (by omega) (by omega) (by omega) (by omega)) (cwV 3 hts gX0_gatherPushes_X0_press rfl rfl rfl (by decide +kernel) ⟨Nat.le_of_ble_eq_true rfl, Nat.le_of_ble_eq_true rfl⟩) hI3 (zU_n (by decide) h3) rfl rfl rfl hl.1 rfl (Nat.le_of_ble_eq_true rfl) dX0_gatherPushes_39 ⟨Nat.le_of_ble_eq_true rfl, Nat.le_of_ble_eq_true rfl⟩) hw (fun ct_5 H locs hP hw => ?_)
  rw [hP] at hw
  clear hP
  refine z_ic hx hb dX0_gatherPushes_42 ?_
  refine lv_istore_n (lv' := [(2, zi (0)), (0, .ref (ad (3))), (1, .ref (ad (k)))]) hx hb dX0_gatherPushes_43 rfl hl (by decide) rfl (fun ls hl => ?_)
  have L44 : ∀ (nn : Nat) (i : Int) (h1 : Int → Int), ((13 - i).toNat) < nn → (0 ≤ i) → (i + 1 ≤ pn q) → (∀ x : Int, 0 ≤ x → x ≤ pn q → h1 x = zG1 q f i x) → ∀ (H : Heap) (locs : List Loc), zW G A s.heap H locs I ad (zU ct 6 (zL G 13 h1)) → ∀ ls, lv_has ls 3 [(0, .ref (ad (3))), (1, .ref (ad (k))), (2, zi (i))] → W p l e ({ frames := 1, cells := 0, slots := 0, locals := 24 } : Room) s m args below meth c H locs 0 0 (vx_MQ below (zQ G A ad (zk I (zqv fun u => ∃ h1 : Int → Int, (∀ x : Int, 0 ≤ x → x ≤ pn q → h1 x = zpu q f x) ∧ u = zU ct 6 (zL G 13 h1)))) (zX G A I ad ct zno) args s 0 0 A) (F0 m 44 ls []) := by
    intro nn
    induction nn with
    | zero => intro i h1 hme; exact absurd hme (Nat.not_lt_zero _)
    | succ nn ih44 =>
      intro i h1 hme44 hi0 hi1 hh H locs hw ls hl
      refine lv_iload_n hx hb dX0_gatherPushes_44 rfl (lv_at hl 2 rfl) ?_
      refine z_ic hx hb dX0_gatherPushes_45 ?_
      refine z_iadd hx hb dX0_gatherPushes_46 ?_
      refine lv_aload_n hx hb dX0_gatherPushes_47 rfl (lv_at hl 0 rfl) ?_
      refine z_get (C := RX0) (T := TX0) (N := 6) (fs := [zi (pn q), zi (b1), .ref (ad (4)), .ref (ad (5)), .ref (ad (6)), .ref (ad (7))]) hx hb hts w_1 hown hK hw hI3 (zU_n (by decide) h3) rfl 0 (by decide) w_2 rfl rfl dX0_gatherPushes_48 ?_
      refine z_icmp_ge (tgt := 94) hx hb dX0_gatherPushes_51 (by decide) ⟨by omega, by omega⟩ ⟨by omega, by omega⟩ (fun c_6 => ?_) (fun c_6 => ?_)
      · refine z_ic hx hb dX0_gatherPushes_94 ?_
        refine lv_istore_n (lv' := [(2, zi (0)), (0, .ref (ad (3))), (1, .ref (ad (k)))]) hx hb dX0_gatherPushes_95 rfl hl (by decide) rfl (fun ls hl => ?_)
        have L96 : ∀ (nn : Nat) (i : Int) (h1 : Int → Int), ((13 - i).toNat) < nn → (0 ≤ i) → (i ≤ pn q) → (∀ x : Int, 0 ≤ x → x ≤ pn q → h1 x = zG2 q f i x) → ∀ (H : Heap) (locs : List Loc), zW G A s.heap H locs I ad (zU ct 6 (zL G 13 h1)) → ∀ ls, lv_has ls 3 [(0, .ref (ad (3))), (1, .ref (ad (k))), (2, zi (i))] → W p l e ({ frames := 1, cells := 0, slots := 0, locals := 24 } : Room) s m args below meth c H locs 0 0 (vx_MQ below (zQ G A ad (zk I (zqv fun u => ∃ h1 : Int → Int, (∀ x : Int, 0 ≤ x → x ≤ pn q → h1 x = zpu q f x) ∧ u = zU ct 6 (zL G 13 h1)))) (zX G A I ad ct zno) args s 0 0 A) (F0 m 96 ls []) := by
          intro nn
          induction nn with
          | zero => intro i h1 hme; exact absurd hme (Nat.not_lt_zero _)
          | succ nn ih96 =>
            intro i h1 hme96 hi0 hi1 hh H locs hw ls hl
            refine lv_iload_n hx hb dX0_gatherPushes_96 rfl (lv_at hl 2 rfl) ?_
            refine lv_aload_n hx hb dX0_gatherPushes_97 rfl (lv_at hl 0 rfl) ?_
            refine z_get (C := RX0) (T := TX0) (N := 6) (fs := [zi (pn q), zi (b1), .ref (ad (4)), .ref (ad (5)), .ref (ad (6)), .ref (ad (7))]) hx hb hts w_1 hown hK hw hI3 (zU_n (by decide) h3) rfl 0 (by decide) w_2 rfl rfl dX0_gatherPushes_98 ?_
            refine z_icmp_ge (tgt := 155) hx hb dX0_gatherPushes_101 (by decide) ⟨by omega, by omega⟩ ⟨by omega, by omega⟩ (fun c_7 => ?_) (fun c_7 => ?_)
            · refine lv_aload_n hx hb dX0_gatherPushes_155 rfl (lv_at hl 0 rfl) ?_
              refine z_get (C := RX0) (T := TX0) (N := 6) (fs := [zi (pn q), zi (b1), .ref (ad (4)), .ref (ad (5)), .ref (ad (6)), .ref (ad (7))]) hx hb hts w_1 hown hK hw hI3 (zU_n (by decide) h3) rfl 0 (by decide) w_2 rfl rfl dX0_gatherPushes_156 ?_
              refine z_ic hx hb dX0_gatherPushes_159 ?_
              refine z_isub hx hb dX0_gatherPushes_160 ?_
              refine lv_istore_n (lv' := [(2, zi ((pn q) - (1))), (0, .ref (ad (3))), (1, .ref (ad (k)))]) hx hb dX0_gatherPushes_161 rfl hl (by decide) rfl (fun ls hl => ?_)
              refine lv_aload_n hx hb dX0_gatherPushes_162 rfl (lv_at hl 1 rfl) ?_
              refine z_get (C := RX0) (T := TX0) (N := 6) (fs := [zi (pn q), zi (b1), .ref (ad (4)), .ref (ad (5)), .ref (ad (6)), .ref (ad (7))]) hx hb hts w_1 hown hK hw hI3 (zU_n (by decide) h3) rfl 4 (by decide) w_0 rfl rfl dX0_gatherPushes_163 ?_
              refine lv_iload_n hx hb dX0_gatherPushes_166 rfl (lv_at hl 0 rfl) ?_
              refine lv_dup2_11 hx hb dX0_gatherPushes_167 rfl rfl ?_
              refine z_lald (f := h1) hx hb hK hw hI6 (zU_s _ _ _) (by omega) (by omega) (by decide) dX0_gatherPushes_168 ?_
              have b2 := hfB (pn q - 1) (by omega) (by omega)
              have b7 := zmulb (B := 200000000) g9 g10 (by omega) b2.2
              have b8 := zt1000 (x := pts q * f (pn q - 1)) (B := 200000000) (by omega) (by omega)
              refine lv_aload_n hx hb dX0_gatherPushes_169 rfl (lv_at hl 2 rfl) ?_
              refine z_get (C := RX1) (T := TX1) (N := 9) (fs := [zi (psp q), zi (pma q), zi (pco q), .ref (ad (k + 1)), .ref (ad (k + 2)), .ref (ad (k + 3)), zi (pts q), zi (ptm q), zi (pjo q)]) hx hb hts w_10 hown hK hw hk0 (zU_n (by omega) hp0) rfl 6 (by decide) w_9 rfl rfl dX0_gatherPushes_170 ?_
              refine z_i2l hx hb dX0_gatherPushes_173 ⟨by omega, by omega⟩ ?_
              refine lv_aload_n hx hb dX0_gatherPushes_174 rfl (lv_at hl 1 rfl) ?_
              refine z_get (C := RX0) (T := TX0) (N := 6) (fs := [zi (pn q), zi (b1), .ref (ad (4)), .ref (ad (5)), .ref (ad (6)), .ref (ad (7))]) hx hb hts w_1 hown hK hw hI3 (zU_n (by decide) h3) rfl 2 (by decide) w_4 rfl rfl dX0_gatherPushes_175 ?_
              refine lv_iload_n hx hb dX0_gatherPushes_178 rfl (lv_at hl 0 rfl) ?_
              refine z_iald (f := f) hx hb hK hw hI4 (zU_n (by decide) h4) (by omega) (by omega) (by decide) dX0_gatherPushes_179 ?_
              refine z_i2l hx hb dX0_gatherPushes_180 ⟨by omega, by omega⟩ ?_
              refine z_lmul hx hb dX0_gatherPushes_181 ?_
              refine z_ldc2 (n := 1000) hx hb hown w_11 (by decide) dX0_gatherPushes_182 ?_
              refine z_ldiv hx hb dX0_gatherPushes_185 ⟨by omega, by omega⟩ ⟨by decide, by decide⟩ (by decide) ?_
              refine z_ic hx hb dX0_gatherPushes_186 ?_
              refine lv_aload_n hx hb dX0_gatherPushes_187 rfl (lv_at hl 2 rfl) ?_
              refine z_get (C := RX1) (T := TX1) (N := 9) (fs := [zi (psp q), zi (pma q), zi (pco q), .ref (ad (k + 1)), .ref (ad (k + 2)), .ref (ad (k + 3)), zi (pts q), zi (ptm q), zi (pjo q)]) hx hb hts w_10 hown hK hw hk0 (zU_n (by omega) hp0) rfl 7 (by decide) w_12 rfl rfl dX0_gatherPushes_188 ?_
              refine z_kI (z_runSN (As := [zl (((pts q) * (f ((pn q) - (1)))).tdiv (1000)), zi (0), zi (ptm q)]) (rest := [zl (h1 ((pn q) - (1))), zi ((pn q) - (1)), .ref (ad (6))]) ⟨hx, hb, hml, hown, hts⟩ hK hw (k_clamp l hl0 G I ad _ _ (((pts q) * (f ((pn q) - (1)))).tdiv (1000)) (0) (ptm q) ⟨by omega, by omega⟩ ⟨by decide, by decide⟩ ⟨by omega, by omega⟩) (⟨va_cnB 3 hts gX0_gatherPushes_X3_clamp_n94 rfl rfl rfl hK.2.1.2.2.2.2.2.1 w_13 (by decide +kernel) ⟨Nat.le_of_ble_eq_true rfl, Nat.le_of_ble_eq_true rfl⟩, w_14, trivial⟩) rfl hl.1 rfl (Nat.le_of_ble_eq_true rfl) dX0_gatherPushes_191 ⟨Nat.le_of_ble_eq_true rfl, Nat.le_of_ble_eq_true rfl⟩) hw (fun r_8 ct_9 H locs hP hw => ?_)
              obtain ⟨rfl, hct⟩ := hP
              rw [hct] at hw
              clear hct
              rw [show (zcl (((pts q) * (f ((pn q) - (1)))).tdiv (1000)) (0) (ptm q) : Int) = ztb q f from rfl]
              have b9 := ztb_bd hg f
              refine z_i2l hx hb dX0_gatherPushes_194 ⟨by omega, by omega⟩ ?_
              refine z_lsub hx hb dX0_gatherPushes_195 ?_
              refine z_last (f := h1) hx hb hK hw hI6 (zU_s _ _ _) (by omega) (by omega) (by decide) dX0_gatherPushes_196 (fun H locs hw => ?_)
              exact z_vret hx hb hlk hr hw dX0_gatherPushes_197 (Nat.zero_le _) (Nat.zero_le _) ⟨rfl, rfl, (zup (h1) ((pn q) - (1)) ((h1 ((pn q) - (1))) - (ztb q f))), zgp5 (by omega) hh (by omega), by simp only [zU_zU]⟩
            · refine lv_aload_n hx hb dX0_gatherPushes_104 rfl (lv_at hl 0 rfl) ?_
              refine z_get (C := RX0) (T := TX0) (N := 6) (fs := [zi (pn q), zi (b1), .ref (ad (4)), .ref (ad (5)), .ref (ad (6)), .ref (ad (7))]) hx hb hts w_1 hown hK hw hI3 (zU_n (by decide) h3) rfl 4 (by decide) w_0 rfl rfl dX0_gatherPushes_105 ?_
              refine lv_iload_n hx hb dX0_gatherPushes_108 rfl (lv_at hl 2 rfl) ?_
              refine lv_dup2_11 hx hb dX0_gatherPushes_109 rfl rfl ?_
              refine z_lald (f := h1) hx hb hK hw hI6 (zU_s _ _ _) (by omega) (by omega) (by decide) dX0_gatherPushes_110 ?_
              refine lv_aload_n hx hb dX0_gatherPushes_111 rfl (lv_at hl 1 rfl) ?_
              refine z_get (C := RX1) (T := TX1) (N := 9) (fs := [zi (psp q), zi (pma q), zi (pco q), .ref (ad (k + 1)), .ref (ad (k + 2)), .ref (ad (k + 3)), zi (pts q), zi (ptm q), zi (pjo q)]) hx hb hts w_10 hown hK hw hk0 (zU_n (by omega) hp0) rfl 3 (by decide) w_15 rfl rfl dX0_gatherPushes_112 ?_
              refine lv_iload_n hx hb dX0_gatherPushes_115 rfl (lv_at hl 2 rfl) ?_
              have b2 := hfB (i) (by omega) (by omega)
              have b5 := g14 i
              have b6 := g15 i
              have b7 := zmulb (B := 200000000) b5.1 b5.2 (by omega) b2.2
              have b8 := zt1000 (x := pst q i * f i) (B := 200000000) (by omega) (by omega)
              refine z_iald (f := pst q) hx hb hK hw hk1 (zU_n (by omega) hp1) (by omega) (by omega) (by omega) dX0_gatherPushes_116 ?_
              refine z_i2l hx hb dX0_gatherPushes_117 ⟨by omega, by omega⟩ ?_
              refine lv_aload_n hx hb dX0_gatherPushes_118 rfl (lv_at hl 0 rfl) ?_
              refine z_get (C := RX0) (T := TX0) (N := 6) (fs := [zi (pn q), zi (b1), .ref (ad (4)), .ref (ad (5)), .ref (ad (6)), .ref (ad (7))]) hx hb hts w_1 hown hK hw hI3 (zU_n (by decide) h3) rfl 2 (by decide) w_4 rfl rfl dX0_gatherPushes_119 ?_
              refine lv_iload_n hx hb dX0_gatherPushes_122 rfl (lv_at hl 2 rfl) ?_
              refine z_iald (f := f) hx hb hK hw hI4 (zU_n (by decide) h4) (by omega) (by omega) (by decide) dX0_gatherPushes_123 ?_
              refine z_i2l hx hb dX0_gatherPushes_124 ⟨by omega, by omega⟩ ?_
              refine z_lmul hx hb dX0_gatherPushes_125 ?_
              refine z_ldc2 (n := 1000) hx hb hown w_11 (by decide) dX0_gatherPushes_126 ?_
              refine z_ldiv hx hb dX0_gatherPushes_129 ⟨by omega, by omega⟩ ⟨by decide, by decide⟩ (by decide) ?_
              refine lv_aload_n hx hb dX0_gatherPushes_130 rfl (lv_at hl 1 rfl) ?_
              refine z_get (C := RX1) (T := TX1) (N := 9) (fs := [zi (psp q), zi (pma q), zi (pco q), .ref (ad (k + 1)), .ref (ad (k + 2)), .ref (ad (k + 3)), zi (pts q), zi (ptm q), zi (pjo q)]) hx hb hts w_10 hown hK hw hk0 (zU_n (by omega) hp0) rfl 4 (by decide) w_16 rfl rfl dX0_gatherPushes_131 ?_
              refine lv_iload_n hx hb dX0_gatherPushes_134 rfl (lv_at hl 2 rfl) ?_
              refine z_iald (f := pmo q) hx hb hK hw hk2 (zU_n (by omega) hp2) (by omega) (by omega) (by omega) dX0_gatherPushes_135 ?_
              refine z_ineg hx hb dX0_gatherPushes_136 ?_
              refine lv_aload_n hx hb dX0_gatherPushes_137 rfl (lv_at hl 1 rfl) ?_
              refine z_get (C := RX1) (T := TX1) (N := 9) (fs := [zi (psp q), zi (pma q), zi (pco q), .ref (ad (k + 1)), .ref (ad (k + 2)), .ref (ad (k + 3)), zi (pts q), zi (ptm q), zi (pjo q)]) hx hb hts w_10 hown hK hw hk0 (zU_n (by omega) hp0) rfl 4 (by decide) w_16 rfl rfl dX0_gatherPushes_138 ?_
              refine lv_iload_n hx hb dX0_gatherPushes_141 rfl (lv_at hl 2 rfl) ?_
              refine z_iald (f := pmo q) hx hb hK hw hk2 (zU_n (by omega) hp2) (by omega) (by omega) (by omega) dX0_gatherPushes_142 ?_
              refine z_kI (z_runSN (As := [zl ((((pst q) (i)) * (f (i))).tdiv (1000)), zi (-((pmo q) (i))), zi ((pmo q) (i))]) (rest := [zl (h1 (i)), zi (i), .ref (ad (6))]) ⟨hx, hb, hml, hown, hts⟩ hK hw (k_clamp l hl0 G I ad _ _ ((((pst q) (i)) * (f (i))).tdiv (1000)) (-((pmo q) (i))) ((pmo q) (i)) ⟨by omega, by omega⟩ ⟨by omega, by omega⟩ ⟨by omega, by omega⟩) (⟨va_cnB 3 hts gX0_gatherPushes_X3_clamp_n94 rfl rfl rfl hK.2.1.2.2.2.2.2.1 w_13 (by decide +kernel) ⟨Nat.le_of_ble_eq_true rfl, Nat.le_of_ble_eq_true rfl⟩, w_14, trivial⟩) rfl hl.1 rfl (Nat.le_of_ble_eq_true rfl) dX0_gatherPushes_143 ⟨Nat.le_of_ble_eq_true rfl, Nat.le_of_ble_eq_true rfl⟩) hw (fun r_10 ct_11 H locs hP hw => ?_)
              obtain ⟨rfl, hct⟩ := hP
              rw [hct] at hw
              clear hct
              rw [show (zcl ((((pst q) (i)) * (f (i))).tdiv (1000)) (-((pmo q) (i))) ((pmo q) (i)) : Int) = zgb q f (i) from rfl]
              have b9 := zgb_bd hg f i
              refine z_i2l hx hb dX0_gatherPushes_146 ⟨by omega, by omega⟩ ?_
              refine z_lsub hx hb dX0_gatherPushes_147 ?_
              refine z_last (f := h1) hx hb hK hw hI6 (zU_s _ _ _) (by omega) (by omega) (by decide) dX0_gatherPushes_148 (fun H locs hw => ?_)
              refine z_iinc (lv' := [(2, zi (i + 1)), (0, .ref (ad (3))), (1, .ref (ad (k)))]) hx hb dX0_gatherPushes_149 hl (k := 2) rfl (by decide) rfl (fun ls hl => ?_)
              refine lv_goto (tgt := 96) hx hb dX0_gatherPushes_152 (by decide) ?_
              exact ih96 (i + 1) (zup (h1) (i) ((h1 (i)) - (zgb q f (i)))) (by omega) (by omega) (by omega) (zgp4 (by omega) (by omega) hh) _ _ (zWe hw (by simp only [zU_zU])) _ (lv_sub hl [1, 2, 0] rfl)
        exact L96 _ (0) (h1) (Nat.lt_succ_self _) (by omega) (by omega) (zgp3 (by omega) hh) _ _ hw _ (lv_sub hl [1, 2, 0] rfl)
      · refine lv_aload_n hx hb dX0_gatherPushes_54 rfl (lv_at hl 0 rfl) ?_
        refine lv_iload_n hx hb dX0_gatherPushes_55 rfl (lv_at hl 2 rfl) ?_
        refine lv_iload_n hx hb dX0_gatherPushes_56 rfl (lv_at hl 2 rfl) ?_
        refine z_ic hx hb dX0_gatherPushes_57 ?_
        refine z_iadd hx hb dX0_gatherPushes_58 ?_
        refine lv_aload_n hx hb dX0_gatherPushes_59 rfl (lv_at hl 1 rfl) ?_
        refine z_get (C := RX1) (T := TX1) (N := 9) (fs := [zi (psp q), zi (pma q), zi (pco q), .ref (ad (k + 1)), .ref (ad (k + 2)), .ref (ad (k + 3)), zi (pts q), zi (ptm q), zi (pjo q)]) hx hb hts w_10 hown hK hw hk0 (zU_n (by omega) hp0) rfl 0 (by decide) w_17 rfl rfl dX0_gatherPushes_60 ?_
        refine z_i2l hx hb dX0_gatherPushes_63 ⟨by omega, by omega⟩ ?_
        refine lv_aload_n hx hb dX0_gatherPushes_64 rfl (lv_at hl 0 rfl) ?_
        refine z_get (C := RX0) (T := TX0) (N := 6) (fs := [zi (pn q), zi (b1), .ref (ad (4)), .ref (ad (5)), .ref (ad (6)), .ref (ad (7))]) hx hb hts w_1 hown hK hw hI3 (zU_n (by decide) h3) rfl 2 (by decide) w_4 rfl rfl dX0_gatherPushes_65 ?_
        refine lv_iload_n hx hb dX0_gatherPushes_68 rfl (lv_at hl 2 rfl) ?_
        have b2 := hfB (i) (by omega) (by omega)
        have b3 := hfB (i + 1) (by omega) (by omega)
        have b4 := (zsf_bd hg hfB (i := i) (by omega) (by omega)).1
        refine z_iald (f := f) hx hb hK hw hI4 (zU_n (by decide) h4) (by omega) (by omega) (by decide) dX0_gatherPushes_69 ?_
        refine lv_aload_n hx hb dX0_gatherPushes_70 rfl (lv_at hl 0 rfl) ?_
        refine z_get (C := RX0) (T := TX0) (N := 6) (fs := [zi (pn q), zi (b1), .ref (ad (4)), .ref (ad (5)), .ref (ad (6)), .ref (ad (7))]) hx hb hts w_1 hown hK hw hI3 (zU_n (by decide) h3) rfl 2 (by decide) w_4 rfl rfl dX0_gatherPushes_71 ?_
        refine lv_iload_n hx hb dX0_gatherPushes_74 rfl (lv_at hl 2 rfl) ?_
        refine z_ic hx hb dX0_gatherPushes_75 ?_
        refine z_iadd hx hb dX0_gatherPushes_76 ?_
        refine z_iald (f := f) hx hb hK hw hI4 (zU_n (by decide) h4) (by omega) (by omega) (by decide) dX0_gatherPushes_77 ?_
        refine z_isub hx hb dX0_gatherPushes_78 ?_
        refine z_i2l hx hb dX0_gatherPushes_79 ⟨by omega, by omega⟩ ?_
        refine z_lmul hx hb dX0_gatherPushes_80 ?_
        refine z_ldc2 (n := 1000) hx hb hown w_11 (by decide) dX0_gatherPushes_81 ?_
        refine z_ldiv hx hb dX0_gatherPushes_84 ⟨by omega, by omega⟩ ⟨by decide, by decide⟩ (by decide) ?_
        rw [show (((psp q) * ((f (i)) - (f ((i) + (1))))).tdiv (1000) : Int) = zsf q f (i) from rfl]
        refine z_kV (z_runV (As := [zi (i), zi ((i) + (1)), zl (zsf q f (i))]) (rest := []) (k := 3) (fs := [zi (pn q), zi (b1), .ref (ad (4)), .ref (ad (5)), .ref (ad (6)), .ref (ad (7))]) ⟨hx, hb, hml, hown, hts⟩ hK hw (k_press l hl0 G I ad _ _ (pn q) (b1) (f) (g) (h1) (wv) hI3 hI4 hI5 hI6 hI7 (zU_n (by decide) h3) (zU_n (by decide) h4) (zU_n (by decide) h5) (zU_s _ _ _) (zU_n (by decide) h7)  (i) ((i) + (1)) (zsf q f (i)) (by omega) (by omega) (by omega) (by omega)) (cwV 3 hts gX0_gatherPushes_X0_press rfl rfl rfl (by decide +kernel) ⟨Nat.le_of_ble_eq_true rfl, Nat.le_of_ble_eq_true rfl⟩) hI3 (zU_n (by decide) h3) rfl rfl rfl hl.1 rfl (Nat.le_of_ble_eq_true rfl) dX0_gatherPushes_85 ⟨Nat.le_of_ble_eq_true rfl, Nat.le_of_ble_eq_true rfl⟩) hw (fun ct_13 H locs hP hw => ?_)
        rw [hP] at hw
        clear hP
        refine z_iinc (lv' := [(2, zi (i + 1)), (0, .ref (ad (3))), (1, .ref (ad (k)))]) hx hb dX0_gatherPushes_88 hl (k := 2) rfl (by decide) rfl (fun ls hl => ?_)
        refine lv_goto (tgt := 44) hx hb dX0_gatherPushes_91 (by decide) ?_
        exact ih44 (i + 1) ((zup (zup (h1) (i) ((h1) (i) - (zsf q f (i)))) ((i) + (1)) ((zup (h1) (i) ((h1) (i) - (zsf q f (i)))) ((i) + (1)) + (zsf q f (i))))) (by omega) (by omega) (by omega) (zgp2 (by omega) (by omega) hh) _ _ (zWe hw (by simp only [zU_zU])) _ (lv_sub hl [1, 2, 0] rfl)
  exact L44 _ (0) ((zup (zup (F_1) (pn q) ((F_1) (pn q) - (zcu q f))) (0) ((zup (F_1) (pn q) ((F_1) (pn q) - (zcu q f))) (0) + (zcu q f)))) (Nat.lt_succ_self _) (by omega) (by omega) (zgp1 hg f hF_1) _ _ (zWe hw (by simp only [zU_zU])) _ (lv_sub hl [1, 2, 0] rfl)

theorem zro0 {q : zPl} {hm v : Int} {F : Int → Int} {n : Nat} (hF : ∀ x : Int, 0 ≤ x → x < n → F x = 0) (hn : pn q < n) (_h : 0 ≤ pn q) : zEq q (zup F (pn q) (1000 * v)) (zro q hm v 0).2 := fun x h1 h2 => by
  show _ = if x = pn q then 1000 * v else 0
  by_cases a : x = pn q
  · rw [if_pos a, a, zup_s]
  · rw [if_neg a, zup_n _ _ a]; exact hF x h1 (by omega)

set_option maxHeartbeats 4000000 in
set_option maxRecDepth 100000 in
theorem k_strike (l : Launch) (hl0 : l.stackTraces = false) (G : zG) (I : List Nat) (ad : Nat → Nat) (ct : Nat → va_E) (sz : Nat) (k : Nat) (q : zPl) (hg : zGood q) (hk : zMem4 I k) (hp : zPileAt G ad ct k q) (b0 b1 : Int) (f g h wv : Int → Int) (hI3 : 3 ∈ I) (hI4 : 4 ∈ I) (hI5 : 5 ∈ I) (hI6 : 6 ∈ I) (hI7 : 7 ∈ I) (h3 : ct 3 = .inr (0, [zi b0, zi b1, .ref (ad 4), .ref (ad 5), .ref (ad 6), .ref (ad 7)])) (h4 : ct 4 = zI G 13 f) (h5 : ct 5 = zI G 13 g) (h6 : ct 6 = zL G 13 h) (h7 : ct 7 = zI G 2600 wv) (hkk : 40 ≤ k) (hm v : Int) (hm1 : 1 ≤ hm) (hm2 : hm ≤ 10000) (hv1 : 1 ≤ v) (hv2 : v ≤ 1000) : zN l yX0_strike wsX0_strike 2 60 0 0 G [.ref (ad (3)), .ref (ad (k)), zi (hm), zi (v)] I ad ct zno sz (zk I (zqv fun u => ∃ f1 g1 h1 wv1 : Int → Int, zwv q hm v 200 wv1 ∧ u = (zU5 ct (.inr (0, [zi (pn q), zi (zdp q hm v 200), .ref (ad (4)), .ref (ad (5)), .ref (ad (6)), .ref (ad (7))])) (zI G 13 (f1)) (zI G 13 (g1)) (zL G 13 (h1)) (zI G 2600 (wv1))))) := by
  obtain ⟨hp0, hp1, hp2, hp3⟩ := hp
  obtain ⟨hk0, hk1, hk2, hk3⟩ := hk
  have hg0 := hg
  obtain ⟨⟨g1, g2⟩, ⟨g3, g4⟩, ⟨g5, g6⟩, ⟨g7, g8⟩, ⟨g9, g10⟩, ⟨g11, g12⟩, g13, g14, g15, g16⟩ := hg0
  have gn : (q.1 : Int) = pn q := rfl
  refine z_ofW (ret := none) hl0 (by decide +kernel) rfl (Nat.le_of_ble_eq_true rfl) ?_
  intro p e s m args below meth c A ls hA0 hsz hF hr hout hnm hw hl
  obtain ⟨hx, hb, hml, hown, hts, hK, hlk, hst⟩ := hF
  have hown : s.vm.findClass RX0 = some m.cls := hown
  have hl : lv_has ls 7 [(0, .ref (ad (3))), (1, .ref (ad (k))), (2, zi (hm)), (3, zi (v))] := hl
  have w_0 := hts (.fieldLink RX0 25 "PileMoves$Blow" "pieces" "I") (by decide +kernel)
  have w_1 : ∀ w ∈ wsX00, w ∈ wsX0_strike := by decide +kernel
  have w_2 := hts (.fieldLink RX0 30 "PileMoves$Blow" "deepest" "I") (by decide +kernel)
  have w_3 := hts (.fieldLink RX0 11 "PileMoves$Blow" "places" "[I") (by decide +kernel)
  have w_4 := hts (.fieldLink RX0 15 "PileMoves$Blow" "speeds" "[I") (by decide +kernel)
  have w_5 := hts (.methodLink RX0 65 Lib.Math.max.name) (by decide +kernel)
  have w_6 := hts (.static Lib.Math.max.name) (by decide +kernel)
  have w_7 := hts (.initialized "java/lang/Math") (by decide +kernel)
  have w_8 := hts (.code Lib.Math.max.name Lib.Math.max.code 2 (some .int)) (by decide +kernel)
  have w_9 := hts (.fieldLink RX0 22 "PileMoves$Blow" "waves" "[I") (by decide +kernel)
  have w_10 := hts (.methodLink RX0 68 arraycopyName) (by decide +kernel)
  have w_11 := hts (.native arraycopyName) (by decide +kernel)
  have w_12 := hts (.static arraycopyName) (by decide +kernel)
  have w_13 := hts (.initialized "java/lang/System") (by decide +kernel)
  have w_14 := hts (.fieldLink RX0 58 "PileMoves$Pile" "mass" "I") (by decide +kernel)
  have w_15 : ∀ w ∈ wsX10, w ∈ wsX0_strike := by decide +kernel
  have hw := zWe hw (zU5_id h3 h4 h5 h6 h7).symm
  refine lv_aload_n hx hb dX0_strike_0 rfl (lv_at hl 1 rfl) ?_
  refine z_kI (z_runV (As := []) (rest := []) (k := k) (fs := [zi (psp q), zi (pma q), zi (pco q), .ref (ad (k + 1)), .ref (ad (k + 2)), .ref (ad (k + 3)), zi (pts q), zi (ptm q), zi (pjo q)]) ⟨hx, hb, hml, hown, hts⟩ hK hw (k_pieces l hl0 G I ad _ _ (k) q hg ⟨hk0, hk1, hk2, hk3⟩ ⟨(zU5_n (by omega) hp0), (zU5_n (by omega) hp1), (zU5_n (by omega) hp2), (zU5_n (by omega) hp3)⟩) (cwV 0 hts gX0_strike_X1_pieces rfl rfl rfl (by decide +kernel) ⟨Nat.le_of_ble_eq_true rfl, Nat.le_of_ble_eq_true rfl⟩) hk0 (zU5_n (by omega) hp0) rfl rfl rfl hl.1 rfl (Nat.le_of_ble_eq_true rfl) dX0_strike_1 ⟨Nat.le_of_ble_eq_true rfl, Nat.le_of_ble_eq_true rfl⟩) hw (fun r_1 ct_2 H locs hP hw => ?_)
  obtain ⟨rfl, hct⟩ := hP
  rw [hct] at hw
  clear hct
  refine lv_istore (lv' := [(4, zi (pn q)), (0, .ref (ad (3))), (1, .ref (ad (k))), (2, zi (hm)), (3, zi (v))]) hx hb dX0_strike_4 hl (by decide) rfl (fun ls hl => ?_)
  refine lv_iload hx hb dX0_strike_6 (lv_at hl 0 rfl) ?_
  refine z_ic hx hb dX0_strike_8 ?_
  refine z_icmp_lt (tgt := 19) hx hb dX0_strike_9 (by decide) ⟨by omega, by omega⟩ ⟨by decide, by decide⟩ (fun c_3 => ?_) (fun c_3 => ?_)
  · exact absurd c_3 (by omega)
  · refine lv_iload hx hb dX0_strike_12 (lv_at hl 0 rfl) ?_
    refine z_bi hx hb dX0_strike_14 (by decide) ?_
    refine z_icmp_lt (tgt := 20) hx hb dX0_strike_16 (by decide) ⟨by omega, by omega⟩ ⟨by decide, by decide⟩ (fun c_4 => ?_) (fun c_4 => ?_)
    · refine lv_aload_n hx hb dX0_strike_20 rfl (lv_at hl 1 rfl) ?_
      refine lv_iload hx hb dX0_strike_21 (lv_at hl 0 rfl) ?_
      refine z_put (C := RX0) (T := TX0) (N := 6) (fs := [zi (b0), zi (b1), .ref (ad (4)), .ref (ad (5)), .ref (ad (6)), .ref (ad (7))]) (fs' := [zi (pn q), zi (b1), .ref (ad (4)), .ref (ad (5)), .ref (ad (6)), .ref (ad (7))]) hx hb hts w_1 tyX0_ok nmX0 hown hK hw hI3 rfl rfl 0 (by decide) w_0 rfl rfl rfl rfl (Nat.le_of_ble_eq_true rfl) rfl dX0_strike_23 (fun H locs hw => ?_)
      refine lv_aload_n hx hb dX0_strike_26 rfl (lv_at hl 1 rfl) ?_
      refine z_ic hx hb dX0_strike_27 ?_
      refine z_put (C := RX0) (T := TX0) (N := 6) (fs := [zi (pn q), zi (b1), .ref (ad (4)), .ref (ad (5)), .ref (ad (6)), .ref (ad (7))]) (fs' := [zi (pn q), zi (0), .ref (ad (4)), .ref (ad (5)), .ref (ad (6)), .ref (ad (7))]) hx hb hts w_1 tyX0_ok nmX0 hown hK hw hI3 (zU_s _ _ _) rfl 1 (by decide) w_2 rfl rfl rfl rfl (Nat.le_of_ble_eq_true rfl) rfl dX0_strike_28 (fun H locs hw => ?_)
      refine lv_aload_n hx hb dX0_strike_31 rfl (lv_at hl 1 rfl) ?_
      refine z_get (C := RX0) (T := TX0) (N := 6) (fs := [zi (pn q), zi (0), .ref (ad (4)), .ref (ad (5)), .ref (ad (6)), .ref (ad (7))]) hx hb hts w_1 hown hK hw hI3 (zU_s _ _ _) rfl 2 (by decide) w_3 rfl rfl dX0_strike_32 ?_
      refine z_ic hx hb dX0_strike_35 ?_
      refine z_kV (z_runS (As := [.ref (ad (4)), zi (0)]) (rest := []) ⟨hx, hb, hml, hown, hts⟩ hK hw (k_filli l hl0 G I ad _ _ (4) (13) (f) (0) (by decide) hI4 (zU_n (by decide) (zU_n (by decide) rfl))) (va_cwS 2 hts gX0_strike_J7_fill_53178 rfl rfl rfl (by decide +kernel) ⟨Nat.le_of_ble_eq_true rfl, Nat.le_of_ble_eq_true rfl⟩) rfl hl.1 rfl (Nat.le_of_ble_eq_true rfl) dX0_strike_36 ⟨Nat.le_of_ble_eq_true rfl, Nat.le_of_ble_eq_true rfl⟩) hw (fun ct_7 H locs hP hw => ?_)
      obtain ⟨F_5, hF_5, hct⟩ := hP
      rw [hct] at hw
      clear hct
      refine lv_aload_n hx hb dX0_strike_39 rfl (lv_at hl 1 rfl) ?_
      refine z_get (C := RX0) (T := TX0) (N := 6) (fs := [zi (pn q), zi (0), .ref (ad (4)), .ref (ad (5)), .ref (ad (6)), .ref (ad (7))]) hx hb hts w_1 hown hK hw hI3 (zU_n (by decide) (zU_s _ _ _)) rfl 3 (by decide) w_4 rfl rfl dX0_strike_40 ?_
      refine z_ic hx hb dX0_strike_43 ?_
      refine z_kV (z_runS (As := [.ref (ad (5)), zi (0)]) (rest := []) ⟨hx, hb, hml, hown, hts⟩ hK hw (k_filli l hl0 G I ad _ _ (5) (13) (g) (0) (by decide) hI5 (zU_n (by decide) (zU_n (by decide) (zU_n (by decide) rfl)))) (va_cwS 2 hts gX0_strike_J7_fill_53178 rfl rfl rfl (by decide +kernel) ⟨Nat.le_of_ble_eq_true rfl, Nat.le_of_ble_eq_true rfl⟩) rfl hl.1 rfl (Nat.le_of_ble_eq_true rfl) dX0_strike_44 ⟨Nat.le_of_ble_eq_true rfl, Nat.le_of_ble_eq_true rfl⟩) hw (fun ct_10 H locs hP hw => ?_)
      obtain ⟨F_8, hF_8, hct⟩ := hP
      rw [hct] at hw
      clear hct
      refine lv_aload_n hx hb dX0_strike_47 rfl (lv_at hl 1 rfl) ?_
      refine z_get (C := RX0) (T := TX0) (N := 6) (fs := [zi (pn q), zi (0), .ref (ad (4)), .ref (ad (5)), .ref (ad (6)), .ref (ad (7))]) hx hb hts w_1 hown hK hw hI3 (zU_n (by decide) (zU_n (by decide) (zU_s _ _ _))) rfl 3 (by decide) w_4 rfl rfl dX0_strike_48 ?_
      refine lv_aload_n hx hb dX0_strike_51 rfl (lv_at hl 1 rfl) ?_
      refine z_get (C := RX0) (T := TX0) (N := 6) (fs := [zi (pn q), zi (0), .ref (ad (4)), .ref (ad (5)), .ref (ad (6)), .ref (ad (7))]) hx hb hts w_1 hown hK hw hI3 (zU_n (by decide) (zU_n (by decide) (zU_s _ _ _))) rfl 0 (by decide) w_0 rfl rfl dX0_strike_52 ?_
      refine z_si hx hb dX0_strike_55 (by decide) ?_
      refine lv_iload_n hx hb dX0_strike_58 rfl (lv_at hl 4 rfl) ?_
      refine z_imul hx hb dX0_strike_59 ?_
      refine z_iast (f := F_8) hx hb hK hw hI5 (zU_s _ _ _) (by omega) (by omega) (by decide) dX0_strike_60 (fun H locs hw => ?_)
      refine z_ic hx hb dX0_strike_61 ?_
      refine lv_istore (lv' := [(5, zi (0)), (4, zi (pn q)), (0, .ref (ad (3))), (1, .ref (ad (k))), (2, zi (hm)), (3, zi (v))]) hx hb dX0_strike_62 hl (by decide) rfl (fun ls hl => ?_)
      have L64 : ∀ (nn : Nat) (K : Nat) (r : Int) (dp : Int) (f1 : Int → Int) (g1 : Int → Int) (h1 : Int → Int) (wv1 : Int → Int), (200 - K) < nn → (r = K) → (K ≤ 200) → (zEq q f1 (zro q hm v K).1) → (zEq q g1 (zro q hm v K).2) → (dp = zdp q hm v K) → (zwv q hm v K wv1) → ∀ (H : Heap) (locs : List Loc), zW G A s.heap H locs I ad (zU5 ct (.inr (0, [zi (pn q), zi (dp), .ref (ad (4)), .ref (ad (5)), .ref (ad (6)), .ref (ad (7))])) (zI G 13 (f1)) (zI G 13 (g1)) (zL G 13 (h1)) (zI G 2600 (wv1))) → ∀ ls, lv_has ls 7 [(0, .ref (ad (3))), (1, .ref (ad (k))), (2, zi (hm)), (3, zi (v)), (4, zi (pn q)), (5, zi (r))] → W p l e ({ frames := 2, cells := 0, slots := 0, locals := 60 } : Room) s m args below meth c H locs 0 0 (vx_MQ below (zQ G A ad (zk I (zqv fun u => ∃ f1 g1 h1 wv1 : Int → Int, zwv q hm v 200 wv1 ∧ u = (zU5 ct (.inr (0, [zi (pn q), zi (zdp q hm v 200), .ref (ad (4)), .ref (ad (5)), .ref (ad (6)), .ref (ad (7))])) (zI G 13 (f1)) (zI G 13 (g1)) (zL G 13 (h1)) (zI G 2600 (wv1)))))) (zX G A I ad ct zno) args s 0 0 A) (F0 m 64 ls []) := by
        intro nn
        induction nn with
        | zero => intro K r dp f1 g1 h1 wv1 hme; exact absurd hme (Nat.not_lt_zero _)
        | succ nn ih64 =>
          intro K r dp f1 g1 h1 wv1 hme64 hr9 hK9 hf1 hg1 hdp hwv H locs hw ls hl
          have hfB : zB q f1 := fun x h1 h2 => by have e1 := hf1 x h1 h2; have e2 := zro_pl q hm v K x; omega
          refine lv_iload hx hb dX0_strike_64 (lv_at hl 5 rfl) ?_
          refine z_si hx hb dX0_strike_66 (by decide) ?_
          refine z_icmp_ge (tgt := 165) hx hb dX0_strike_69 (by decide) ⟨by omega, by omega⟩ ⟨by decide, by decide⟩ (fun c_11 => ?_) (fun c_11 => ?_)
          · exact z_vret hx hb hlk hr hw dX0_strike_165 (Nat.zero_le _) (Nat.zero_le _) ⟨rfl, rfl, ⟨f1, g1, h1, wv1, by rw [show K = 200 by omega] at hwv; exact hwv, by rw [hdp, show K = 200 by omega]⟩⟩
          · refine lv_aload_n hx hb dX0_strike_72 rfl (lv_at hl 0 rfl) ?_
            refine lv_aload_n hx hb dX0_strike_73 rfl (lv_at hl 1 rfl) ?_
            refine z_kV (z_runV (As := [.ref (ad (k))]) (rest := []) (k := 3) (fs := [zi (pn q), zi (dp), .ref (ad (4)), .ref (ad (5)), .ref (ad (6)), .ref (ad (7))]) ⟨hx, hb, hml, hown, hts⟩ hK hw (k_gather l hl0 G I ad _ _ (k) q hg ⟨hk0, hk1, hk2, hk3⟩ ⟨(zU5_n (by omega) hp0), (zU5_n (by omega) hp1), (zU5_n (by omega) hp2), (zU5_n (by omega) hp3)⟩ (dp) (f1) (g1) (h1) (wv1) hI3 hI4 hI5 hI6 hI7 rfl rfl rfl rfl rfl hfB (by omega)) (cwV 1 hts gX0_strike_X0_gatherPushes rfl rfl rfl (by decide +kernel) ⟨Nat.le_of_ble_eq_true rfl, Nat.le_of_ble_eq_true rfl⟩) hI3 rfl rfl rfl rfl hl.1 rfl (Nat.le_of_ble_eq_true rfl) dX0_strike_74 ⟨Nat.le_of_ble_eq_true rfl, Nat.le_of_ble_eq_true rfl⟩) hw (fun ct_14 H locs hP hw => ?_)
            obtain ⟨h_12, hh_12, hct⟩ := hP
            rw [hct] at hw
            clear hct
            refine z_ic hx hb dX0_strike_77 ?_
            refine lv_istore (lv' := [(6, zi (0)), (0, .ref (ad (3))), (1, .ref (ad (k))), (2, zi (hm)), (3, zi (v)), (4, zi (pn q)), (5, zi (r))]) hx hb dX0_strike_78 hl (by decide) rfl (fun ls hl => ?_)
            have L80 : ∀ (nn : Nat) (i : Int) (f2 : Int → Int) (g2 : Int → Int), ((14 - i).toNat) < nn → (0 ≤ i) → (i ≤ pn q + 1) → (zmid f1 f2 (znp q hm f1 g1) (pn q) i) → (zmid g1 g2 (znv q hm f1 g1) (pn q) i) → ∀ (H : Heap) (locs : List Loc), zW G A s.heap H locs I ad (zU5 ct (.inr (0, [zi (pn q), zi (dp), .ref (ad (4)), .ref (ad (5)), .ref (ad (6)), .ref (ad (7))])) (zI G 13 (f2)) (zI G 13 (g2)) (zL G 13 (h_12)) (zI G 2600 (wv1))) → ∀ ls, lv_has ls 7 [(0, .ref (ad (3))), (1, .ref (ad (k))), (2, zi (hm)), (3, zi (v)), (4, zi (pn q)), (5, zi (r)), (6, zi (i))] → W p l e ({ frames := 2, cells := 0, slots := 0, locals := 60 } : Room) s m args below meth c H locs 0 0 (vx_MQ below (zQ G A ad (zk I (zqv fun u => ∃ f1 g1 h1 wv1 : Int → Int, zwv q hm v 200 wv1 ∧ u = (zU5 ct (.inr (0, [zi (pn q), zi (zdp q hm v 200), .ref (ad (4)), .ref (ad (5)), .ref (ad (6)), .ref (ad (7))])) (zI G 13 (f1)) (zI G 13 (g1)) (zL G 13 (h1)) (zI G 2600 (wv1)))))) (zX G A I ad ct zno) args s 0 0 A) (F0 m 80 ls []) := by
              intro nn
              induction nn with
              | zero => intro i f2 g2 hme; exact absurd hme (Nat.not_lt_zero _)
              | succ nn ih80 =>
                intro i f2 g2 hme80 hi0 hi1 hf2 hg2 H locs hw ls hl
                refine lv_iload hx hb dX0_strike_80 (lv_at hl 6 rfl) ?_
                refine lv_aload_n hx hb dX0_strike_82 rfl (lv_at hl 0 rfl) ?_
                refine z_get (C := RX0) (T := TX0) (N := 6) (fs := [zi (pn q), zi (dp), .ref (ad (4)), .ref (ad (5)), .ref (ad (6)), .ref (ad (7))]) hx hb hts w_1 hown hK hw hI3 rfl rfl 0 (by decide) w_0 rfl rfl dX0_strike_83 ?_
                refine z_icmp_gt (tgt := 118) hx hb dX0_strike_86 (by decide) ⟨by omega, by omega⟩ ⟨by omega, by omega⟩ (fun c_15 => ?_) (fun c_15 => ?_)
                · have hfe : zEq q f2 (zro q hm v (K + 1)).1 := fun x h1 h2 => (zmid_e hf2 (by omega) x h1 h2).trans (znp_c hg hm hf1 hg1 h1 h2)
                  have hge : zEq q g2 (zro q hm v (K + 1)).2 := fun x h1 h2 => (zmid_e hg2 (by omega) x h1 h2).trans (znv_c hg hm hf1 hg1 h1 h2)
                  have bd1 := zdp_bd q hm v K
                  have bd2 := hfe (pn q - 1) (by omega) (by omega)
                  have bd3 := zro_pl q hm v (K + 1) (pn q - 1)
                  have hde : (if dp < f2 (pn q - 1) then f2 (pn q - 1) else dp) = zdp q hm v (K + 1) := by rw [hdp, bd2]; rfl
                  refine lv_aload_n hx hb dX0_strike_118 rfl (lv_at hl 0 rfl) ?_
                  refine lv_aload_n hx hb dX0_strike_119 rfl (lv_at hl 0 rfl) ?_
                  refine z_get (C := RX0) (T := TX0) (N := 6) (fs := [zi (pn q), zi (dp), .ref (ad (4)), .ref (ad (5)), .ref (ad (6)), .ref (ad (7))]) hx hb hts w_1 hown hK hw hI3 rfl rfl 1 (by decide) w_2 rfl rfl dX0_strike_120 ?_
                  refine lv_aload_n hx hb dX0_strike_123 rfl (lv_at hl 0 rfl) ?_
                  refine z_get (C := RX0) (T := TX0) (N := 6) (fs := [zi (pn q), zi (dp), .ref (ad (4)), .ref (ad (5)), .ref (ad (6)), .ref (ad (7))]) hx hb hts w_1 hown hK hw hI3 rfl rfl 2 (by decide) w_3 rfl rfl dX0_strike_124 ?_
                  refine lv_aload_n hx hb dX0_strike_127 rfl (lv_at hl 0 rfl) ?_
                  refine z_get (C := RX0) (T := TX0) (N := 6) (fs := [zi (pn q), zi (dp), .ref (ad (4)), .ref (ad (5)), .ref (ad (6)), .ref (ad (7))]) hx hb hts w_1 hown hK hw hI3 rfl rfl 0 (by decide) w_0 rfl rfl dX0_strike_128 ?_
                  refine z_ic hx hb dX0_strike_131 ?_
                  refine z_isub hx hb dX0_strike_132 ?_
                  refine z_iald (f := f2) hx hb hK hw hI4 rfl (by omega) (by omega) (by decide) dX0_strike_133 ?_
                  refine z_mmax hx hb (hml.trans hl.1.symm) hown w_5 w_6 w_7 w_8 (Nat.le_of_ble_eq_true rfl) (Nat.le_of_ble_eq_true rfl) (Nat.le_of_ble_eq_true rfl) (Nat.le_of_ble_eq_true rfl) ⟨by omega, by omega⟩ ⟨by omega, by omega⟩ dX0_strike_134 ?_
                  refine z_put (C := RX0) (T := TX0) (N := 6) (fs := [zi (pn q), zi (dp), .ref (ad (4)), .ref (ad (5)), .ref (ad (6)), .ref (ad (7))]) (fs' := [zi (pn q), zi (if (dp) < (f2 ((pn q) - (1))) then (f2 ((pn q) - (1))) else (dp)), .ref (ad (4)), .ref (ad (5)), .ref (ad (6)), .ref (ad (7))]) hx hb hts w_1 tyX0_ok nmX0 hown hK hw hI3 rfl rfl 1 (by decide) w_2 rfl rfl rfl rfl (Nat.le_of_ble_eq_true rfl) rfl dX0_strike_137 (fun H locs hw => ?_)
                  refine lv_aload_n hx hb dX0_strike_140 rfl (lv_at hl 0 rfl) ?_
                  refine z_get (C := RX0) (T := TX0) (N := 6) (fs := [zi (pn q), zi (if (dp) < (f2 ((pn q) - (1))) then (f2 ((pn q) - (1))) else (dp)), .ref (ad (4)), .ref (ad (5)), .ref (ad (6)), .ref (ad (7))]) hx hb hts w_1 hown hK hw hI3 (zU_s _ _ _) rfl 2 (by decide) w_3 rfl rfl dX0_strike_141 ?_
                  refine z_ic hx hb dX0_strike_144 ?_
                  refine lv_aload_n hx hb dX0_strike_145 rfl (lv_at hl 0 rfl) ?_
                  refine z_get (C := RX0) (T := TX0) (N := 6) (fs := [zi (pn q), zi (if (dp) < (f2 ((pn q) - (1))) then (f2 ((pn q) - (1))) else (dp)), .ref (ad (4)), .ref (ad (5)), .ref (ad (6)), .ref (ad (7))]) hx hb hts w_1 hown hK hw hI3 (zU_s _ _ _) rfl 5 (by decide) w_9 rfl rfl dX0_strike_146 ?_
                  refine lv_iload hx hb dX0_strike_149 (lv_at hl 5 rfl) ?_
                  refine z_bi hx hb dX0_strike_151 (by decide) ?_
                  refine z_imul hx hb dX0_strike_153 ?_
                  refine z_bi hx hb dX0_strike_154 (by decide) ?_
                  refine z_copyi hx hb (hml.trans hl.1.symm) hown w_10 w_11 w_12 w_13 hK hw hI4 hI7 (zU_n (by decide) rfl) (zU_n (by decide) rfl) (by omega) (by omega) (by omega) (by omega) (by decide) (by decide) (Nat.le_of_ble_eq_true rfl) (Nat.le_of_ble_eq_true rfl) dX0_strike_156 (fun H locs hw => ?_)
                  refine z_iinc (lv' := [(5, zi (r + 1)), (0, .ref (ad (3))), (1, .ref (ad (k))), (2, zi (hm)), (3, zi (v)), (4, zi (pn q)), (6, zi (i))]) hx hb dX0_strike_159 hl (k := 5) rfl (by decide) rfl (fun ls hl => ?_)
                  refine lv_goto (tgt := 64) hx hb dX0_strike_162 (by decide) ?_
                  exact ih64 (K + 1) (r + 1) (if (dp) < (f2 ((pn q) - (1))) then (f2 ((pn q) - (1))) else (dp)) (f2) (g2) (h_12) ((zcpy (f2) (wv1) ((r) * (13)) (13))) (by omega) (by omega) (by omega) hfe hge hde (zwv_s hg hwv hfe (by omega)) _ _ (zWe hw (by simp only [zU5_p3, zU5_p4, zU5_p5, zU5_p6, zU5_p7])) _ (lv_sub hl [1, 2, 3, 4, 5, 0] rfl)
                · refine lv_aload_n hx hb dX0_strike_89 rfl (lv_at hl 0 rfl) ?_
                  refine lv_iload hx hb dX0_strike_90 (lv_at hl 6 rfl) ?_
                  refine lv_iload hx hb dX0_strike_92 (lv_at hl 6 rfl) ?_
                  refine lv_aload_n hx hb dX0_strike_94 rfl (lv_at hl 0 rfl) ?_
                  refine z_get (C := RX0) (T := TX0) (N := 6) (fs := [zi (pn q), zi (dp), .ref (ad (4)), .ref (ad (5)), .ref (ad (6)), .ref (ad (7))]) hx hb hts w_1 hown hK hw hI3 rfl rfl 0 (by decide) w_0 rfl rfl dX0_strike_95 ?_
                  refine z_icmp_ge (tgt := 108) hx hb dX0_strike_98 (by decide) ⟨by omega, by omega⟩ ⟨by omega, by omega⟩ (fun c_16 => ?_) (fun c_16 => ?_)
                  · refine lv_iload_n hx hb dX0_strike_108 rfl (lv_at hl 2 rfl) ?_
                    refine z_kV (z_runV (As := [zi (i), zi (hm)]) (rest := []) (k := 3) (fs := [zi (pn q), zi (dp), .ref (ad (4)), .ref (ad (5)), .ref (ad (6)), .ref (ad (7))]) ⟨hx, hb, hml, hown, hts⟩ hK hw (k_move l hl0 G I ad _ _ (pn q) (dp) (f2) (g2) (h_12) (wv1) hI3 hI4 hI5 hI6 hI7 rfl rfl rfl rfl rfl  (i) (hm) (by omega) (by omega) (by omega) (by omega) (by rw [hh_12 i (by omega) (by omega)]; have := zpu_bd hg hfB (i := i) (by omega) (by omega); omega) (by rw [zmid_at hg2 (by omega) (by omega), hg1 i (by omega) (by omega)]; exact zro_sp (by omega) hv2 K i)) (cwV 2 hts gX0_strike_X0_move rfl rfl rfl (by decide +kernel) ⟨Nat.le_of_ble_eq_true rfl, Nat.le_of_ble_eq_true rfl⟩) hI3 rfl rfl rfl rfl hl.1 rfl (Nat.le_of_ble_eq_true rfl) dX0_strike_109 ⟨Nat.le_of_ble_eq_true rfl, Nat.le_of_ble_eq_true rfl⟩) hw (fun ct_18 H locs hP hw => ?_)
                    rw [hP] at hw
                    clear hP
                    refine z_iinc (lv' := [(6, zi (i + 1)), (0, .ref (ad (3))), (1, .ref (ad (k))), (2, zi (hm)), (3, zi (v)), (4, zi (pn q)), (5, zi (r))]) hx hb dX0_strike_112 hl (k := 6) rfl (by decide) rfl (fun ls hl => ?_)
                    refine lv_goto (tgt := 80) hx hb dX0_strike_115 (by decide) ?_
                    exact ih80 (i + 1) ((zup (f2) (i) ((f2) (i) + (zcl ((g2) (i) + (1000 * (h_12) (i)).tdiv (hm)) (-1000000000) 1000000000).tdiv 1000))) ((zup (g2) (i) (zcl ((g2) (i) + (1000 * (h_12) (i)).tdiv (hm)) (-1000000000) 1000000000))) (by omega) (by omega) (by omega) (zmid_s hf2 (by unfold znp; rw [(zmv (hm := hm) (mm := hm) (g := g1) (g2 := g2) (hh_12 i (by omega) (by omega)) (zmid_at hg2 (by omega) (by omega)) (by unfold zms; split <;> omega)), zmid_at hf2 (by omega) (by omega)])) (zmid_s hg2 (zmv (hm := hm) (mm := hm) (g := g1) (g2 := g2) (hh_12 i (by omega) (by omega)) (zmid_at hg2 (by omega) (by omega)) (by unfold zms; split <;> omega))) _ _ (zWe hw (by simp only [zU5_p3, zU5_p4, zU5_p5, zU5_p6, zU5_p7])) _ (lv_sub hl [1, 2, 3, 4, 5, 6, 0] rfl)
                  · refine lv_aload_n hx hb dX0_strike_101 rfl (lv_at hl 1 rfl) ?_
                    refine z_get (C := RX1) (T := TX1) (N := 9) (fs := [zi (psp q), zi (pma q), zi (pco q), .ref (ad (k + 1)), .ref (ad (k + 2)), .ref (ad (k + 3)), zi (pts q), zi (ptm q), zi (pjo q)]) hx hb hts w_15 hown hK hw hk0 (zU5_n (by omega) hp0) rfl 1 (by decide) w_14 rfl rfl dX0_strike_102 ?_
                    refine lv_goto (tgt := 109) hx hb dX0_strike_105 (by decide) ?_
                    refine z_kV (z_runV (As := [zi (i), zi (pma q)]) (rest := []) (k := 3) (fs := [zi (pn q), zi (dp), .ref (ad (4)), .ref (ad (5)), .ref (ad (6)), .ref (ad (7))]) ⟨hx, hb, hml, hown, hts⟩ hK hw (k_move l hl0 G I ad _ _ (pn q) (dp) (f2) (g2) (h_12) (wv1) hI3 hI4 hI5 hI6 hI7 rfl rfl rfl rfl rfl  (i) (pma q) (by omega) (by omega) (by omega) (by omega) (by rw [hh_12 i (by omega) (by omega)]; have := zpu_bd hg hfB (i := i) (by omega) (by omega); omega) (by rw [zmid_at hg2 (by omega) (by omega), hg1 i (by omega) (by omega)]; exact zro_sp (by omega) hv2 K i)) (cwV 2 hts gX0_strike_X0_move rfl rfl rfl (by decide +kernel) ⟨Nat.le_of_ble_eq_true rfl, Nat.le_of_ble_eq_true rfl⟩) hI3 rfl rfl rfl rfl hl.1 rfl (Nat.le_of_ble_eq_true rfl) dX0_strike_109 ⟨Nat.le_of_ble_eq_true rfl, Nat.le_of_ble_eq_true rfl⟩) hw (fun ct_20 H locs hP hw => ?_)
                    rw [hP] at hw
                    clear hP
                    refine z_iinc (lv' := [(6, zi (i + 1)), (0, .ref (ad (3))), (1, .ref (ad (k))), (2, zi (hm)), (3, zi (v)), (4, zi (pn q)), (5, zi (r))]) hx hb dX0_strike_112 hl (k := 6) rfl (by decide) rfl (fun ls hl => ?_)
                    refine lv_goto (tgt := 80) hx hb dX0_strike_115 (by decide) ?_
                    exact ih80 (i + 1) ((zup (f2) (i) ((f2) (i) + (zcl ((g2) (i) + (1000 * (h_12) (i)).tdiv (pma q)) (-1000000000) 1000000000).tdiv 1000))) ((zup (g2) (i) (zcl ((g2) (i) + (1000 * (h_12) (i)).tdiv (pma q)) (-1000000000) 1000000000))) (by omega) (by omega) (by omega) (zmid_s hf2 (by unfold znp; rw [(zmv (hm := hm) (mm := pma q) (g := g1) (g2 := g2) (hh_12 i (by omega) (by omega)) (zmid_at hg2 (by omega) (by omega)) (by unfold zms; split <;> omega)), zmid_at hf2 (by omega) (by omega)])) (zmid_s hg2 (zmv (hm := hm) (mm := pma q) (g := g1) (g2 := g2) (hh_12 i (by omega) (by omega)) (zmid_at hg2 (by omega) (by omega)) (by unfold zms; split <;> omega))) _ _ (zWe hw (by simp only [zU5_p3, zU5_p4, zU5_p5, zU5_p6, zU5_p7])) _ (lv_sub hl [1, 2, 3, 4, 5, 6, 0] rfl)
            exact L80 _ (0) (f1) (g1) (Nat.lt_succ_self _) (by omega) (by omega) (zmid_0 _ _ _) (zmid_0 _ _ _) _ _ (zWe hw (by simp only [zU5_p3, zU5_p4, zU5_p5, zU5_p6, zU5_p7])) _ (lv_sub hl [1, 2, 3, 4, 5, 6, 0] rfl)
      exact L64 _ (0) (0) (0) (F_5) (zup (F_8) (pn q) ((1000) * (v))) (h) (wv) (Nat.lt_succ_self _) rfl (by omega) (fun x h1 h2 => hF_5 x h1 (by omega)) (zro0 hF_8 (by omega) (by omega)) rfl (fun r9 h9 => absurd h9 (by omega)) _ _ (zWe hw (by simp only [zU5_p3, zU5_p4, zU5_p5, zU5_p6, zU5_p7])) _ (lv_sub hl [2, 3, 4, 5, 1, 0] rfl)
    · exact absurd c_4 (by omega)
end
section
/-! the class: what its calls answer -/
def zpf (ad : Nat → Nat) (n : Nat) : Int → Option Nat := fun i => if 0 ≤ i ∧ i < n then some (ad (40 + 4 * i.toNat)) else none
theorem zpf_s {ad : Nat → Nat} {n : Nat} {i : Int} (h0 : 0 ≤ i) (h1 : i < n) : va_rf (zpf ad n i) = .ref (ad (40 + 4 * i.toNat)) := by unfold zpf; rw [if_pos ⟨h0, h1⟩]; rfl
theorem zpf_n {ad : Nat → Nat} {n : Nat} {i : Int} (h1 : ¬ i < n) : va_rf (zpf ad n i) = .null := by unfold zpf; rw [if_neg (fun h => h1 h.2)]; rfl
abbrev zNm : List String := ["java/lang/RuntimeException", "java/lang/Exception"]
theorem zbIA : ∀ w ∈ (vx_atS RX3 116 zIA zNm).filter (fun w => !goodWord w), w ∈ zBad zIA := by decide +kernel
theorem zgIA : ∀ w ∈ Cond.classLink RX3 112 zIA :: Cond.initialized zIA :: vx_atS RX3 116 zIA zNm, vx_ot w = true := by decide +kernel
theorem zbIS : ∀ w ∈ (vx_atS RX3 42 zIS zNm).filter (fun w => !goodWord w), w ∈ zBad zIS := by decide +kernel
theorem zgIS : ∀ w ∈ Cond.classLink RX3 38 zIS :: Cond.initialized zIS :: vx_atS RX3 42 zIS zNm, vx_ot w = true := by decide +kernel
/-- at w = -100000 the head is never further down than that -/
theorem zat_low {q : zPl} (hg : zGood q) : ∀ k : Nat, zp q (-100000) k ≤ -100000 ∧ zf q (-100000) k ≤ 0
  | 0 => by
    rw [zp_0, zf_0]
    have h1 := hg.2.2.2.2.1
    have h2 := hg.2.2.2.2.2.1
    have h3 : pts q * (-100000) ≤ 0 := Int.mul_nonpos_of_nonneg_of_nonpos h1.1 (by omega)
    unfold ztf zcl; (repeat' split) <;> omega
  | k + 1 => by
    obtain ⟨h1, h2⟩ := zat_low hg k
    have h3 := hg.2.2.2.2.2.2.2.1 (pn q - 1 - k)
    have h4 := hg.2.2.2.2.2.2.2.2.1 (pn q - 1 - k)
    have h5 := hg.2.2.2.2.2.2.2.2.2 (pn q - 1 - k)
    have h6 : pst q (pn q - 1 - k) * (zp q (-100000) k - psk q (pn q - 1 - k)) ≤ 0 := Int.mul_nonpos_of_nonneg_of_nonpos h3.1 (by omega)
    have h7 : zgf q (pn q - 1 - k) (zp q (-100000) k) ≤ 0 := by unfold zgf zcl; (repeat' split) <;> omega
    have h8 : zf q (-100000) (k + 1) ≤ 0 := by rw [zf_s]; omega
    have h9 : zf q (-100000) (k + 1) / psp q ≤ 0 := by
      have := zdiv_mono hg.2.1.1 h8
      rw [Int.zero_ediv] at this; exact this
    exact ⟨by rw [zp_s]; omega, h8⟩
theorem zat_ok {q : zPl} (hg : zGood q) {s : Int} (hs : -100000 ≤ s) : -100000 ≤ zg q false s := by
  obtain ⟨h1, h2, h3, h4⟩ := zg_is q false s
  apply Decidable.byContradiction
  intro h
  have h5 := h4 (-100000) (by omega) (by omega) (by omega)
  have h6 := (zat_low hg (q.1 - 1)).1
  unfold zin at h5
  simp only [Bool.false_eq_true, if_false, decide_eq_false_iff_not] at h5
  unfold zhp at h5; omega
theorem zld_bd {q : zPl} (hg : zGood q) (w : Int) : -2200000 ≤ zld q w ∧ zld q w ≤ 2200000 := by
  have g := hg.1.2
  exact zf_bd2 hg w (by unfold pn at g; omega)
/-- the load of a group at a settlement -/
def zgl (σ : Nat → zPl) (s : Int) : Nat → Int
  | 0 => 0
  | p + 1 => zgl σ s p + if pjo (σ p) = 0 then 0 else zld (σ p) (zg (σ p) false s)
theorem zgl_bd {σ : Nat → zPl} {n : Nat} (hg : ∀ p : Nat, p < n → zGood (σ p)) (s : Int) : ∀ p : Nat, p ≤ n → -(2200000 * (p : Int)) ≤ zgl σ s p ∧ zgl σ s p ≤ 2200000 * (p : Int)
  | 0, _ => by show _ ≤ (0 : Int) ∧ (0 : Int) ≤ _; omega
  | p + 1, h => by
    have h1 := zgl_bd hg s p (by omega)
    have h2 := zld_bd (hg p (by omega)) (zg (σ p) false s)
    show _ ≤ zgl σ s p + (if _ then _ else _) ∧ zgl σ s p + (if _ then _ else _) ≤ _
    split <;> omega
def zpw : Nat → Int
  | 0 => 0
  | j + 1 => 2 ^ j
theorem zpw_half : ∀ j : Nat, (zpw (j + 1)).tdiv 2 = zpw j
  | 0 => by decide
  | j + 1 => by
    show ((2 : Int) ^ (j + 1)).tdiv 2 = 2 ^ j
    rw [Int.pow_succ, Int.mul_tdiv_cancel _ (by decide)]
theorem zpw_pos (j : Nat) : 0 < zpw (j + 1) := Int.pow_pos (by decide)
theorem zpw_bd : ∀ j : Nat, j ≤ 14 → 0 ≤ zpw j ∧ zpw j ≤ 8192 := by decide
/-- the group's settlement, by halves -/
def zgo (L : Int → Int) (load : Int) : Nat → Int → Int
  | 0, s => s
  | j + 1, s => zgo L load j (if s + zpw (j + 1) < 10000 ∧ L (s + zpw (j + 1)) ≤ load then s + zpw (j + 1) else s)
def zgs (σ : Nat → zPl) (n : Nat) (load : Int) : Int := if load < zgl σ 0 n ∨ zgl σ 10000 n ≤ load then -1000000 else zgo (fun s => zgl σ s n) load 14 0
theorem zgo_bd (L : Int → Int) (load : Int) : ∀ (j : Nat) (s : Int), 0 ≤ s → s < 10000 → 0 ≤ zgo L load j s ∧ zgo L load j s < 10000
  | 0, s, h0, h1 => ⟨h0, h1⟩
  | j + 1, s, h0, h1 => by
    have := zpw_pos j
    unfold zgo
    apply zgo_bd L load j
    · split <;> omega
    · split <;> omega
theorem zgs_bd (σ : Nat → zPl) (n : Nat) (load : Int) : zgs σ n load = -1000000 ∨ (0 ≤ zgs σ n load ∧ zgs σ n load < 10000) := by
  unfold zgs; split
  · exact Or.inl rfl
  · exact Or.inr (zgo_bd _ _ 14 0 (by omega) (by omega))
/-- does a pile under a load, by its greatest place -/
def zok (q : zPl) (load : Int) : Prop := -100000 ≤ zg q true load ∧ zg q true load < 100000
def zch (σ : Nat → zPl) (load most : Int) : Nat → Int
  | 0 => -1000000
  | p + 1 => if (zch σ load most p = -1000000 ∨ pco (σ p) < pco (σ (zch σ load most p).toNat)) ∧ (-100000 ≤ zg (σ p) true load ∧ zg (σ p) true load < 100000) ∧ zhp (σ p) (zg (σ p) true load) ≤ most then p else zch σ load most p
theorem zch_bd (σ : Nat → zPl) (load most : Int) : ∀ p : Nat, zch σ load most p = -1000000 ∨ (0 ≤ zch σ load most p ∧ zch σ load most p < p)
  | 0 => Or.inl rfl
  | p + 1 => by
    have := zch_bd σ load most p
    unfold zch; split <;> omega
def zho (q : zPl) : Nat → Int
  | 0 => 0
  | k + 1 => zho q k + (7 * pmo q k).tdiv 10
theorem zho_bd {q : zPl} (hg : zGood q) : ∀ k : Nat, 0 ≤ zho q k ∧ zho q k ≤ 100000 * (k : Int)
  | 0 => by show (0 : Int) ≤ 0 ∧ (0 : Int) ≤ _; omega
  | k + 1 => by
    have h1 := zho_bd hg k
    have h2 := hg.2.2.2.2.2.2.2.2.1 k
    have h3 : 0 ≤ (7 * pmo q k).tdiv 10 := Int.tdiv_nonneg (by omega) (by omega)
    have h4 : (7 * pmo q k).tdiv 10 ≤ 100000 := by rw [Int.tdiv_eq_ediv_of_nonneg (by omega)]; omega
    show 0 ≤ zho q k + (7 * pmo q k).tdiv 10 ∧ zho q k + (7 * pmo q k).tdiv 10 ≤ _
    omega
def zemp (σ : Nat → zPl) (n : Nat) : Prop := ∀ p : Nat, p < n → pjo (σ p) = 0
theorem zhp_bd {q : zPl} (hg : zGood q) {w : Int} (h1 : -200000 ≤ w) (h2 : w ≤ 200000) : -30000000 ≤ zhp q w ∧ zhp q w ≤ 30000000 := by
  have g := hg.1.2
  exact zp_bd2 hg h1 h2 (by unfold pn at g; omega)
end
