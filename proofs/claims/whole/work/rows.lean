section
-- ===== PART A: goes FIRST, ahead of the names: the tables' words, and 'selects' of the private methods out of them =====
/-- a private method of a class that the tables say can be made, by its rows of tables_1 -/
def lw_okq (q : MethodName × Nat) : Prop := (q.1.cls ≠ "java/lang/invoke/MethodHandle" ∧ q.1.cls ≠ "java/lang/invoke/VarHandle") ∧ Cond.instantiable q.1.cls q.2 ∈ tables_1 ∧ Cond.privateMethod q.1 ∈ tables_1 ∧ Cond.instanceMethod q.1 ∈ tables_1
theorem lw_p0 : lw_okq (⟨"java/lang/Throwable", "fillInStackTrace", "(I)Ljava/lang/Throwable;"⟩, 6) := ⟨⟨by decide +kernel, by decide +kernel⟩, List.mem_of_getElem? (i := 222) (by decide +kernel), List.mem_of_getElem? (i := 220) (by decide +kernel), List.mem_of_getElem? (i := 221) (by decide +kernel)⟩
theorem lw_p1 : lw_okq (⟨"NoisyCodes$BlockCode", "rootsFor", "(I)I"⟩, 6) := ⟨⟨by decide +kernel, by decide +kernel⟩, List.mem_of_getElem? (i := 29) (by decide +kernel), List.mem_of_getElem? (i := 279) (by decide +kernel), List.mem_of_getElem? (i := 280) (by decide +kernel)⟩
theorem lw_p2 : lw_okq (⟨"NoisyCodes$BlockCode", "polynomialOf", "(I)I"⟩, 6) := ⟨⟨by decide +kernel, by decide +kernel⟩, List.mem_of_getElem? (i := 29) (by decide +kernel), List.mem_of_getElem? (i := 283) (by decide +kernel), List.mem_of_getElem? (i := 284) (by decide +kernel)⟩
theorem lw_p3 : lw_okq (⟨"NoisyCodes$BlockCode", "multiplyByRoot", "(I)V"⟩, 6) := ⟨⟨by decide +kernel, by decide +kernel⟩, List.mem_of_getElem? (i := 29) (by decide +kernel), List.mem_of_getElem? (i := 294) (by decide +kernel), List.mem_of_getElem? (i := 295) (by decide +kernel)⟩
theorem lw_p4 : lw_okq (⟨"NoisyCodes", "clearWords", "()V"⟩, 9) := ⟨⟨by decide +kernel, by decide +kernel⟩, List.mem_of_getElem? (i := 21) (by decide +kernel), List.mem_of_getElem? (i := 308) (by decide +kernel), List.mem_of_getElem? (i := 309) (by decide +kernel)⟩
theorem lw_p5 : lw_okq (⟨"NoisyCodes", "requireCode", "()V"⟩, 9) := ⟨⟨by decide +kernel, by decide +kernel⟩, List.mem_of_getElem? (i := 21) (by decide +kernel), List.mem_of_getElem? (i := 321) (by decide +kernel), List.mem_of_getElem? (i := 322) (by decide +kernel)⟩
theorem lw_p6 : lw_okq (⟨"NoisyCodes$BlockCode", "remainderOf", "(I)I"⟩, 6) := ⟨⟨by decide +kernel, by decide +kernel⟩, List.mem_of_getElem? (i := 29) (by decide +kernel), List.mem_of_getElem? (i := 418) (by decide +kernel), List.mem_of_getElem? (i := 419) (by decide +kernel)⟩
theorem lw_p7 : lw_okq (⟨"NoisyCodes", "channelBits", "()I"⟩, 9) := ⟨⟨by decide +kernel, by decide +kernel⟩, List.mem_of_getElem? (i := 21) (by decide +kernel), List.mem_of_getElem? (i := 430) (by decide +kernel), List.mem_of_getElem? (i := 431) (by decide +kernel)⟩
theorem lw_p8 : lw_okq (⟨"NoisyCodes", "flip", "(I)V"⟩, 9) := ⟨⟨by decide +kernel, by decide +kernel⟩, List.mem_of_getElem? (i := 21) (by decide +kernel), List.mem_of_getElem? (i := 441) (by decide +kernel), List.mem_of_getElem? (i := 442) (by decide +kernel)⟩
theorem lw_p9 : lw_okq (⟨"NoisyCodes", "mend", "([II)I"⟩, 9) := ⟨⟨by decide +kernel, by decide +kernel⟩, List.mem_of_getElem? (i := 21) (by decide +kernel), List.mem_of_getElem? (i := 471) (by decide +kernel), List.mem_of_getElem? (i := 472) (by decide +kernel)⟩
theorem lw_p10 : lw_okq (⟨"NoisyCodes$Division", "fillRows", "([II)V"⟩, 4) := ⟨⟨by decide +kernel, by decide +kernel⟩, List.mem_of_getElem? (i := 112) (by decide +kernel), List.mem_of_getElem? (i := 491) (by decide +kernel), List.mem_of_getElem? (i := 492) (by decide +kernel)⟩
theorem lw_p11 : lw_okq (⟨"NoisyCodes$Mender", "placesOfErrors", "(LNoisyCodes$Field;)I"⟩, 3) := ⟨⟨by decide +kernel, by decide +kernel⟩, List.mem_of_getElem? (i := 81) (by decide +kernel), List.mem_of_getElem? (i := 532) (by decide +kernel), List.mem_of_getElem? (i := 533) (by decide +kernel)⟩
theorem lw_p12 : lw_okq (⟨"NoisyCodes$Mender", "locatorAtPower", "(LNoisyCodes$Field;I)I"⟩, 3) := ⟨⟨by decide +kernel, by decide +kernel⟩, List.mem_of_getElem? (i := 81) (by decide +kernel), List.mem_of_getElem? (i := 536) (by decide +kernel), List.mem_of_getElem? (i := 537) (by decide +kernel)⟩
theorem lw_p13 : lw_okq (⟨"NoisyCodes", "takeMended", "()V"⟩, 9) := ⟨⟨by decide +kernel, by decide +kernel⟩, List.mem_of_getElem? (i := 21) (by decide +kernel), List.mem_of_getElem? (i := 543) (by decide +kernel), List.mem_of_getElem? (i := 544) (by decide +kernel)⟩
theorem lw_p14 : lw_okq (⟨"NoisyCodesModel", "makeGenerator", "()V"⟩, 15) := ⟨⟨by decide +kernel, by decide +kernel⟩, List.mem_of_getElem? (i := 566) (by decide +kernel), List.mem_of_getElem? (i := 635) (by decide +kernel), List.mem_of_getElem? (i := 636) (by decide +kernel)⟩
theorem lw_p15 : lw_okq (⟨"NoisyCodesModel", "isZero", "(I)Z"⟩, 15) := ⟨⟨by decide +kernel, by decide +kernel⟩, List.mem_of_getElem? (i := 566) (by decide +kernel), List.mem_of_getElem? (i := 639) (by decide +kernel), List.mem_of_getElem? (i := 640) (by decide +kernel)⟩
def lw_privs_1 : List (MethodName × Nat) := [(⟨"java/lang/Throwable", "fillInStackTrace", "(I)Ljava/lang/Throwable;"⟩, 6), (⟨"NoisyCodes$BlockCode", "rootsFor", "(I)I"⟩, 6), (⟨"NoisyCodes$BlockCode", "polynomialOf", "(I)I"⟩, 6), (⟨"NoisyCodes$BlockCode", "multiplyByRoot", "(I)V"⟩, 6), (⟨"NoisyCodes", "clearWords", "()V"⟩, 9), (⟨"NoisyCodes", "requireCode", "()V"⟩, 9), (⟨"NoisyCodes$BlockCode", "remainderOf", "(I)I"⟩, 6), (⟨"NoisyCodes", "channelBits", "()I"⟩, 9), (⟨"NoisyCodes", "flip", "(I)V"⟩, 9), (⟨"NoisyCodes", "mend", "([II)I"⟩, 9), (⟨"NoisyCodes$Division", "fillRows", "([II)V"⟩, 4), (⟨"NoisyCodes$Mender", "placesOfErrors", "(LNoisyCodes$Field;)I"⟩, 3), (⟨"NoisyCodes$Mender", "locatorAtPower", "(LNoisyCodes$Field;I)I"⟩, 3), (⟨"NoisyCodes", "takeMended", "()V"⟩, 9), (⟨"NoisyCodesModel", "makeGenerator", "()V"⟩, 15), (⟨"NoisyCodesModel", "isZero", "(I)Z"⟩, 15)]
theorem lw_r1 : ∀ q ∈ lw_privs_1, lw_okq q := List.forall_mem_cons.mpr ⟨lw_p0, List.forall_mem_cons.mpr ⟨lw_p1, List.forall_mem_cons.mpr ⟨lw_p2, List.forall_mem_cons.mpr ⟨lw_p3, List.forall_mem_cons.mpr ⟨lw_p4, List.forall_mem_cons.mpr ⟨lw_p5, List.forall_mem_cons.mpr ⟨lw_p6, List.forall_mem_cons.mpr ⟨lw_p7, List.forall_mem_cons.mpr ⟨lw_p8, List.forall_mem_cons.mpr ⟨lw_p9, List.forall_mem_cons.mpr ⟨lw_p10, List.forall_mem_cons.mpr ⟨lw_p11, List.forall_mem_cons.mpr ⟨lw_p12, List.forall_mem_cons.mpr ⟨lw_p13, List.forall_mem_cons.mpr ⟨lw_p14, List.forall_mem_cons.mpr ⟨lw_p15, fun _ h => absurd h List.not_mem_nil⟩⟩⟩⟩⟩⟩⟩⟩⟩⟩⟩⟩⟩⟩⟩⟩
theorem lw_p16 : lw_okq (⟨"NoisyCodesModel", "powerOf", "(I)I"⟩, 15) := ⟨⟨by decide +kernel, by decide +kernel⟩, List.mem_of_getElem? (i := 566) (by decide +kernel), List.mem_of_getElem? (i := 643) (by decide +kernel), List.mem_of_getElem? (i := 644) (by decide +kernel)⟩
theorem lw_p17 : lw_okq (⟨"NoisyCodesModel", "messageBits", "()I"⟩, 15) := ⟨⟨by decide +kernel, by decide +kernel⟩, List.mem_of_getElem? (i := 566) (by decide +kernel), List.mem_of_getElem? (i := 671) (by decide +kernel), List.mem_of_getElem? (i := 672) (by decide +kernel)⟩
theorem lw_p18 : lw_okq (⟨"NoisyCodesModel", "remainder", "(I)I"⟩, 15) := ⟨⟨by decide +kernel, by decide +kernel⟩, List.mem_of_getElem? (i := 566) (by decide +kernel), List.mem_of_getElem? (i := 683) (by decide +kernel), List.mem_of_getElem? (i := 684) (by decide +kernel)⟩
theorem lw_p19 : lw_okq (⟨"NoisyCodesModel", "channelBits", "()I"⟩, 15) := ⟨⟨by decide +kernel, by decide +kernel⟩, List.mem_of_getElem? (i := 566) (by decide +kernel), List.mem_of_getElem? (i := 694) (by decide +kernel), List.mem_of_getElem? (i := 695) (by decide +kernel)⟩
theorem lw_p20 : lw_okq (⟨"NoisyCodesModel", "flip", "(I)V"⟩, 15) := ⟨⟨by decide +kernel, by decide +kernel⟩, List.mem_of_getElem? (i := 566) (by decide +kernel), List.mem_of_getElem? (i := 702) (by decide +kernel), List.mem_of_getElem? (i := 703) (by decide +kernel)⟩
theorem lw_p21 : lw_okq (⟨"NoisyCodesModel", "mend", "(I)I"⟩, 15) := ⟨⟨by decide +kernel, by decide +kernel⟩, List.mem_of_getElem? (i := 566) (by decide +kernel), List.mem_of_getElem? (i := 719) (by decide +kernel), List.mem_of_getElem? (i := 720) (by decide +kernel)⟩
theorem lw_p22 : lw_okq (⟨"NoisyCodesModel", "errorsOf", "(I)I"⟩, 15) := ⟨⟨by decide +kernel, by decide +kernel⟩, List.mem_of_getElem? (i := 566) (by decide +kernel), List.mem_of_getElem? (i := 723) (by decide +kernel), List.mem_of_getElem? (i := 724) (by decide +kernel)⟩
theorem lw_p23 : lw_okq (⟨"NoisyCodesModel", "take", "()V"⟩, 15) := ⟨⟨by decide +kernel, by decide +kernel⟩, List.mem_of_getElem? (i := 566) (by decide +kernel), List.mem_of_getElem? (i := 727) (by decide +kernel), List.mem_of_getElem? (i := 728) (by decide +kernel)⟩
def lw_privs_2 : List (MethodName × Nat) := [(⟨"NoisyCodesModel", "powerOf", "(I)I"⟩, 15), (⟨"NoisyCodesModel", "messageBits", "()I"⟩, 15), (⟨"NoisyCodesModel", "remainder", "(I)I"⟩, 15), (⟨"NoisyCodesModel", "channelBits", "()I"⟩, 15), (⟨"NoisyCodesModel", "flip", "(I)V"⟩, 15), (⟨"NoisyCodesModel", "mend", "(I)I"⟩, 15), (⟨"NoisyCodesModel", "errorsOf", "(I)I"⟩, 15), (⟨"NoisyCodesModel", "take", "()V"⟩, 15)]
theorem lw_r2 : ∀ q ∈ lw_privs_2, lw_okq q := List.forall_mem_cons.mpr ⟨lw_p16, List.forall_mem_cons.mpr ⟨lw_p17, List.forall_mem_cons.mpr ⟨lw_p18, List.forall_mem_cons.mpr ⟨lw_p19, List.forall_mem_cons.mpr ⟨lw_p20, List.forall_mem_cons.mpr ⟨lw_p21, List.forall_mem_cons.mpr ⟨lw_p22, List.forall_mem_cons.mpr ⟨lw_p23, fun _ h => absurd h List.not_mem_nil⟩⟩⟩⟩⟩⟩⟩⟩
def lw_privs : List (MethodName × Nat) := lw_privs_1 ++ (lw_privs_2)
def lw_tbl : List Cond := k2_sels lw_privs ++ tables_1
theorem lw_privs_ok : ∀ q ∈ lw_privs, lw_okq q := by
  show ∀ q ∈ lw_privs_1 ++ (lw_privs_2), lw_okq q
  exact List.forall_mem_append.mpr ⟨lw_r1, lw_r2⟩
end
section
/-! ===== BEGIN exceptions that leave a method, and their catching by the caller (launches without stack traces) ===== -/
section VXA
/-! The laws vx_back, vx_callV, vx_callS, vx_callSW, vx_throw0, vx_throwS follow proofs of the library, with one case more: JvmDerived/Free/Laws.lean (Back.of_free), Shelf42/LK1.lean (callV, callS), Shelf/KitTraced.lean (throwNew0V, throwNewS). -/
/-- where a method has thrown q: the class by its name, the cell, what was written, the world -/
def vx_T (XC : String → State → State → Prop) (st : State) (q : Addr) (t : State) (mc ms : Nat) (free : Addr → Prop) : Prop :=
  ∃ (E : String) (ce : Cell) (L : List Loc), XC E st t ∧ t.heap[q]? = some ce ∧ ce.vm = .none ∧ st.vm.findClass E = some ce.cls ∧ st.WarmedH t.vm ∧ st.sameButNew ({ t with vm := st.vm } : State) L mc ms ∧ ∀ z ∈ L, free z.base
def vx_Q (Qc : Array Value → State → Outcome → State → Prop) (XC : String → State → State → Prop) (mc ms : Nat) (free : Addr → Prop) : Array Value → State → Outcome → State → Prop := fun a st o t =>
  (Qc a st o t ∧ ∃ L, FrameEnd st o t L mc ms ∧ ∀ q ∈ L, free q.base) ∨ ∃ q, o = .threw q ∧ vx_T XC st q t mc ms free
/-- a callee that returns or throws -/
def vx_Met (l : Launch) (y : MethodName) (ws : List Cond) (rm : Room) (Pc : Array Value → State → Prop) (Qc : Array Value → State → Outcome → State → Prop) (XC : String → State → State → Prop) (mc ms : Nat) (free : Addr → Prop) : Prop :=
  MetFree l y (headSpec ws rm) Pc (fun _ _ _ _ _ => True) (vx_Q Qc XC mc ms free)
def vx_Post (XC : String → State → State → Prop) (mc ms : Nat) (free : Addr → Prop) : Pt → Array Value → Addr → Pt → Prop := fun A a q B =>
  ∃ (g : JFrame) (mk : MethodId) (t : State) (L : List Loc) (E : String) (ce : Cell), B.U.heap = t.heap ∧ B.U.vm = t.vm ∧ XC E (A.U.calling g mk a) t ∧ t.heap[q]? = some ce ∧ ce.vm = .none ∧ A.U.vm.findClass E = some ce.cls ∧ B.locs = A.locs ++ L ∧ (∀ z ∈ L, free z.base) ∧ B.cells = A.cells + mc ∧ B.slots = A.slots + ms
def vx_Back (l : Launch) (R : Room) (p : Program) (e : Env) (below : List Frame) (s : State) (sargs : Array Value) (y : MethodName) (len W9 : Nat)
    (Pre : Pt → Array Value → Prop) (Post : Pt → Array Value → Option Value → Pt → Prop) (PostX : Pt → Array Value → Addr → Pt → Prop) : Prop :=
  ∀ (m : MethodId) (meth : Method) (c : Code) (A : Pt) (g : JFrame) (ig : Instr) (mk : MethodId) (a : Array Value),
    Stand p l e R s m sargs below meth c A.U A.locs A.cells A.slots → g.method = m → g.locals.size = c.maxLocals → decode c.code g.pc = .ok (ig, len) →
    2 * g.monitorRoom + (g.stack.map fun v => v.category).sum ≤ W9 → A.U.methodNamed? y = some mk → Pre A a →
    (∃ (v : Option Value) (B : Pt), Stand p l e R s m sargs below meth c B.U B.locs B.cells B.slots ∧ Post A a v B ∧
      Steps p.tables e below (doInvoke e (A.U.setTop g) [] mk a).1 (B.U.setTop { g with pc := g.pc + len, stack := v.toList ++ g.stack })) ∨
    (∃ (q : Addr) (B : Pt), Stand p l e R s m sargs below meth c B.U B.locs B.cells B.slots ∧ PostX A a q B ∧
      Steps p.tables e below (doInvoke e (A.U.setTop g) [] mk a).1 ((B.U.setTop g).pushFrame (.throwing q)))
section Payer
variable {l : Launch} {R : Room} {p : Program} {e : Env} {below : List Frame} {s : State} {sargs : Array Value} {y : MethodName} {len W9 : Nat}
theorem vx_back {ws : List Cond} {rm : Room} {Pc : Array Value → State → Prop} {Qc : Array Value → State → Outcome → State → Prop} {XC : String → State → State → Prop} {mc ms : Nat} {free : Addr → Prop} {bytes : ByteArray} {maxL : Nat} {ret : Option FieldType}
    (hM : vx_Met l y ws rm Pc Qc XC mc ms free) (hblind : FrameBlind Pc) (hrc : rm.cells = mc) (hrs : rm.slots = ms)
    (hframes : rm.frames + 1 ≤ R.frames) (hlocals : W9 + (maxL + 11) + rm.locals ≤ R.locals)
    (hws : ∀ w ∈ ws, ∀ a' U, s.WarmedH U.vm → w.before a' U = true) (hcode : Cond.code y bytes maxL ret ∈ ws) (hinit : ∀ a' U, s.WarmedH U.vm → (Cond.initialized y.cls).before a' U = true) :
    vx_Back l R p e below s sargs y len W9 (PreOf R mc ms Pc) (PostOf Qc mc ms free) (vx_Post XC mc ms free) := by
  intro m meth c A g ig mk a X hg hsize hdg hW hn hp
  have h1 : (headSpec ws rm).pre.before a A.U = true := atoms_intro fun w hw => hws w hw _ _ X.warmed
  have h2 : (Cond.code y bytes maxL ret).before a A.U = true := hws _ hcode _ _ X.warmed
  have h3 : (Cond.initialized y.cls).before a A.U = true := hinit _ _ X.warmed
  have h4 : A.cells + (headSpec ws rm).room.cells ≤ R.cells := by rw [show (headSpec ws rm).room.cells = mc from hrc]; exact hp.1
  have h5 : A.slots + (headSpec ws rm).room.slots ≤ R.slots := by rw [show (headSpec ws rm).room.slots = ms from hrs]; exact hp.2.1
  have hPc : Pc a (A.U.calling g mk a) := hblind _ _ _ _ hp.2.2
  obtain ⟨U, Ls, c0, s0⟩ := A
  dsimp only [Pt.U, Pt.locs, Pt.cells, Pt.slots] at h1 h2 h3 h4 h5 X hn hPc ⊢
  obtain ⟨methY, cY, hmY, hcY, -, hlY, -, -, -, -⟩ := Cond.code_spec hn h2
  obtain ⟨kY, hkY, -⟩ := className_of_methodNamed hn
  have hinitY : kY.init = .initialized := Cond.initialized_spec (findClass_of_methodNamed hn) hkY h3
  have h : At U g.method c below := by rw [hg]; exact X.here
  have hlocals9 : W9 + (maxL + 11) + (headSpec ws rm).room.locals ≤ R.locals := hlocals
  have happ : (headSpec ws rm).appliesLoose y e.platform (U.calling g mk a) = true :=
    Spec.appliesLoose_calling (g := g) h hdg hn hkY hinitY
      (X.room_calling (g := g) (R' := (headSpec ws rm).room) hsize hmY hcY hframes (by rw [hlY]; omega) h4 h5) h1
  obtain ⟨mid, hmid⟩ := h.above
  have hfr : (U.setTop g).frames = (.java g :: mid) ++ below := by rw [State.frames_setTop' g h.top, hmid]; rfl
  obtain ⟨o, s₂, hsteps, -, hend, hq⟩ := Steps.callFree hM p X.admits X.cas X.clock (acts := []) hfr happ hPc trivial
  have hq' : vx_Q Qc XC mc ms free a (U.calling g mk a) o s₂ := hq
  rw [State.frames_setTop' g h.top] at hend
  obtain ⟨g₀, hg0⟩ := Option.isSome_iff_exists.mp h.top
  obtain ⟨r, hr⟩ := State.topJava?_eq_some.mp hg0
  have hr' : (({ U with heap := s₂.heap, slotsUsed := s₂.slotsUsed } : State).setVm s₂.vm).frames = .java g₀ :: r := hr
  rcases hq' with ⟨hqc, L, hfe, hL⟩ | ⟨q, rfl, E, ce, L, hx, hce, hcv, hcl, hW₂, hsm, hL⟩
  · obtain ⟨⟨v, rfl⟩, hW₂, e2, q2, q3, q4, q5, q6⟩ := id hfe
    have e3 : s₂ = ({ (U.calling g mk a).setFrames s₂.frames with heap := s₂.heap, slotsUsed := s₂.slotsUsed } : State).setVm s₂.vm := by
      have : s₂ = ({ s₂ with vm := (U.calling g mk a).vm } : State).setVm s₂.vm := rfl
      rw [e2] at this
      exact this
    obtain ⟨c₂, i₂, len₂, hc₂, hd₂, hf₂⟩ := hend
    have hW' : U.WarmedH s₂.vm := hW₂
    have hcc : c₂ = c := by
      have h1 : s₂.code? g.method = U.code? g.method := by
        rw [State.code?_eq, State.code?_eq, hW'.alike.method?]
      exact Option.some.inj (hc₂.symm.trans (h1.trans h.code))
    subst hcc
    have hlen : len₂ = len := by rw [hdg] at hd₂; cases hd₂; rfl
    subst hlen
    have hs₂ : s₂ = (({ U with heap := s₂.heap, slotsUsed := s₂.slotsUsed } : State).setVm s₂.vm).setTop { g with pc := g.pc + len₂, stack := v.toList ++ g.stack } := by
      refine e3.trans ?_
      rw [hf₂, State.calling_eq h.top, State.setFrames_setFrames, State.setTop_of_frames _ hr', hr]
      rfl
    have hsame : U.sameButNew ({ U with heap := s₂.heap, slotsUsed := s₂.slotsUsed } : State) L mc ms := by
      refine ⟨?_, q2, q3, q4, q5, q6⟩
      obtain ⟨t, ht, -⟩ := State.frames_cons hr
      show ({ U with heap := s₂.heap, slotsUsed := s₂.slotsUsed } : State) = { U.setFrames U.frames with heap := s₂.heap, slotsUsed := s₂.slotsUsed }
      rw [State.setFrames_self ht]
    subst hg
    refine Or.inl ⟨v, ⟨(({ U with heap := s₂.heap, slotsUsed := s₂.slotsUsed } : State).setVm s₂.vm), Ls ++ L, c0 + mc, s0 + ms⟩,
      ⟨X.admits, X.cas, X.clock, X.frames, X.room, X.hears, X.method, X.code, (X.here.setHeapUsed s₂.heap s₂.slotsUsed).setVm hW'.alike, X.tail, State.WarmedH.trans X.warmed hW', X.limits, X.bytes, X.same.trans (hsame.setVm s.vm)⟩,
      ⟨g, mk, s₂, L, rfl, rfl, hqc, rfl, hL, rfl, rfl⟩, ?_⟩
    show Steps p.tables e below _ ((({ U with heap := s₂.heap, slotsUsed := s₂.slotsUsed } : State).setVm s₂.vm).setTop { g with pc := g.pc + len₂, stack := v.toList ++ g.stack })
    rw [← hs₂]
    exact hsteps
  · obtain ⟨e2, q2, q3, q4, q5, q6⟩ := id hsm
    have e3 : s₂ = ({ (U.calling g mk a).setFrames s₂.frames with heap := s₂.heap, slotsUsed := s₂.slotsUsed } : State).setVm s₂.vm := by
      have : s₂ = ({ s₂ with vm := (U.calling g mk a).vm } : State).setVm s₂.vm := rfl
      rw [e2] at this
      exact this
    have hf₂ : s₂.frames = .throwing q :: .java g :: U.frames.tail := hend
    have hW' : U.WarmedH s₂.vm := hW₂
    have hs₂ : s₂ = ((({ U with heap := s₂.heap, slotsUsed := s₂.slotsUsed } : State).setVm s₂.vm).setTop g).pushFrame (.throwing q) := by
      refine e3.trans ?_
      rw [hf₂, State.calling_eq h.top, State.setFrames_setFrames, State.pushFrame, State.frames_setTop _ hr', State.setTop_of_frames _ hr', State.setFrames_setFrames, hr]
      rfl
    have hsame : U.sameButNew ({ U with heap := s₂.heap, slotsUsed := s₂.slotsUsed } : State) L mc ms := by
      refine ⟨?_, q2, q3, q4, q5, q6⟩
      obtain ⟨t, ht, -⟩ := State.frames_cons hr
      show ({ U with heap := s₂.heap, slotsUsed := s₂.slotsUsed } : State) = { U.setFrames U.frames with heap := s₂.heap, slotsUsed := s₂.slotsUsed }
      rw [State.setFrames_self ht]
    subst hg
    refine Or.inr ⟨q, ⟨(({ U with heap := s₂.heap, slotsUsed := s₂.slotsUsed } : State).setVm s₂.vm), Ls ++ L, c0 + mc, s0 + ms⟩,
      ⟨X.admits, X.cas, X.clock, X.frames, X.room, X.hears, X.method, X.code, (X.here.setHeapUsed s₂.heap s₂.slotsUsed).setVm hW'.alike, X.tail, State.WarmedH.trans X.warmed hW', X.limits, X.bytes, X.same.trans (hsame.setVm s.vm)⟩,
      ⟨g, mk, s₂, L, E, ce, rfl, rfl, hx, hce, hcv, hcl, rfl, hL, rfl, rfl⟩, ?_⟩
    show Steps p.tables e below _ (((({ U with heap := s₂.heap, slotsUsed := s₂.slotsUsed } : State).setVm s₂.vm).setTop g).pushFrame (.throwing q))
    rw [← hs₂]
    exact hsteps
end Payer
section Calls
variable {p : Program} {l : Launch} {e : Env} {R : Room} {s : State} {m : MethodId} {args : Array Value} {below : List Frame} {meth : Method} {c : Code} {T : State} {locs : List Loc} {cells slots : Nat}
theorem vx_callV (X : Stand p l e R s m args below meth c T locs cells slots) (hexec : p.tables.exec = Jvm.exec) {own C : String} {index : Nat} {y : MethodName} {bytes : ByteArray} {maxL : Nat} {ret : Option FieldType}
    (hown : s.vm.findClass own = some m.cls) (hlink : (Cond.methodLink own index y).before args s = true) (hinst : (Cond.instanceMethod y).before args s = true) (hsel : (Cond.selects C y y).before args s = true)
    (hcode : (Cond.code y bytes maxL ret).before args s = true) (hy : y.cls ≠ "java/lang/invoke/MethodHandle" ∧ y.cls ≠ "java/lang/invoke/VarHandle")
    {W9 : Nat} {Pre : Pt → Array Value → Prop} {Post : Pt → Array Value → Option Value → Pt → Prop} {PostX : Pt → Array Value → Addr → Pt → Prop} (hK : vx_Back l R p e below s args y 3 W9 Pre Post PostX)
    {b : Addr} {cellB : Cell} (hcell : T.heap[b]? = some cellB) (hobj : cellB.vm.isStatics = false) (hcls : s.vm.findClass C = some cellB.cls)
    {g : JFrame} (hg : g.method = m) (hsize : g.locals.size = c.maxLocals) {argsL rest : List Value} (hlen : ∀ sig, parseMethodDescriptor y.desc = some sig → argsL.length = sig.parameters.length)
    (hstack : g.stack = argsL.reverse ++ .ref b :: rest) (hW : 2 * g.monitorRoom + (rest.map fun v => v.category).sum ≤ W9) (hdg : decode c.code g.pc = .ok (.invokevirtual index, 3))
    (hpre : ∀ vm₁, s.WarmedH vm₁ → Pre ⟨T.setVm vm₁, locs, cells, slots⟩ (Value.ref b :: argsL).toArray) :
    (∃ (v : Option Value) (vm₁ : Vm) (B : Pt), s.WarmedH vm₁ ∧ Stand p l e R s m args below meth c B.U B.locs B.cells B.slots ∧ Post ⟨T.setVm vm₁, locs, cells, slots⟩ (Value.ref b :: argsL).toArray v B ∧
      ∀ target, Steps p.tables e below (B.U.setTop { g with pc := g.pc + 3, stack := v.toList ++ rest }) target → Steps p.tables e below (T.setTop g) target) ∨
    (∃ (q : Addr) (vm₁ : Vm) (B : Pt), s.WarmedH vm₁ ∧ Stand p l e R s m args below meth c B.U B.locs B.cells B.slots ∧ PostX ⟨T.setVm vm₁, locs, cells, slots⟩ (Value.ref b :: argsL).toArray q B ∧
      Steps p.tables e below (T.setTop g) ((B.U.setTop { g with stack := rest }).pushFrame (.throwing q))) := by
  obtain ⟨mk, methM, hnamed, hmethM, hstM, habM⟩ := Cond.instanceMethod_spec hinst
  obtain ⟨methM', cM, hmethM', -, -, -, -, -, -, hsigM⟩ := Cond.code_spec hnamed hcode
  cases hmethM.symm.trans hmethM'
  obtain ⟨c2, r2, m2, q1, q2, q3, q4, kP, hkP, hkPi⟩ := Cond.selects_spec hsel
  cases hcls.symm.trans q1
  cases (State.methodFound?_of_named hnamed hy).symm.trans q2
  cases hnamed.symm.trans q3
  have hselP : selectMethod e.platform s.vm cellB.cls mk = .method mk := by rw [Launch.admits_selectMethod X.admits]; exact q4
  obtain ⟨vm₁, X₁, hstep₁⟩ := X.invokevirtual hexec hown hlink hnamed hmethM hstM hkP hkPi hy (a := b) (cell := cellB) hcell
    (fun z h => by rw [h] at hobj; cases hobj) hselP hmethM habM hkP hkPi (g := g) hg (argsL := argsL) (rest := rest) (hlen _ hsigM) hstack hdg
  rcases hK m meth c ⟨T.setVm vm₁, locs, cells, slots⟩ { g with stack := rest } (.invokevirtual index) mk (Value.ref b :: argsL).toArray X₁ hg hsize hdg hW (X₁.named hnamed) (hpre vm₁ X₁.warmed) with ⟨v, B, X', hpost, hsteps⟩ | ⟨q, B, X', hpost, hsteps⟩
  · exact Or.inl ⟨v, vm₁, B, X₁.warmed, X', hpost, fun target h => hstep₁ _ fun acts => by rw [doInvoke_state]; exact hsteps.trans h⟩
  · exact Or.inr ⟨q, vm₁, B, X₁.warmed, X', hpost, hstep₁ _ fun acts => by rw [doInvoke_state]; exact hsteps⟩
theorem vx_callS (X : Stand p l e R s m args below meth c T locs cells slots) (hexec : p.tables.exec = Jvm.exec) {own : String} {index : Nat} {y : MethodName} {bytes : ByteArray} {maxL : Nat} {ret : Option FieldType}
    (hown : s.vm.findClass own = some m.cls) (hlink : (Cond.methodLink own index y).before args s = true) (hstat : (Cond.static y).before args s = true) (hinit : (Cond.initialized y.cls).before args s = true)
    (hcode : (Cond.code y bytes maxL ret).before args s = true) (hy : y.cls ≠ "java/lang/invoke/MethodHandle" ∧ y.cls ≠ "java/lang/invoke/VarHandle")
    {W9 : Nat} {Pre : Pt → Array Value → Prop} {Post : Pt → Array Value → Option Value → Pt → Prop} {PostX : Pt → Array Value → Addr → Pt → Prop} (hK : vx_Back l R p e below s args y 3 W9 Pre Post PostX)
    {g : JFrame} (hg : g.method = m) (hsize : g.locals.size = c.maxLocals) {argsL rest : List Value} (hlen : ∀ sig, parseMethodDescriptor y.desc = some sig → argsL.length = sig.parameters.length)
    (hstack : g.stack = argsL.reverse ++ rest) (hW : 2 * g.monitorRoom + (rest.map fun v => v.category).sum ≤ W9) (hdg : decode c.code g.pc = .ok (.invokestatic index, 3))
    (hpre : ∀ vm₁, s.WarmedH vm₁ → Pre ⟨T.setVm vm₁, locs, cells, slots⟩ argsL.toArray) :
    (∃ (v : Option Value) (vm₁ : Vm) (B : Pt), s.WarmedH vm₁ ∧ Stand p l e R s m args below meth c B.U B.locs B.cells B.slots ∧ Post ⟨T.setVm vm₁, locs, cells, slots⟩ argsL.toArray v B ∧
      ∀ target, Steps p.tables e below (B.U.setTop { g with pc := g.pc + 3, stack := v.toList ++ rest }) target → Steps p.tables e below (T.setTop g) target) ∨
    (∃ (q : Addr) (vm₁ : Vm) (B : Pt), s.WarmedH vm₁ ∧ Stand p l e R s m args below meth c B.U B.locs B.cells B.slots ∧ PostX ⟨T.setVm vm₁, locs, cells, slots⟩ argsL.toArray q B ∧
      Steps p.tables e below (T.setTop g) ((B.U.setTop { g with stack := rest }).pushFrame (.throwing q))) := by
  obtain ⟨mk, hnamed⟩ := Cond.code_named hcode
  obtain ⟨methM, cM, hmethM, -, -, -, -, -, -, hsigM⟩ := Cond.code_spec hnamed hcode
  have hstatic : methM.isStatic = true := Cond.static_spec hnamed hmethM hstat
  obtain ⟨kP, hkP, -⟩ := className_of_methodNamed hnamed
  have hinitP : kP.init = .initialized := Cond.initialized_spec (findClass_of_methodNamed hnamed) hkP hinit
  obtain ⟨vm₁, X₁, hstep₁⟩ := X.invokestatic hexec hown hlink hnamed hmethM hstatic hkP hinitP hy (g := g) hg (argsL := argsL) (rest := rest) (hlen _ hsigM) hstack hdg
  rcases hK m meth c ⟨T.setVm vm₁, locs, cells, slots⟩ { g with stack := rest } (.invokestatic index) mk argsL.toArray X₁ hg hsize hdg hW (X₁.named hnamed) (hpre vm₁ X₁.warmed) with ⟨v, B, X', hpost, hsteps⟩ | ⟨q, B, X', hpost, hsteps⟩
  · exact Or.inl ⟨v, vm₁, B, X₁.warmed, X', hpost, fun target h => hstep₁ _ fun acts => by rw [doInvoke_state]; exact hsteps.trans h⟩
  · exact Or.inr ⟨q, vm₁, B, X₁.warmed, X', hpost, hstep₁ _ fun acts => by rw [doInvoke_state]; exact hsteps⟩
end Calls
theorem vx_cls {s : State} {T : State} {vm₁ : Vm} {E : String} {k : ClassId} (hW : s.WarmedH vm₁) (h : (T.setVm vm₁).vm.findClass E = some k) : s.vm.findClass E = some k := by
  have h1 : vm₁.findClass E = some k := h
  rw [hW.alike.findClass] at h1
  exact h1
/-- the method's frame g, with q thrown over it -/
def vx_W (p : Program) (l : Launch) (e : Env) (R : Room) (s : State) (m : MethodId) (args : Array Value) (below : List Frame) (meth : Method) (c : Code) (H : Heap) (locs : List Loc) (cells slots : Nat) (Q : State → Prop) (g : JFrame) (q : Addr) : Prop :=
  ∀ T : State, T.heap = H → Stand p l e R s m args below meth c T locs cells slots → ∃ t, Steps p.tables e below ((T.setTop g).pushFrame (.throwing q)) t ∧ Q t
def vx_Run (p : Program) (l : Launch) (e : Env) (R : Room) (s : State) (m : MethodId) (args : Array Value) (below : List Frame) (meth : Method) (c : Code) (H : Heap) (locs : List Loc) (cells slots mc ms : Nat) (g : JFrame) (rest : List Value) (Qa : State → Outcome → State → Prop) (XC : String → State → State → Prop) (free : Addr → Prop) : Prop :=
  ∀ T : State, T.heap = H → Stand p l e R s m args below meth c T locs cells slots →
    (∃ (v : Option Value) (st₀ t T' : State) (L : List Loc), st₀.heap = H ∧ Stand p l e R s m args below meth c T' (locs ++ L) (cells + mc) (slots + ms) ∧ (∀ q ∈ L, free q.base) ∧ T'.heap = t.heap ∧ T'.vm = t.vm ∧ Qa st₀ (.returned v) t ∧
      Goes p e below T g T' { g with pc := g.pc + 3, stack := v.toList ++ rest }) ∨
    (∃ (q : Addr) (st₀ t T' : State) (L : List Loc) (E : String) (ce : Cell), st₀.heap = H ∧ Stand p l e R s m args below meth c T' (locs ++ L) (cells + mc) (slots + ms) ∧ (∀ z ∈ L, free z.base) ∧ T'.heap = t.heap ∧ T'.vm = t.vm ∧ XC E st₀ t ∧ t.heap[q]? = some ce ∧ ce.vm = .none ∧ s.vm.findClass E = some ce.cls ∧
      Steps p.tables e below (T.setTop g) ((T'.setTop { g with stack := rest }).pushFrame (.throwing q)))
def vx_X {S : Type} (px : S → Prop) (B : String → S → State → Prop) (A : Nat → Prop) : String → State → State → Prop := fun E st t => ∃ u : S, px u ∧ B E u t ∧ va_F A st t
section Runs
variable {p : Program} {l : Launch} {e : Env} {R : Room} {s : State} {m : MethodId} {args : Array Value} {below : List Frame} {meth : Method} {c : Code} {H : Heap} {locs : List Loc} {cells slots : Nat}
variable {y : MethodName} {bytes cc : ByteArray} {maxL nL mc ms n index : Nat} {ret : Option FieldType} {ws : List Cond} {rm : Room} {Pc : Array Value → State → Prop} {Qc : Array Value → State → Outcome → State → Prop} {XC : String → State → State → Prop} {free : Addr → Prop} {Ts : List Cond} {own C : String} {b : Addr} {As rest : List Value} {g : JFrame}
theorem vx_callBack (cb : CallB R s args own index y bytes maxL ret ws rm mc ms n) (hM : vx_Met l y ws rm Pc Qc XC mc ms free) (hbl : FrameBlind Pc) : vx_Back l R p e below s args y 3 8 (PreOf R mc ms Pc) (PostOf Qc mc ms free) (vx_Post XC mc ms free) := by
  obtain ⟨hrc, hrs, hfr, hlo, hws, hcw, -, hini, -⟩ := cb
  exact vx_back (bytes := bytes) (maxL := maxL) (ret := ret) hM hbl hrc hrs hfr hlo hws hcw (fun a' U hW => word_at hW (Or.inl (by first | rfl | simp [Cond.onTables, Cond.keeps, Cond.steady])) hini)
theorem vx_runV (S : CallFix p m c cc nL s args Ts own) (hM : vx_Met l y ws rm Pc Qc XC mc ms free) (cw : CallW R s args own C index y bytes maxL ret ws rm mc ms n) (hp : PreV s H C b Pc As)
    (hg : g.method = m) (hn : As.length = n) (hsize : g.locals.size = nL) (hstack : g.stack = As.reverse ++ .ref b :: rest) (hW : 2 * g.monitorRoom + (rest.map fun v => v.category).sum ≤ 8) (hdg : decode cc g.pc = .ok (.invokevirtual index, 3)) (hf : cells + mc ≤ R.cells ∧ slots + ms ≤ R.slots) :
    vx_Run p l e R s m args below meth c H locs cells slots mc ms g rest (Qc (Value.ref b :: As).toArray) XC free := by
  have hK : vx_Back l R p e below s args y 3 8 (PreOf R mc ms Pc) (PostOf Qc mc ms free) (vx_Post XC mc ms free) := vx_callBack cw.1 hM hp.1
  obtain ⟨⟨-, -, -, -, -, -, hcode, -, hy, hlen, hl⟩, hin, hse⟩ := cw
  obtain ⟨hx, hb, hml, ho, -⟩ := S
  obtain ⟨-, ⟨cellB, hcB, hoB, hclB⟩, hPc⟩ := hp
  intro T hT X
  rcases vx_callV X hx (C := C) (bytes := bytes) (maxL := maxL) (ret := ret) ho hl hin hse hcode hy hK (by rw [hT]; exact hcB) hoB hclB hg (hsize.trans hml.symm) (argsL := As) (rest := rest) (fun sig h => hn.trans (hlen sig h)) hstack hW (by rw [hb]; exact hdg)
    (fun vm₁ hW₁ => ⟨hf.1, hf.2, hPc (T.setVm vm₁) hT hW₁⟩) with ⟨v, vm₁, ⟨U', l2, c2, s2⟩, hW₁, X', ⟨g', mk, t, L, e1, e2, hq, h1, hL, h2, h3⟩, st⟩ | ⟨q, vm₁, ⟨U', l2, c2, s2⟩, hW₁, X', ⟨g', mk, t, L, E, ce, e1, e2, hq, hce, hcv, hcl, h1, hL, h2, h3⟩, st⟩
  · dsimp only [Pt.U, Pt.locs, Pt.cells, Pt.slots] at X' e1 e2 h1 h2 h3 st
    subst h1; subst h2; subst h3
    exact Or.inl ⟨v, (T.setVm vm₁).calling g' mk (Value.ref b :: As).toArray, t, U', L, hT, X', hL, e1, e2, hq, st⟩
  · dsimp only [Pt.U, Pt.locs, Pt.cells, Pt.slots] at X' e1 e2 h1 h2 h3 st hcl
    subst h1; subst h2; subst h3
    exact Or.inr ⟨q, (T.setVm vm₁).calling g' mk (Value.ref b :: As).toArray, t, U', L, E, ce, hT, X', hL, e1, e2, hq, hce, hcv, vx_cls hW₁ hcl, st⟩
theorem vx_runS (S : CallFix p m c cc nL s args Ts own) (hM : vx_Met l y ws rm Pc Qc XC mc ms free) (cw : CallB R s args own index y bytes maxL ret ws rm mc ms n ∧ (Cond.static y).before args s = true) (hp : PreS s H Pc As)
    (hg : g.method = m) (hn : As.length = n) (hsize : g.locals.size = nL) (hstack : g.stack = As.reverse ++ rest) (hW : 2 * g.monitorRoom + (rest.map fun v => v.category).sum ≤ 8) (hdg : decode cc g.pc = .ok (.invokestatic index, 3)) (hf : cells + mc ≤ R.cells ∧ slots + ms ≤ R.slots) :
    vx_Run p l e R s m args below meth c H locs cells slots mc ms g rest (Qc As.toArray) XC free := by
  have hK : vx_Back l R p e below s args y 3 8 (PreOf R mc ms Pc) (PostOf Qc mc ms free) (vx_Post XC mc ms free) := vx_callBack cw.1 hM hp.1
  obtain ⟨⟨-, -, -, -, -, -, hcode, hini, hy, hlen, hl⟩, hstt⟩ := cw
  obtain ⟨hx, hb, hml, ho, -⟩ := S
  intro T hT X
  rcases vx_callS X hx (bytes := bytes) (maxL := maxL) (ret := ret) ho hl hstt hini hcode hy hK hg (hsize.trans hml.symm) (argsL := As) (rest := rest) (fun sig h => hn.trans (hlen sig h)) hstack hW (by rw [hb]; exact hdg)
    (fun vm₁ hW₁ => ⟨hf.1, hf.2, hp.2 (T.setVm vm₁) hT hW₁⟩) with ⟨v, vm₁, ⟨U', l2, c2, s2⟩, hW₁, X', ⟨g', mk, t, L, e1, e2, hq, h1, hL, h2, h3⟩, st⟩ | ⟨q, vm₁, ⟨U', l2, c2, s2⟩, hW₁, X', ⟨g', mk, t, L, E, ce, e1, e2, hq, hce, hcv, hcl, h1, hL, h2, h3⟩, st⟩
  · dsimp only [Pt.U, Pt.locs, Pt.cells, Pt.slots] at X' e1 e2 h1 h2 h3 st
    subst h1; subst h2; subst h3
    exact Or.inl ⟨v, (T.setVm vm₁).calling g' mk As.toArray, t, U', L, hT, X', hL, e1, e2, hq, st⟩
  · dsimp only [Pt.U, Pt.locs, Pt.cells, Pt.slots] at X' e1 e2 h1 h2 h3 st hcl
    subst h1; subst h2; subst h3
    exact Or.inr ⟨q, (T.setVm vm₁).calling g' mk As.toArray, t, U', L, E, ce, hT, X', hL, e1, e2, hq, hce, hcv, vx_cls hW₁ hcl, st⟩
end Runs
section Rows
variable {p : Program} {l : Launch} {e : Env} {R : Room} {s : State} {m : MethodId} {args : Array Value} {below : List Frame} {meth : Method} {c : Code} {H : Heap} {locs : List Loc} {cells slots : Nat} {Q : State → Prop}
variable {mc ms : Nat} {free : Addr → Prop} {A0 A1 : Nat → Prop} {H0 : Heap} {a : Array Value} {pc : Nat} {ls : Array Slot} {st0 rest : List Value}
theorem vx_keep {st₀ t T' : State} {L : List Loc} (h0 : st₀.heap = H) (e1 : T'.heap = t.heap) (hS : va_S A0 H0 H locs) (hA : ∀ q, q < H.size → A1 q → A0 q) (hf : ∀ q, free q → A0 q) (hL : ∀ q ∈ L, free q.base) (hF : va_F A1 st₀ t) :
    H.size ≤ T'.heap.size ∧ (∀ q : Nat, q < H.size → ¬ A1 q → T'.heap[q]? = H[q]?) ∧ va_S A0 H0 T'.heap (locs ++ L) := by
  obtain ⟨hz, hk⟩ := hF
  rw [h0] at hz hk
  exact ⟨by rw [e1]; exact hz, fun q h1 h2 => by rw [e1]; exact hk q h1 h2,
    ⟨Nat.le_trans hS.1 (by rw [e1]; exact hz), fun q h1 h2 => by rw [e1, hk q (Nat.lt_of_lt_of_le h1 hS.1) (fun z => h2 (hA q (Nat.lt_of_lt_of_le h1 hS.1) z))]; exact hS.2.1 q h1 h2, fun q hq => by
      rcases List.mem_append.mp hq with h | h
      · exact hS.2.2 q h
      · exact hf _ (hL q h)⟩⟩
theorem vx_calli {S SX : Type} {post : Int32 → S → Prop} {px : SX → Prop} {B : S → State → Prop} {BX : String → SX → State → Prop} {AX : Nat → Prop} (hr : vx_Run p l e R s m args below meth c H locs cells slots mc ms (F0 m pc ls st0) rest (va_Qi post B A1 a) (vx_X px BX AX) free) (hS : va_S A0 H0 H locs) (hA : ∀ q, q < H.size → A1 q → A0 q) (hf : ∀ q, free q → A0 q) (hAX : ∀ q, q < H.size → AX q → A0 q)
    (kx : ∀ (E : String) (ce : Cell) (q9 : Addr) (u : SX) (t : State) (H1 : Heap) (locs1 : List Loc), t.heap = H1 → s.vm.Alike t.vm → px u → BX E u t → H.size ≤ H1.size → (∀ q : Nat, q < H.size → ¬ AX q → H1[q]? = H[q]?) → va_S A0 H0 H1 locs1 → H1[q9]? = some ce → ce.vm = .none → s.vm.findClass E = some ce.cls → vx_W p l e R s m args below meth c H1 locs1 (cells + mc) (slots + ms) Q (F0 m pc ls rest) q9)
    (kk : ∀ (r : Int32) (u : S) (t : State) (H1 : Heap) (locs1 : List Loc), t.heap = H1 → s.vm.Alike t.vm → post r u → B u t → H.size ≤ H1.size → (∀ q : Nat, q < H.size → ¬ A1 q → H1[q]? = H[q]?) → va_S A0 H0 H1 locs1 → W p l e R s m args below meth c H1 locs1 (cells + mc) (slots + ms) Q (F0 m (pc + 3) ls (.int r :: rest))) : W p l e R s m args below meth c H locs cells slots Q (F0 m pc ls st0) := by
  intro T hT X
  rcases hr T hT X with ⟨v, st₀, t, T', L, h0, X', hL, e1, e2, ⟨⟨r, u, hv, hp, hb⟩, hF⟩, st⟩ | ⟨q, st₀, t, T', L, E, ce, h0, X', hL, e1, e2, ⟨u, hp, hb, hF⟩, hce, hcv, hcl, st⟩
  · cases hv
    obtain ⟨k1, k2, k3⟩ := vx_keep h0 e1 hS hA hf hL hF
    obtain ⟨t2, a1, b1⟩ := kk r u t T'.heap (locs ++ L) e1.symm (by rw [← e2]; exact X'.warmed.alike) hp hb k1 k2 k3 T' rfl X'
    exact ⟨t2, st t2 a1, b1⟩
  · obtain ⟨k1, k2, k3⟩ := vx_keep h0 e1 hS hAX hf hL hF
    obtain ⟨t2, a1, b1⟩ := kx E ce q u t T'.heap (locs ++ L) e1.symm (by rw [← e2]; exact X'.warmed.alike) hp hb k1 k2 k3 (by rw [e1]; exact hce) hcv hcl T' rfl X'
    exact ⟨t2, st.trans a1, b1⟩
theorem vx_calll {S SX : Type} {post : Int64 → S → Prop} {px : SX → Prop} {B : S → State → Prop} {BX : String → SX → State → Prop} {AX : Nat → Prop} (hr : vx_Run p l e R s m args below meth c H locs cells slots mc ms (F0 m pc ls st0) rest (va_Ql post B A1 a) (vx_X px BX AX) free) (hS : va_S A0 H0 H locs) (hA : ∀ q, q < H.size → A1 q → A0 q) (hf : ∀ q, free q → A0 q) (hAX : ∀ q, q < H.size → AX q → A0 q)
    (kx : ∀ (E : String) (ce : Cell) (q9 : Addr) (u : SX) (t : State) (H1 : Heap) (locs1 : List Loc), t.heap = H1 → s.vm.Alike t.vm → px u → BX E u t → H.size ≤ H1.size → (∀ q : Nat, q < H.size → ¬ AX q → H1[q]? = H[q]?) → va_S A0 H0 H1 locs1 → H1[q9]? = some ce → ce.vm = .none → s.vm.findClass E = some ce.cls → vx_W p l e R s m args below meth c H1 locs1 (cells + mc) (slots + ms) Q (F0 m pc ls rest) q9)
    (kk : ∀ (r : Int64) (u : S) (t : State) (H1 : Heap) (locs1 : List Loc), t.heap = H1 → s.vm.Alike t.vm → post r u → B u t → H.size ≤ H1.size → (∀ q : Nat, q < H.size → ¬ A1 q → H1[q]? = H[q]?) → va_S A0 H0 H1 locs1 → W p l e R s m args below meth c H1 locs1 (cells + mc) (slots + ms) Q (F0 m (pc + 3) ls (.long r :: rest))) : W p l e R s m args below meth c H locs cells slots Q (F0 m pc ls st0) := by
  intro T hT X
  rcases hr T hT X with ⟨v, st₀, t, T', L, h0, X', hL, e1, e2, ⟨⟨r, u, hv, hp, hb⟩, hF⟩, st⟩ | ⟨q, st₀, t, T', L, E, ce, h0, X', hL, e1, e2, ⟨u, hp, hb, hF⟩, hce, hcv, hcl, st⟩
  · cases hv
    obtain ⟨k1, k2, k3⟩ := vx_keep h0 e1 hS hA hf hL hF
    obtain ⟨t2, a1, b1⟩ := kk r u t T'.heap (locs ++ L) e1.symm (by rw [← e2]; exact X'.warmed.alike) hp hb k1 k2 k3 T' rfl X'
    exact ⟨t2, st t2 a1, b1⟩
  · obtain ⟨k1, k2, k3⟩ := vx_keep h0 e1 hS hAX hf hL hF
    obtain ⟨t2, a1, b1⟩ := kx E ce q u t T'.heap (locs ++ L) e1.symm (by rw [← e2]; exact X'.warmed.alike) hp hb k1 k2 k3 (by rw [e1]; exact hce) hcv hcl T' rfl X'
    exact ⟨t2, st.trans a1, b1⟩
theorem vx_callf {S SX : Type} {post : UInt32 → S → Prop} {px : SX → Prop} {B : S → State → Prop} {BX : String → SX → State → Prop} {AX : Nat → Prop} (hr : vx_Run p l e R s m args below meth c H locs cells slots mc ms (F0 m pc ls st0) rest (va_Qf post B A1 a) (vx_X px BX AX) free) (hS : va_S A0 H0 H locs) (hA : ∀ q, q < H.size → A1 q → A0 q) (hf : ∀ q, free q → A0 q) (hAX : ∀ q, q < H.size → AX q → A0 q)
    (kx : ∀ (E : String) (ce : Cell) (q9 : Addr) (u : SX) (t : State) (H1 : Heap) (locs1 : List Loc), t.heap = H1 → s.vm.Alike t.vm → px u → BX E u t → H.size ≤ H1.size → (∀ q : Nat, q < H.size → ¬ AX q → H1[q]? = H[q]?) → va_S A0 H0 H1 locs1 → H1[q9]? = some ce → ce.vm = .none → s.vm.findClass E = some ce.cls → vx_W p l e R s m args below meth c H1 locs1 (cells + mc) (slots + ms) Q (F0 m pc ls rest) q9)
    (kk : ∀ (r : UInt32) (u : S) (t : State) (H1 : Heap) (locs1 : List Loc), t.heap = H1 → s.vm.Alike t.vm → post r u → B u t → H.size ≤ H1.size → (∀ q : Nat, q < H.size → ¬ A1 q → H1[q]? = H[q]?) → va_S A0 H0 H1 locs1 → W p l e R s m args below meth c H1 locs1 (cells + mc) (slots + ms) Q (F0 m (pc + 3) ls (.float r :: rest))) : W p l e R s m args below meth c H locs cells slots Q (F0 m pc ls st0) := by
  intro T hT X
  rcases hr T hT X with ⟨v, st₀, t, T', L, h0, X', hL, e1, e2, ⟨⟨r, u, hv, hp, hb⟩, hF⟩, st⟩ | ⟨q, st₀, t, T', L, E, ce, h0, X', hL, e1, e2, ⟨u, hp, hb, hF⟩, hce, hcv, hcl, st⟩
  · cases hv
    obtain ⟨k1, k2, k3⟩ := vx_keep h0 e1 hS hA hf hL hF
    obtain ⟨t2, a1, b1⟩ := kk r u t T'.heap (locs ++ L) e1.symm (by rw [← e2]; exact X'.warmed.alike) hp hb k1 k2 k3 T' rfl X'
    exact ⟨t2, st t2 a1, b1⟩
  · obtain ⟨k1, k2, k3⟩ := vx_keep h0 e1 hS hAX hf hL hF
    obtain ⟨t2, a1, b1⟩ := kx E ce q u t T'.heap (locs ++ L) e1.symm (by rw [← e2]; exact X'.warmed.alike) hp hb k1 k2 k3 (by rw [e1]; exact hce) hcv hcl T' rfl X'
    exact ⟨t2, st.trans a1, b1⟩
theorem vx_calld {S SX : Type} {post : UInt64 → S → Prop} {px : SX → Prop} {B : S → State → Prop} {BX : String → SX → State → Prop} {AX : Nat → Prop} (hr : vx_Run p l e R s m args below meth c H locs cells slots mc ms (F0 m pc ls st0) rest (va_Qd post B A1 a) (vx_X px BX AX) free) (hS : va_S A0 H0 H locs) (hA : ∀ q, q < H.size → A1 q → A0 q) (hf : ∀ q, free q → A0 q) (hAX : ∀ q, q < H.size → AX q → A0 q)
    (kx : ∀ (E : String) (ce : Cell) (q9 : Addr) (u : SX) (t : State) (H1 : Heap) (locs1 : List Loc), t.heap = H1 → s.vm.Alike t.vm → px u → BX E u t → H.size ≤ H1.size → (∀ q : Nat, q < H.size → ¬ AX q → H1[q]? = H[q]?) → va_S A0 H0 H1 locs1 → H1[q9]? = some ce → ce.vm = .none → s.vm.findClass E = some ce.cls → vx_W p l e R s m args below meth c H1 locs1 (cells + mc) (slots + ms) Q (F0 m pc ls rest) q9)
    (kk : ∀ (r : UInt64) (u : S) (t : State) (H1 : Heap) (locs1 : List Loc), t.heap = H1 → s.vm.Alike t.vm → post r u → B u t → H.size ≤ H1.size → (∀ q : Nat, q < H.size → ¬ A1 q → H1[q]? = H[q]?) → va_S A0 H0 H1 locs1 → W p l e R s m args below meth c H1 locs1 (cells + mc) (slots + ms) Q (F0 m (pc + 3) ls (.double r :: rest))) : W p l e R s m args below meth c H locs cells slots Q (F0 m pc ls st0) := by
  intro T hT X
  rcases hr T hT X with ⟨v, st₀, t, T', L, h0, X', hL, e1, e2, ⟨⟨r, u, hv, hp, hb⟩, hF⟩, st⟩ | ⟨q, st₀, t, T', L, E, ce, h0, X', hL, e1, e2, ⟨u, hp, hb, hF⟩, hce, hcv, hcl, st⟩
  · cases hv
    obtain ⟨k1, k2, k3⟩ := vx_keep h0 e1 hS hA hf hL hF
    obtain ⟨t2, a1, b1⟩ := kk r u t T'.heap (locs ++ L) e1.symm (by rw [← e2]; exact X'.warmed.alike) hp hb k1 k2 k3 T' rfl X'
    exact ⟨t2, st t2 a1, b1⟩
  · obtain ⟨k1, k2, k3⟩ := vx_keep h0 e1 hS hAX hf hL hF
    obtain ⟨t2, a1, b1⟩ := kx E ce q u t T'.heap (locs ++ L) e1.symm (by rw [← e2]; exact X'.warmed.alike) hp hb k1 k2 k3 (by rw [e1]; exact hce) hcv hcl T' rfl X'
    exact ⟨t2, st.trans a1, b1⟩
theorem vx_callv {S SX : Type} {post : S → Prop} {px : SX → Prop} {B : S → State → Prop} {BX : String → SX → State → Prop} {AX : Nat → Prop} (hr : vx_Run p l e R s m args below meth c H locs cells slots mc ms (F0 m pc ls st0) rest (va_Qv post B A1 a) (vx_X px BX AX) free) (hS : va_S A0 H0 H locs) (hA : ∀ q, q < H.size → A1 q → A0 q) (hf : ∀ q, free q → A0 q) (hAX : ∀ q, q < H.size → AX q → A0 q)
    (kx : ∀ (E : String) (ce : Cell) (q9 : Addr) (u : SX) (t : State) (H1 : Heap) (locs1 : List Loc), t.heap = H1 → s.vm.Alike t.vm → px u → BX E u t → H.size ≤ H1.size → (∀ q : Nat, q < H.size → ¬ AX q → H1[q]? = H[q]?) → va_S A0 H0 H1 locs1 → H1[q9]? = some ce → ce.vm = .none → s.vm.findClass E = some ce.cls → vx_W p l e R s m args below meth c H1 locs1 (cells + mc) (slots + ms) Q (F0 m pc ls rest) q9)
    (kk : ∀ (u : S) (t : State) (H1 : Heap) (locs1 : List Loc), t.heap = H1 → s.vm.Alike t.vm → post u → B u t → H.size ≤ H1.size → (∀ q : Nat, q < H.size → ¬ A1 q → H1[q]? = H[q]?) → va_S A0 H0 H1 locs1 → W p l e R s m args below meth c H1 locs1 (cells + mc) (slots + ms) Q (F0 m (pc + 3) ls (rest))) : W p l e R s m args below meth c H locs cells slots Q (F0 m pc ls st0) := by
  intro T hT X
  rcases hr T hT X with ⟨v, st₀, t, T', L, h0, X', hL, e1, e2, ⟨⟨u, hv, hp, hb⟩, hF⟩, st⟩ | ⟨q, st₀, t, T', L, E, ce, h0, X', hL, e1, e2, ⟨u, hp, hb, hF⟩, hce, hcv, hcl, st⟩
  · cases hv
    obtain ⟨k1, k2, k3⟩ := vx_keep h0 e1 hS hA hf hL hF
    obtain ⟨t2, a1, b1⟩ := kk u t T'.heap (locs ++ L) e1.symm (by rw [← e2]; exact X'.warmed.alike) hp hb k1 k2 k3 T' rfl X'
    exact ⟨t2, st t2 a1, b1⟩
  · obtain ⟨k1, k2, k3⟩ := vx_keep h0 e1 hS hAX hf hL hF
    obtain ⟨t2, a1, b1⟩ := kx E ce q u t T'.heap (locs ++ L) e1.symm (by rw [← e2]; exact X'.warmed.alike) hp hb k1 k2 k3 (by rw [e1]; exact hce) hcv hcl T' rfl X'
    exact ⟨t2, st.trans a1, b1⟩
/-- caught by the row x of this method's table; the rows ahead don't take it -/
theorem vx_catch {own name : String} {E : String} {ce : Cell} {q : Addr} (hown : s.vm.findClass own = some m.cls) (pre : List ExceptionTableEntry) (x : ExceptionTableEntry) (suf : List ExceptionTableEntry) (hsplit : c.exceptionTable.toList = pre ++ x :: suf)
    (hpass : ∀ z ∈ pre, covers z pc = false ∨ (z.catchType ≠ 0 ∧ ∃ nm : String, (Cond.classLink own z.catchType nm).before args s = true ∧ va_Nc E nm s)) (hx : covers x pc = true) (h0 : x.catchType ≠ 0)
    (hlink : (Cond.classLink own x.catchType name).before args s = true) (hcast : (Cond.castable E name).before args s = true) (hcell : H[q]? = some ce) (hv : ce.vm = .none) (hcl : s.vm.findClass E = some ce.cls)
    (kk : W p l e R s m args below meth c H locs cells slots Q (F0 m x.handlerPc ls [.ref q])) : vx_W p l e R s m args below meth c H locs cells slots Q (F0 m pc ls rest) q := by
  intro T hT X
  have hpl : e.platform.magicAccessors = ({} : Platform).magicAccessors := by rw [X.admits.platform]
  obtain ⟨c3, c4, hc3, hc4, hasg⟩ := Cond.castable_spec hcast
  cases Option.some.inj (hc3.symm.trans hcl)
  obtain ⟨c5, hc5, hcl5⟩ := Cond.classLink_spec hown hlink e.platform hpl
  cases Option.some.inj (hc4.symm.trans hc5)
  obtain ⟨vm', X', st⟩ := X.thenCaughtThrough q (g := F0 m pc ls rest) rfl (Steps.refl _) (by rw [hT]; exact hcell) (by rw [hv]; rfl) (by obtain ⟨k9, h9, -⟩ := Vm.findClass_spec hcl; exact ⟨k9, h9⟩) pre x suf hsplit
    (fun z hz => by
      rcases hpass z hz with h | ⟨hz0, nm, hl1, hn1⟩
      · exact Or.inl h
      · obtain ⟨c6, hc6, hcl6⟩ := Cond.classLink_spec hown hl1 e.platform hpl
        obtain ⟨a8, b8, h1, h2, h3⟩ := hn1
        cases Option.some.inj (h1.symm.trans hcl)
        cases Option.some.inj (h2.symm.trans hc6)
        exact Or.inr ⟨hz0, _, hcl6, h3⟩) hx (Or.inr ⟨h0, c4, hcl5, hasg⟩)
  obtain ⟨t, a1, b1⟩ := kk (T.setVm vm') hT X'
  exact ⟨t, st.trans a1, b1⟩
end Rows
section Ends
variable {p : Program} {l : Launch} {e : Env} {R : Room} {s : State} {m : MethodId} {args : Array Value} {below : List Frame} {meth : Method} {c : Code} {H : Heap} {locs : List Loc} {cells slots : Nat} {Q : State → Prop}
variable {mc ms : Nat} {free : Addr → Prop} {A0 A1 : Nat → Prop} {H0 : Heap} {a : Array Value} {ls : Array Slot} {st0 rest : List Value}
variable {Qc : Array Value → State → Outcome → State → Prop} {XC : String → State → State → Prop}
/-- what a body that may throw owes at its end -/
def vx_MQ (below : List Frame) (Qc : Array Value → State → Outcome → State → Prop) (XC : String → State → State → Prop) (a : Array Value) (s : State) (mc ms : Nat) (free : Addr → Prop) : State → Prop := fun t =>
  ∃ o, t.status = .running ∧ Ended t below o ∧ vx_Q Qc XC mc ms free a s o t
theorem vx_ret {g : JFrame} {mc ms : Nat} (k : W p l e R s m args below meth c H locs cells slots (MQ below Qc args s mc ms free) g) : W p l e R s m args below meth c H locs cells slots (vx_MQ below Qc XC args s mc ms free) g := by
  intro T hT X
  obtain ⟨t, a1, o, b1, b2, b3, b4⟩ := k T hT X
  exact ⟨t, a1, o, b1, b2, Or.inl ⟨b3, b4⟩⟩
/-- not caught here: it goes on to the caller -/
theorem vx_widen {g : JFrame} {q : Addr} {k n : Nat} (h1 : cells ≤ k) (h2 : slots ≤ n) (kk : vx_W p l e R s m args below meth c H locs k n Q g q) : vx_W p l e R s m args below meth c H locs cells slots Q g q := fun T hT X => kk T hT (stand_widen X h1 h2)
theorem vx_out {pc : Nat} {E : String} {ce : Cell} {q : Addr} {mc ms : Nat} (hout : ∀ x ∈ c.exceptionTable.toList, covers x pc = false) (hlocks : meth.locks = false) (hcell : H[q]? = some ce) (hv : ce.vm = .none) (hcl : s.vm.findClass E = some ce.cls)
    (hx : ∀ t : State, t.heap = H → s.vm.Alike t.vm → XC E s t) (hf : ∀ z ∈ locs, free z.base) (hc : cells ≤ mc) (hs : slots ≤ ms) :
    vx_W p l e R s m args below meth c H locs cells slots (vx_MQ below Qc XC args s mc ms free) (F0 m pc ls rest) q := by
  intro T hT X
  obtain ⟨st1, hrun, hend, hW, hsm⟩ := X.leaveThrown q (g := F0 m pc ls rest) rfl rfl rfl hout hlocks
  have hcell9 : (T.setFrames (.throwing q :: below)).heap[q]? = some ce := by
    show T.heap[q]? = some ce
    rw [hT]; exact hcell
  exact ⟨_, st1, .threw q, hrun, hend, Or.inr ⟨q, rfl, E, ce, locs, hx _ hT hW.alike, hcell9, hv, hcl, hW, hsm.mono hc hs, hf⟩⟩
theorem vx_frame {U : State} {k n : Nat} (h : s.sameButNew ({ U with vm := s.vm } : State) locs k n) : s.heap.size ≤ U.heap.size ∧ ∀ q : Nat, q < s.heap.size → (∀ z ∈ locs, z.base ≠ q) → U.heap[q]? = s.heap[q]? := by
  obtain ⟨-, h2, -, -, -, h6⟩ := h
  refine ⟨h2, fun q hq hz => ?_⟩
  obtain ⟨c9, e1, e2, e3, e4⟩ := h6 q _ (Array.getElem?_eq_getElem hq)
  have hs : c9.slots = (s.heap[q]).slots := Array.ext_getElem? fun i => e4 i fun hm => hz _ hm rfl
  have h9 : c9 = s.heap[q] := by
    rw [hs] at e2
    exact e2
  have e5 : U.heap[q]? = some c9 := e1
  rw [e5, h9, Array.getElem?_eq_getElem hq]
/-- the words of a throw but the four that speak of the heap -/
def vx_no (w : Cond) : Bool := decide (w ≠ .isRef (.static Bundle.tN "UNASSIGNED_STACK" Bundle.steD)) && decide (w ≠ .isRef (.static Bundle.tN "SUPPRESSED_SENTINEL" Bundle.listD)) && decide (w ≠ .laysStatic Bundle.tN "UNASSIGNED_STACK" Bundle.steD) && decide (w ≠ .laysStatic Bundle.tN "SUPPRESSED_SENTINEL" Bundle.listD)
def vx_at0 (own : String) (ic : Nat) (X : String) (names : List String) : List Cond := (Bundle.ownAtoms0 own ic X names).filter vx_no
def vx_atS (own : String) (ic : Nat) (X : String) (names : List String) : List Cond := (Bundle.ownAtoms own ic X names).filter vx_no
/-- a word that the tables alone decide, or a good one -/
def vx_ot (w : Cond) : Bool := w.onTables || goodWord w
theorem vx_ot_at {args a' : Array Value} {s U : State} {w : Cond} (hW : s.WarmedH U.vm) (hvm : s.vm = U.vm) (hg : vx_ot w = true) (h : w.before args s = true) : w.before a' U = true := by
  simp only [vx_ot, Bool.or_eq_true] at hg
  rcases hg with hg | hg
  · exact va_tabs hg hvm h
  · exact word_at hW (good_of_word hg) h
/-- a list's words: the good ones out of the method's own list, the others by premises of their own -/
theorem vx_hat {args : Array Value} {s : State} {L B : List Cond} (h1 : ∀ w ∈ L.filter goodWord, w.before args s = true) (h2 : ∀ w ∈ L.filter (fun w => !goodWord w), w ∈ B) (h3 : ∀ w ∈ B, w.before args s = true) : ∀ w ∈ L, w.before args s = true := by
  intro w hw
  by_cases g : goodWord w = true
  · exact h1 w (List.mem_filter.mpr ⟨hw, g⟩)
  · refine h3 w (h2 w (List.mem_filter.mpr ⟨hw, ?_⟩))
    show (!goodWord w) = true
    cases hgw : goodWord w
    · rfl
    · exact absurd hgw g
theorem vx_c {args : Array Value} {s : State} {w : Cond} {B : List Cond} (h : w.before args s = true) (t : ∀ w ∈ B, w.before args s = true) : ∀ w' ∈ w :: B, w'.before args s = true := fun w' h' => (List.mem_cons.mp h').elim (fun e => by rw [e]; exact h) (t w')
theorem vx_n {args : Array Value} {s : State} : ∀ w ∈ ([] : List Cond), w.before args s = true := fun _ h => nomatch h
theorem vx_own {args : Array Value} {s : State} {L : List Cond} (h1 : ∀ w ∈ L.filter vx_no, w.before args s = true)
    (hU : (Cond.isRef (.static Bundle.tN "UNASSIGNED_STACK" Bundle.steD)).before args s = true) (hN : (Cond.isRef (.static Bundle.tN "SUPPRESSED_SENTINEL" Bundle.listD)).before args s = true)
    (lU : (Cond.laysStatic Bundle.tN "UNASSIGNED_STACK" Bundle.steD).before args s = true) (lN : (Cond.laysStatic Bundle.tN "SUPPRESSED_SENTINEL" Bundle.listD).before args s = true) : ∀ w ∈ L, w.before args s = true := by
  intro w hw
  by_cases e1 : w = .isRef (.static Bundle.tN "UNASSIGNED_STACK" Bundle.steD)
  · rw [e1]; exact hU
  · by_cases e2 : w = .isRef (.static Bundle.tN "SUPPRESSED_SENTINEL" Bundle.listD)
    · rw [e2]; exact hN
    · by_cases e3 : w = .laysStatic Bundle.tN "UNASSIGNED_STACK" Bundle.steD
      · rw [e3]; exact lU
      · by_cases e4 : w = .laysStatic Bundle.tN "SUPPRESSED_SENTINEL" Bundle.listD
        · rw [e4]; exact lN
        · exact h1 w (List.mem_filter.mpr ⟨hw, by unfold vx_no; rw [decide_eq_true e1, decide_eq_true e2, decide_eq_true e3, decide_eq_true e4]; rfl⟩)
/-- where a static field lies, its class's statics cell in H -/
def vx_L (C n d : String) (A : Nat → Prop) (U : State) (H : Heap) : Prop := ∃ (c : ClassId) (k : Class) (i : Nat) (f : Field) (a : Nat) (cell : Cell), U.vm.findClass C = some c ∧ U.fieldFound? C n d = some (c, k, i, f) ∧ f.isStatic = true ∧ k.statics = some a ∧ H[a]? = some cell ∧ cell.vm.isStatics = true ∧ cell.cls = c ∧ f.slot < cell.slots.size ∧ k.staticTypes[f.slot]? = some f.type ∧ ¬ A a
theorem vx_L.moved {C n d : String} {A : Nat → Prop} {u U : State} {H : Heap} (hvm : u.vm.Alike U.vm) (h : vx_L C n d A u H) : vx_L C n d A U H := by
  obtain ⟨c, k, i, f, a, cell, h1, h2, h3, h4, h5, h6, h7, h8, h9, h10⟩ := h
  obtain ⟨k', hi', he⟩ := State.fieldFound?_setVm hvm h2
  exact ⟨c, k', i, f, a, cell, by rw [hvm.findClass]; exact h1, hi', h3, by rw [he]; exact h4, h5, h6, h7, h8, by rw [he]; exact h9, h10⟩
theorem vx_L.kept {C n d : String} {A : Nat → Prop} {U : State} {H H1 : Heap} (h : vx_L C n d A U H) (hq : ∀ a : Nat, a < H.size → ¬ A a → H1[a]? = H[a]?) : vx_L C n d A U H1 := by
  obtain ⟨c, k, i, f, a, cell, h1, h2, h3, h4, h5, h6, h7, h8, h9, h10⟩ := h
  exact ⟨c, k, i, f, a, cell, h1, h2, h3, h4, by rw [hq a (Array.getElem?_eq_some_iff.mp h5).1 h10]; exact h5, h6, h7, h8, h9, h10⟩
theorem vx_L.narrow {C n d : String} {A B : Nat → Prop} {U : State} {H : Heap} (h : vx_L C n d A U H) (hAB : ∀ q, B q → A q) : vx_L C n d B U H := by
  obtain ⟨c, k, i, f, a, cell, h1, h2, h3, h4, h5, h6, h7, h8, h9, h10⟩ := h
  exact ⟨c, k, i, f, a, cell, h1, h2, h3, h4, h5, h6, h7, h8, h9, fun z => h10 (hAB _ z)⟩
theorem vx_L.word {C n d : String} {A : Nat → Prop} {s : State} {args : Array Value} (h : vx_L C n d A s s.heap) : (Cond.laysStatic C n d).before args s = true := by
  obtain ⟨c, k, i, f, a, cell, h1, h2, h3, h4, h5, h6, h7, h8, h9, -⟩ := h
  show (Cond.laysStatic C n d).holds args s none s [] = true
  exact Cond.laysStatic_of h1 h2 h3 h4 h5 h6 h7 h8 h9
/-- .. and what it holds: null or some reference -/
def vx_Zq (C n d : String) (A : Nat → Prop) (U : State) (H : Heap) : Prop := va_Zq C n d A U H ∧ vx_L C n d A U H
theorem vx_Zq.moved {C n d : String} {A : Nat → Prop} {u U : State} {H : Heap} (hvm : u.vm.Alike U.vm) (h : vx_Zq C n d A u H) : vx_Zq C n d A U H := ⟨va_Zq.moved hvm h.1, vx_L.moved hvm h.2⟩
theorem vx_Zq.kept {C n d : String} {A : Nat → Prop} {U : State} {H H1 : Heap} (h : vx_Zq C n d A U H) (hq : ∀ a : Nat, a < H.size → ¬ A a → H1[a]? = H[a]?) : vx_Zq C n d A U H1 := ⟨va_Zq.kept h.1 hq, vx_L.kept h.2 hq⟩
theorem vx_Zq.narrow {C n d : String} {A B : Nat → Prop} {U : State} {H : Heap} (h : vx_Zq C n d A U H) (hAB : ∀ q, B q → A q) : vx_Zq C n d B U H := ⟨va_Zq.narrow h.1 hAB, vx_L.narrow h.2 hAB⟩
theorem vx_Zqof {args : Array Value} {s : State} {C n d : String} {A : Nat → Prop} (hl : (Cond.laysStatic C n d).before args s = true) (hini : (Cond.initialized C).before args s = true) (h : (Cond.isRef (.static C n d)).before args s = true) (hA : ∀ a : Nat, a < s.heap.size → ¬ A a) : vx_Zq C n d A s s.heap := by
  refine ⟨va_Zqof hl hini h hA, ?_⟩
  obtain ⟨c, k, i, f, a, cell, h1, h2, h3, h4, h5, h6, h7, h8, h9⟩ := Cond.laysStatic_spec hl
  exact ⟨c, k, i, f, a, cell, h1, h2, h3, h4, h5, h6, h7, h8, h9, hA a (Array.getElem?_eq_some_iff.mp h5).1⟩
theorem vx_isRef {C n d : String} {v : Value} {A : Nat → Prop} {s : State} {args : Array Value} (h : va_Z C n d v A s s.heap) (hv : v.isRef = true) : (Cond.isRef (.static C n d)).before args s = true := by
  obtain ⟨cf, kf, fi, f, a, cell, h1, h2, h3, h4, h5, h6, h7, -⟩ := h
  have he : (Term.static C n d).eval args s none [] s = some v := by
    simp [Term.eval, State.fieldNamed?, h1, h2, h4, h5, h6, h7]
  simp only [Cond.before, Cond.holds, Cond.value, he]
  cases v <;> simp_all [Value.isRef]
theorem vx_isRefq {C n d : String} {A : Nat → Prop} {s : State} {args : Array Value} (h : va_Zq C n d A s s.heap) : (Cond.isRef (.static C n d)).before args s = true := by
  rcases h with h | ⟨t, h⟩
  · exact vx_isRef h rfl
  · exact vx_isRef h rfl
/-- the same frame, seen from here: as if the method were called anew in this heap -/
theorem vx_rebase {T : State} (X : Stand p l e R s m args below meth c T locs cells slots) {R' : Room} (hf : R'.frames ≤ R.frames) (hl : R'.locals ≤ R.locals) (hc : cells + R'.cells ≤ R.cells) (hs : slots + R'.slots ≤ R.slots) :
    Stand p l e R' ((T.setVm s.vm).setFrames (.invoking m args :: below)) m args below meth c T [] 0 0 := by
  have htop : (T.setVm s.vm).topJava?.isSome := X.here.top
  have hF : ((T.setVm s.vm).setFrames (.invoking m args :: below)).frames = .invoking m args :: below := State.frames_setFrames _ (State.cur_lt_of_top htop)
  obtain ⟨g₀, hg0⟩ := Option.isSome_iff_exists.mp htop
  obtain ⟨r, hr⟩ := State.topJava?_eq_some.mp hg0
  have hl9 : e.platform.stackLimits (T.setVm s.vm).me = e.platform.stackLimits s.me := X.limits
  have hb9 : (T.setVm s.vm).me.stackBytes = s.me.stackBytes := X.bytes
  refine ⟨X.admits, X.cas, X.clock, hF, ?_, X.hears, X.method, X.code, X.here, X.tail, X.warmed, ?_, ?_, ?_⟩
  · have h := X.room
    have hU : ((T.setVm s.vm).setFrames (.invoking m args :: below)).localsInUse = s.localsInUse := by
      rw [State.localsInUse_invoking hF (meth := meth) (c := c) X.method X.code, State.localsInUse_invoking X.frames X.method X.code]
    simp only [State.hasRoom, Bool.and_eq_true, decide_eq_true_eq] at h ⊢
    obtain ⟨⟨⟨⟨h1, h2, h3, h4, h5, h6⟩, h7⟩, h8⟩, h9⟩ := h
    rw [X.frames, List.length_cons] at h2 h3
    have q1 := X.heapSize
    have q2 := X.used
    simp only [hF, hU, List.length_cons, State.stackLimits_setFrames, State.stackBytes_setFrames, hl9, hb9]
    refine ⟨⟨⟨⟨by omega, by omega, by omega, by omega, by omega, h6⟩, ?_⟩, ?_⟩, X.book⟩
    · show T.heap.size + R'.cells ≤ e.platform.maxCells
      omega
    · show T.slotsUsed + R'.slots ≤ e.platform.maxSlots
      omega
  · rw [State.stackLimits_setFrames]; rfl
  · rw [State.stackBytes_setFrames]; rfl
  · refine ⟨?_, Nat.le_refl _, Nat.le_refl _, ?_, ?_, fun a c9 h9 => ⟨c9, h9, rfl, rfl, fun _ _ => rfl⟩⟩
    · obtain ⟨t, ht, -⟩ := State.frames_cons hr
      show T.setVm s.vm = { ((T.setVm s.vm).setFrames (.invoking m args :: below)).setFrames (T.setVm s.vm).frames with heap := T.heap, slotsUsed := T.slotsUsed }
      rw [State.setFrames_setFrames, State.setFrames_self ht]
      rfl
    · show T.slotsUsed = T.slotsUsed + ((T.heap.toList.drop T.heap.size).map (·.slots.size)).sum
      rw [List.drop_eq_nil_of_le (Nat.le_of_eq Array.length_toList)]
      rfl
    · show ((T.heap.toList.drop T.heap.size).map (·.slots.size)).sum ≤ 0
      rw [List.drop_eq_nil_of_le (Nat.le_of_eq Array.length_toList)]
      exact Nat.le_refl _
/-- 'throw new E()': new; dup; invokespecial; athrow -/
theorem vx_throw0 {cc : ByteArray} {pc : Nat} (hexec : p.tables.exec = Jvm.exec) (hb : c.code = cc) (hl : l.stackTraces = false) {own cls : String} {names : List String} {ik ic mc ms : Nat} {A : Nat → Prop}
    (hown : s.vm.findClass own = some m.cls) (hcls : Bundle.fit cls = true) (hnames : ∀ n ∈ names, Bundle.fit n = true)
    (hk : (Cond.classLink own ik cls).before args s = true) (hini : (Cond.initialized cls).before args s = true) (hat : ∀ w ∈ vx_at0 own ic cls names, w.before args s = true)
    (hgood : ∀ w ∈ Cond.classLink own ik cls :: Cond.initialized cls :: vx_at0 own ic cls names, vx_ot w = true)
    (hU : vx_Zq Bundle.tN "UNASSIGNED_STACK" Bundle.steD A s s.heap) (hN : vx_Zq Bundle.tN "SUPPRESSED_SENTINEL" Bundle.listD A s s.heap) (hS : va_S A s.heap H locs) (hsize : ls.size = c.maxLocals)
    (d0 : decode cc pc = .ok (.new ik, 3)) (d3 : decode cc (pc + 3) = .ok (.dup, 1)) (d4 : decode cc (pc + 4) = .ok (.invokespecial ic, 3)) (d7 : decode cc (pc + 7) = .ok (.athrow, 1))
    (hout : ∀ x ∈ c.exceptionTable.toList, covers x (pc + 7) = false)
    (hRframes : names.length + 3 < R.frames) (hRlocals : (rest.map fun v => v.category).sum + (13 * (names.length + 1) + 42) ≤ R.locals) (hRcells : cells + 1 ≤ R.cells) (hRslots : slots + 6 ≤ R.slots) (hlocks : meth.locks = false)
    (hx : ∀ t : State, s.vm.Alike t.vm → H.size ≤ t.heap.size → (∀ q : Nat, q < H.size → t.heap[q]? = H[q]?) → XC cls s t)
    (hf : ∀ z ∈ locs, free z.base) (hc : cells + 1 ≤ mc) (hs : slots + 6 ≤ ms) :
    W p l e R s m args below meth c H locs cells slots (vx_MQ below Qc XC args s mc ms free) (F0 m pc ls rest) := by
  intro T hT X
  have htr : e.platform.stackTraces = false := (show e.platform.stackTraces = l.stackTraces by rw [X.admits.platform]).trans hl
  have Y := vx_rebase X (R' := { frames := R.frames, locals := R.locals, cells := 1, slots := 6 }) (Nat.le_refl _) (Nat.le_refl _) hRcells hRslots
  obtain ⟨s', hA⟩ : ∃ z, z = (T.setVm s.vm).setFrames (.invoking m args :: below) := ⟨_, rfl⟩
  rw [← hA] at Y
  have hvm : s'.vm = s.vm := by rw [hA]; rfl
  have hhp : s'.heap = H := by rw [hA]; exact hT
  have hW0 : s.WarmedH s'.vm := by rw [hvm]; exact State.WarmedH.refl s
  have hat' : ∀ w ∈ vx_at0 own ic cls names, w.before args s' = true := fun w hw => vx_ot_at hW0 hvm.symm (hgood w (List.mem_cons_of_mem _ (List.mem_cons_of_mem _ hw))) (hat w hw)
  have hk' : (Cond.classLink own ik cls).before args s' = true := vx_ot_at hW0 hvm.symm (hgood _ List.mem_cons_self) hk
  have hini' : (Cond.initialized cls).before args s' = true := vx_ot_at hW0 hvm.symm (hgood _ (List.mem_cons_of_mem _ List.mem_cons_self)) hini
  have hU' : vx_Zq Bundle.tN "UNASSIGNED_STACK" Bundle.steD A s' s'.heap := by rw [hhp]; exact vx_Zq.moved hW0.alike (hU.kept hS.2.1)
  have hN' : vx_Zq Bundle.tN "SUPPRESSED_SENTINEL" Bundle.listD A s' s'.heap := by rw [hhp]; exact vx_Zq.moved hW0.alike (hN.kept hS.2.1)
  have h : ∀ w ∈ Bundle.ownAtoms0 own ic cls names, w.before args s' = true := vx_own hat' (vx_isRefq hU'.1) (vx_isRefq hN'.1) hU'.2.word hN'.2.word
  have hown' : s'.vm.findClass own = some m.cls := by rw [hvm]; exact hown
  have hins : (Cond.instantiable cls 6).before args s' = true := h _ (by simp [Bundle.ownAtoms0])
  obtain ⟨vm₁, cX, kX, hfX, hkX, -, -, X₁, st1⟩ := Y.newCold hexec (own := own) (C := cls) (index := ik) (n := 6) hown' hk' hins hini'
    (g := F0 m pc ls rest) rfl (by rw [hb]; exact d0) (Nat.le_refl _) (Nat.le_refl _)
  generalize hT1 : (T.setVm vm₁).pushCell { cls := cX, slots := kX.instanceTypes.map defaultValue, vm := .none } = T1 at X₁ st1
  have hcat : (Value.ref T.heap.size).category = 1 := rfl
  have hcellA : T1.heap[T.heap.size]? = some (freshCell cX kX) := by rw [← hT1]; exact State.heap_pushCell_size _ _
  have d3' : decode c.code (pc + 3) = .ok (.dup, 1) := by rw [hb]; exact d3
  obtain ⟨U, hsteps, hrun, hend, hW, hsame, ce, hce, hO⟩ := X₁.ctorThrow0 hexec htr (own := own) (cls := cls) (names := names) (ic := ic) hown' hcls hnames h (fun x hx => nomatch hx) hfX hkX hcellA (by rw [hhp, hT]; exact Nat.le_refl _)
    (g := { method := m, pc := pc + 4, locals := ls, stack := .ref T.heap.size :: .ref T.heap.size :: rest, locked := none }) rfl hsize rfl rfl (rest := rest) rfl
    (by rw [hb]; exact d4) (by rw [hb]; exact d7) hout hRframes (by simp only [List.map_cons, List.sum_cons, hcat]; omega) hlocks
  obtain ⟨f1, f2⟩ := vx_frame hsame
  rw [hhp] at f1 f2
  have hWs : s.WarmedH U.vm := State.WarmedH.trans hW0 hW
  have hcl : s.vm.findClass cls = some ce.cls := by
    have h9 := hO.cls
    rw [hvm] at h9
    exact h9
  have hall : s.sameButNew ({ U with vm := s.vm } : State) locs mc ms := by
    subst hA
    obtain ⟨e1, e2⟩ := hsame
    rw [State.setFrames_setFrames] at e1
    have h2 : (T.setVm s.vm).sameButNew ({ U with vm := s.vm } : State) [] (0 + 1) (0 + 6) := ⟨e1, e2⟩
    have h3 := X.same.trans h2
    rw [List.append_nil] at h3
    exact h3.mono hc hs
  refine ⟨U, ?_, .threw T.heap.size, hrun, hend, Or.inr ⟨T.heap.size, rfl, cls, ce, locs, hx U hWs.alike f1 (fun q hq => f2 q hq (fun z hz => nomatch hz)), hce, hO.vm, hcl, hWs, hall, hf⟩⟩
  refine st1 _ ?_
  show Steps p.tables e below (T1.setTop { method := m, pc := pc + 3, locals := ls, stack := .ref T.heap.size :: rest, locked := none }) _
  jvm_step X₁.here [X₁.here.top, hexec, d3', Value.category]
  exact hsteps
/-- 'throw new E("text")': new; dup; ldc; invokespecial; athrow -/
theorem vx_throwS {cc : ByteArray} {pc : Nat} (hexec : p.tables.exec = Jvm.exec) (hb : c.code = cc) (hl : l.stackTraces = false) {own cls text : String} {names : List String} {ik is ic mc ms sa : Nat} {A : Nat → Prop}
    (hown : s.vm.findClass own = some m.cls) (hcls : Bundle.fit cls = true) (hnames : ∀ n ∈ names, Bundle.fit n = true)
    (hk : (Cond.classLink own ik cls).before args s = true) (hini : (Cond.initialized cls).before args s = true) (hstr : vk_R own is text sa s) (hat : ∀ w ∈ vx_atS own ic cls names, w.before args s = true)
    (hgood : ∀ w ∈ Cond.classLink own ik cls :: Cond.initialized cls :: vx_atS own ic cls names, vx_ot w = true)
    (hU : vx_Zq Bundle.tN "UNASSIGNED_STACK" Bundle.steD A s s.heap) (hN : vx_Zq Bundle.tN "SUPPRESSED_SENTINEL" Bundle.listD A s s.heap) (hS : va_S A s.heap H locs) (hsize : ls.size = c.maxLocals)
    (d0 : decode cc pc = .ok (.new ik, 3)) (d3 : decode cc (pc + 3) = .ok (.dup, 1)) (d4 : decode cc (pc + 4) = .ok (.ldc is, 2)) (d6 : decode cc (pc + 6) = .ok (.invokespecial ic, 3)) (d9 : decode cc (pc + 9) = .ok (.athrow, 1))
    (hout : ∀ x ∈ c.exceptionTable.toList, covers x (pc + 9) = false)
    (hRframes : names.length + 3 < R.frames) (hRlocals : (rest.map fun v => v.category).sum + (13 * (names.length + 1) + 43) ≤ R.locals) (hRcells : cells + 1 ≤ R.cells) (hRslots : slots + 6 ≤ R.slots) (hlocks : meth.locks = false)
    (hx : ∀ t : State, s.vm.Alike t.vm → H.size ≤ t.heap.size → (∀ q : Nat, q < H.size → t.heap[q]? = H[q]?) → XC cls s t)
    (hf : ∀ z ∈ locs, free z.base) (hc : cells + 1 ≤ mc) (hs : slots + 6 ≤ ms) :
    W p l e R s m args below meth c H locs cells slots (vx_MQ below Qc XC args s mc ms free) (F0 m pc ls rest) := by
  intro T hT X
  have htr : e.platform.stackTraces = false := (show e.platform.stackTraces = l.stackTraces by rw [X.admits.platform]).trans hl
  have Y := vx_rebase X (R' := { frames := R.frames, locals := R.locals, cells := 1, slots := 6 }) (Nat.le_refl _) (Nat.le_refl _) hRcells hRslots
  obtain ⟨s', hA⟩ : ∃ z, z = (T.setVm s.vm).setFrames (.invoking m args :: below) := ⟨_, rfl⟩
  rw [← hA] at Y
  have hvm : s'.vm = s.vm := by rw [hA]; rfl
  have hhp : s'.heap = H := by rw [hA]; exact hT
  have hW0 : s.WarmedH s'.vm := by rw [hvm]; exact State.WarmedH.refl s
  have hat' : ∀ w ∈ vx_atS own ic cls names, w.before args s' = true := fun w hw => vx_ot_at hW0 hvm.symm (hgood w (List.mem_cons_of_mem _ (List.mem_cons_of_mem _ hw))) (hat w hw)
  have hk' : (Cond.classLink own ik cls).before args s' = true := vx_ot_at hW0 hvm.symm (hgood _ List.mem_cons_self) hk
  have hini' : (Cond.initialized cls).before args s' = true := vx_ot_at hW0 hvm.symm (hgood _ (List.mem_cons_of_mem _ List.mem_cons_self)) hini
  have hU' : vx_Zq Bundle.tN "UNASSIGNED_STACK" Bundle.steD A s' s'.heap := by rw [hhp]; exact vx_Zq.moved hW0.alike (hU.kept hS.2.1)
  have hN' : vx_Zq Bundle.tN "SUPPRESSED_SENTINEL" Bundle.listD A s' s'.heap := by rw [hhp]; exact vx_Zq.moved hW0.alike (hN.kept hS.2.1)
  have h : ∀ w ∈ Bundle.ownAtoms own ic cls names, w.before args s' = true := vx_own hat' (vx_isRefq hU'.1) (vx_isRefq hN'.1) hU'.2.word hN'.2.word
  have hown' : s'.vm.findClass own = some m.cls := by rw [hvm]; exact hown
  have hins : (Cond.instantiable cls 6).before args s' = true := h _ (by simp [Bundle.ownAtoms])
  obtain ⟨vm₁, cX, kX, hfX, hkX, -, -, X₁, st1⟩ := Y.newCold hexec (own := own) (C := cls) (index := ik) (n := 6) hown' hk' hins hini'
    (g := F0 m pc ls rest) rfl (by rw [hb]; exact d0) (Nat.le_refl _) (Nat.le_refl _)
  generalize hT1 : (T.setVm vm₁).pushCell { cls := cX, slots := kX.instanceTypes.map defaultValue, vm := .none } = T1 at X₁ st1
  have hcat : (Value.ref T.heap.size).category = 1 := rfl
  have hcellA : T1.heap[T.heap.size]? = some (freshCell cX kX) := by rw [← hT1]; exact State.heap_pushCell_size _ _
  have d3' : decode c.code (pc + 3) = .ok (.dup, 1) := by rw [hb]; exact d3
  have d4' : decode c.code (pc + 4) = .ok (.ldc is, 2) := by rw [hb]; exact d4
  have hstr' : vk_R own is text sa s' := vk_R.warm hW0 hstr
  obtain ⟨U, hsteps, hrun, hend, hW, hsame, ce, hce, hO⟩ := X₁.ctorThrowS hexec htr (own := own) (cls := cls) (names := names) (ic := ic) hown' hcls hnames h (fun x hx => nomatch hx) hfX hkX hcellA (by rw [hhp, hT]; exact Nat.le_refl _) (msg := .ref sa) rfl
    (g := { method := m, pc := pc + 6, locals := ls, stack := .ref sa :: .ref T.heap.size :: .ref T.heap.size :: rest, locked := none }) rfl hsize rfl rfl (rest := rest) rfl
    (by rw [hb]; exact d6) (by rw [hb]; exact d9) hout hRframes (by simp only [List.map_cons, List.sum_cons, hcat]; omega) hlocks
  obtain ⟨f1, f2⟩ := vx_frame hsame
  rw [hhp] at f1 f2
  have hWs : s.WarmedH U.vm := State.WarmedH.trans hW0 hW
  have hcl : s.vm.findClass cls = some ce.cls := by
    have h9 := hO.cls
    rw [hvm] at h9
    exact h9
  have hall : s.sameButNew ({ U with vm := s.vm } : State) locs mc ms := by
    subst hA
    obtain ⟨e1, e2⟩ := hsame
    rw [State.setFrames_setFrames] at e1
    have h2 : (T.setVm s.vm).sameButNew ({ U with vm := s.vm } : State) [] (0 + 1) (0 + 6) := ⟨e1, e2⟩
    have h3 := X.same.trans h2
    rw [List.append_nil] at h3
    exact h3.mono hc hs
  refine ⟨U, ?_, .threw T.heap.size, hrun, hend, Or.inr ⟨T.heap.size, rfl, cls, ce, locs, hx U hWs.alike f1 (fun q hq => f2 q hq (fun z hz => nomatch hz)), hce, hO.vm, hcl, hWs, hall, hf⟩⟩
  refine st1 _ ?_
  show Steps p.tables e below (T1.setTop { method := m, pc := pc + 3, locals := ls, stack := .ref T.heap.size :: rest, locked := none }) _
  jvm_step X₁.here [X₁.here.top, hexec, d3', Value.category]
  exact X₁.ldcString hexec (own := own) (text := text) (index := is) (a := sa) hown' hstr'.1 hstr'.2
    (g := { method := m, pc := pc + 4, locals := ls, stack := .ref T.heap.size :: .ref T.heap.size :: rest, locked := none }) rfl d4' _ hsteps
/-- 'throw new E("text")', the text by a wide index -/
theorem vx_throwSW {cc : ByteArray} {pc : Nat} (hexec : p.tables.exec = Jvm.exec) (hb : c.code = cc) (hl : l.stackTraces = false) {own cls text : String} {names : List String} {ik is ic mc ms sa : Nat} {A : Nat → Prop}
    (hown : s.vm.findClass own = some m.cls) (hcls : Bundle.fit cls = true) (hnames : ∀ n ∈ names, Bundle.fit n = true)
    (hk : (Cond.classLink own ik cls).before args s = true) (hini : (Cond.initialized cls).before args s = true) (hstr : vk_R own is text sa s) (hat : ∀ w ∈ vx_atS own ic cls names, w.before args s = true)
    (hgood : ∀ w ∈ Cond.classLink own ik cls :: Cond.initialized cls :: vx_atS own ic cls names, vx_ot w = true)
    (hU : vx_Zq Bundle.tN "UNASSIGNED_STACK" Bundle.steD A s s.heap) (hN : vx_Zq Bundle.tN "SUPPRESSED_SENTINEL" Bundle.listD A s s.heap) (hS : va_S A s.heap H locs) (hsize : ls.size = c.maxLocals)
    (d0 : decode cc pc = .ok (.new ik, 3)) (d3 : decode cc (pc + 3) = .ok (.dup, 1)) (d4 : decode cc (pc + 4) = .ok (.ldc_w is, 3)) (d7 : decode cc (pc + 7) = .ok (.invokespecial ic, 3)) (d10 : decode cc (pc + 10) = .ok (.athrow, 1))
    (hout : ∀ x ∈ c.exceptionTable.toList, covers x (pc + 10) = false)
    (hRframes : names.length + 3 < R.frames) (hRlocals : (rest.map fun v => v.category).sum + (13 * (names.length + 1) + 43) ≤ R.locals) (hRcells : cells + 1 ≤ R.cells) (hRslots : slots + 6 ≤ R.slots) (hlocks : meth.locks = false)
    (hx : ∀ t : State, s.vm.Alike t.vm → H.size ≤ t.heap.size → (∀ q : Nat, q < H.size → t.heap[q]? = H[q]?) → XC cls s t)
    (hf : ∀ z ∈ locs, free z.base) (hc : cells + 1 ≤ mc) (hs : slots + 6 ≤ ms) :
    W p l e R s m args below meth c H locs cells slots (vx_MQ below Qc XC args s mc ms free) (F0 m pc ls rest) := by
  intro T hT X
  have htr : e.platform.stackTraces = false := (show e.platform.stackTraces = l.stackTraces by rw [X.admits.platform]).trans hl
  have Y := vx_rebase X (R' := { frames := R.frames, locals := R.locals, cells := 1, slots := 6 }) (Nat.le_refl _) (Nat.le_refl _) hRcells hRslots
  obtain ⟨s', hA⟩ : ∃ z, z = (T.setVm s.vm).setFrames (.invoking m args :: below) := ⟨_, rfl⟩
  rw [← hA] at Y
  have hvm : s'.vm = s.vm := by rw [hA]; rfl
  have hhp : s'.heap = H := by rw [hA]; exact hT
  have hW0 : s.WarmedH s'.vm := by rw [hvm]; exact State.WarmedH.refl s
  have hat' : ∀ w ∈ vx_atS own ic cls names, w.before args s' = true := fun w hw => vx_ot_at hW0 hvm.symm (hgood w (List.mem_cons_of_mem _ (List.mem_cons_of_mem _ hw))) (hat w hw)
  have hk' : (Cond.classLink own ik cls).before args s' = true := vx_ot_at hW0 hvm.symm (hgood _ List.mem_cons_self) hk
  have hini' : (Cond.initialized cls).before args s' = true := vx_ot_at hW0 hvm.symm (hgood _ (List.mem_cons_of_mem _ List.mem_cons_self)) hini
  have hU' : vx_Zq Bundle.tN "UNASSIGNED_STACK" Bundle.steD A s' s'.heap := by rw [hhp]; exact vx_Zq.moved hW0.alike (hU.kept hS.2.1)
  have hN' : vx_Zq Bundle.tN "SUPPRESSED_SENTINEL" Bundle.listD A s' s'.heap := by rw [hhp]; exact vx_Zq.moved hW0.alike (hN.kept hS.2.1)
  have h : ∀ w ∈ Bundle.ownAtoms own ic cls names, w.before args s' = true := vx_own hat' (vx_isRefq hU'.1) (vx_isRefq hN'.1) hU'.2.word hN'.2.word
  have hown' : s'.vm.findClass own = some m.cls := by rw [hvm]; exact hown
  have hins : (Cond.instantiable cls 6).before args s' = true := h _ (by simp [Bundle.ownAtoms])
  obtain ⟨vm₁, cX, kX, hfX, hkX, -, -, X₁, st1⟩ := Y.newCold hexec (own := own) (C := cls) (index := ik) (n := 6) hown' hk' hins hini'
    (g := F0 m pc ls rest) rfl (by rw [hb]; exact d0) (Nat.le_refl _) (Nat.le_refl _)
  generalize hT1 : (T.setVm vm₁).pushCell { cls := cX, slots := kX.instanceTypes.map defaultValue, vm := .none } = T1 at X₁ st1
  have hcat : (Value.ref T.heap.size).category = 1 := rfl
  have hcellA : T1.heap[T.heap.size]? = some (freshCell cX kX) := by rw [← hT1]; exact State.heap_pushCell_size _ _
  have d3' : decode c.code (pc + 3) = .ok (.dup, 1) := by rw [hb]; exact d3
  have d4' : decode c.code (pc + 4) = .ok (.ldc_w is, 3) := by rw [hb]; exact d4
  have hstr' : vk_R own is text sa s' := vk_R.warm hW0 hstr
  obtain ⟨U, hsteps, hrun, hend, hW, hsame, ce, hce, hO⟩ := X₁.ctorThrowS hexec htr (own := own) (cls := cls) (names := names) (ic := ic) hown' hcls hnames h (fun x hx => nomatch hx) hfX hkX hcellA (by rw [hhp, hT]; exact Nat.le_refl _) (msg := .ref sa) rfl
    (g := { method := m, pc := pc + 7, locals := ls, stack := .ref sa :: .ref T.heap.size :: .ref T.heap.size :: rest, locked := none }) rfl hsize rfl rfl (rest := rest) rfl
    (by rw [hb]; exact d7) (by rw [hb]; exact d10) hout hRframes (by simp only [List.map_cons, List.sum_cons, hcat]; omega) hlocks
  obtain ⟨f1, f2⟩ := vx_frame hsame
  rw [hhp] at f1 f2
  have hWs : s.WarmedH U.vm := State.WarmedH.trans hW0 hW
  have hcl : s.vm.findClass cls = some ce.cls := by
    have h9 := hO.cls
    rw [hvm] at h9
    exact h9
  have hall : s.sameButNew ({ U with vm := s.vm } : State) locs mc ms := by
    subst hA
    obtain ⟨e1, e2⟩ := hsame
    rw [State.setFrames_setFrames] at e1
    have h2 : (T.setVm s.vm).sameButNew ({ U with vm := s.vm } : State) [] (0 + 1) (0 + 6) := ⟨e1, e2⟩
    have h3 := X.same.trans h2
    rw [List.append_nil] at h3
    exact h3.mono hc hs
  refine ⟨U, ?_, .threw T.heap.size, hrun, hend, Or.inr ⟨T.heap.size, rfl, cls, ce, locs, hx U hWs.alike f1 (fun q hq => f2 q hq (fun z hz => nomatch hz)), hce, hO.vm, hcl, hWs, hall, hf⟩⟩
  refine st1 _ ?_
  show Steps p.tables e below (T1.setTop { method := m, pc := pc + 3, locals := ls, stack := .ref T.heap.size :: rest, locked := none }) _
  jvm_step X₁.here [X₁.here.top, hexec, d3', Value.category]
  exact X₁.ldcStringW hexec (own := own) (text := text) (index := is) (a := sa) hown' hstr'.1 hstr'.2
    (g := { method := m, pc := pc + 4, locals := ls, stack := .ref T.heap.size :: .ref T.heap.size :: rest, locked := none }) rfl d4' _ hsteps
end Ends
section Bodies
variable {l : Launch}
theorem vx_ofW {y : MethodName} {ws ws' : List Cond} {rm : Room} {Pc : Array Value → State → Prop} {Qc : Array Value → State → Outcome → State → Prop} {XC : String → State → State → Prop} {mc ms : Nat} {free : Addr → Prop} {cc : ByteArray} {maxL : Nat} {ret : Option FieldType}
    (hy : plainName y.cls = true) (hw : ws = Cond.code y cc maxL ret :: ws')
    (body : ∀ p e s m args below meth c s₁, BodyLoose p l y (headSpec ws rm) cc maxL ret e s m args below meth c s₁ → c.maxLocals = maxL → (∀ x ∈ c.exceptionTable.toList, False) → Pc args s →
      W p l e (headSpec ws rm).room s m args below meth c s.heap [] 0 0 (vx_MQ below Qc XC args s mc ms free) (entryFrame m args maxL)) : vx_Met l y ws rm Pc Qc XC mc ms free := by
  refine MetFree.of_bodyS (code := cc) (maxLocals := maxL) (ret := ret) hy ?_ ?_
  · intro args s m h hn
    obtain ⟨meth, c, h1, h2, h3, h4, h5, h6, -, -⟩ := Cond.code_spec hn (atoms_spec (ws := ws) h _ (by rw [hw]; exact List.mem_cons_self))
    exact ⟨meth, c, h1, h2, h3, h4, h5, h6⟩
  · intro p e s m args below meth c s₁ B hml hP _
    have hh0 : s₁.heap = s.heap := by rw [B.state]; rfl
    have ht : ∀ x ∈ c.exceptionTable.toList, False := by
      obtain ⟨meth9, c9, h1, h2, -, -, -, -, h7, -⟩ := Cond.code_spec B.named (atoms_spec (ws := ws) B.pre _ (by rw [hw]; exact List.mem_cons_self))
      cases Option.some.inj (h1.symm.trans B.method)
      cases Option.some.inj (h2.symm.trans (Stand.of_body B).code)
      intro x hx
      rw [Array.isEmpty_iff.mp h7] at hx
      cases hx
    obtain ⟨t, a1, o, b1, b2, b3⟩ := body p e s m args below meth c s₁ B hml ht hP s₁ hh0 (Stand.of_body B)
    exact ⟨t, o, a1, b1, b2, b3⟩
/-- the table of a body with handlers -/
theorem vx_table {p : Program} {x y : MethodName} {S : Spec} {cc bytes : ByteArray} {maxL maxL' : Nat} {ret ret' : Option FieldType} {e : Env} {s s₁ : State} {m : MethodId} {args : Array Value} {below : List Frame} {meth : Method} {c : Code} {hh : List (Nat × Nat × Nat × Nat)}
    (B : BodyLoose p l y S cc maxL ret e s m args below meth c s₁) (h : (Cond.codeWith y bytes maxL' ret' hh).before args s = true) : c.exceptionTable.toList = tableOf hh := by
  obtain ⟨m9, meth9, c9, hn9, h1, h2, -, -, h6, -⟩ := Cond.codeWith_spec h
  cases Option.some.inj (hn9.symm.trans B.named)
  cases Option.some.inj (h1.symm.trans B.method)
  cases Option.some.inj (h2.symm.trans (Stand.of_body B).code)
  rw [← h6, table_eq]
end Bodies
end VXA
/-! ===== END ===== -/
/-! ===== BEGIN a static call of a method with an exception table ===== -/
section VXS
variable {p : Program} {l : Launch} {e : Env} {R : Room} {s : State} {m : MethodId} {args : Array Value} {below : List Frame} {meth : Method} {c : Code} {T : State} {H : Heap} {locs : List Loc} {cells slots : Nat}
abbrev vx_CSW (R : Room) (s : State) (args : Array Value) (own : String) (index : Nat) (y : MethodName) (bytes : ByteArray) (maxL : Nat) (ret : Option FieldType) (hh : List (Nat × Nat × Nat × Nat)) (ws : List Cond) (rm : Room) (mc ms n : Nat) : Prop :=
  (rm.cells = mc ∧ rm.slots = ms ∧ rm.frames + 1 ≤ R.frames ∧ 8 + (maxL + 11) + rm.locals ≤ R.locals ∧ (∀ w ∈ ws, ∀ (a' : Array Value) (U : State), s.WarmedH U.vm → w.before a' U = true) ∧ Cond.codeWith y bytes maxL ret hh ∈ ws) ∧
  (Cond.codeWith y bytes maxL ret hh).before args s = true ∧ (Cond.initialized y.cls).before args s = true ∧ (y.cls ≠ "java/lang/invoke/MethodHandle" ∧ y.cls ≠ "java/lang/invoke/VarHandle") ∧
  (∀ sig, parseMethodDescriptor y.desc = some sig → n = sig.parameters.length) ∧ (Cond.methodLink own index y).before args s = true ∧ (Cond.static y).before args s = true
theorem vx_cwSW {own : String} {index maxL mc ms : Nat} {y : MethodName} {bytes : ByteArray} {ret : Option FieldType} {hh : List (Nat × Nat × Nat × Nat)} {Ts ws ws' : List Cond} {rm : Room} (n : Nat) (ht : ∀ w ∈ Ts, w.before args s = true) (hT : GoodIn Ts (va_wsS own index y ws)) (hw : ws = Cond.codeWith y bytes maxL ret hh :: ws') (hrc : rm.cells = mc) (hrs : rm.slots = ms)
    (hd : y.cls ≠ "java/lang/invoke/MethodHandle" ∧ y.cls ≠ "java/lang/invoke/VarHandle" ∧ (parseMethodDescriptor y.desc).map (fun d => d.parameters.length) = some n) (hR : rm.frames + 1 ≤ R.frames ∧ 8 + (maxL + 11) + rm.locals ≤ R.locals) :
    vx_CSW R s args own index y bytes maxL ret hh ws rm mc ms n := by
  have ok : ∀ w ∈ va_wsS own index y ws, w.before args s = true := fun w h => ht w (hT w h).1
  have hG : GoodIn Ts ws := fun w h => hT w (by unfold va_wsS; exact List.mem_append_right _ h)
  have hc : Cond.codeWith y bytes maxL ret hh ∈ ws := by rw [hw]; exact List.mem_cons_self
  refine ⟨⟨hrc, hrs, hR.1, hR.2, pay_in ht hG, hc⟩, ht _ (hG _ hc).1, ok _ (by simp [va_wsS]), ⟨hd.1, hd.2.1⟩, fun sig h => ?_, ok _ (by simp [va_wsS]), ok _ (by simp [va_wsS])⟩
  have h2 := hd.2.2
  rw [h] at h2
  exact (Option.some.inj h2).symm
theorem vx_callSW (X : Stand p l e R s m args below meth c T locs cells slots) (hexec : p.tables.exec = Jvm.exec) {own : String} {index : Nat} {y : MethodName} {bytes : ByteArray} {maxL : Nat} {ret : Option FieldType} {hh : List (Nat × Nat × Nat × Nat)}
    (hown : s.vm.findClass own = some m.cls) (hlink : (Cond.methodLink own index y).before args s = true) (hstat : (Cond.static y).before args s = true) (hinit : (Cond.initialized y.cls).before args s = true)
    (hcode : (Cond.codeWith y bytes maxL ret hh).before args s = true) (hy : y.cls ≠ "java/lang/invoke/MethodHandle" ∧ y.cls ≠ "java/lang/invoke/VarHandle")
    {W9 : Nat} {Pre : Pt → Array Value → Prop} {Post : Pt → Array Value → Option Value → Pt → Prop} (hK : Back l R p e below s args y 3 W9 Pre Post)
    {g : JFrame} (hg : g.method = m) (hsize : g.locals.size = c.maxLocals) {argsL rest : List Value} (hlen : ∀ sig, parseMethodDescriptor y.desc = some sig → argsL.length = sig.parameters.length)
    (hstack : g.stack = argsL.reverse ++ rest) (hW : 2 * g.monitorRoom + (rest.map fun v => v.category).sum ≤ W9) (hdg : decode c.code g.pc = .ok (.invokestatic index, 3))
    (hpre : ∀ vm₁, s.WarmedH vm₁ → Pre ⟨T.setVm vm₁, locs, cells, slots⟩ argsL.toArray) :
    ∃ (v : Option Value) (vm₁ : Vm) (B : Pt), s.WarmedH vm₁ ∧ Stand p l e R s m args below meth c B.U B.locs B.cells B.slots ∧ Post ⟨T.setVm vm₁, locs, cells, slots⟩ argsL.toArray v B ∧
      ∀ target, Steps p.tables e below (B.U.setTop { g with pc := g.pc + 3, stack := v.toList ++ rest }) target → Steps p.tables e below (T.setTop g) target := by
  obtain ⟨mk, methM, cM, hnamed, hmethM, -, -, -, -, -, -, hsigM⟩ := Cond.codeWith_spec hcode
  have hstatic : methM.isStatic = true := Cond.static_spec hnamed hmethM hstat
  obtain ⟨kP, hkP, -⟩ := className_of_methodNamed hnamed
  have hinitP : kP.init = .initialized := Cond.initialized_spec (findClass_of_methodNamed hnamed) hkP hinit
  obtain ⟨vm₁, X₁, hstep₁⟩ := X.invokestatic hexec hown hlink hnamed hmethM hstatic hkP hinitP hy (g := g) hg (argsL := argsL) (rest := rest) (hlen _ hsigM) hstack hdg
  obtain ⟨v, B, X', hpost, hsteps⟩ := hK m meth c ⟨T.setVm vm₁, locs, cells, slots⟩ { g with stack := rest } (.invokestatic index) mk argsL.toArray X₁ hg hsize hdg hW (X₁.named hnamed) (hpre vm₁ X₁.warmed)
  exact ⟨v, vm₁, B, X₁.warmed, X', hpost, fun target h => hstep₁ _ fun acts => by rw [doInvoke_state]; exact hsteps.trans h⟩
theorem vx_runSW {y : MethodName} {bytes cc : ByteArray} {maxL nL mc ms n index : Nat} {ret : Option FieldType} {hh : List (Nat × Nat × Nat × Nat)} {ws : List Cond} {rm : Room} {Pc : Array Value → State → Prop} {Qc : Array Value → State → Outcome → State → Prop} {free : Addr → Prop} {Ts : List Cond} {own : String} {As rest : List Value} {g : JFrame}
    (S : CallFix p m c cc nL s args Ts own) (hM : Met l y ws rm Pc Qc mc ms free) (cw : vx_CSW R s args own index y bytes maxL ret hh ws rm mc ms n) (hp : PreS s H Pc As)
    (hg : g.method = m) (hn : As.length = n) (hsize : g.locals.size = nL) (hstack : g.stack = As.reverse ++ rest) (hW : 2 * g.monitorRoom + (rest.map fun v => v.category).sum ≤ 8) (hdg : decode cc g.pc = .ok (.invokestatic index, 3)) (hf : cells + mc ≤ R.cells ∧ slots + ms ≤ R.slots) :
    va_Run p l e R s m args below meth c H locs cells slots mc ms g rest (Qc As.toArray) (free) := by
  obtain ⟨⟨hrc, hrs, hfr, hlo, hws, hcw⟩, hcode, hini, hy, hlen, hl, hstt⟩ := cw
  have hK : Back l R p e below s args y 3 8 (PreOf R mc ms Pc) (PostOf Qc mc ms free) := va_backW (hh := hh) (bytes := bytes) (maxL := maxL) (ret := ret) hM hp.1 hrc hrs hfr hlo hws hcw (fun a' U hW => word_at hW (Or.inl (by first | rfl | simp [Cond.onTables, Cond.keeps, Cond.steady])) hini)
  obtain ⟨hx, hb, hml, ho, -⟩ := S
  intro T hT X
  obtain ⟨v, vm₁, ⟨U', l2, c2, s2⟩, hW₁, X', ⟨g', mk, t, L, e1, e2, hq, h1, hL, h2, h3⟩, st⟩ := vx_callSW X hx (hh := hh) (bytes := bytes) (maxL := maxL) (ret := ret) ho hl hstt hini hcode hy hK hg (hsize.trans hml.symm) (argsL := As) (rest := rest) (fun sig h => hn.trans (hlen sig h)) hstack hW (by rw [hb]; exact hdg)
    (fun vm₁ hW₁ => ⟨hf.1, hf.2, hp.2 (T.setVm vm₁) hT hW₁⟩)
  dsimp only [Pt.U, Pt.locs, Pt.cells, Pt.slots] at X' e1 e2 h1 h2 h3 st
  subst h1; subst h2; subst h3
  exact ⟨v, (T.setVm vm₁).calling g' mk As.toArray, t, U', L, hT, X', hL, e1, e2, hq, st⟩
/-- not caught here, past rows that name other classes: it goes on to the caller -/
theorem vx_outP {p : Program} {l : Launch} {e : Env} {R : Room} {s : State} {m : MethodId} {args : Array Value} {below : List Frame} {meth : Method} {c : Code} {H : Heap} {locs : List Loc} {cells slots : Nat} {free : Addr → Prop} {ls : Array Slot} {rest : List Value} {Qc : Array Value → State → Outcome → State → Prop} {XC : String → State → State → Prop}
    {pc : Nat} {own E : String} {ce : Cell} {q : Addr} {mc ms : Nat} (hown : s.vm.findClass own = some m.cls) (hlocks : meth.locks = false)
    (hpass : ∀ z ∈ c.exceptionTable.toList, covers z pc = false ∨ (z.catchType ≠ 0 ∧ ∃ nm : String, (Cond.classLink own z.catchType nm).before args s = true ∧ va_Nc E nm s)) (hcell : H[q]? = some ce) (hv : ce.vm = .none) (hcl : s.vm.findClass E = some ce.cls)
    (hx : ∀ t : State, t.heap = H → s.vm.Alike t.vm → XC E s t) (hf : ∀ z ∈ locs, free z.base) (hc : cells ≤ mc) (hs : slots ≤ ms) :
    vx_W p l e R s m args below meth c H locs cells slots (vx_MQ below Qc XC args s mc ms free) (F0 m pc ls rest) q := by
  intro T hT X
  have hpl : e.platform.magicAccessors = ({} : Platform).magicAccessors := by rw [X.admits.platform]
  obtain ⟨vm', hW', X', st⟩ := X.outThrough hlocks q (g := F0 m pc ls rest) rfl rfl rfl (cell := ce) (by rw [hT]; exact hcell) (by rw [hv]; rfl)
    (by obtain ⟨k9, h9, -⟩ := Vm.findClass_spec hcl; exact ⟨k9, h9⟩) (fun z hz => by
      rcases hpass z hz with h | ⟨hz0, nm, hl1, hn1⟩
      · exact Or.inl h
      · obtain ⟨c6, hc6, hcl6⟩ := Cond.classLink_spec hown hl1 e.platform hpl
        obtain ⟨a8, b8, h1, h2, h3⟩ := hn1
        cases Option.some.inj (h1.symm.trans hcl)
        cases Option.some.inj (h2.symm.trans hc6)
        exact Or.inr ⟨hz0, _, hcl6, h3⟩)
  obtain ⟨g₀, hfr⟩ := X'.frames_eq
  have hcell9 : ((T.setVm vm').setFrames (.throwing q :: below)).heap[q]? = some ce := by
    show T.heap[q]? = some ce
    rw [hT]; exact hcell
  have hend : Ended ((T.setVm vm').setFrames (.throwing q :: below)) below (.threw q) := State.frames_setFrames _ (State.cur_lt_of_frames hfr)
  refine ⟨(T.setVm vm').setFrames (.throwing q :: below), ?_, .threw q, X'.here.running, hend, Or.inr ⟨q, rfl, E, ce, locs, hx _ hT (X'.ends _).1.alike, hcell9, hv, hcl, (X'.ends _).1, (X'.ends _).2.mono hc hs, hf⟩⟩
  rw [X.pushThrowing_eq]
  exact st
/-- a thing of a world lies in the heap -/
theorem vx_lt {D : va_G} {cl : List vw_C} {ws : va_W} {H1 : Heap} (h : va_P D cl ws H1) {k : Nat} {q : Nat × va_E} (hk : ws[k]? = some q) : q.1 < H1.size := (h k q hk).lt
end VXS
/-! ===== END ===== -/
/-! ===== BEGIN methods with a table of their own: called by a name, returning or throwing ===== -/
section VXH
/-! vx_backW, vx_callVX, vx_callSX, vx_callVW, vx_runVW, vx_runVX, vx_runSX, vx_ofWH follow the same proofs as their sisters above (Free/Laws.lean, Shelf42/LK1.lean); vx_outP calls Shelf42/NT130.lean (outThrough). -/
section
variable {l : Launch} {R : Room} {p : Program} {e : Env} {below : List Frame} {s : State} {sargs : Array Value} {y : MethodName} {len W9 : Nat}
theorem vx_backW {ws : List Cond} {rm : Room} {Pc : Array Value → State → Prop} {Qc : Array Value → State → Outcome → State → Prop} {XC : String → State → State → Prop} {mc ms : Nat} {free : Addr → Prop} {bytes : ByteArray} {maxL : Nat} {ret : Option FieldType} {hh : List (Nat × Nat × Nat × Nat)}
    (hM : vx_Met l y ws rm Pc Qc XC mc ms free) (hblind : FrameBlind Pc) (hrc : rm.cells = mc) (hrs : rm.slots = ms)
    (hframes : rm.frames + 1 ≤ R.frames) (hlocals : W9 + (maxL + 11) + rm.locals ≤ R.locals)
    (hws : ∀ w ∈ ws, ∀ a' U, s.WarmedH U.vm → w.before a' U = true) (hcode : Cond.codeWith y bytes maxL ret hh ∈ ws) (hinit : ∀ a' U, s.WarmedH U.vm → (Cond.initialized y.cls).before a' U = true) :
    vx_Back l R p e below s sargs y len W9 (PreOf R mc ms Pc) (PostOf Qc mc ms free) (vx_Post XC mc ms free) := by
  intro m meth c A g ig mk a X hg hsize hdg hW hn hp
  have h1 : (headSpec ws rm).pre.before a A.U = true := atoms_intro fun w hw => hws w hw _ _ X.warmed
  have h2 : (Cond.codeWith y bytes maxL ret hh).before a A.U = true := hws _ hcode _ _ X.warmed
  have h3 : (Cond.initialized y.cls).before a A.U = true := hinit _ _ X.warmed
  have h4 : A.cells + (headSpec ws rm).room.cells ≤ R.cells := by rw [show (headSpec ws rm).room.cells = mc from hrc]; exact hp.1
  have h5 : A.slots + (headSpec ws rm).room.slots ≤ R.slots := by rw [show (headSpec ws rm).room.slots = ms from hrs]; exact hp.2.1
  have hPc : Pc a (A.U.calling g mk a) := hblind _ _ _ _ hp.2.2
  obtain ⟨U, Ls, c0, s0⟩ := A
  dsimp only [Pt.U, Pt.locs, Pt.cells, Pt.slots] at h1 h2 h3 h4 h5 X hn hPc ⊢
  obtain ⟨m9, methY, cY, hn9, hmY, hcY, -, hlY, -⟩ := Cond.codeWith_spec h2
  cases Option.some.inj (hn9.symm.trans hn)
  obtain ⟨kY, hkY, -⟩ := className_of_methodNamed hn
  have hinitY : kY.init = .initialized := Cond.initialized_spec (findClass_of_methodNamed hn) hkY h3
  have h : At U g.method c below := by rw [hg]; exact X.here
  have hlocals9 : W9 + (maxL + 11) + (headSpec ws rm).room.locals ≤ R.locals := hlocals
  have happ : (headSpec ws rm).appliesLoose y e.platform (U.calling g mk a) = true :=
    Spec.appliesLoose_calling (g := g) h hdg hn hkY hinitY
      (X.room_calling (g := g) (R' := (headSpec ws rm).room) hsize hmY hcY hframes (by rw [hlY]; omega) h4 h5) h1
  obtain ⟨mid, hmid⟩ := h.above
  have hfr : (U.setTop g).frames = (.java g :: mid) ++ below := by rw [State.frames_setTop' g h.top, hmid]; rfl
  obtain ⟨o, s₂, hsteps, -, hend, hq⟩ := Steps.callFree hM p X.admits X.cas X.clock (acts := []) hfr happ hPc trivial
  have hq' : vx_Q Qc XC mc ms free a (U.calling g mk a) o s₂ := hq
  rw [State.frames_setTop' g h.top] at hend
  obtain ⟨g₀, hg0⟩ := Option.isSome_iff_exists.mp h.top
  obtain ⟨r, hr⟩ := State.topJava?_eq_some.mp hg0
  have hr' : (({ U with heap := s₂.heap, slotsUsed := s₂.slotsUsed } : State).setVm s₂.vm).frames = .java g₀ :: r := hr
  rcases hq' with ⟨hqc, L, hfe, hL⟩ | ⟨q, rfl, E, ce, L, hx, hce, hcv, hcl, hW₂, hsm, hL⟩
  · obtain ⟨⟨v, rfl⟩, hW₂, e2, q2, q3, q4, q5, q6⟩ := id hfe
    have e3 : s₂ = ({ (U.calling g mk a).setFrames s₂.frames with heap := s₂.heap, slotsUsed := s₂.slotsUsed } : State).setVm s₂.vm := by
      have : s₂ = ({ s₂ with vm := (U.calling g mk a).vm } : State).setVm s₂.vm := rfl
      rw [e2] at this
      exact this
    obtain ⟨c₂, i₂, len₂, hc₂, hd₂, hf₂⟩ := hend
    have hW' : U.WarmedH s₂.vm := hW₂
    have hcc : c₂ = c := by
      have h1 : s₂.code? g.method = U.code? g.method := by
        rw [State.code?_eq, State.code?_eq, hW'.alike.method?]
      exact Option.some.inj (hc₂.symm.trans (h1.trans h.code))
    subst hcc
    have hlen : len₂ = len := by rw [hdg] at hd₂; cases hd₂; rfl
    subst hlen
    have hs₂ : s₂ = (({ U with heap := s₂.heap, slotsUsed := s₂.slotsUsed } : State).setVm s₂.vm).setTop { g with pc := g.pc + len₂, stack := v.toList ++ g.stack } := by
      refine e3.trans ?_
      rw [hf₂, State.calling_eq h.top, State.setFrames_setFrames, State.setTop_of_frames _ hr', hr]
      rfl
    have hsame : U.sameButNew ({ U with heap := s₂.heap, slotsUsed := s₂.slotsUsed } : State) L mc ms := by
      refine ⟨?_, q2, q3, q4, q5, q6⟩
      obtain ⟨t, ht, -⟩ := State.frames_cons hr
      show ({ U with heap := s₂.heap, slotsUsed := s₂.slotsUsed } : State) = { U.setFrames U.frames with heap := s₂.heap, slotsUsed := s₂.slotsUsed }
      rw [State.setFrames_self ht]
    subst hg
    refine Or.inl ⟨v, ⟨(({ U with heap := s₂.heap, slotsUsed := s₂.slotsUsed } : State).setVm s₂.vm), Ls ++ L, c0 + mc, s0 + ms⟩,
      ⟨X.admits, X.cas, X.clock, X.frames, X.room, X.hears, X.method, X.code, (X.here.setHeapUsed s₂.heap s₂.slotsUsed).setVm hW'.alike, X.tail, State.WarmedH.trans X.warmed hW', X.limits, X.bytes, X.same.trans (hsame.setVm s.vm)⟩,
      ⟨g, mk, s₂, L, rfl, rfl, hqc, rfl, hL, rfl, rfl⟩, ?_⟩
    show Steps p.tables e below _ ((({ U with heap := s₂.heap, slotsUsed := s₂.slotsUsed } : State).setVm s₂.vm).setTop { g with pc := g.pc + len₂, stack := v.toList ++ g.stack })
    rw [← hs₂]
    exact hsteps
  · obtain ⟨e2, q2, q3, q4, q5, q6⟩ := id hsm
    have e3 : s₂ = ({ (U.calling g mk a).setFrames s₂.frames with heap := s₂.heap, slotsUsed := s₂.slotsUsed } : State).setVm s₂.vm := by
      have : s₂ = ({ s₂ with vm := (U.calling g mk a).vm } : State).setVm s₂.vm := rfl
      rw [e2] at this
      exact this
    have hf₂ : s₂.frames = .throwing q :: .java g :: U.frames.tail := hend
    have hW' : U.WarmedH s₂.vm := hW₂
    have hs₂ : s₂ = ((({ U with heap := s₂.heap, slotsUsed := s₂.slotsUsed } : State).setVm s₂.vm).setTop g).pushFrame (.throwing q) := by
      refine e3.trans ?_
      rw [hf₂, State.calling_eq h.top, State.setFrames_setFrames, State.pushFrame, State.frames_setTop _ hr', State.setTop_of_frames _ hr', State.setFrames_setFrames, hr]
      rfl
    have hsame : U.sameButNew ({ U with heap := s₂.heap, slotsUsed := s₂.slotsUsed } : State) L mc ms := by
      refine ⟨?_, q2, q3, q4, q5, q6⟩
      obtain ⟨t, ht, -⟩ := State.frames_cons hr
      show ({ U with heap := s₂.heap, slotsUsed := s₂.slotsUsed } : State) = { U.setFrames U.frames with heap := s₂.heap, slotsUsed := s₂.slotsUsed }
      rw [State.setFrames_self ht]
    subst hg
    refine Or.inr ⟨q, ⟨(({ U with heap := s₂.heap, slotsUsed := s₂.slotsUsed } : State).setVm s₂.vm), Ls ++ L, c0 + mc, s0 + ms⟩,
      ⟨X.admits, X.cas, X.clock, X.frames, X.room, X.hears, X.method, X.code, (X.here.setHeapUsed s₂.heap s₂.slotsUsed).setVm hW'.alike, X.tail, State.WarmedH.trans X.warmed hW', X.limits, X.bytes, X.same.trans (hsame.setVm s.vm)⟩,
      ⟨g, mk, s₂, L, E, ce, rfl, rfl, hx, hce, hcv, hcl, rfl, hL, rfl, rfl⟩, ?_⟩
    show Steps p.tables e below _ (((({ U with heap := s₂.heap, slotsUsed := s₂.slotsUsed } : State).setVm s₂.vm).setTop g).pushFrame (.throwing q))
    rw [← hs₂]
    exact hsteps
end
variable {p : Program} {l : Launch} {e : Env} {R : Room} {s : State} {m : MethodId} {args : Array Value} {below : List Frame} {meth : Method} {c : Code} {T : State} {H : Heap} {locs : List Loc} {cells slots : Nat}
theorem vx_callVX (X : Stand p l e R s m args below meth c T locs cells slots) (hexec : p.tables.exec = Jvm.exec) {own C : String} {index : Nat} {y : MethodName} {bytes : ByteArray} {maxL : Nat} {ret : Option FieldType} {hh : List (Nat × Nat × Nat × Nat)}
    (hown : s.vm.findClass own = some m.cls) (hlink : (Cond.methodLink own index y).before args s = true) (hinst : (Cond.instanceMethod y).before args s = true) (hsel : (Cond.selects C y y).before args s = true)
    (hcode : (Cond.codeWith y bytes maxL ret hh).before args s = true) (hy : y.cls ≠ "java/lang/invoke/MethodHandle" ∧ y.cls ≠ "java/lang/invoke/VarHandle")
    {W9 : Nat} {Pre : Pt → Array Value → Prop} {Post : Pt → Array Value → Option Value → Pt → Prop} {PostX : Pt → Array Value → Addr → Pt → Prop} (hK : vx_Back l R p e below s args y 3 W9 Pre Post PostX)
    {b : Addr} {cellB : Cell} (hcell : T.heap[b]? = some cellB) (hobj : cellB.vm.isStatics = false) (hcls : s.vm.findClass C = some cellB.cls)
    {g : JFrame} (hg : g.method = m) (hsize : g.locals.size = c.maxLocals) {argsL rest : List Value} (hlen : ∀ sig, parseMethodDescriptor y.desc = some sig → argsL.length = sig.parameters.length)
    (hstack : g.stack = argsL.reverse ++ .ref b :: rest) (hW : 2 * g.monitorRoom + (rest.map fun v => v.category).sum ≤ W9) (hdg : decode c.code g.pc = .ok (.invokevirtual index, 3))
    (hpre : ∀ vm₁, s.WarmedH vm₁ → Pre ⟨T.setVm vm₁, locs, cells, slots⟩ (Value.ref b :: argsL).toArray) :
    (∃ (v : Option Value) (vm₁ : Vm) (B : Pt), s.WarmedH vm₁ ∧ Stand p l e R s m args below meth c B.U B.locs B.cells B.slots ∧ Post ⟨T.setVm vm₁, locs, cells, slots⟩ (Value.ref b :: argsL).toArray v B ∧
      ∀ target, Steps p.tables e below (B.U.setTop { g with pc := g.pc + 3, stack := v.toList ++ rest }) target → Steps p.tables e below (T.setTop g) target) ∨
    (∃ (q : Addr) (vm₁ : Vm) (B : Pt), s.WarmedH vm₁ ∧ Stand p l e R s m args below meth c B.U B.locs B.cells B.slots ∧ PostX ⟨T.setVm vm₁, locs, cells, slots⟩ (Value.ref b :: argsL).toArray q B ∧
      Steps p.tables e below (T.setTop g) ((B.U.setTop { g with stack := rest }).pushFrame (.throwing q))) := by
  obtain ⟨mk, methM, hnamed, hmethM, hstM, habM⟩ := Cond.instanceMethod_spec hinst
  obtain ⟨m8, methM', cM, hn8, hmethM', -, -, -, -, -, -, hsigM⟩ := Cond.codeWith_spec hcode
  cases Option.some.inj (hn8.symm.trans hnamed)
  cases hmethM.symm.trans hmethM'
  obtain ⟨c2, r2, m2, q1, q2, q3, q4, kP, hkP, hkPi⟩ := Cond.selects_spec hsel
  cases hcls.symm.trans q1
  cases (State.methodFound?_of_named hnamed hy).symm.trans q2
  cases hnamed.symm.trans q3
  have hselP : selectMethod e.platform s.vm cellB.cls mk = .method mk := by rw [Launch.admits_selectMethod X.admits]; exact q4
  obtain ⟨vm₁, X₁, hstep₁⟩ := X.invokevirtual hexec hown hlink hnamed hmethM hstM hkP hkPi hy (a := b) (cell := cellB) hcell
    (fun z h => by rw [h] at hobj; cases hobj) hselP hmethM habM hkP hkPi (g := g) hg (argsL := argsL) (rest := rest) (hlen _ hsigM) hstack hdg
  rcases hK m meth c ⟨T.setVm vm₁, locs, cells, slots⟩ { g with stack := rest } (.invokevirtual index) mk (Value.ref b :: argsL).toArray X₁ hg hsize hdg hW (X₁.named hnamed) (hpre vm₁ X₁.warmed) with ⟨v, B, X', hpost, hsteps⟩ | ⟨q, B, X', hpost, hsteps⟩
  · exact Or.inl ⟨v, vm₁, B, X₁.warmed, X', hpost, fun target h => hstep₁ _ fun acts => by rw [doInvoke_state]; exact hsteps.trans h⟩
  · exact Or.inr ⟨q, vm₁, B, X₁.warmed, X', hpost, hstep₁ _ fun acts => by rw [doInvoke_state]; exact hsteps⟩
theorem vx_callSX (X : Stand p l e R s m args below meth c T locs cells slots) (hexec : p.tables.exec = Jvm.exec) {own : String} {index : Nat} {y : MethodName} {bytes : ByteArray} {maxL : Nat} {ret : Option FieldType} {hh : List (Nat × Nat × Nat × Nat)}
    (hown : s.vm.findClass own = some m.cls) (hlink : (Cond.methodLink own index y).before args s = true) (hstat : (Cond.static y).before args s = true) (hinit : (Cond.initialized y.cls).before args s = true)
    (hcode : (Cond.codeWith y bytes maxL ret hh).before args s = true) (hy : y.cls ≠ "java/lang/invoke/MethodHandle" ∧ y.cls ≠ "java/lang/invoke/VarHandle")
    {W9 : Nat} {Pre : Pt → Array Value → Prop} {Post : Pt → Array Value → Option Value → Pt → Prop} {PostX : Pt → Array Value → Addr → Pt → Prop} (hK : vx_Back l R p e below s args y 3 W9 Pre Post PostX)
    {g : JFrame} (hg : g.method = m) (hsize : g.locals.size = c.maxLocals) {argsL rest : List Value} (hlen : ∀ sig, parseMethodDescriptor y.desc = some sig → argsL.length = sig.parameters.length)
    (hstack : g.stack = argsL.reverse ++ rest) (hW : 2 * g.monitorRoom + (rest.map fun v => v.category).sum ≤ W9) (hdg : decode c.code g.pc = .ok (.invokestatic index, 3))
    (hpre : ∀ vm₁, s.WarmedH vm₁ → Pre ⟨T.setVm vm₁, locs, cells, slots⟩ argsL.toArray) :
    (∃ (v : Option Value) (vm₁ : Vm) (B : Pt), s.WarmedH vm₁ ∧ Stand p l e R s m args below meth c B.U B.locs B.cells B.slots ∧ Post ⟨T.setVm vm₁, locs, cells, slots⟩ argsL.toArray v B ∧
      ∀ target, Steps p.tables e below (B.U.setTop { g with pc := g.pc + 3, stack := v.toList ++ rest }) target → Steps p.tables e below (T.setTop g) target) ∨
    (∃ (q : Addr) (vm₁ : Vm) (B : Pt), s.WarmedH vm₁ ∧ Stand p l e R s m args below meth c B.U B.locs B.cells B.slots ∧ PostX ⟨T.setVm vm₁, locs, cells, slots⟩ argsL.toArray q B ∧
      Steps p.tables e below (T.setTop g) ((B.U.setTop { g with stack := rest }).pushFrame (.throwing q))) := by
  obtain ⟨mk, methM, cM, hnamed, hmethM, -, -, -, -, -, -, hsigM⟩ := Cond.codeWith_spec hcode
  have hstatic : methM.isStatic = true := Cond.static_spec hnamed hmethM hstat
  obtain ⟨kP, hkP, -⟩ := className_of_methodNamed hnamed
  have hinitP : kP.init = .initialized := Cond.initialized_spec (findClass_of_methodNamed hnamed) hkP hinit
  obtain ⟨vm₁, X₁, hstep₁⟩ := X.invokestatic hexec hown hlink hnamed hmethM hstatic hkP hinitP hy (g := g) hg (argsL := argsL) (rest := rest) (hlen _ hsigM) hstack hdg
  rcases hK m meth c ⟨T.setVm vm₁, locs, cells, slots⟩ { g with stack := rest } (.invokestatic index) mk argsL.toArray X₁ hg hsize hdg hW (X₁.named hnamed) (hpre vm₁ X₁.warmed) with ⟨v, B, X', hpost, hsteps⟩ | ⟨q, B, X', hpost, hsteps⟩
  · exact Or.inl ⟨v, vm₁, B, X₁.warmed, X', hpost, fun target h => hstep₁ _ fun acts => by rw [doInvoke_state]; exact hsteps.trans h⟩
  · exact Or.inr ⟨q, vm₁, B, X₁.warmed, X', hpost, hstep₁ _ fun acts => by rw [doInvoke_state]; exact hsteps⟩
theorem vx_callVW (X : Stand p l e R s m args below meth c T locs cells slots) (hexec : p.tables.exec = Jvm.exec) {own C : String} {index : Nat} {y : MethodName} {bytes : ByteArray} {maxL : Nat} {ret : Option FieldType} {hh : List (Nat × Nat × Nat × Nat)}
    (hown : s.vm.findClass own = some m.cls) (hlink : (Cond.methodLink own index y).before args s = true) (hinst : (Cond.instanceMethod y).before args s = true) (hsel : (Cond.selects C y y).before args s = true)
    (hcode : (Cond.codeWith y bytes maxL ret hh).before args s = true) (hy : y.cls ≠ "java/lang/invoke/MethodHandle" ∧ y.cls ≠ "java/lang/invoke/VarHandle")
    {W9 : Nat} {Pre : Pt → Array Value → Prop} {Post : Pt → Array Value → Option Value → Pt → Prop} (hK : Back l R p e below s args y 3 W9 Pre Post)
    {b : Addr} {cellB : Cell} (hcell : T.heap[b]? = some cellB) (hobj : cellB.vm.isStatics = false) (hcls : s.vm.findClass C = some cellB.cls)
    {g : JFrame} (hg : g.method = m) (hsize : g.locals.size = c.maxLocals) {argsL rest : List Value} (hlen : ∀ sig, parseMethodDescriptor y.desc = some sig → argsL.length = sig.parameters.length)
    (hstack : g.stack = argsL.reverse ++ .ref b :: rest) (hW : 2 * g.monitorRoom + (rest.map fun v => v.category).sum ≤ W9) (hdg : decode c.code g.pc = .ok (.invokevirtual index, 3))
    (hpre : ∀ vm₁, s.WarmedH vm₁ → Pre ⟨T.setVm vm₁, locs, cells, slots⟩ (Value.ref b :: argsL).toArray) :
    ∃ (v : Option Value) (vm₁ : Vm) (B : Pt), s.WarmedH vm₁ ∧ Stand p l e R s m args below meth c B.U B.locs B.cells B.slots ∧ Post ⟨T.setVm vm₁, locs, cells, slots⟩ (Value.ref b :: argsL).toArray v B ∧
      ∀ target, Steps p.tables e below (B.U.setTop { g with pc := g.pc + 3, stack := v.toList ++ rest }) target → Steps p.tables e below (T.setTop g) target := by
  obtain ⟨mk, methM, hnamed, hmethM, hstM, habM⟩ := Cond.instanceMethod_spec hinst
  obtain ⟨m8, methM', cM, hn8, hmethM', -, -, -, -, -, -, hsigM⟩ := Cond.codeWith_spec hcode
  cases Option.some.inj (hn8.symm.trans hnamed)
  cases hmethM.symm.trans hmethM'
  obtain ⟨c2, r2, m2, q1, q2, q3, q4, kP, hkP, hkPi⟩ := Cond.selects_spec hsel
  cases hcls.symm.trans q1
  cases (State.methodFound?_of_named hnamed hy).symm.trans q2
  cases hnamed.symm.trans q3
  have hselP : selectMethod e.platform s.vm cellB.cls mk = .method mk := by rw [Launch.admits_selectMethod X.admits]; exact q4
  obtain ⟨vm₁, X₁, hstep₁⟩ := X.invokevirtual hexec hown hlink hnamed hmethM hstM hkP hkPi hy (a := b) (cell := cellB) hcell
    (fun z h => by rw [h] at hobj; cases hobj) hselP hmethM habM hkP hkPi (g := g) hg (argsL := argsL) (rest := rest) (hlen _ hsigM) hstack hdg
  obtain ⟨v, B, X', hpost, hsteps⟩ := hK m meth c ⟨T.setVm vm₁, locs, cells, slots⟩ { g with stack := rest } (.invokevirtual index) mk (Value.ref b :: argsL).toArray X₁ hg hsize hdg hW (X₁.named hnamed) (hpre vm₁ X₁.warmed)
  exact ⟨v, vm₁, B, X₁.warmed, X', hpost, fun target h => hstep₁ _ fun acts => by rw [doInvoke_state]; exact hsteps.trans h⟩
abbrev vx_CVW (R : Room) (s : State) (args : Array Value) (own C : String) (index : Nat) (y : MethodName) (bytes : ByteArray) (maxL : Nat) (ret : Option FieldType) (hh : List (Nat × Nat × Nat × Nat)) (ws : List Cond) (rm : Room) (mc ms n : Nat) : Prop :=
  (rm.cells = mc ∧ rm.slots = ms ∧ rm.frames + 1 ≤ R.frames ∧ 8 + (maxL + 11) + rm.locals ≤ R.locals ∧ (∀ w ∈ ws, ∀ (a' : Array Value) (U : State), s.WarmedH U.vm → w.before a' U = true) ∧ Cond.codeWith y bytes maxL ret hh ∈ ws) ∧
  (Cond.codeWith y bytes maxL ret hh).before args s = true ∧ (Cond.initialized y.cls).before args s = true ∧ (y.cls ≠ "java/lang/invoke/MethodHandle" ∧ y.cls ≠ "java/lang/invoke/VarHandle") ∧
  (∀ sig, parseMethodDescriptor y.desc = some sig → n = sig.parameters.length) ∧ (Cond.methodLink own index y).before args s = true ∧ (Cond.instanceMethod y).before args s = true ∧ (Cond.selects C y y).before args s = true
theorem vx_cwVW {own C : String} {index maxL mc ms : Nat} {y : MethodName} {bytes : ByteArray} {ret : Option FieldType} {hh : List (Nat × Nat × Nat × Nat)} {Ts ws ws' : List Cond} {rm : Room} (n : Nat) (ht : ∀ w ∈ Ts, w.before args s = true) (hT : GoodIn Ts (wsV own index C y ws)) (hw : ws = Cond.codeWith y bytes maxL ret hh :: ws') (hrc : rm.cells = mc) (hrs : rm.slots = ms)
    (hd : y.cls = C ∧ y.cls ≠ "java/lang/invoke/MethodHandle" ∧ y.cls ≠ "java/lang/invoke/VarHandle" ∧ (parseMethodDescriptor y.desc).map (fun d => d.parameters.length) = some n) (hR : rm.frames + 1 ≤ R.frames ∧ 8 + (maxL + 11) + rm.locals ≤ R.locals) :
    vx_CVW R s args own C index y bytes maxL ret hh ws rm mc ms n := by
  obtain ⟨hC, hd⟩ := hd
  subst hC
  have ok : ∀ w ∈ wsV own index y.cls y ws, w.before args s = true := fun w h => ht w (hT w h).1
  have hG : GoodIn Ts ws := fun w h => hT w (by unfold wsV; exact List.mem_append_right _ h)
  have hc : Cond.codeWith y bytes maxL ret hh ∈ ws := by rw [hw]; exact List.mem_cons_self
  refine ⟨⟨hrc, hrs, hR.1, hR.2, pay_in ht hG, hc⟩, ht _ (hG _ hc).1, ok _ (by simp [wsV]), ⟨hd.1, hd.2.1⟩, fun sig h => ?_, ok _ (by simp [wsV]), ok _ (by simp [wsV]), ok _ (by simp [wsV])⟩
  have h2 := hd.2.2
  rw [h] at h2
  exact (Option.some.inj h2).symm
theorem vx_runVW {y : MethodName} {bytes cc : ByteArray} {maxL nL mc ms n index : Nat} {ret : Option FieldType} {hh : List (Nat × Nat × Nat × Nat)} {ws : List Cond} {rm : Room} {Pc : Array Value → State → Prop} {Qc : Array Value → State → Outcome → State → Prop} {free : Addr → Prop} {Ts : List Cond} {own C : String} {b : Addr} {As rest : List Value} {g : JFrame}
    (S : CallFix p m c cc nL s args Ts own) (hM : Met l y ws rm Pc Qc mc ms free) (cw : vx_CVW R s args own C index y bytes maxL ret hh ws rm mc ms n) (hp : PreV s H C b Pc As)
    (hg : g.method = m) (hn : As.length = n) (hsize : g.locals.size = nL) (hstack : g.stack = As.reverse ++ .ref b :: rest) (hW : 2 * g.monitorRoom + (rest.map fun v => v.category).sum ≤ 8) (hdg : decode cc g.pc = .ok (.invokevirtual index, 3)) (hf : cells + mc ≤ R.cells ∧ slots + ms ≤ R.slots) :
    va_Run p l e R s m args below meth c H locs cells slots mc ms g rest (Qc (Value.ref b :: As).toArray) free := by
  obtain ⟨⟨hrc, hrs, hfr, hlo, hws, hcw⟩, hcode, hini, hy, hlen, hl, hin, hse⟩ := cw
  have hK : Back l R p e below s args y 3 8 (PreOf R mc ms Pc) (PostOf Qc mc ms free) := va_backW (hh := hh) (bytes := bytes) (maxL := maxL) (ret := ret) hM hp.1 hrc hrs hfr hlo hws hcw (fun a' U hW => word_at hW (Or.inl (by first | rfl | simp [Cond.onTables, Cond.keeps, Cond.steady])) hini)
  obtain ⟨hx, hb, hml, ho, -⟩ := S
  obtain ⟨-, ⟨cellB, hcB, hoB, hclB⟩, hPc⟩ := hp
  intro T hT X
  obtain ⟨v, vm₁, ⟨U', l2, c2, s2⟩, hW₁, X', ⟨g', mk, t, L, e1, e2, hq, h1, hL, h2, h3⟩, st⟩ := vx_callVW X hx (C := C) (hh := hh) (bytes := bytes) (maxL := maxL) (ret := ret) ho hl hin hse hcode hy hK (by rw [hT]; exact hcB) hoB hclB hg (hsize.trans hml.symm) (argsL := As) (rest := rest) (fun sig h => hn.trans (hlen sig h)) hstack hW (by rw [hb]; exact hdg)
    (fun vm₁ hW₁ => ⟨hf.1, hf.2, hPc (T.setVm vm₁) hT hW₁⟩)
  dsimp only [Pt.U, Pt.locs, Pt.cells, Pt.slots] at X' e1 e2 h1 h2 h3 st
  subst h1; subst h2; subst h3
  exact ⟨v, (T.setVm vm₁).calling g' mk (Value.ref b :: As).toArray, t, U', L, hT, X', hL, e1, e2, hq, st⟩
section
variable {y : MethodName} {bytes cc : ByteArray} {maxL nL mc ms n index : Nat} {ret : Option FieldType} {ws : List Cond} {rm : Room} {Pc : Array Value → State → Prop} {Qc : Array Value → State → Outcome → State → Prop} {XC : String → State → State → Prop} {free : Addr → Prop} {Ts : List Cond} {own C : String} {b : Addr} {As rest : List Value} {g : JFrame}
theorem vx_runVX {hh : List (Nat × Nat × Nat × Nat)} (S : CallFix p m c cc nL s args Ts own) (hM : vx_Met l y ws rm Pc Qc XC mc ms free) (cw : vx_CVW R s args own C index y bytes maxL ret hh ws rm mc ms n) (hp : PreV s H C b Pc As)
    (hg : g.method = m) (hn : As.length = n) (hsize : g.locals.size = nL) (hstack : g.stack = As.reverse ++ .ref b :: rest) (hW : 2 * g.monitorRoom + (rest.map fun v => v.category).sum ≤ 8) (hdg : decode cc g.pc = .ok (.invokevirtual index, 3)) (hf : cells + mc ≤ R.cells ∧ slots + ms ≤ R.slots) :
    vx_Run p l e R s m args below meth c H locs cells slots mc ms g rest (Qc (Value.ref b :: As).toArray) XC free := by
  obtain ⟨⟨hrc, hrs, hfr, hlo, hws, hcw⟩, hcode, hini, hy, hlen, hl, hin, hse⟩ := cw
  have hK : vx_Back l R p e below s args y 3 8 (PreOf R mc ms Pc) (PostOf Qc mc ms free) (vx_Post XC mc ms free) := vx_backW (hh := hh) (bytes := bytes) (maxL := maxL) (ret := ret) hM hp.1 hrc hrs hfr hlo hws hcw (fun a' U hW => word_at hW (Or.inl (by first | rfl | simp [Cond.onTables, Cond.keeps, Cond.steady])) hini)
  obtain ⟨hx, hb, hml, ho, -⟩ := S
  obtain ⟨-, ⟨cellB, hcB, hoB, hclB⟩, hPc⟩ := hp
  intro T hT X
  rcases vx_callVX X hx (C := C) (hh := hh) (bytes := bytes) (maxL := maxL) (ret := ret) ho hl hin hse hcode hy hK (by rw [hT]; exact hcB) hoB hclB hg (hsize.trans hml.symm) (argsL := As) (rest := rest) (fun sig h => hn.trans (hlen sig h)) hstack hW (by rw [hb]; exact hdg)
    (fun vm₁ hW₁ => ⟨hf.1, hf.2, hPc (T.setVm vm₁) hT hW₁⟩) with ⟨v, vm₁, ⟨U', l2, c2, s2⟩, hW₁, X', ⟨g', mk, t, L, e1, e2, hq, h1, hL, h2, h3⟩, st⟩ | ⟨q, vm₁, ⟨U', l2, c2, s2⟩, hW₁, X', ⟨g', mk, t, L, E, ce, e1, e2, hq, hce, hcv, hcl, h1, hL, h2, h3⟩, st⟩
  · dsimp only [Pt.U, Pt.locs, Pt.cells, Pt.slots] at X' e1 e2 h1 h2 h3 st
    subst h1; subst h2; subst h3
    exact Or.inl ⟨v, (T.setVm vm₁).calling g' mk (Value.ref b :: As).toArray, t, U', L, hT, X', hL, e1, e2, hq, st⟩
  · dsimp only [Pt.U, Pt.locs, Pt.cells, Pt.slots] at X' e1 e2 h1 h2 h3 st hcl
    subst h1; subst h2; subst h3
    exact Or.inr ⟨q, (T.setVm vm₁).calling g' mk (Value.ref b :: As).toArray, t, U', L, E, ce, hT, X', hL, e1, e2, hq, hce, hcv, vx_cls hW₁ hcl, st⟩
theorem vx_runSX {hh : List (Nat × Nat × Nat × Nat)} (S : CallFix p m c cc nL s args Ts own) (hM : vx_Met l y ws rm Pc Qc XC mc ms free) (cw : vx_CSW R s args own index y bytes maxL ret hh ws rm mc ms n) (hp : PreS s H Pc As)
    (hg : g.method = m) (hn : As.length = n) (hsize : g.locals.size = nL) (hstack : g.stack = As.reverse ++ rest) (hW : 2 * g.monitorRoom + (rest.map fun v => v.category).sum ≤ 8) (hdg : decode cc g.pc = .ok (.invokestatic index, 3)) (hf : cells + mc ≤ R.cells ∧ slots + ms ≤ R.slots) :
    vx_Run p l e R s m args below meth c H locs cells slots mc ms g rest (Qc As.toArray) XC free := by
  obtain ⟨⟨hrc, hrs, hfr, hlo, hws, hcw⟩, hcode, hini, hy, hlen, hl, hstt⟩ := cw
  have hK : vx_Back l R p e below s args y 3 8 (PreOf R mc ms Pc) (PostOf Qc mc ms free) (vx_Post XC mc ms free) := vx_backW (hh := hh) (bytes := bytes) (maxL := maxL) (ret := ret) hM hp.1 hrc hrs hfr hlo hws hcw (fun a' U hW => word_at hW (Or.inl (by first | rfl | simp [Cond.onTables, Cond.keeps, Cond.steady])) hini)
  obtain ⟨hx, hb, hml, ho, -⟩ := S
  intro T hT X
  rcases vx_callSX X hx (hh := hh) (bytes := bytes) (maxL := maxL) (ret := ret) ho hl hstt hini hcode hy hK hg (hsize.trans hml.symm) (argsL := As) (rest := rest) (fun sig h => hn.trans (hlen sig h)) hstack hW (by rw [hb]; exact hdg)
    (fun vm₁ hW₁ => ⟨hf.1, hf.2, hp.2 (T.setVm vm₁) hT hW₁⟩) with ⟨v, vm₁, ⟨U', l2, c2, s2⟩, hW₁, X', ⟨g', mk, t, L, e1, e2, hq, h1, hL, h2, h3⟩, st⟩ | ⟨q, vm₁, ⟨U', l2, c2, s2⟩, hW₁, X', ⟨g', mk, t, L, E, ce, e1, e2, hq, hce, hcv, hcl, h1, hL, h2, h3⟩, st⟩
  · dsimp only [Pt.U, Pt.locs, Pt.cells, Pt.slots] at X' e1 e2 h1 h2 h3 st
    subst h1; subst h2; subst h3
    exact Or.inl ⟨v, (T.setVm vm₁).calling g' mk As.toArray, t, U', L, hT, X', hL, e1, e2, hq, st⟩
  · dsimp only [Pt.U, Pt.locs, Pt.cells, Pt.slots] at X' e1 e2 h1 h2 h3 st hcl
    subst h1; subst h2; subst h3
    exact Or.inr ⟨q, (T.setVm vm₁).calling g' mk As.toArray, t, U', L, E, ce, hT, X', hL, e1, e2, hq, hce, hcv, vx_cls hW₁ hcl, st⟩
end
end VXH
theorem vx_ofWH {l : Launch} {y : MethodName} {ws ws' : List Cond} {rm : Room} {Pc : Array Value → State → Prop} {Qc : Array Value → State → Outcome → State → Prop} {XC : String → State → State → Prop} {mc ms : Nat} {free : Addr → Prop} {cc : ByteArray} {maxL : Nat} {ret : Option FieldType} {hh : List (Nat × Nat × Nat × Nat)}
    (hy : plainName y.cls = true) (hw : ws = Cond.codeWith y cc maxL ret hh :: ws')
    (body : ∀ p e s m args below meth c s₁, BodyLoose p l y (headSpec ws rm) cc maxL ret e s m args below meth c s₁ → c.maxLocals = maxL → Pc args s →
      W p l e (headSpec ws rm).room s m args below meth c s.heap [] 0 0 (vx_MQ below Qc XC args s mc ms free) (entryFrame m args maxL)) : vx_Met l y ws rm Pc Qc XC mc ms free := by
  refine MetFree.of_bodyS (code := cc) (maxLocals := maxL) (ret := ret) hy ?_ ?_
  · intro args s m h hn
    obtain ⟨m9, meth, c, hn9, h1, h2, h3, h4, -, h5, h6, -⟩ := Cond.codeWith_spec (atoms_spec (ws := ws) h _ (by rw [hw]; exact List.mem_cons_self))
    cases hn.symm.trans hn9
    exact ⟨meth, c, h1, h2, h3, h4, h5, h6⟩
  · intro p e s m args below meth c s₁ B hml hP _
    have hh0 : s₁.heap = s.heap := by rw [B.state]; rfl
    obtain ⟨t, a1, o, b1, b2, b3⟩ := body p e s m args below meth c s₁ B hml hP s₁ hh0 (Stand.of_body B)
    exact ⟨t, o, a1, b1, b2, b3⟩
/-! ===== END ===== -/
end
section
/-! The little machine: cells, rows, steps. DRAFT until it has compiled once. Place 0 is the script (never written). -/
-- a cell: int[] | long[] | array of references (kind, places) | object (class number, fields)
abbrev xi_C : Type := List Int32 ⊕ (List Int64 ⊕ ((Nat × List (Option Nat)) ⊕ (Nat × List Value)))
abbrev xi_L : Type := List (Nat × Value)
abbrev xi_S : Type := Nat × xi_L × List Value × List xi_C
-- a row: the instruction, two resolved numbers, a resolved int
abbrev xi_R : Type := Instr × Nat × Nat × Int32
-- returned a value or nothing | threw an exception of a kind
abbrev xi_O : Type := Option Value ⊕ Nat
-- a class: its fields' types and start values
abbrev xi_K : Type := List (FieldType × Value)
def xi_len (i : Instr) : Nat := match i with
  | .bipush _ => 2
  | .iload _ => 2
  | .aload _ => 2
  | .istore _ => 2
  | .astore _ => 2
  | .ldc _ => 2
  | .newarray _ => 2
  | .sipush _ => 3
  | .ldc_w _ => 3
  | .iinc _ _ => 3
  | .ifCond _ _ => 3
  | .if_icmp _ _ => 3
  | .goto _ => 3
  | .getfield _ => 3
  | .putfield _ => 3
  | .invokevirtual _ => 3
  | .invokespecial _ => 3
  | .invokestatic _ => 3
  | .new _ => 3
  | .anewarray _ => 3
  | .multianewarray _ _ => 4
  | _ => 1
def xi_look : xi_L → Nat → Option Value
  | [], _ => none
  | q :: l, i => bif q.1 == i then some q.2 else xi_look l i
def xi_keep (i : Nat) (q : Nat × Value) : Bool := !(q.1 == i) && !(q.1 + 1 == i && q.2.category == 2)
def xi_sto (ls : xi_L) (i : Nat) (v : Value) : xi_L := (i, v) :: ls.filter (xi_keep i)
def xi_cmp (c : ClassFile.Cond) (x y : Int32) : Bool := match c with
  | .eq => decide (x = y)
  | .ne => !decide (x = y)
  | .lt => decide (x < y)
  | .ge => decide (y ≤ x)
  | .gt => decide (y < x)
  | .le => decide (x ≤ y)
def xi_in (i : Int32) (n : Nat) : Bool := !decide (i < 0) && decide (i.toNatClampNeg < n)
def xi_fit (ty : FieldType) (v : Value) : Bool := match ty, v with
  | .int, .int _ => true
  | .boolean, .int x => decide (x = 0) || decide (x = 1)
  | .object _, .ref _ => true
  | .array _, .ref _ => true
  | _, _ => false
-- does every reference lie below n
def xi_wfv (n : Nat) (v : Value) : Bool := match v with
  | .ref i => decide (i < n)
  | _ => true
def xi_wfc (n : Nat) (c : xi_C) : Bool := match c with
  | .inl _ => true
  | .inr (.inl _) => true
  | .inr (.inr (.inl (_, l))) => l.all (fun q => match q with
    | some i => decide (i < n)
    | none => true)
  | .inr (.inr (.inr (_, fs))) => fs.all (xi_wfv n)
def xi_wf (ls : xi_L) (st : List Value) (h : List xi_C) : Bool := ls.all (fun q => xi_wfv h.length q.2) && st.all (xi_wfv h.length) && h.all (xi_wfc h.length)
-- loads
def xi_lod (i : Instr) (ls : xi_L) (v : Int32) : Option Value := match i with
  | .iload_n k => match xi_look ls k.val with
    | some (.int x) => some (.int x)
    | _ => none
  | .iload k => match xi_look ls k with
    | some (.int x) => some (.int x)
    | _ => none
  | .aload_n k => match xi_look ls k.val with
    | some (.ref x) => some (.ref x)
    | _ => none
  | .aload k => match xi_look ls k with
    | some (.ref x) => some (.ref x)
    | _ => none
  | .iconst z => some (.int (Int32.ofInt z))
  | .bipush z => some (.int (Int8.ofInt z).toInt32)
  | .sipush z => some (.int (Int16.ofInt z).toInt32)
  | .ldc _ => some (.int v)
  | .ldc_w _ => some (.int v)
  | _ => none
-- stores (and iinc): new locals, what is left of the stack
def xi_str (i : Instr) (ls : xi_L) (st : List Value) : Option (xi_L × List Value) := match i with
  | .istore_n k => match st with
    | .int x :: st => some (xi_sto ls k.val (.int x), st)
    | _ => none
  | .istore k => match st with
    | .int x :: st => some (xi_sto ls k (.int x), st)
    | _ => none
  | .astore_n k => match st with
    | .ref x :: st => some (xi_sto ls k.val (.ref x), st)
    | _ => none
  | .astore k => match st with
    | .ref x :: st => some (xi_sto ls k (.ref x), st)
    | _ => none
  | .iinc k d => match xi_look ls k with
    | some (.int x) => some (xi_sto ls k (.int (x + Int32.ofInt d)), st)
    | _ => none
  | _ => none
-- two ints to one
def xi_bin (i : Instr) (x y : Int32) : Option Int32 := match i with
  | .iadd => some (x + y)
  | .isub => some (x - y)
  | .imul => some (x * y)
  | .iand => some (x &&& y)
  | .ior => some (x ||| y)
  | .ixor => some (x ^^^ y)
  | .ishl => some (x <<< (y &&& 31))
  | .ishr => some (x >>> (y &&& 31))
  | .iushr => some (x.toUInt32 >>> (y.toUInt32 &&& Int32.toUInt32 31)).toInt32
  | .idiv => bif decide (y = 0) then none else some (x / y)
  | .irem => bif decide (y = 0) then none else some (x - x / y * y)
  | _ => none
-- the stack alone
def xi_stk (i : Instr) (st : List Value) : Option (List Value) := match i with
  | .dup => match st with
    | .int x :: st => some (.int x :: .int x :: st)
    | .ref x :: st => some (.ref x :: .ref x :: st)
    | _ => none
  | .dup2 => match st with
    | .int x :: .ref y :: st => some (.int x :: .ref y :: .int x :: .ref y :: st)
    | _ => none
  | .i2l => match st with
    | .int x :: st => some (.long x.toInt64 :: st)
    | _ => none
  | .lcmp => match st with
    | .long y :: .long x :: st => some (.int (lg_cmp x y) :: st)
    | _ => none
  | _ => match st with
    | .int y :: .int x :: st => (xi_bin i x y).map (fun z => .int z :: st)
    | _ => none
-- branches: the target is the row's first number; next pc, what is left of the stack
def xi_brn (i : Instr) (a pc : Nat) (st : List Value) : Option (Nat × List Value) := match i with
  | .goto _ => some (a, st)
  | .ifCond c _ => match st with
    | .int x :: st => some (bif xi_cmp c x 0 then a else pc + 3, st)
    | _ => none
  | .if_icmp c _ => match st with
    | .int y :: .int x :: st => some (bif xi_cmp c x y then a else pc + 3, st)
    | _ => none
  | .tableswitch _ lo hi offs => match st with
    | .int x :: st => bif decide (x.toInt < lo) || decide (hi < x.toInt) then none else (match offs[(x.toInt - lo).toNat]? with
      | some o => bif decide (0 ≤ (pc : Int) + o) then some (((pc : Int) + o).toNat, st) else none
      | none => none)
    | _ => none
  | _ => none
-- reads of the heap
def xi_rd (i : Instr) (a b : Nat) (st : List Value) (h : List xi_C) : Option (List Value) := match i with
  | .iaload => match st with
    | .int j :: .ref q :: st => match h[q]? with
      | some (.inl l) => bif xi_in j l.length then some (.int (l.getD j.toNatClampNeg 0) :: st) else none
      | _ => none
    | _ => none
  | .laload => match st with
    | .int j :: .ref (q + 1) :: st => match h[q + 1]? with
      | some (.inr (.inl l)) => bif xi_in j l.length then some (.long (l.getD j.toNatClampNeg 0) :: st) else none
      | _ => none
    | _ => none
  | .aaload => match st with
    | .int j :: .ref (q + 1) :: st => match h[q + 1]? with
      | some (.inr (.inr (.inl (k, l)))) => bif decide (k < 2) && xi_in j l.length then (match l.getD j.toNatClampNeg none with
        | some y => some (.ref y :: st)
        | none => none) else none
      | _ => none
    | _ => none
  | .arraylength => match st with
    | .ref q :: st => match h[q]? with
      | some (.inl l) => some (.int (Int32.ofNat l.length) :: st)
      | _ => none
    | _ => none
  | .getfield _ => match st with
    | .ref (q + 1) :: st => match h[q + 1]? with
      | some (.inr (.inr (.inr (ci, fs)))) => bif ci == a then (match fs[b]? with
        | some v => some (v :: st)
        | none => none) else none
      | _ => none
    | _ => none
  | _ => none
def xi_cpy (l g : List Int32) (sp dp n : Nat) : List Int32 := (List.range g.length).map (fun j => bif decide (dp ≤ j) && decide (j < dp + n) then l.getD (sp + (j - dp)) 0 else g.getD j 0)
-- which classes an array of references of a kind takes
def xi_asg (k ci : Nat) : Bool := k == 0 && (ci == 4 || ci == 5 || ci == 6)
-- writes to the heap: what is left of the stack, the heap
def xi_wr (ks : List xi_K) (i : Instr) (a b : Nat) (st : List Value) (h : List xi_C) : Option (List Value × List xi_C) := match i with
  | .iastore => match st with
    | .int x :: .int j :: .ref (q + 1) :: st => match h[q + 1]? with
      | some (.inl l) => bif xi_in j l.length then some (st, h.set (q + 1) (.inl (l.set j.toNatClampNeg x))) else none
      | _ => none
    | _ => none
  | .lastore => match st with
    | .long x :: .int j :: .ref (q + 1) :: st => match h[q + 1]? with
      | some (.inr (.inl l)) => bif xi_in j l.length then some (st, h.set (q + 1) (.inr (.inl (l.set j.toNatClampNeg x)))) else none
      | _ => none
    | _ => none
  | .aastore => match st with
    | .ref (v + 1) :: .int j :: .ref (q + 1) :: st => match h[q + 1]?, h[v + 1]? with
      | some (.inr (.inr (.inl (k, l)))), some (.inr (.inr (.inr (ci, _)))) => bif xi_in j l.length && xi_asg k ci then some (st, h.set (q + 1) (.inr (.inr (.inl (k, l.set j.toNatClampNeg (some (v + 1))))))) else none
      | _, _ => none
    | _ => none
  | .putfield _ => match st with
    | v :: .ref (q + 1) :: st => match h[q + 1]?, (ks.getD a [])[b]? with
      | some (.inr (.inr (.inr (ci, fs)))), some (ty, _) => bif ci == a && decide (b < fs.length) && xi_fit ty v then some (st, h.set (q + 1) (.inr (.inr (.inr (ci, fs.set b v))))) else none
      | _, _ => none
    | _ => none
  | .invokespecial _ => bif a == 1000 then (match st with
    | .ref _ :: st => bif decide ((st.map fun v => v.category).sum ≤ 8) then some (st, h) else none
    | _ => none) else none
  | .invokestatic _ => bif a == 1001 then (match st with
    | .int n :: .int dp :: .ref (q + 1) :: .int sp :: .ref (o + 1) :: st => match h[o + 1]?, h[q + 1]? with
      | some (.inl l), some (.inl g) => bif !decide (n < 0) && !decide (dp < 0) && !decide (sp < 0) && decide (sp.toNatClampNeg + n.toNatClampNeg ≤ l.length) && decide (dp.toNatClampNeg + n.toNatClampNeg ≤ g.length) && decide ((st.map fun v => v.category).sum ≤ 8)
          then some (st, h.set (q + 1) (.inl (xi_cpy l g sp.toNatClampNeg dp.toNatClampNeg n.toNatClampNeg))) else none
      | _, _ => none
    | _ => none) else none
  | _ => none
-- what makes cells: the stack, the heap, cells, slots
def xi_new (ks : List xi_K) (i : Instr) (a b : Nat) (st : List Value) (h : List xi_C) : Option (List Value × List xi_C × Nat × Nat) := match i with
  | .new _ => bif b == 0 then (match ks[a]? with
    | some k => some (.ref h.length :: st, h ++ [.inr (.inr (.inr (a, k.map (fun q => q.2))))], 1, k.length)
    | none => none) else none
  | .newarray .int => match st with
    | .int z :: st => bif !decide (z < 0) && decide (z.toNatClampNeg ≤ 1000) then some (.ref h.length :: st, h ++ [.inl (List.replicate z.toNatClampNeg 0)], 1, z.toNatClampNeg) else none
    | _ => none
  | .newarray .long => match st with
    | .int z :: st => bif !decide (z < 0) && decide (z.toNatClampNeg ≤ 1000) then some (.ref h.length :: st, h ++ [.inr (.inl (List.replicate z.toNatClampNeg 0))], 1, z.toNatClampNeg) else none
    | _ => none
  | .anewarray _ => match st with
    | .int z :: st => bif !decide (z < 0) && decide (z.toNatClampNeg ≤ 1000) then some (.ref h.length :: st, h ++ [.inr (.inr (.inl (a, List.replicate z.toNatClampNeg none)))], 1, z.toNatClampNeg) else none
    | _ => none
  -- new int[4][4]: the outer array first, then its rows
  | .multianewarray _ _ => match st with
    | .int 4 :: .int 4 :: st => some (.ref h.length :: st, h ++ [.inr (.inr (.inl (1, [some (h.length + 1), some (h.length + 2), some (h.length + 3), some (h.length + 4)]))), .inl [0, 0, 0, 0], .inl [0, 0, 0, 0], .inl [0, 0, 0, 0], .inl [0, 0, 0, 0]], 5, 20)
    | _ => none
  | _ => none
-- one step that ends in one next state; cells and slots made
def xi_pure (ks : List xi_K) (r : xi_R) (s : xi_S) : Option (xi_S × Nat × Nat) := match xi_lod r.1 s.2.1 r.2.2.2 with
  | some v => some ((s.1 + xi_len r.1, s.2.1, v :: s.2.2.1, s.2.2.2), 0, 0)
  | none => match xi_brn r.1 r.2.1 s.1 s.2.2.1 with
    | some q => some ((q.1, s.2.1, q.2, s.2.2.2), 0, 0)
    | none => match xi_rd r.1 r.2.1 r.2.2.1 s.2.2.1 s.2.2.2 with
      | some st => some ((s.1 + xi_len r.1, s.2.1, st, s.2.2.2), 0, 0)
      | none => match xi_str r.1 s.2.1 s.2.2.1 with
        | some q => some ((s.1 + xi_len r.1, q.1, q.2, s.2.2.2), 0, 0)
        | none => match xi_wr ks r.1 r.2.1 r.2.2.1 s.2.2.1 s.2.2.2 with
          | some q => some ((s.1 + xi_len r.1, s.2.1, q.1, q.2), 0, 0)
          | none => match xi_stk r.1 s.2.2.1 with
            | some st => some ((s.1 + xi_len r.1, s.2.1, st, s.2.2.2), 0, 0)
            | none => bif xi_wf s.2.1 s.2.2.1 s.2.2.2 then (match xi_new ks r.1 r.2.1 r.2.2.1 s.2.2.1 s.2.2.2 with
              | some q => some ((s.1 + xi_len r.1, s.2.1, q.1, q.2.1), q.2.2)
              | none => none) else none
def xi_ret (i : Instr) (st : List Value) : Option (Option Value) := match i with
  | .return_ => match st with
    | [] => some none
    | _ => none
  | .ireturn => match st with
    | [.int x] => some (some (.int x))
    | _ => none
  | _ => none
-- a call: callee (by the receiver's class), arguments, what is left of the stack
def xi_inv (vt : Nat → Nat → Option Nat) (r : xi_R) (st : List Value) (h : List xi_C) : Option (Nat × List Value × List Value) := match r.1 with
  | .invokestatic _ => bif decide (r.2.1 < 900) && decide (r.2.2.1 ≤ st.length) then some (r.2.1, (st.take r.2.2.1).reverse, st.drop r.2.2.1) else none
  -- the receiver apart: the row's second number counts it
  | .invokespecial _ => match st.drop (r.2.2.1 - 1) with
    | .ref (q + 1) :: rest => bif decide (r.2.1 < 900) then some (r.2.1, .ref (q + 1) :: (st.take (r.2.2.1 - 1)).reverse, rest) else none
    | _ => none
  | .invokevirtual _ => match st.drop (r.2.2.1 - 1) with
    | .ref (q + 1) :: rest => match h[q + 1]? with
      | some (.inr (.inr (.inr (ci, _)))) => match vt r.2.1 ci with
        | some y => some (y, .ref (q + 1) :: (st.take (r.2.2.1 - 1)).reverse, rest)
        | none => none
      | _ => none
    | _ => none
  | _ => none
-- throw new X(), at its 'new': the row's first number is the kind, its second is 1
def xi_thr (rows : List (Option xi_R)) (pc : Nat) (r : xi_R) : Option Nat := match r with
  | (.new _, a, 1, _) => match rows[pc + 3]?, rows[pc + 4]?, rows[pc + 7]? with
    | some (some (.dup, _)), some (some (.invokespecial _, 1002, _)), some (some (.athrow, _)) => some a
    | _, _, _ => none
  | _ => none
-- the handler that takes kind x at pc: handlers are (from, to, where, the kinds)
def xi_hdl : List (Nat × Nat × Nat × List Nat) → Nat → Nat → Option Nat
  | [], _, _ => none
  | q :: l, pc, x => bif decide (q.1 ≤ pc) && decide (pc < q.2.1) && q.2.2.2.contains x then some q.2.2.1 else xi_hdl l pc x
-- behind the handler's astore: that local is not known
def xi_cat (rows : List (Option xi_R)) (w : Nat) (ls : xi_L) : Option (Nat × xi_L) := match rows[w]? with
  | some (some (.astore_n k, _)) => some (w + 1, ls.filter (xi_keep k.val))
  | some (some (.astore k, _)) => some (w + 2, ls.filter (xi_keep k))
  | _ => none
-- a method: rows by pc, handlers, what it answers (0 nothing, 1 an int, 2 a boolean)
abbrev xi_M : Type := List (Option xi_R) × List (Nat × Nat × Nat × List Nat) × Nat
end
section
/-! PRINTED by gen.py out of the claim: the rows of the methods -/
-- 0: NoisyCodes.<init>()V
def xr_0 : List (Option xi_R) := [some (.aload_n 0, 0, 0, 0), some (.invokespecial 3, 1000, 1, 0), none, none, some (.aload_n 0, 0, 0, 0), some (.new 9, 1, 0, 0), none, none, some (.dup, 0, 0, 0), some (.invokespecial 11, 1, 1, 0), none, none, some (.putfield 12, 0, 0, 0), none, none, some (.aload_n 0, 0, 0, 0), some (.aload_n 0, 0, 0, 0), some (.getfield 12, 0, 0, 0), none, none, some (.getfield 16, 1, 0, 1), none, none, some (.putfield 20, 0, 1, 0), none, none, some (.aload_n 0, 0, 0, 0), some (.new 21, 3, 0, 0), none, none, some (.dup, 0, 0, 0), some (.invokespecial 23, 3, 1, 0), none, none, some (.putfield 24, 0, 2, 0), none, none, some (.aload_n 0, 0, 0, 0), some (.iconst 4, 0, 0, 0), some (.newarray .int, 0, 0, 0), none, some (.putfield 28, 0, 3, 0), none, none, some (.aload_n 0, 0, 0, 0), some (.iconst 4, 0, 0, 0), some (.newarray .int, 0, 0, 0), none, some (.putfield 32, 0, 4, 0), none, none, some (.aload_n 0, 0, 0, 0), some (.iconst 4, 0, 0, 0), some (.newarray .int, 0, 0, 0), none, some (.putfield 35, 0, 5, 0), none, none, some (.aload_n 0, 0, 0, 0), some (.iconst 4, 0, 0, 0), some (.iconst 4, 0, 0, 0), some (.multianewarray 38 2, 1, 0, 0), none, none, none, some (.putfield 40, 0, 6, 0), none, none, some (.aload_n 0, 0, 0, 0), some (.iconst 1, 0, 0, 0), some (.putfield 43, 0, 7, 0), none, none, some (.aload_n 0, 0, 0, 0), some (.iconst 0, 0, 0, 0), some (.putfield 47, 0, 8, 0), none, none, some (.return_, 0, 0, 0)]
-- 1: NoisyCodes$BlockCode.<init>()V
def xr_1 : List (Option xi_R) := [some (.aload_n 0, 0, 0, 0), some (.invokespecial 3, 1000, 1, 0), none, none, some (.aload_n 0, 0, 0, 0), some (.new 9, 2, 0, 0), none, none, some (.dup, 0, 0, 0), some (.invokespecial 11, 2, 1, 0), none, none, some (.putfield 12, 1, 0, 0), none, none, some (.aload_n 0, 0, 0, 0), some (.bipush 16, 0, 0, 0), none, some (.newarray .int, 0, 0, 0), none, some (.putfield 18, 1, 1, 0), none, none, some (.aload_n 0, 0, 0, 0), some (.iconst 1, 0, 0, 0), some (.putfield 22, 1, 2, 0), none, none, some (.aload_n 0, 0, 0, 0), some (.iconst 1, 0, 0, 0), some (.putfield 26, 1, 3, 0), none, none, some (.aload_n 0, 0, 0, 0), some (.iconst 0, 0, 0, 0), some (.putfield 29, 1, 4, 0), none, none, some (.aload_n 0, 0, 0, 0), some (.iconst 1, 0, 0, 0), some (.putfield 32, 1, 5, 0), none, none, some (.return_, 0, 0, 0)]
-- 2: NoisyCodes$Field.<init>()V
def xr_2 : List (Option xi_R) := [some (.aload_n 0, 0, 0, 0), some (.invokespecial 3, 1000, 1, 0), none, none, some (.aload_n 0, 0, 0, 0), some (.bipush 31, 0, 0, 0), none, some (.newarray .int, 0, 0, 0), none, some (.putfield 9, 2, 0, 0), none, none, some (.aload_n 0, 0, 0, 0), some (.bipush 32, 0, 0, 0), none, some (.newarray .int, 0, 0, 0), none, some (.putfield 15, 2, 1, 0), none, none, some (.aload_n 0, 0, 0, 0), some (.iconst 1, 0, 0, 0), some (.putfield 18, 2, 2, 0), none, none, some (.return_, 0, 0, 0)]
-- 3: NoisyCodes$Mender.<init>()V
def xr_3 : List (Option xi_R) := [some (.aload_n 0, 0, 0, 0), some (.invokespecial 3, 1000, 1, 0), none, none, some (.aload_n 0, 0, 0, 0), some (.iconst 3, 0, 0, 0), some (.anewarray 9, 0, 0, 0), none, none, some (.putfield 11, 3, 0, 0), none, none, some (.aload_n 0, 0, 0, 0), some (.getfield 11, 3, 0, 0), none, none, some (.iconst 0, 0, 0, 0), some (.new 17, 4, 0, 0), none, none, some (.dup, 0, 0, 0), some (.invokespecial 19, 4, 1, 1), none, none, some (.aastore, 0, 0, 0), some (.aload_n 0, 0, 0, 0), some (.getfield 11, 3, 0, 0), none, none, some (.iconst 1, 0, 0, 0), some (.new 20, 5, 0, 0), none, none, some (.dup, 0, 0, 0), some (.invokespecial 22, 6, 1, 0), none, none, some (.aastore, 0, 0, 0), some (.aload_n 0, 0, 0, 0), some (.getfield 11, 3, 0, 0), none, none, some (.iconst 2, 0, 0, 0), some (.new 23, 6, 0, 0), none, none, some (.dup, 0, 0, 0), some (.invokespecial 25, 7, 1, 0), none, none, some (.aastore, 0, 0, 0), some (.aload_n 0, 0, 0, 0), some (.bipush 7, 0, 0, 0), none, some (.newarray .int, 0, 0, 0), none, some (.putfield 26, 3, 1, 0), none, none, some (.aload_n 0, 0, 0, 0), some (.bipush 7, 0, 0, 0), none, some (.newarray .int, 0, 0, 0), none, some (.putfield 30, 3, 2, 0), none, none, some (.return_, 0, 0, 0)]
-- 4: NoisyCodes$Formulas.<init>()V
def xr_4 : List (Option xi_R) := [some (.aload_n 0, 0, 0, 0), some (.invokespecial 1, 5, 1, 1), none, none, some (.return_, 0, 0, 0)]
-- 5: NoisyCodes$Way.<init>()V
def xr_5 : List (Option xi_R) := [some (.aload_n 0, 0, 0, 0), some (.invokespecial 3, 1000, 1, 0), none, none, some (.return_, 0, 0, 0)]
-- 6: NoisyCodes$ShiftRegister.<init>()V
def xr_6 : List (Option xi_R) := [some (.aload_n 0, 0, 0, 0), some (.invokespecial 3, 5, 1, 1), none, none, some (.aload_n 0, 0, 0, 0), some (.bipush 7, 0, 0, 0), none, some (.newarray .int, 0, 0, 0), none, some (.putfield 9, 5, 0, 0), none, none, some (.aload_n 0, 0, 0, 0), some (.bipush 7, 0, 0, 0), none, some (.newarray .int, 0, 0, 0), none, some (.putfield 15, 5, 1, 0), none, none, some (.return_, 0, 0, 0)]
-- 7: NoisyCodes$Division.<init>()V
def xr_7 : List (Option xi_R) := [some (.aload_n 0, 0, 0, 0), some (.invokespecial 3, 5, 1, 1), none, none, some (.aload_n 0, 0, 0, 0), some (.bipush 7, 0, 0, 0), none, some (.newarray .int, 0, 0, 0), none, some (.putfield 9, 6, 0, 0), none, none, some (.aload_n 0, 0, 0, 0), some (.bipush 7, 0, 0, 0), none, some (.newarray .int, 0, 0, 0), none, some (.putfield 15, 6, 1, 0), none, none, some (.aload_n 0, 0, 0, 0), some (.bipush 7, 0, 0, 0), none, some (.newarray .int, 0, 0, 0), none, some (.putfield 18, 6, 2, 0), none, none, some (.aload_n 0, 0, 0, 0), some (.bipush 7, 0, 0, 0), none, some (.newarray .int, 0, 0, 0), none, some (.putfield 21, 6, 3, 0), none, none, some (.return_, 0, 0, 0)]
-- 8: NoisyCodes.begin(III)I
def xr_8 : List (Option xi_R) := [some (.iload_n 2, 0, 0, 0), some (.iconst 1, 0, 0, 0), some (.if_icmp .lt 25, 27, 0, 0), none, none, some (.iload_n 2, 0, 0, 0), some (.iconst 3, 0, 0, 0), some (.if_icmp .gt 20, 27, 0, 0), none, none, some (.iload_n 3, 0, 0, 0), some (.iconst 1, 0, 0, 0), some (.if_icmp .lt 15, 27, 0, 0), none, none, some (.iload_n 3, 0, 0, 0), some (.iconst 4, 0, 0, 0), some (.if_icmp .gt 10, 27, 0, 0), none, none, some (.iload_n 1, 0, 0, 0), some (.invokestatic 51, 9, 1, 0), none, none, some (.ifCond .ne 11, 35, 0, 0), none, none, some (.new 57, 1, 1, 0), none, none, some (.dup, 0, 0, 0), some (.invokespecial 59, 1002, 1, 0), none, none, some (.athrow, 0, 0, 0), some (.iload_n 1, 0, 0, 0), some (.invokestatic 60, 10, 1, 0), none, none, some (.ifCond .ne 11, 50, 0, 0), none, none, some (.new 63, 3, 1, 0), none, none, some (.dup, 0, 0, 0), some (.invokespecial 65, 1002, 1, 0), none, none, some (.athrow, 0, 0, 0), some (.aload_n 0, 0, 0, 0), some (.getfield 20, 0, 1, 0), none, none, some (.iload_n 1, 0, 0, 0), some (.invokevirtual 66, 13, 2, 0), none, none, some (.aload_n 0, 0, 0, 0), some (.getfield 12, 0, 0, 0), none, none, some (.iload_n 2, 0, 0, 0), some (.invokevirtual 70, 14, 2, 0), none, none, some (.aload_n 0, 0, 0, 0), some (.iload_n 3, 0, 0, 0), some (.putfield 43, 0, 7, 0), none, none, some (.aload_n 0, 0, 0, 0), some (.invokevirtual 73, 22, 1, 0), none, none, some (.aload_n 0, 0, 0, 0), some (.iconst 1, 0, 0, 0), some (.putfield 47, 0, 8, 0), none, none, some (.aload_n 0, 0, 0, 0), some (.getfield 12, 0, 0, 0), none, none, some (.getfield 76, 1, 5, 1), none, none, some (.ireturn, 0, 0, 0)]
-- 9: NoisyCodes$Field.hasRightDegree(I)Z
def xr_9 : List (Option xi_R) := [some (.iload_n 0, 0, 0, 0), some (.bipush 8, 0, 0, 0), none, some (.if_icmp .lt 13, 16, 0, 0), none, none, some (.iload_n 0, 0, 0, 0), some (.bipush 64, 0, 0, 0), none, some (.if_icmp .ge 7, 16, 0, 0), none, none, some (.iconst 1, 0, 0, 0), some (.goto 4, 17, 0, 0), none, none, some (.iconst 0, 0, 0, 0), some (.ireturn, 0, 0, 0)]
-- 10: NoisyCodes$Field.isPrimitive(I)Z
def xr_10 : List (Option xi_R) := [some (.iload_n 0, 0, 0, 0), some (.invokestatic 22, 11, 1, 0), none, none, some (.istore_n 1, 0, 0, 0), some (.iconst 1, 0, 0, 0), some (.istore_n 2, 0, 0, 0), some (.iconst 1, 0, 0, 0), some (.istore_n 3, 0, 0, 0), some (.iload_n 3, 0, 0, 0), some (.iload_n 1, 0, 0, 0), some (.if_icmp .ge 22, 33, 0, 0), none, none, some (.iload_n 2, 0, 0, 0), some (.iload_n 0, 0, 0, 0), some (.invokestatic 26, 12, 2, 0), none, none, some (.istore_n 2, 0, 0, 0), some (.iload_n 2, 0, 0, 0), some (.iconst 1, 0, 0, 0), some (.if_icmp .ne 5, 27, 0, 0), none, none, some (.iconst 0, 0, 0, 0), some (.ireturn, 0, 0, 0), some (.iinc 3 1, 0, 0, 0), none, none, some (.goto (-21), 9, 0, 0), none, none, some (.iload_n 2, 0, 0, 0), some (.iload_n 0, 0, 0, 0), some (.invokestatic 26, 12, 2, 0), none, none, some (.iconst 1, 0, 0, 0), some (.if_icmp .ne 7, 46, 0, 0), none, none, some (.iconst 1, 0, 0, 0), some (.goto 4, 47, 0, 0), none, none, some (.iconst 0, 0, 0, 0), some (.ireturn, 0, 0, 0)]
-- 11: NoisyCodes$Field.orderFor(I)I
def xr_11 : List (Option xi_R) := [some (.iload_n 0, 0, 0, 0), some (.bipush 16, 0, 0, 0), none, some (.if_icmp .ge 8, 11, 0, 0), none, none, some (.bipush 7, 0, 0, 0), none, some (.goto 16, 24, 0, 0), none, none, some (.iload_n 0, 0, 0, 0), some (.bipush 32, 0, 0, 0), none, some (.if_icmp .ge 8, 22, 0, 0), none, none, some (.bipush 15, 0, 0, 0), none, some (.goto 5, 24, 0, 0), none, none, some (.bipush 31, 0, 0, 0), none, some (.ireturn, 0, 0, 0)]
-- 12: NoisyCodes$Field.timesX(II)I
def xr_12 : List (Option xi_R) := [some (.iload_n 0, 0, 0, 0), some (.iconst 1, 0, 0, 0), some (.ishl, 0, 0, 0), some (.istore_n 2, 0, 0, 0), some (.iload_n 2, 0, 0, 0), some (.iload_n 1, 0, 0, 0), some (.invokestatic 22, 11, 1, 0), none, none, some (.if_icmp .le 9, 18, 0, 0), none, none, some (.iload_n 2, 0, 0, 0), some (.iload_n 1, 0, 0, 0), some (.ixor, 0, 0, 0), some (.goto 4, 19, 0, 0), none, none, some (.iload_n 2, 0, 0, 0), some (.ireturn, 0, 0, 0)]
-- 13: NoisyCodes$Field.makeFrom(I)V
def xr_13 : List (Option xi_R) := [some (.aload_n 0, 0, 0, 0), some (.iload_n 1, 0, 0, 0), some (.invokestatic 22, 11, 1, 0), none, none, some (.putfield 18, 2, 2, 0), none, none, some (.iconst 1, 0, 0, 0), some (.istore_n 2, 0, 0, 0), some (.iconst 0, 0, 0, 0), some (.istore_n 3, 0, 0, 0), some (.iload_n 3, 0, 0, 0), some (.aload_n 0, 0, 0, 0), some (.getfield 18, 2, 2, 0), none, none, some (.if_icmp .ge 29, 46, 0, 0), none, none, some (.aload_n 0, 0, 0, 0), some (.getfield 9, 2, 0, 0), none, none, some (.iload_n 3, 0, 0, 0), some (.iload_n 2, 0, 0, 0), some (.iastore, 0, 0, 0), some (.aload_n 0, 0, 0, 0), some (.getfield 15, 2, 1, 0), none, none, some (.iload_n 2, 0, 0, 0), some (.iload_n 3, 0, 0, 0), some (.iastore, 0, 0, 0), some (.iload_n 2, 0, 0, 0), some (.iload_n 1, 0, 0, 0), some (.invokestatic 26, 12, 2, 0), none, none, some (.istore_n 2, 0, 0, 0), some (.iinc 3 1, 0, 0, 0), none, none, some (.goto (-31), 12, 0, 0), none, none, some (.return_, 0, 0, 0)]
-- 14: NoisyCodes$BlockCode.makeFor(I)V
def xr_14 : List (Option xi_R) := [some (.aload_n 0, 0, 0, 0), some (.iload_n 1, 0, 0, 0), some (.invokevirtual 35, 15, 2, 0), none, none, some (.istore_n 2, 0, 0, 0), some (.aload_n 0, 0, 0, 0), some (.iload_n 1, 0, 0, 0), some (.putfield 22, 1, 2, 0), none, none, some (.aload_n 0, 0, 0, 0), some (.aload_n 0, 0, 0, 0), some (.iload_n 2, 0, 0, 0), some (.invokevirtual 39, 16, 2, 0), none, none, some (.putfield 26, 1, 3, 0), none, none, some (.aload_n 0, 0, 0, 0), some (.iload_n 2, 0, 0, 0), some (.invokestatic 42, 21, 1, 0), none, none, some (.putfield 29, 1, 4, 0), none, none, some (.aload_n 0, 0, 0, 0), some (.aload_n 0, 0, 0, 0), some (.getfield 12, 1, 0, 0), none, none, some (.getfield 47, 2, 2, 1), none, none, some (.aload_n 0, 0, 0, 0), some (.getfield 29, 1, 4, 0), none, none, some (.isub, 0, 0, 0), some (.putfield 32, 1, 5, 0), none, none, some (.return_, 0, 0, 0)]
-- 15: NoisyCodes$BlockCode.rootsFor(I)I
def xr_15 : List (Option xi_R) := [some (.iconst 0, 0, 0, 0), some (.istore_n 2, 0, 0, 0), some (.iconst 1, 0, 0, 0), some (.istore_n 3, 0, 0, 0), some (.iload_n 3, 0, 0, 0), some (.iconst 2, 0, 0, 0), some (.iload_n 1, 0, 0, 0), some (.imul, 0, 0, 0), some (.if_icmp .gt 48, 56, 0, 0), none, none, some (.iload_n 3, 0, 0, 0), some (.istore 4, 0, 0, 0), none, some (.iconst 0, 0, 0, 0), some (.istore 5, 0, 0, 0), none, some (.iload 5, 0, 0, 0), none, some (.iconst 5, 0, 0, 0), some (.if_icmp .ge 30, 50, 0, 0), none, none, some (.iload_n 2, 0, 0, 0), some (.iconst 1, 0, 0, 0), some (.iload 4, 0, 0, 0), none, some (.ishl, 0, 0, 0), some (.ior, 0, 0, 0), some (.istore_n 2, 0, 0, 0), some (.iconst 2, 0, 0, 0), some (.iload 4, 0, 0, 0), none, some (.imul, 0, 0, 0), some (.aload_n 0, 0, 0, 0), some (.getfield 12, 1, 0, 0), none, none, some (.getfield 47, 2, 2, 1), none, none, some (.irem, 0, 0, 0), some (.istore 4, 0, 0, 0), none, some (.iinc 5 1, 0, 0, 0), none, none, some (.goto (-30), 17, 0, 0), none, none, some (.iinc 3 1, 0, 0, 0), none, none, some (.goto (-49), 4, 0, 0), none, none, some (.iload_n 2, 0, 0, 0), some (.ireturn, 0, 0, 0)]
-- 16: NoisyCodes$BlockCode.polynomialOf(I)I
def xr_16 : List (Option xi_R) := [some (.aload_n 0, 0, 0, 0), some (.getfield 18, 1, 1, 0), none, none, some (.iconst 0, 0, 0, 0), some (.invokestatic 56, 17, 2, 0), none, none, some (.aload_n 0, 0, 0, 0), some (.getfield 18, 1, 1, 0), none, none, some (.iconst 0, 0, 0, 0), some (.iconst 1, 0, 0, 0), some (.iastore, 0, 0, 0), some (.iconst 0, 0, 0, 0), some (.istore_n 2, 0, 0, 0), some (.iload_n 2, 0, 0, 0), some (.aload_n 0, 0, 0, 0), some (.getfield 12, 1, 0, 0), none, none, some (.getfield 47, 2, 2, 1), none, none, some (.if_icmp .ge 30, 55, 0, 0), none, none, some (.iload_n 1, 0, 0, 0), some (.iload_n 2, 0, 0, 0), some (.iushr, 0, 0, 0), some (.iconst 1, 0, 0, 0), some (.iand, 0, 0, 0), some (.iconst 1, 0, 0, 0), some (.if_icmp .ne 15, 49, 0, 0), none, none, some (.aload_n 0, 0, 0, 0), some (.aload_n 0, 0, 0, 0), some (.getfield 12, 1, 0, 0), none, none, some (.iload_n 2, 0, 0, 0), some (.invokevirtual 53, 18, 2, 0), none, none, some (.invokevirtual 62, 19, 2, 0), none, none, some (.iinc 2 1, 0, 0, 0), none, none, some (.goto (-35), 17, 0, 0), none, none, some (.iconst 0, 0, 0, 0), some (.istore_n 2, 0, 0, 0), some (.iconst 0, 0, 0, 0), some (.istore_n 3, 0, 0, 0), some (.iload_n 3, 0, 0, 0), some (.aload_n 0, 0, 0, 0), some (.getfield 18, 1, 1, 0), none, none, some (.arraylength, 0, 0, 0), some (.if_icmp .ge 22, 87, 0, 0), none, none, some (.iload_n 2, 0, 0, 0), some (.aload_n 0, 0, 0, 0), some (.getfield 18, 1, 1, 0), none, none, some (.iload_n 3, 0, 0, 0), some (.iaload, 0, 0, 0), some (.iconst 1, 0, 0, 0), some (.iand, 0, 0, 0), some (.iload_n 3, 0, 0, 0), some (.ishl, 0, 0, 0), some (.ior, 0, 0, 0), some (.istore_n 2, 0, 0, 0), some (.iinc 3 1, 0, 0, 0), none, none, some (.goto (-25), 59, 0, 0), none, none, some (.iload_n 2, 0, 0, 0), some (.ireturn, 0, 0, 0)]
-- 17: java/util/Arrays.fill([II)V
def xr_17 : List (Option xi_R) := [some (.iconst 0, 0, 0, 0), some (.istore_n 2, 0, 0, 0), some (.aload_n 0, 0, 0, 0), some (.arraylength, 0, 0, 0), some (.istore_n 3, 0, 0, 0), some (.iload_n 2, 0, 0, 0), some (.iload_n 3, 0, 0, 0), some (.if_icmp .ge 13, 20, 0, 0), none, none, some (.aload_n 0, 0, 0, 0), some (.iload_n 2, 0, 0, 0), some (.iload_n 1, 0, 0, 0), some (.iastore, 0, 0, 0), some (.iinc 2 1, 0, 0, 0), none, none, some (.goto (-12), 5, 0, 0), none, none, some (.return_, 0, 0, 0)]
-- 18: NoisyCodes$Field.raised(I)I
def xr_18 : List (Option xi_R) := [some (.aload_n 0, 0, 0, 0), some (.getfield 9, 2, 0, 0), none, none, some (.iload_n 1, 0, 0, 0), some (.aload_n 0, 0, 0, 0), some (.getfield 18, 2, 2, 0), none, none, some (.irem, 0, 0, 0), some (.iaload, 0, 0, 0), some (.ireturn, 0, 0, 0)]
-- 19: NoisyCodes$BlockCode.multiplyByRoot(I)V
def xr_19 : List (Option xi_R) := [some (.aload_n 0, 0, 0, 0), some (.getfield 18, 1, 1, 0), none, none, some (.arraylength, 0, 0, 0), some (.iconst 1, 0, 0, 0), some (.isub, 0, 0, 0), some (.istore_n 2, 0, 0, 0), some (.iload_n 2, 0, 0, 0), some (.ifCond .le 38, 47, 0, 0), none, none, some (.aload_n 0, 0, 0, 0), some (.getfield 18, 1, 1, 0), none, none, some (.iload_n 2, 0, 0, 0), some (.aload_n 0, 0, 0, 0), some (.getfield 18, 1, 1, 0), none, none, some (.iload_n 2, 0, 0, 0), some (.iconst 1, 0, 0, 0), some (.isub, 0, 0, 0), some (.iaload, 0, 0, 0), some (.aload_n 0, 0, 0, 0), some (.getfield 12, 1, 0, 0), none, none, some (.iload_n 1, 0, 0, 0), some (.aload_n 0, 0, 0, 0), some (.getfield 18, 1, 1, 0), none, none, some (.iload_n 2, 0, 0, 0), some (.iaload, 0, 0, 0), some (.invokevirtual 66, 20, 3, 0), none, none, some (.ixor, 0, 0, 0), some (.iastore, 0, 0, 0), some (.iinc 2 (-1), 0, 0, 0), none, none, some (.goto (-36), 8, 0, 0), none, none, some (.aload_n 0, 0, 0, 0), some (.getfield 18, 1, 1, 0), none, none, some (.iconst 0, 0, 0, 0), some (.aload_n 0, 0, 0, 0), some (.getfield 12, 1, 0, 0), none, none, some (.iload_n 1, 0, 0, 0), some (.aload_n 0, 0, 0, 0), some (.getfield 18, 1, 1, 0), none, none, some (.iconst 0, 0, 0, 0), some (.iaload, 0, 0, 0), some (.invokevirtual 66, 20, 3, 0), none, none, some (.iastore, 0, 0, 0), some (.return_, 0, 0, 0)]
-- 20: NoisyCodes$Field.product(II)I
def xr_20 : List (Option xi_R) := [some (.iload_n 1, 0, 0, 0), some (.ifCond .eq 7, 8, 0, 0), none, none, some (.iload_n 2, 0, 0, 0), some (.ifCond .ne 7, 12, 0, 0), none, none, some (.iconst 0, 0, 0, 0), some (.goto 26, 35, 0, 0), none, none, some (.aload_n 0, 0, 0, 0), some (.getfield 9, 2, 0, 0), none, none, some (.aload_n 0, 0, 0, 0), some (.getfield 15, 2, 1, 0), none, none, some (.iload_n 1, 0, 0, 0), some (.iaload, 0, 0, 0), some (.aload_n 0, 0, 0, 0), some (.getfield 15, 2, 1, 0), none, none, some (.iload_n 2, 0, 0, 0), some (.iaload, 0, 0, 0), some (.iadd, 0, 0, 0), some (.aload_n 0, 0, 0, 0), some (.getfield 18, 2, 2, 0), none, none, some (.irem, 0, 0, 0), some (.iaload, 0, 0, 0), some (.ireturn, 0, 0, 0)]
-- 21: java/lang/Integer.bitCount(I)I
def xr_21 : List (Option xi_R) := [some (.iload_n 0, 0, 0, 0), some (.iload_n 0, 0, 0, 0), some (.iconst 1, 0, 0, 0), some (.iushr, 0, 0, 0), some (.ldc_w 265, 0, 0, 1431655765), none, none, some (.iand, 0, 0, 0), some (.isub, 0, 0, 0), some (.istore_n 0, 0, 0, 0), some (.iload_n 0, 0, 0, 0), some (.ldc_w 266, 0, 0, 858993459), none, none, some (.iand, 0, 0, 0), some (.iload_n 0, 0, 0, 0), some (.iconst 2, 0, 0, 0), some (.iushr, 0, 0, 0), some (.ldc_w 266, 0, 0, 858993459), none, none, some (.iand, 0, 0, 0), some (.iadd, 0, 0, 0), some (.istore_n 0, 0, 0, 0), some (.iload_n 0, 0, 0, 0), some (.iload_n 0, 0, 0, 0), some (.iconst 4, 0, 0, 0), some (.iushr, 0, 0, 0), some (.iadd, 0, 0, 0), some (.ldc_w 267, 0, 0, 252645135), none, none, some (.iand, 0, 0, 0), some (.istore_n 0, 0, 0, 0), some (.iload_n 0, 0, 0, 0), some (.iload_n 0, 0, 0, 0), some (.bipush 8, 0, 0, 0), none, some (.iushr, 0, 0, 0), some (.iadd, 0, 0, 0), some (.istore_n 0, 0, 0, 0), some (.iload_n 0, 0, 0, 0), some (.iload_n 0, 0, 0, 0), some (.bipush 16, 0, 0, 0), none, some (.iushr, 0, 0, 0), some (.iadd, 0, 0, 0), some (.istore_n 0, 0, 0, 0), some (.iload_n 0, 0, 0, 0), some (.bipush 63, 0, 0, 0), none, some (.iand, 0, 0, 0), some (.ireturn, 0, 0, 0)]
-- 22: NoisyCodes.clearWords()V
def xr_22 : List (Option xi_R) := [some (.aload_n 0, 0, 0, 0), some (.getfield 28, 0, 3, 0), none, none, some (.iconst 0, 0, 0, 0), some (.invokestatic 147, 17, 2, 0), none, none, some (.aload_n 0, 0, 0, 0), some (.getfield 32, 0, 4, 0), none, none, some (.iconst 0, 0, 0, 0), some (.invokestatic 147, 17, 2, 0), none, none, some (.aload_n 0, 0, 0, 0), some (.getfield 35, 0, 5, 0), none, none, some (.iconst 0, 0, 0, 0), some (.invokestatic 147, 17, 2, 0), none, none, some (.iconst 0, 0, 0, 0), some (.istore_n 1, 0, 0, 0), some (.iload_n 1, 0, 0, 0), some (.iconst 4, 0, 0, 0), some (.if_icmp .ge 19, 47, 0, 0), none, none, some (.aload_n 0, 0, 0, 0), some (.getfield 40, 0, 6, 0), none, none, some (.iload_n 1, 0, 0, 0), some (.aaload, 0, 0, 0), some (.iconst 0, 0, 0, 0), some (.invokestatic 147, 17, 2, 0), none, none, some (.iinc 1 1, 0, 0, 0), none, none, some (.goto (-18), 26, 0, 0), none, none, some (.return_, 0, 0, 0)]
-- 23: NoisyCodes.length()I
def xr_23 : List (Option xi_R) := [some (.aload_n 0, 0, 0, 0), some (.invokevirtual 79, 24, 1, 0), none, none, some (.aload_n 0, 0, 0, 0), some (.getfield 20, 0, 1, 0), none, none, some (.getfield 82, 2, 2, 1), none, none, some (.ireturn, 0, 0, 0)]
-- 24: NoisyCodes.requireCode()V
def xr_24 : List (Option xi_R) := [some (.aload_n 0, 0, 0, 0), some (.getfield 47, 0, 8, 0), none, none, some (.ifCond .ne 11, 15, 0, 0), none, none, some (.new 144, 0, 1, 0), none, none, some (.dup, 0, 0, 0), some (.invokespecial 146, 1002, 1, 0), none, none, some (.athrow, 0, 0, 0), some (.return_, 0, 0, 0)]
-- 25: NoisyCodes.generator()I
def xr_25 : List (Option xi_R) := [some (.aload_n 0, 0, 0, 0), some (.invokevirtual 79, 24, 1, 0), none, none, some (.aload_n 0, 0, 0, 0), some (.getfield 12, 0, 0, 0), none, none, some (.getfield 85, 1, 3, 1), none, none, some (.ireturn, 0, 0, 0)]
-- 26: NoisyCodes.power(I)I
def xr_26 : List (Option xi_R) := [some (.aload_n 0, 0, 0, 0), some (.invokevirtual 79, 24, 1, 0), none, none, some (.iload_n 1, 0, 0, 0), some (.ifCond .ge 11, 16, 0, 0), none, none, some (.new 57, 1, 1, 0), none, none, some (.dup, 0, 0, 0), some (.invokespecial 59, 1002, 1, 0), none, none, some (.athrow, 0, 0, 0), some (.aload_n 0, 0, 0, 0), some (.getfield 20, 0, 1, 0), none, none, some (.iload_n 1, 0, 0, 0), some (.invokevirtual 88, 18, 2, 0), none, none, some (.ireturn, 0, 0, 0)]
-- 27: NoisyCodes.log(I)I
def xr_27 : List (Option xi_R) := [some (.aload_n 0, 0, 0, 0), some (.invokevirtual 79, 24, 1, 0), none, none, some (.iload_n 1, 0, 0, 0), some (.ifCond .eq 14, 19, 0, 0), none, none, some (.aload_n 0, 0, 0, 0), some (.getfield 20, 0, 1, 0), none, none, some (.iload_n 1, 0, 0, 0), some (.invokevirtual 92, 28, 2, 0), none, none, some (.ifCond .ne 11, 27, 0, 0), none, none, some (.new 57, 1, 1, 0), none, none, some (.dup, 0, 0, 0), some (.invokespecial 59, 1002, 1, 0), none, none, some (.athrow, 0, 0, 0), some (.aload_n 0, 0, 0, 0), some (.getfield 20, 0, 1, 0), none, none, some (.getfield 95, 2, 1, 1), none, none, some (.iload_n 1, 0, 0, 0), some (.iaload, 0, 0, 0), some (.ireturn, 0, 0, 0)]
-- 28: NoisyCodes$Field.holds(I)Z
def xr_28 : List (Option xi_R) := [some (.iload_n 1, 0, 0, 0), some (.ifCond .lt 15, 16, 0, 0), none, none, some (.iload_n 1, 0, 0, 0), some (.aload_n 0, 0, 0, 0), some (.getfield 18, 2, 2, 0), none, none, some (.if_icmp .gt 7, 16, 0, 0), none, none, some (.iconst 1, 0, 0, 0), some (.goto 4, 17, 0, 0), none, none, some (.iconst 0, 0, 0, 0), some (.ireturn, 0, 0, 0)]
-- 29: NoisyCodes.times(II)I
def xr_29 : List (Option xi_R) := [some (.aload_n 0, 0, 0, 0), some (.invokevirtual 79, 24, 1, 0), none, none, some (.aload_n 0, 0, 0, 0), some (.getfield 20, 0, 1, 0), none, none, some (.iload_n 1, 0, 0, 0), some (.invokevirtual 92, 28, 2, 0), none, none, some (.ifCond .eq 14, 26, 0, 0), none, none, some (.aload_n 0, 0, 0, 0), some (.getfield 20, 0, 1, 0), none, none, some (.iload_n 2, 0, 0, 0), some (.invokevirtual 92, 28, 2, 0), none, none, some (.ifCond .ne 11, 34, 0, 0), none, none, some (.new 57, 1, 1, 0), none, none, some (.dup, 0, 0, 0), some (.invokespecial 59, 1002, 1, 0), none, none, some (.athrow, 0, 0, 0), some (.aload_n 0, 0, 0, 0), some (.getfield 20, 0, 1, 0), none, none, some (.iload_n 1, 0, 0, 0), some (.iload_n 2, 0, 0, 0), some (.invokevirtual 98, 20, 3, 0), none, none, some (.ireturn, 0, 0, 0)]
-- 30: NoisyCodes.put(II)V
def xr_30 : List (Option xi_R) := [some (.aload_n 0, 0, 0, 0), some (.invokevirtual 79, 24, 1, 0), none, none, some (.iload_n 1, 0, 0, 0), some (.aload_n 0, 0, 0, 0), some (.getfield 43, 0, 7, 0), none, none, some (.aload_n 0, 0, 0, 0), some (.getfield 12, 0, 0, 0), none, none, some (.getfield 76, 1, 5, 1), none, none, some (.imul, 0, 0, 0), some (.invokestatic 102, 31, 2, 0), none, none, some (.iload_n 2, 0, 0, 0), some (.ifCond .eq 16, 37, 0, 0), none, none, some (.iload_n 2, 0, 0, 0), some (.iconst 1, 0, 0, 0), some (.if_icmp .eq 11, 37, 0, 0), none, none, some (.new 57, 1, 1, 0), none, none, some (.dup, 0, 0, 0), some (.invokespecial 59, 1002, 1, 0), none, none, some (.athrow, 0, 0, 0), some (.iload_n 1, 0, 0, 0), some (.aload_n 0, 0, 0, 0), some (.getfield 12, 0, 0, 0), none, none, some (.getfield 76, 1, 5, 1), none, none, some (.idiv, 0, 0, 0), some (.istore_n 3, 0, 0, 0), some (.iload_n 1, 0, 0, 0), some (.aload_n 0, 0, 0, 0), some (.getfield 12, 0, 0, 0), none, none, some (.getfield 76, 1, 5, 1), none, none, some (.irem, 0, 0, 0), some (.istore 4, 0, 0, 0), none, some (.aload_n 0, 0, 0, 0), some (.getfield 28, 0, 3, 0), none, none, some (.iload_n 3, 0, 0, 0), some (.aload_n 0, 0, 0, 0), some (.getfield 28, 0, 3, 0), none, none, some (.iload_n 3, 0, 0, 0), some (.iaload, 0, 0, 0), some (.iconst 1, 0, 0, 0), some (.iload 4, 0, 0, 0), none, some (.ishl, 0, 0, 0), some (.iconst (-1), 0, 0, 0), some (.ixor, 0, 0, 0), some (.iand, 0, 0, 0), some (.iload_n 2, 0, 0, 0), some (.iload 4, 0, 0, 0), none, some (.ishl, 0, 0, 0), some (.ior, 0, 0, 0), some (.iastore, 0, 0, 0), some (.return_, 0, 0, 0)]
-- 31: NoisyCodes.requireIndex(II)V
def xr_31 : List (Option xi_R) := [some (.iload_n 0, 0, 0, 0), some (.ifCond .lt 8, 9, 0, 0), none, none, some (.iload_n 0, 0, 0, 0), some (.iload_n 1, 0, 0, 0), some (.if_icmp .lt 11, 17, 0, 0), none, none, some (.new 118, 2, 1, 0), none, none, some (.dup, 0, 0, 0), some (.invokespecial 120, 1002, 1, 0), none, none, some (.athrow, 0, 0, 0), some (.return_, 0, 0, 0)]
-- 32: NoisyCodes.get(I)I
def xr_32 : List (Option xi_R) := [some (.aload_n 0, 0, 0, 0), some (.invokevirtual 79, 24, 1, 0), none, none, some (.iload_n 1, 0, 0, 0), some (.aload_n 0, 0, 0, 0), some (.getfield 43, 0, 7, 0), none, none, some (.aload_n 0, 0, 0, 0), some (.getfield 12, 0, 0, 0), none, none, some (.getfield 76, 1, 5, 1), none, none, some (.imul, 0, 0, 0), some (.invokestatic 102, 31, 2, 0), none, none, some (.aload_n 0, 0, 0, 0), some (.getfield 28, 0, 3, 0), none, none, some (.iload_n 1, 0, 0, 0), some (.aload_n 0, 0, 0, 0), some (.getfield 12, 0, 0, 0), none, none, some (.getfield 76, 1, 5, 1), none, none, some (.idiv, 0, 0, 0), some (.iaload, 0, 0, 0), some (.iload_n 1, 0, 0, 0), some (.aload_n 0, 0, 0, 0), some (.getfield 12, 0, 0, 0), none, none, some (.getfield 76, 1, 5, 1), none, none, some (.irem, 0, 0, 0), some (.iushr, 0, 0, 0), some (.iconst 1, 0, 0, 0), some (.iand, 0, 0, 0), some (.ireturn, 0, 0, 0)]
-- 33: NoisyCodes.encode()I
def xr_33 : List (Option xi_R) := [some (.aload_n 0, 0, 0, 0), some (.invokevirtual 79, 24, 1, 0), none, none, some (.iconst 0, 0, 0, 0), some (.istore_n 1, 0, 0, 0), some (.iconst 0, 0, 0, 0), some (.istore_n 2, 0, 0, 0), some (.iload_n 2, 0, 0, 0), some (.aload_n 0, 0, 0, 0), some (.getfield 43, 0, 7, 0), none, none, some (.if_icmp .ge 40, 53, 0, 0), none, none, some (.aload_n 0, 0, 0, 0), some (.getfield 32, 0, 4, 0), none, none, some (.iload_n 2, 0, 0, 0), some (.aload_n 0, 0, 0, 0), some (.getfield 12, 0, 0, 0), none, none, some (.aload_n 0, 0, 0, 0), some (.getfield 28, 0, 3, 0), none, none, some (.iload_n 2, 0, 0, 0), some (.iaload, 0, 0, 0), some (.invokevirtual 106, 34, 2, 0), none, none, some (.iastore, 0, 0, 0), some (.iload_n 1, 0, 0, 0), some (.aload_n 0, 0, 0, 0), some (.getfield 32, 0, 4, 0), none, none, some (.iload_n 2, 0, 0, 0), some (.iaload, 0, 0, 0), some (.invokestatic 109, 21, 1, 0), none, none, some (.iadd, 0, 0, 0), some (.istore_n 1, 0, 0, 0), some (.iinc 2 1, 0, 0, 0), none, none, some (.goto (-42), 8, 0, 0), none, none, some (.iload_n 1, 0, 0, 0), some (.ireturn, 0, 0, 0)]
-- 34: NoisyCodes$BlockCode.codewordOf(I)I
def xr_34 : List (Option xi_R) := [some (.iload_n 1, 0, 0, 0), some (.aload_n 0, 0, 0, 0), some (.getfield 29, 1, 4, 0), none, none, some (.ishl, 0, 0, 0), some (.istore_n 2, 0, 0, 0), some (.iload_n 2, 0, 0, 0), some (.aload_n 0, 0, 0, 0), some (.iload_n 2, 0, 0, 0), some (.invokevirtual 50, 35, 2, 0), none, none, some (.ior, 0, 0, 0), some (.ireturn, 0, 0, 0)]
-- 35: NoisyCodes$BlockCode.remainderOf(I)I
def xr_35 : List (Option xi_R) := [some (.iload_n 1, 0, 0, 0), some (.istore_n 2, 0, 0, 0), some (.aload_n 0, 0, 0, 0), some (.getfield 12, 1, 0, 0), none, none, some (.getfield 47, 2, 2, 1), none, none, some (.iconst 1, 0, 0, 0), some (.isub, 0, 0, 0), some (.istore_n 3, 0, 0, 0), some (.iload_n 3, 0, 0, 0), some (.aload_n 0, 0, 0, 0), some (.getfield 29, 1, 4, 0), none, none, some (.if_icmp .lt 32, 49, 0, 0), none, none, some (.iload_n 2, 0, 0, 0), some (.iload_n 3, 0, 0, 0), some (.iushr, 0, 0, 0), some (.iconst 1, 0, 0, 0), some (.iand, 0, 0, 0), some (.iconst 1, 0, 0, 0), some (.if_icmp .ne 17, 43, 0, 0), none, none, some (.iload_n 2, 0, 0, 0), some (.aload_n 0, 0, 0, 0), some (.getfield 26, 1, 3, 0), none, none, some (.iload_n 3, 0, 0, 0), some (.aload_n 0, 0, 0, 0), some (.getfield 29, 1, 4, 0), none, none, some (.isub, 0, 0, 0), some (.ishl, 0, 0, 0), some (.ixor, 0, 0, 0), some (.istore_n 2, 0, 0, 0), some (.iinc 3 (-1), 0, 0, 0), none, none, some (.goto (-34), 12, 0, 0), none, none, some (.iload_n 2, 0, 0, 0), some (.ireturn, 0, 0, 0)]
-- 36: NoisyCodes.bit(I)I
def xr_36 : List (Option xi_R) := [some (.aload_n 0, 0, 0, 0), some (.invokevirtual 79, 24, 1, 0), none, none, some (.iload_n 1, 0, 0, 0), some (.aload_n 0, 0, 0, 0), some (.invokevirtual 114, 37, 1, 0), none, none, some (.invokestatic 102, 31, 2, 0), none, none, some (.aload_n 0, 0, 0, 0), some (.getfield 32, 0, 4, 0), none, none, some (.iload_n 1, 0, 0, 0), some (.aload_n 0, 0, 0, 0), some (.getfield 43, 0, 7, 0), none, none, some (.irem, 0, 0, 0), some (.iaload, 0, 0, 0), some (.iload_n 1, 0, 0, 0), some (.aload_n 0, 0, 0, 0), some (.getfield 43, 0, 7, 0), none, none, some (.idiv, 0, 0, 0), some (.iushr, 0, 0, 0), some (.iconst 1, 0, 0, 0), some (.iand, 0, 0, 0), some (.ireturn, 0, 0, 0)]
-- 37: NoisyCodes.channelBits()I
def xr_37 : List (Option xi_R) := [some (.aload_n 0, 0, 0, 0), some (.getfield 43, 0, 7, 0), none, none, some (.aload_n 0, 0, 0, 0), some (.getfield 20, 0, 1, 0), none, none, some (.getfield 82, 2, 2, 1), none, none, some (.imul, 0, 0, 0), some (.ireturn, 0, 0, 0)]
-- 38: NoisyCodes.burst(II)V
def xr_38 : List (Option xi_R) := [some (.aload_n 0, 0, 0, 0), some (.invokevirtual 79, 24, 1, 0), none, none, some (.aload_n 0, 0, 0, 0), some (.invokevirtual 114, 37, 1, 0), none, none, some (.istore_n 3, 0, 0, 0), some (.iload_n 1, 0, 0, 0), some (.iload_n 3, 0, 0, 0), some (.invokestatic 102, 31, 2, 0), none, none, some (.iload_n 2, 0, 0, 0), some (.iload_n 3, 0, 0, 0), some (.iload_n 1, 0, 0, 0), some (.isub, 0, 0, 0), some (.if_icmp .le 11, 29, 0, 0), none, none, some (.new 118, 2, 1, 0), none, none, some (.dup, 0, 0, 0), some (.invokespecial 120, 1002, 1, 0), none, none, some (.athrow, 0, 0, 0), some (.iload_n 2, 0, 0, 0), some (.iconst 1, 0, 0, 0), some (.if_icmp .lt 9, 40, 0, 0), none, none, some (.iload_n 2, 0, 0, 0), some (.bipush 124, 0, 0, 0), none, some (.if_icmp .le 11, 48, 0, 0), none, none, some (.new 57, 1, 1, 0), none, none, some (.dup, 0, 0, 0), some (.invokespecial 59, 1002, 1, 0), none, none, some (.athrow, 0, 0, 0), some (.iconst 0, 0, 0, 0), some (.istore 4, 0, 0, 0), none, some (.iload 4, 0, 0, 0), none, some (.iload_n 2, 0, 0, 0), some (.if_icmp .ge 17, 71, 0, 0), none, none, some (.aload_n 0, 0, 0, 0), some (.iload_n 1, 0, 0, 0), some (.iload 4, 0, 0, 0), none, some (.iadd, 0, 0, 0), some (.invokevirtual 121, 39, 2, 0), none, none, some (.iinc 4 1, 0, 0, 0), none, none, some (.goto (-17), 51, 0, 0), none, none, some (.return_, 0, 0, 0)]
-- 39: NoisyCodes.flip(I)V
def xr_39 : List (Option xi_R) := [some (.aload_n 0, 0, 0, 0), some (.getfield 32, 0, 4, 0), none, none, some (.iload_n 1, 0, 0, 0), some (.aload_n 0, 0, 0, 0), some (.getfield 43, 0, 7, 0), none, none, some (.irem, 0, 0, 0), some (.dup2, 0, 0, 0), some (.iaload, 0, 0, 0), some (.iconst 1, 0, 0, 0), some (.iload_n 1, 0, 0, 0), some (.aload_n 0, 0, 0, 0), some (.getfield 43, 0, 7, 0), none, none, some (.idiv, 0, 0, 0), some (.ishl, 0, 0, 0), some (.ixor, 0, 0, 0), some (.iastore, 0, 0, 0), some (.return_, 0, 0, 0)]
-- 40: NoisyCodes.noise(II)I
def xr_40 : List (Option xi_R) := [some (.aload_n 0, 0, 0, 0), some (.invokevirtual 79, 24, 1, 0), none, none, some (.iload_n 2, 0, 0, 0), some (.ifCond .lt 10, 15, 0, 0), none, none, some (.iload_n 2, 0, 0, 0), some (.sipush 1000, 0, 0, 0), none, none, some (.if_icmp .le 11, 23, 0, 0), none, none, some (.new 57, 1, 1, 0), none, none, some (.dup, 0, 0, 0), some (.invokespecial 59, 1002, 1, 0), none, none, some (.athrow, 0, 0, 0), some (.iload_n 1, 0, 0, 0), some (.istore_n 3, 0, 0, 0), some (.iconst 0, 0, 0, 0), some (.istore 4, 0, 0, 0), none, some (.aload_n 0, 0, 0, 0), some (.invokevirtual 114, 37, 1, 0), none, none, some (.istore 5, 0, 0, 0), none, some (.iconst 0, 0, 0, 0), some (.istore 6, 0, 0, 0), none, some (.iload 6, 0, 0, 0), none, some (.iload 5, 0, 0, 0), none, some (.if_icmp .ge 39, 80, 0, 0), none, none, some (.iload_n 3, 0, 0, 0), some (.ldc 124, 0, 0, 1103515245), none, some (.imul, 0, 0, 0), some (.sipush 12345, 0, 0, 0), none, none, some (.iadd, 0, 0, 0), some (.istore_n 3, 0, 0, 0), some (.iload_n 3, 0, 0, 0), some (.bipush 16, 0, 0, 0), none, some (.iushr, 0, 0, 0), some (.sipush 1000, 0, 0, 0), none, none, some (.irem, 0, 0, 0), some (.iload_n 2, 0, 0, 0), some (.if_icmp .ge 12, 74, 0, 0), none, none, some (.aload_n 0, 0, 0, 0), some (.iload 6, 0, 0, 0), none, some (.invokevirtual 121, 39, 2, 0), none, none, some (.iinc 4 1, 0, 0, 0), none, none, some (.iinc 6 1, 0, 0, 0), none, none, some (.goto (-40), 37, 0, 0), none, none, some (.iload 4, 0, 0, 0), none, some (.ireturn, 0, 0, 0)]
-- 41: NoisyCodes.syndrome(II)I
def xr_41 : List (Option xi_R) := [some (.aload_n 0, 0, 0, 0), some (.invokevirtual 79, 24, 1, 0), none, none, some (.iload_n 1, 0, 0, 0), some (.aload_n 0, 0, 0, 0), some (.getfield 43, 0, 7, 0), none, none, some (.invokestatic 102, 31, 2, 0), none, none, some (.iload_n 2, 0, 0, 0), some (.iconst 1, 0, 0, 0), some (.if_icmp .lt 16, 30, 0, 0), none, none, some (.iload_n 2, 0, 0, 0), some (.iconst 2, 0, 0, 0), some (.aload_n 0, 0, 0, 0), some (.getfield 12, 0, 0, 0), none, none, some (.getfield 125, 1, 2, 1), none, none, some (.imul, 0, 0, 0), some (.if_icmp .le 11, 38, 0, 0), none, none, some (.new 118, 2, 1, 0), none, none, some (.dup, 0, 0, 0), some (.invokespecial 120, 1002, 1, 0), none, none, some (.athrow, 0, 0, 0), some (.aload_n 0, 0, 0, 0), some (.getfield 12, 0, 0, 0), none, none, some (.aload_n 0, 0, 0, 0), some (.getfield 32, 0, 4, 0), none, none, some (.iload_n 1, 0, 0, 0), some (.iaload, 0, 0, 0), some (.iload_n 2, 0, 0, 0), some (.invokevirtual 128, 42, 3, 0), none, none, some (.ireturn, 0, 0, 0)]
-- 42: NoisyCodes$BlockCode.valueAtPower(II)I
def xr_42 : List (Option xi_R) := [some (.iconst 0, 0, 0, 0), some (.istore_n 3, 0, 0, 0), some (.iconst 0, 0, 0, 0), some (.istore 4, 0, 0, 0), none, some (.iload 4, 0, 0, 0), none, some (.aload_n 0, 0, 0, 0), some (.getfield 12, 1, 0, 0), none, none, some (.getfield 47, 2, 2, 1), none, none, some (.if_icmp .ge 33, 47, 0, 0), none, none, some (.iload_n 1, 0, 0, 0), some (.iload 4, 0, 0, 0), none, some (.iushr, 0, 0, 0), some (.iconst 1, 0, 0, 0), some (.iand, 0, 0, 0), some (.iconst 1, 0, 0, 0), some (.if_icmp .ne 17, 41, 0, 0), none, none, some (.iload_n 3, 0, 0, 0), some (.aload_n 0, 0, 0, 0), some (.getfield 12, 1, 0, 0), none, none, some (.iload 4, 0, 0, 0), none, some (.iload_n 2, 0, 0, 0), some (.imul, 0, 0, 0), some (.invokevirtual 53, 18, 2, 0), none, none, some (.ixor, 0, 0, 0), some (.istore_n 3, 0, 0, 0), some (.iinc 4 1, 0, 0, 0), none, none, some (.goto (-39), 5, 0, 0), none, none, some (.iload_n 3, 0, 0, 0), some (.ireturn, 0, 0, 0)]
-- 43: NoisyCodes.decode(I)I
def xr_43 : List (Option xi_R) := [some (.aload_n 0, 0, 0, 0), some (.invokevirtual 79, 24, 1, 0), none, none, some (.iload_n 1, 0, 0, 0), some (.ifCond .lt 8, 13, 0, 0), none, none, some (.iload_n 1, 0, 0, 0), some (.iconst 3, 0, 0, 0), some (.if_icmp .lt 11, 21, 0, 0), none, none, some (.new 57, 1, 1, 0), none, none, some (.dup, 0, 0, 0), some (.invokespecial 59, 1002, 1, 0), none, none, some (.athrow, 0, 0, 0), some (.aload_n 0, 0, 0, 0), some (.aload_n 0, 0, 0, 0), some (.getfield 32, 0, 4, 0), none, none, some (.iload_n 1, 0, 0, 0), some (.invokevirtual 131, 44, 3, 0), none, none, some (.istore_n 2, 0, 0, 0), some (.iload_n 2, 0, 0, 0), some (.iconst (-1), 0, 0, 0), some (.if_icmp .ne 11, 44, 0, 0), none, none, some (.new 63, 3, 1, 0), none, none, some (.dup, 0, 0, 0), some (.invokespecial 65, 1002, 1, 0), none, none, some (.athrow, 0, 0, 0), some (.aload_n 0, 0, 0, 0), some (.invokevirtual 135, 58, 1, 0), none, none, some (.iload_n 2, 0, 0, 0), some (.ireturn, 0, 0, 0)]
-- 44: NoisyCodes.mend([II)I
def xr_44 : List (Option xi_R) := [some (.iconst 0, 0, 0, 0), some (.istore_n 3, 0, 0, 0), some (.iconst 0, 0, 0, 0), some (.istore 4, 0, 0, 0), none, some (.iload 4, 0, 0, 0), none, some (.aload_n 0, 0, 0, 0), some (.getfield 43, 0, 7, 0), none, none, some (.if_icmp .ge 57, 68, 0, 0), none, none, some (.aload_n 0, 0, 0, 0), some (.getfield 24, 0, 2, 0), none, none, some (.aload_n 0, 0, 0, 0), some (.getfield 12, 0, 0, 0), none, none, some (.aload_n 1, 0, 0, 0), some (.iload 4, 0, 0, 0), none, some (.iaload, 0, 0, 0), some (.iload_n 2, 0, 0, 0), some (.invokevirtual 153, 45, 4, 0), none, none, some (.istore 5, 0, 0, 0), none, some (.iload 5, 0, 0, 0), none, some (.iconst (-1), 0, 0, 0), some (.if_icmp .ne 5, 40, 0, 0), none, none, some (.iconst (-1), 0, 0, 0), some (.ireturn, 0, 0, 0), some (.aload_n 0, 0, 0, 0), some (.getfield 35, 0, 5, 0), none, none, some (.iload 4, 0, 0, 0), none, some (.iload 5, 0, 0, 0), none, some (.iastore, 0, 0, 0), some (.iload_n 3, 0, 0, 0), some (.iload 5, 0, 0, 0), none, some (.aload_n 1, 0, 0, 0), some (.iload 4, 0, 0, 0), none, some (.iaload, 0, 0, 0), some (.ixor, 0, 0, 0), some (.invokestatic 109, 21, 1, 0), none, none, some (.iadd, 0, 0, 0), some (.istore_n 3, 0, 0, 0), some (.iinc 4 1, 0, 0, 0), none, none, some (.goto (-60), 5, 0, 0), none, none, some (.iload_n 3, 0, 0, 0), some (.ireturn, 0, 0, 0)]
-- 45: NoisyCodes$Mender.nearestCodeword(LNoisyCodes$BlockCode;II)I
def xr_45 : List (Option xi_R) := [some (.aload_n 1, 0, 0, 0), some (.iload_n 2, 0, 0, 0), some (.invokevirtual 33, 46, 2, 0), none, none, some (.ifCond .eq 5, 10, 0, 0), none, none, some (.iload_n 2, 0, 0, 0), some (.ireturn, 0, 0, 0), some (.iconst 1, 0, 0, 0), some (.istore 4, 0, 0, 0), none, some (.iload 4, 0, 0, 0), none, some (.iconst 2, 0, 0, 0), some (.aload_n 1, 0, 0, 0), some (.getfield 39, 1, 2, 1), none, none, some (.imul, 0, 0, 0), some (.if_icmp .gt 23, 44, 0, 0), none, none, some (.aload_n 0, 0, 0, 0), some (.getfield 26, 3, 1, 0), none, none, some (.iload 4, 0, 0, 0), none, some (.aload_n 1, 0, 0, 0), some (.iload_n 2, 0, 0, 0), some (.iload 4, 0, 0, 0), none, some (.invokevirtual 43, 42, 3, 0), none, none, some (.iastore, 0, 0, 0), some (.iinc 4 1, 0, 0, 0), none, none, some (.goto (-28), 13, 0, 0), none, none, some (.aload_n 0, 0, 0, 0), some (.getfield 30, 3, 2, 0), none, none, some (.iconst 0, 0, 0, 0), some (.invokestatic 47, 17, 2, 0), none, none, some (.aload_n 0, 0, 0, 0), some (.getfield 11, 3, 0, 0), none, none, some (.iload_n 3, 0, 0, 0), some (.aaload, 0, 0, 0), some (.aload_n 1, 0, 0, 0), some (.getfield 53, 1, 0, 1), none, none, some (.aload_n 0, 0, 0, 0), some (.getfield 26, 3, 1, 0), none, none, some (.aload_n 1, 0, 0, 0), some (.getfield 39, 1, 2, 1), none, none, some (.aload_n 0, 0, 0, 0), some (.getfield 30, 3, 2, 0), none, none, some (.invokevirtual 57, 900, 5, 0), none, none, some (.aload_n 0, 0, 0, 0), some (.aload_n 1, 0, 0, 0), some (.getfield 53, 1, 0, 1), none, none, some (.invokevirtual 61, 56, 2, 0), none, none, some (.istore 4, 0, 0, 0), none, some (.iload 4, 0, 0, 0), none, some (.invokestatic 65, 21, 1, 0), none, none, some (.aload_n 1, 0, 0, 0), some (.getfield 39, 1, 2, 1), none, none, some (.if_icmp .gt 18, 114, 0, 0), none, none, some (.aload_n 1, 0, 0, 0), some (.iload_n 2, 0, 0, 0), some (.iload 4, 0, 0, 0), none, some (.ixor, 0, 0, 0), some (.invokevirtual 33, 46, 2, 0), none, none, some (.ifCond .eq 7, 114, 0, 0), none, none, some (.iconst 1, 0, 0, 0), some (.goto 4, 115, 0, 0), none, none, some (.iconst 0, 0, 0, 0), some (.istore 5, 0, 0, 0), none, some (.iload 5, 0, 0, 0), none, some (.ifCond .eq 10, 129, 0, 0), none, none, some (.iload_n 2, 0, 0, 0), some (.iload 4, 0, 0, 0), none, some (.ixor, 0, 0, 0), some (.goto 4, 130, 0, 0), none, none, some (.iconst (-1), 0, 0, 0), some (.ireturn, 0, 0, 0)]
-- 46: NoisyCodes$BlockCode.isCodeword(I)Z
def xr_46 : List (Option xi_R) := [some (.aload_n 0, 0, 0, 0), some (.iload_n 1, 0, 0, 0), some (.invokevirtual 50, 35, 2, 0), none, none, some (.ifCond .ne 7, 12, 0, 0), none, none, some (.iconst 1, 0, 0, 0), some (.goto 4, 13, 0, 0), none, none, some (.iconst 0, 0, 0, 0), some (.ireturn, 0, 0, 0)]
-- 47: NoisyCodes$Division.locate(LNoisyCodes$Field;[II[I)V
def xr_47 : List (Option xi_R) := [some (.aload_n 0, 0, 0, 0), some (.aload_n 2, 0, 0, 0), some (.iload_n 3, 0, 0, 0), some (.invokevirtual 24, 48, 3, 0), none, none, some (.aload_n 0, 0, 0, 0), some (.getfield 9, 6, 0, 0), none, none, some (.astore 5, 0, 0, 0), none, some (.aload_n 0, 0, 0, 0), some (.getfield 15, 6, 1, 0), none, none, some (.astore 6, 0, 0, 0), none, some (.aload_n 0, 0, 0, 0), some (.getfield 18, 6, 2, 0), none, none, some (.astore 7, 0, 0, 0), none, some (.aload_n 0, 0, 0, 0), some (.getfield 21, 6, 3, 0), none, none, some (.astore 8, 0, 0, 0), none, some (.iconst 0, 0, 0, 0), some (.istore 9, 0, 0, 0), none, some (.iload 9, 0, 0, 0), none, some (.iconst 2, 0, 0, 0), some (.iload_n 3, 0, 0, 0), some (.imul, 0, 0, 0), some (.if_icmp .ge 54, 92, 0, 0), none, none, some (.aload 6, 0, 0, 0), none, some (.invokestatic 28, 49, 1, 0), none, none, some (.iload_n 3, 0, 0, 0), some (.if_icmp .lt 45, 92, 0, 0), none, none, some (.aload_n 1, 0, 0, 0), some (.aload 5, 0, 0, 0), none, some (.aload 6, 0, 0, 0), none, some (.aload 7, 0, 0, 0), none, some (.aload 8, 0, 0, 0), none, some (.invokestatic 32, 50, 5, 0), none, none, some (.aload 5, 0, 0, 0), none, some (.astore 10, 0, 0, 0), none, some (.aload 6, 0, 0, 0), none, some (.astore 5, 0, 0, 0), none, some (.aload 10, 0, 0, 0), none, some (.astore 6, 0, 0, 0), none, some (.aload 7, 0, 0, 0), none, some (.astore 10, 0, 0, 0), none, some (.aload 8, 0, 0, 0), none, some (.astore 7, 0, 0, 0), none, some (.aload 10, 0, 0, 0), none, some (.astore 8, 0, 0, 0), none, some (.iinc 9 1, 0, 0, 0), none, none, some (.goto (-56), 33, 0, 0), none, none, some (.iconst 0, 0, 0, 0), some (.istore 9, 0, 0, 0), none, some (.iload 9, 0, 0, 0), none, some (.bipush 7, 0, 0, 0), none, some (.if_icmp .ge 27, 126, 0, 0), none, none, some (.aload 4, 0, 0, 0), none, some (.iload 9, 0, 0, 0), none, some (.aload_n 1, 0, 0, 0), some (.aload 8, 0, 0, 0), none, some (.iload 9, 0, 0, 0), none, some (.iaload, 0, 0, 0), some (.aload 8, 0, 0, 0), none, some (.iconst 0, 0, 0, 0), some (.iaload, 0, 0, 0), some (.invokevirtual 36, 51, 3, 0), none, none, some (.iastore, 0, 0, 0), some (.iinc 9 1, 0, 0, 0), none, none, some (.goto (-28), 95, 0, 0), none, none, some (.return_, 0, 0, 0)]
-- 48: NoisyCodes$Division.fillRows([II)V
def xr_48 : List (Option xi_R) := [some (.aload_n 0, 0, 0, 0), some (.getfield 9, 6, 0, 0), none, none, some (.iconst 0, 0, 0, 0), some (.invokestatic 42, 17, 2, 0), none, none, some (.aload_n 0, 0, 0, 0), some (.getfield 15, 6, 1, 0), none, none, some (.iconst 0, 0, 0, 0), some (.invokestatic 42, 17, 2, 0), none, none, some (.aload_n 0, 0, 0, 0), some (.getfield 18, 6, 2, 0), none, none, some (.iconst 0, 0, 0, 0), some (.invokestatic 42, 17, 2, 0), none, none, some (.aload_n 0, 0, 0, 0), some (.getfield 21, 6, 3, 0), none, none, some (.iconst 0, 0, 0, 0), some (.invokestatic 42, 17, 2, 0), none, none, some (.aload_n 0, 0, 0, 0), some (.getfield 9, 6, 0, 0), none, none, some (.iconst 2, 0, 0, 0), some (.iload_n 2, 0, 0, 0), some (.imul, 0, 0, 0), some (.iconst 1, 0, 0, 0), some (.iastore, 0, 0, 0), some (.aload_n 1, 0, 0, 0), some (.iconst 1, 0, 0, 0), some (.aload_n 0, 0, 0, 0), some (.getfield 15, 6, 1, 0), none, none, some (.iconst 0, 0, 0, 0), some (.iconst 2, 0, 0, 0), some (.iload_n 2, 0, 0, 0), some (.imul, 0, 0, 0), some (.invokestatic 47, 1001, 5, 0), none, none, some (.aload_n 0, 0, 0, 0), some (.getfield 21, 6, 3, 0), none, none, some (.iconst 0, 0, 0, 0), some (.iconst 1, 0, 0, 0), some (.iastore, 0, 0, 0), some (.return_, 0, 0, 0)]
-- 49: NoisyCodes$Division.degreeOf([I)I
def xr_49 : List (Option xi_R) := [some (.iconst 0, 0, 0, 0), some (.istore_n 1, 0, 0, 0), some (.iconst 1, 0, 0, 0), some (.istore_n 2, 0, 0, 0), some (.iload_n 2, 0, 0, 0), some (.bipush 7, 0, 0, 0), none, some (.if_icmp .ge 17, 24, 0, 0), none, none, some (.aload_n 0, 0, 0, 0), some (.iload_n 2, 0, 0, 0), some (.iaload, 0, 0, 0), some (.ifCond .eq 5, 18, 0, 0), none, none, some (.iload_n 2, 0, 0, 0), some (.istore_n 1, 0, 0, 0), some (.iinc 2 1, 0, 0, 0), none, none, some (.goto (-17), 4, 0, 0), none, none, some (.iload_n 1, 0, 0, 0), some (.ireturn, 0, 0, 0)]
-- 50: NoisyCodes$Division.divide(LNoisyCodes$Field;[I[I[I[I)V
def xr_50 : List (Option xi_R) := [some (.aload_n 2, 0, 0, 0), some (.invokestatic 28, 49, 1, 0), none, none, some (.istore 5, 0, 0, 0), none, some (.bipush 6, 0, 0, 0), none, some (.istore 6, 0, 0, 0), none, some (.iload 6, 0, 0, 0), none, some (.iload 5, 0, 0, 0), none, some (.if_icmp .lt 50, 64, 0, 0), none, none, some (.aload_n 0, 0, 0, 0), some (.aload_n 1, 0, 0, 0), some (.iload 6, 0, 0, 0), none, some (.iaload, 0, 0, 0), some (.aload_n 2, 0, 0, 0), some (.iload 5, 0, 0, 0), none, some (.iaload, 0, 0, 0), some (.invokevirtual 36, 51, 3, 0), none, none, some (.istore 7, 0, 0, 0), none, some (.aload_n 0, 0, 0, 0), some (.aload_n 1, 0, 0, 0), some (.aload_n 2, 0, 0, 0), some (.iload 7, 0, 0, 0), none, some (.iload 6, 0, 0, 0), none, some (.iload 5, 0, 0, 0), none, some (.isub, 0, 0, 0), some (.invokestatic 53, 52, 5, 0), none, none, some (.aload_n 0, 0, 0, 0), some (.aload_n 3, 0, 0, 0), some (.aload 4, 0, 0, 0), none, some (.iload 7, 0, 0, 0), none, some (.iload 6, 0, 0, 0), none, some (.iload 5, 0, 0, 0), none, some (.isub, 0, 0, 0), some (.invokestatic 53, 52, 5, 0), none, none, some (.iinc 6 (-1), 0, 0, 0), none, none, some (.goto (-51), 10, 0, 0), none, none, some (.return_, 0, 0, 0)]
-- 51: NoisyCodes$Field.quotient(II)I
def xr_51 : List (Option xi_R) := [some (.iload_n 1, 0, 0, 0), some (.ifCond .eq 7, 8, 0, 0), none, none, some (.iload_n 2, 0, 0, 0), some (.ifCond .ne 7, 12, 0, 0), none, none, some (.iconst 0, 0, 0, 0), some (.goto 31, 40, 0, 0), none, none, some (.aload_n 0, 0, 0, 0), some (.getfield 9, 2, 0, 0), none, none, some (.aload_n 0, 0, 0, 0), some (.getfield 15, 2, 1, 0), none, none, some (.iload_n 1, 0, 0, 0), some (.iaload, 0, 0, 0), some (.aload_n 0, 0, 0, 0), some (.getfield 18, 2, 2, 0), none, none, some (.iadd, 0, 0, 0), some (.aload_n 0, 0, 0, 0), some (.getfield 15, 2, 1, 0), none, none, some (.iload_n 2, 0, 0, 0), some (.iaload, 0, 0, 0), some (.isub, 0, 0, 0), some (.aload_n 0, 0, 0, 0), some (.getfield 18, 2, 2, 0), none, none, some (.irem, 0, 0, 0), some (.iaload, 0, 0, 0), some (.ireturn, 0, 0, 0)]
-- 52: NoisyCodes$Way.addShifted(LNoisyCodes$Field;[I[III)V
def xr_52 : List (Option xi_R) := [some (.iload 4, 0, 0, 0), none, some (.istore 5, 0, 0, 0), none, some (.iload 5, 0, 0, 0), none, some (.bipush 7, 0, 0, 0), none, some (.if_icmp .ge 28, 36, 0, 0), none, none, some (.aload_n 1, 0, 0, 0), some (.iload 5, 0, 0, 0), none, some (.dup2, 0, 0, 0), some (.iaload, 0, 0, 0), some (.aload_n 0, 0, 0, 0), some (.iload_n 3, 0, 0, 0), some (.aload_n 2, 0, 0, 0), some (.iload 5, 0, 0, 0), none, some (.iload 4, 0, 0, 0), none, some (.isub, 0, 0, 0), some (.iaload, 0, 0, 0), some (.invokevirtual 9, 20, 3, 0), none, none, some (.ixor, 0, 0, 0), some (.iastore, 0, 0, 0), some (.iinc 5 1, 0, 0, 0), none, none, some (.goto (-29), 4, 0, 0), none, none, some (.return_, 0, 0, 0)]
-- 53: NoisyCodes$Formulas.locate(LNoisyCodes$Field;[II[I)V
def xr_53 : List (Option xi_R) := [some (.aload_n 2, 0, 0, 0), some (.iconst 1, 0, 0, 0), some (.iaload, 0, 0, 0), some (.istore 5, 0, 0, 0), none, some (.aload_n 1, 0, 0, 0), some (.iload 5, 0, 0, 0), none, some (.iload 5, 0, 0, 0), none, some (.invokevirtual 7, 20, 3, 0), none, none, some (.istore 6, 0, 0, 0), none, some (.aload 4, 0, 0, 0), none, some (.iconst 0, 0, 0, 0), some (.iconst 1, 0, 0, 0), some (.iastore, 0, 0, 0), some (.aload 4, 0, 0, 0), none, some (.iconst 1, 0, 0, 0), some (.iload 5, 0, 0, 0), none, some (.iastore, 0, 0, 0), some (.iload_n 3, 0, 0, 0), some (.iconst 1, 0, 0, 0), some (.if_icmp .ne 4, 32, 0, 0), none, none, some (.return_, 0, 0, 0), some (.aload_n 1, 0, 0, 0), some (.iload 6, 0, 0, 0), none, some (.iload 5, 0, 0, 0), none, some (.invokevirtual 7, 20, 3, 0), none, none, some (.aload_n 2, 0, 0, 0), some (.iconst 3, 0, 0, 0), some (.iaload, 0, 0, 0), some (.ixor, 0, 0, 0), some (.istore 7, 0, 0, 0), none, some (.iload_n 3, 0, 0, 0), some (.iconst 2, 0, 0, 0), some (.if_icmp .ne 18, 66, 0, 0), none, none, some (.aload 4, 0, 0, 0), none, some (.iconst 2, 0, 0, 0), some (.aload_n 1, 0, 0, 0), some (.iload 7, 0, 0, 0), none, some (.iload 5, 0, 0, 0), none, some (.invokevirtual 13, 51, 3, 0), none, none, some (.iastore, 0, 0, 0), some (.goto 48, 111, 0, 0), none, none, some (.iload 7, 0, 0, 0), none, some (.ifCond .eq 43, 111, 0, 0), none, none, some (.aload 4, 0, 0, 0), none, some (.iconst 2, 0, 0, 0), some (.aload_n 1, 0, 0, 0), some (.aload_n 1, 0, 0, 0), some (.iload 6, 0, 0, 0), none, some (.aload_n 2, 0, 0, 0), some (.iconst 3, 0, 0, 0), some (.iaload, 0, 0, 0), some (.invokevirtual 7, 20, 3, 0), none, none, some (.aload_n 2, 0, 0, 0), some (.iconst 5, 0, 0, 0), some (.iaload, 0, 0, 0), some (.ixor, 0, 0, 0), some (.iload 7, 0, 0, 0), none, some (.invokevirtual 13, 51, 3, 0), none, none, some (.iastore, 0, 0, 0), some (.aload 4, 0, 0, 0), none, some (.iconst 3, 0, 0, 0), some (.iload 7, 0, 0, 0), none, some (.aload_n 1, 0, 0, 0), some (.iload 5, 0, 0, 0), none, some (.aload 4, 0, 0, 0), none, some (.iconst 2, 0, 0, 0), some (.iaload, 0, 0, 0), some (.invokevirtual 7, 20, 3, 0), none, none, some (.ixor, 0, 0, 0), some (.iastore, 0, 0, 0), some (.return_, 0, 0, 0)]
-- 54: NoisyCodes$ShiftRegister.locate(LNoisyCodes$Field;[II[I)V
def xr_54 : List (Option xi_R) := [some (.aload_n 0, 0, 0, 0), some (.getfield 9, 5, 0, 0), none, none, some (.iconst 0, 0, 0, 0), some (.invokestatic 18, 17, 2, 0), none, none, some (.aload_n 0, 0, 0, 0), some (.getfield 9, 5, 0, 0), none, none, some (.iconst 0, 0, 0, 0), some (.iconst 1, 0, 0, 0), some (.iastore, 0, 0, 0), some (.aload 4, 0, 0, 0), none, some (.iconst 0, 0, 0, 0), some (.iconst 1, 0, 0, 0), some (.iastore, 0, 0, 0), some (.iconst 0, 0, 0, 0), some (.istore 5, 0, 0, 0), none, some (.iconst 1, 0, 0, 0), some (.istore 6, 0, 0, 0), none, some (.iconst 1, 0, 0, 0), some (.istore 7, 0, 0, 0), none, some (.iconst 1, 0, 0, 0), some (.istore 8, 0, 0, 0), none, some (.iload 8, 0, 0, 0), none, some (.iconst 2, 0, 0, 0), some (.iload_n 3, 0, 0, 0), some (.imul, 0, 0, 0), some (.if_icmp .gt 101, 138, 0, 0), none, none, some (.aload_n 1, 0, 0, 0), some (.iload 8, 0, 0, 0), none, some (.iload 5, 0, 0, 0), none, some (.aload_n 2, 0, 0, 0), some (.aload 4, 0, 0, 0), none, some (.invokestatic 24, 55, 5, 0), none, none, some (.istore 9, 0, 0, 0), none, some (.iload 9, 0, 0, 0), none, some (.ifCond .eq 74, 129, 0, 0), none, none, some (.aload 4, 0, 0, 0), none, some (.iconst 0, 0, 0, 0), some (.aload_n 0, 0, 0, 0), some (.getfield 15, 5, 1, 0), none, none, some (.iconst 0, 0, 0, 0), some (.bipush 7, 0, 0, 0), none, some (.invokestatic 28, 1001, 5, 0), none, none, some (.aload_n 1, 0, 0, 0), some (.aload 4, 0, 0, 0), none, some (.aload_n 0, 0, 0, 0), some (.getfield 9, 5, 0, 0), none, none, some (.aload_n 1, 0, 0, 0), some (.iload 9, 0, 0, 0), none, some (.iload 7, 0, 0, 0), none, some (.invokevirtual 34, 51, 3, 0), none, none, some (.iload 6, 0, 0, 0), none, some (.invokestatic 40, 52, 5, 0), none, none, some (.iconst 2, 0, 0, 0), some (.iload 5, 0, 0, 0), none, some (.imul, 0, 0, 0), some (.iload 8, 0, 0, 0), none, some (.if_icmp .ge 32, 129, 0, 0), none, none, some (.aload_n 0, 0, 0, 0), some (.getfield 15, 5, 1, 0), none, none, some (.iconst 0, 0, 0, 0), some (.aload_n 0, 0, 0, 0), some (.getfield 9, 5, 0, 0), none, none, some (.iconst 0, 0, 0, 0), some (.bipush 7, 0, 0, 0), none, some (.invokestatic 28, 1001, 5, 0), none, none, some (.iload 8, 0, 0, 0), none, some (.iload 5, 0, 0, 0), none, some (.isub, 0, 0, 0), some (.istore 5, 0, 0, 0), none, some (.iload 9, 0, 0, 0), none, some (.istore 7, 0, 0, 0), none, some (.iconst 0, 0, 0, 0), some (.istore 6, 0, 0, 0), none, some (.iinc 6 1, 0, 0, 0), none, none, some (.iinc 8 1, 0, 0, 0), none, none, some (.goto (-103), 32, 0, 0), none, none, some (.return_, 0, 0, 0)]
-- 55: NoisyCodes$ShiftRegister.gapAt(LNoisyCodes$Field;II[I[I)I
def xr_55 : List (Option xi_R) := [some (.aload_n 3, 0, 0, 0), some (.iload_n 1, 0, 0, 0), some (.iaload, 0, 0, 0), some (.istore 5, 0, 0, 0), none, some (.iconst 1, 0, 0, 0), some (.istore 6, 0, 0, 0), none, some (.iload 6, 0, 0, 0), none, some (.iload_n 2, 0, 0, 0), some (.if_icmp .gt 35, 46, 0, 0), none, none, some (.iload 6, 0, 0, 0), none, some (.iload_n 1, 0, 0, 0), some (.if_icmp .ge 29, 46, 0, 0), none, none, some (.iload 5, 0, 0, 0), none, some (.aload_n 0, 0, 0, 0), some (.aload 4, 0, 0, 0), none, some (.iload 6, 0, 0, 0), none, some (.iaload, 0, 0, 0), some (.aload_n 3, 0, 0, 0), some (.iload_n 1, 0, 0, 0), some (.iload 6, 0, 0, 0), none, some (.isub, 0, 0, 0), some (.iaload, 0, 0, 0), some (.invokevirtual 44, 20, 3, 0), none, none, some (.ixor, 0, 0, 0), some (.istore 5, 0, 0, 0), none, some (.iinc 6 1, 0, 0, 0), none, none, some (.goto (-35), 8, 0, 0), none, none, some (.iload 5, 0, 0, 0), none, some (.ireturn, 0, 0, 0)]
-- 56: NoisyCodes$Mender.placesOfErrors(LNoisyCodes$Field;)I
def xr_56 : List (Option xi_R) := [some (.iconst 0, 0, 0, 0), some (.istore_n 2, 0, 0, 0), some (.iconst 0, 0, 0, 0), some (.istore_n 3, 0, 0, 0), some (.iload_n 3, 0, 0, 0), some (.aload_n 1, 0, 0, 0), some (.getfield 71, 2, 2, 1), none, none, some (.if_icmp .ge 29, 38, 0, 0), none, none, some (.aload_n 0, 0, 0, 0), some (.aload_n 1, 0, 0, 0), some (.aload_n 1, 0, 0, 0), some (.getfield 71, 2, 2, 1), none, none, some (.iload_n 3, 0, 0, 0), some (.isub, 0, 0, 0), some (.invokevirtual 76, 57, 3, 0), none, none, some (.ifCond .ne 9, 32, 0, 0), none, none, some (.iload_n 2, 0, 0, 0), some (.iconst 1, 0, 0, 0), some (.iload_n 3, 0, 0, 0), some (.ishl, 0, 0, 0), some (.ior, 0, 0, 0), some (.istore_n 2, 0, 0, 0), some (.iinc 3 1, 0, 0, 0), none, none, some (.goto (-31), 4, 0, 0), none, none, some (.iload_n 2, 0, 0, 0), some (.ireturn, 0, 0, 0)]
-- 57: NoisyCodes$Mender.locatorAtPower(LNoisyCodes$Field;I)I
def xr_57 : List (Option xi_R) := [some (.iconst 0, 0, 0, 0), some (.istore_n 3, 0, 0, 0), some (.iconst 0, 0, 0, 0), some (.istore 4, 0, 0, 0), none, some (.iload 4, 0, 0, 0), none, some (.bipush 7, 0, 0, 0), none, some (.if_icmp .ge 31, 40, 0, 0), none, none, some (.iload_n 3, 0, 0, 0), some (.aload_n 1, 0, 0, 0), some (.aload_n 0, 0, 0, 0), some (.getfield 30, 3, 2, 0), none, none, some (.iload 4, 0, 0, 0), none, some (.iaload, 0, 0, 0), some (.aload_n 1, 0, 0, 0), some (.iload 4, 0, 0, 0), none, some (.iload_n 2, 0, 0, 0), some (.imul, 0, 0, 0), some (.invokevirtual 80, 18, 2, 0), none, none, some (.invokevirtual 83, 20, 3, 0), none, none, some (.ixor, 0, 0, 0), some (.istore_n 3, 0, 0, 0), some (.iinc 4 1, 0, 0, 0), none, none, some (.goto (-32), 5, 0, 0), none, none, some (.iload_n 3, 0, 0, 0), some (.ireturn, 0, 0, 0)]
-- 58: NoisyCodes.takeMended()V
def xr_58 : List (Option xi_R) := [some (.iconst 0, 0, 0, 0), some (.istore_n 1, 0, 0, 0), some (.iload_n 1, 0, 0, 0), some (.aload_n 0, 0, 0, 0), some (.getfield 43, 0, 7, 0), none, none, some (.if_icmp .ge 40, 47, 0, 0), none, none, some (.aload_n 0, 0, 0, 0), some (.getfield 32, 0, 4, 0), none, none, some (.iload_n 1, 0, 0, 0), some (.aload_n 0, 0, 0, 0), some (.getfield 35, 0, 5, 0), none, none, some (.iload_n 1, 0, 0, 0), some (.iaload, 0, 0, 0), some (.iastore, 0, 0, 0), some (.aload_n 0, 0, 0, 0), some (.getfield 28, 0, 3, 0), none, none, some (.iload_n 1, 0, 0, 0), some (.aload_n 0, 0, 0, 0), some (.getfield 12, 0, 0, 0), none, none, some (.aload_n 0, 0, 0, 0), some (.getfield 35, 0, 5, 0), none, none, some (.iload_n 1, 0, 0, 0), some (.iaload, 0, 0, 0), some (.invokevirtual 157, 59, 2, 0), none, none, some (.iastore, 0, 0, 0), some (.iinc 1 1, 0, 0, 0), none, none, some (.goto (-42), 2, 0, 0), none, none, some (.return_, 0, 0, 0)]
-- 59: NoisyCodes$BlockCode.messageOf(I)I
def xr_59 : List (Option xi_R) := [some (.iload_n 1, 0, 0, 0), some (.aload_n 0, 0, 0, 0), some (.getfield 29, 1, 4, 0), none, none, some (.iushr, 0, 0, 0), some (.ireturn, 0, 0, 0)]
-- 60: NoisyCodes.save(I)V
def xr_60 : List (Option xi_R) := [some (.aload_n 0, 0, 0, 0), some (.invokevirtual 79, 24, 1, 0), none, none, some (.iload_n 1, 0, 0, 0), some (.iconst 4, 0, 0, 0), some (.invokestatic 102, 31, 2, 0), none, none, some (.aload_n 0, 0, 0, 0), some (.getfield 32, 0, 4, 0), none, none, some (.iconst 0, 0, 0, 0), some (.aload_n 0, 0, 0, 0), some (.getfield 40, 0, 6, 0), none, none, some (.iload_n 1, 0, 0, 0), some (.aaload, 0, 0, 0), some (.iconst 0, 0, 0, 0), some (.iconst 4, 0, 0, 0), some (.invokestatic 138, 1001, 5, 0), none, none, some (.return_, 0, 0, 0)]
-- 61: NoisyCodes.load(I)I
def xr_61 : List (Option xi_R) := [some (.aload_n 0, 0, 0, 0), some (.invokevirtual 79, 24, 1, 0), none, none, some (.iload_n 1, 0, 0, 0), some (.iconst 4, 0, 0, 0), some (.invokestatic 102, 31, 2, 0), none, none, some (.aload_n 0, 0, 0, 0), some (.aload_n 0, 0, 0, 0), some (.getfield 40, 0, 6, 0), none, none, some (.iload_n 1, 0, 0, 0), some (.aaload, 0, 0, 0), some (.iconst 0, 0, 0, 0), some (.invokevirtual 131, 44, 3, 0), none, none, some (.istore_n 2, 0, 0, 0), some (.iload_n 2, 0, 0, 0), some (.iconst (-1), 0, 0, 0), some (.if_icmp .ne 11, 34, 0, 0), none, none, some (.new 63, 3, 1, 0), none, none, some (.dup, 0, 0, 0), some (.invokespecial 65, 1002, 1, 0), none, none, some (.athrow, 0, 0, 0), some (.aload_n 0, 0, 0, 0), some (.invokevirtual 135, 58, 1, 0), none, none, some (.aload_n 0, 0, 0, 0), some (.getfield 35, 0, 5, 0), none, none, some (.iconst 0, 0, 0, 0), some (.aload_n 0, 0, 0, 0), some (.getfield 40, 0, 6, 0), none, none, some (.iload_n 1, 0, 0, 0), some (.aaload, 0, 0, 0), some (.iconst 0, 0, 0, 0), some (.iconst 4, 0, 0, 0), some (.invokestatic 138, 1001, 5, 0), none, none, some (.iload_n 2, 0, 0, 0), some (.ireturn, 0, 0, 0)]
-- 62: NoisyCodesModel.<init>()V
def xr_62 : List (Option xi_R) := [some (.aload_n 0, 0, 0, 0), some (.invokespecial 1, 1000, 1, 0), none, none, some (.aload_n 0, 0, 0, 0), some (.iconst 4, 0, 0, 0), some (.newarray .int, 0, 0, 0), none, some (.putfield 7, 7, 9, 0), none, none, some (.aload_n 0, 0, 0, 0), some (.iconst 4, 0, 0, 0), some (.newarray .int, 0, 0, 0), none, some (.putfield 13, 7, 10, 0), none, none, some (.aload_n 0, 0, 0, 0), some (.bipush 16, 0, 0, 0), none, some (.newarray .int, 0, 0, 0), none, some (.putfield 16, 7, 11, 0), none, none, some (.aload_n 0, 0, 0, 0), some (.iconst 4, 0, 0, 0), some (.newarray .int, 0, 0, 0), none, some (.putfield 19, 7, 12, 0), none, none, some (.aload_n 0, 0, 0, 0), some (.bipush 31, 0, 0, 0), none, some (.newarray .int, 0, 0, 0), none, some (.putfield 22, 7, 13, 0), none, none, some (.aload_n 0, 0, 0, 0), some (.bipush 32, 0, 0, 0), none, some (.newarray .int, 0, 0, 0), none, some (.putfield 25, 7, 14, 0), none, none, some (.return_, 0, 0, 0)]
-- 63: NoisyCodesModel.thrown()I
def xr_63 : List (Option xi_R) := [some (.aload_n 0, 0, 0, 0), some (.getfield 28, 7, 0, 0), none, none, some (.ireturn, 0, 0, 0)]
-- 64: NoisyCodesModel.begin(III)I
def xr_64 : List (Option xi_R) := [some (.iload_n 2, 0, 0, 0), some (.iconst 1, 0, 0, 0), some (.iconst 3, 0, 0, 0), some (.invokestatic 47, 65, 3, 0), none, none, some (.ifCond .eq 27, 33, 0, 0), none, none, some (.iload_n 3, 0, 0, 0), some (.iconst 1, 0, 0, 0), some (.iconst 4, 0, 0, 0), some (.invokestatic 47, 65, 3, 0), none, none, some (.ifCond .eq 18, 33, 0, 0), none, none, some (.iload_n 1, 0, 0, 0), some (.bipush 8, 0, 0, 0), none, some (.bipush 63, 0, 0, 0), none, some (.invokestatic 47, 65, 3, 0), none, none, some (.ifCond .eq 7, 33, 0, 0), none, none, some (.iconst 1, 0, 0, 0), some (.goto 4, 34, 0, 0), none, none, some (.iconst 0, 0, 0, 0), some (.istore 4, 0, 0, 0), none, some (.iload_n 1, 0, 0, 0), some (.bipush 31, 0, 0, 0), none, some (.if_icmp .le 7, 46, 0, 0), none, none, some (.iconst 5, 0, 0, 0), some (.goto 14, 57, 0, 0), none, none, some (.iload_n 1, 0, 0, 0), some (.bipush 15, 0, 0, 0), none, some (.if_icmp .le 7, 56, 0, 0), none, none, some (.iconst 4, 0, 0, 0), some (.goto 4, 57, 0, 0), none, none, some (.iconst 3, 0, 0, 0), some (.istore 5, 0, 0, 0), none, some (.aload_n 0, 0, 0, 0), some (.iload 4, 0, 0, 0), none, some (.ifCond .ne 7, 69, 0, 0), none, none, some (.iconst 1, 0, 0, 0), some (.goto 17, 83, 0, 0), none, none, some (.iload_n 1, 0, 0, 0), some (.iload 5, 0, 0, 0), none, some (.invokestatic 65, 66, 2, 0), none, none, some (.ifCond .eq 7, 82, 0, 0), none, none, some (.iconst 0, 0, 0, 0), some (.goto 4, 83, 0, 0), none, none, some (.iconst 2, 0, 0, 0), some (.putfield 28, 7, 0, 0), none, none, some (.aload_n 0, 0, 0, 0), some (.getfield 28, 7, 0, 0), none, none, some (.ifCond .le 5, 95, 0, 0), none, none, some (.iconst 0, 0, 0, 0), some (.ireturn, 0, 0, 0), some (.aload_n 0, 0, 0, 0), some (.iconst 1, 0, 0, 0), some (.putfield 69, 7, 1, 0), none, none, some (.aload_n 0, 0, 0, 0), some (.iload_n 1, 0, 0, 0), some (.putfield 35, 7, 2, 0), none, none, some (.aload_n 0, 0, 0, 0), some (.iload 5, 0, 0, 0), none, some (.putfield 38, 7, 3, 0), none, none, some (.aload_n 0, 0, 0, 0), some (.iconst 1, 0, 0, 0), some (.iload 5, 0, 0, 0), none, some (.ishl, 0, 0, 0), some (.iconst 1, 0, 0, 0), some (.isub, 0, 0, 0), some (.putfield 32, 7, 4, 0), none, none, some (.aload_n 0, 0, 0, 0), some (.iload_n 2, 0, 0, 0), some (.putfield 44, 7, 5, 0), none, none, some (.aload_n 0, 0, 0, 0), some (.iload_n 3, 0, 0, 0), some (.putfield 73, 7, 6, 0), none, none, some (.aload_n 0, 0, 0, 0), some (.invokevirtual 76, 68, 1, 0), none, none, some (.iconst 0, 0, 0, 0), some (.istore 6, 0, 0, 0), none, some (.iload 6, 0, 0, 0), none, some (.bipush 16, 0, 0, 0), none, some (.if_icmp .ge 37, 179, 0, 0), none, none, some (.aload_n 0, 0, 0, 0), some (.getfield 16, 7, 11, 0), none, none, some (.iload 6, 0, 0, 0), none, some (.iconst 0, 0, 0, 0), some (.iastore, 0, 0, 0), some (.aload_n 0, 0, 0, 0), some (.getfield 7, 7, 9, 0), none, none, some (.iload 6, 0, 0, 0), none, some (.iconst 4, 0, 0, 0), some (.irem, 0, 0, 0), some (.iconst 0, 0, 0, 0), some (.iastore, 0, 0, 0), some (.aload_n 0, 0, 0, 0), some (.getfield 13, 7, 10, 0), none, none, some (.iload 6, 0, 0, 0), none, some (.iconst 4, 0, 0, 0), some (.irem, 0, 0, 0), some (.iconst 0, 0, 0, 0), some (.iastore, 0, 0, 0), some (.iinc 6 1, 0, 0, 0), none, none, some (.goto (-38), 138, 0, 0), none, none, some (.aload_n 0, 0, 0, 0), some (.getfield 32, 7, 4, 0), none, none, some (.aload_n 0, 0, 0, 0), some (.getfield 51, 7, 8, 0), none, none, some (.isub, 0, 0, 0), some (.ireturn, 0, 0, 0)]
-- 65: NoisyCodesModel.within(III)Z
def xr_65 : List (Option xi_R) := [some (.iload_n 0, 0, 0, 0), some (.iload_n 1, 0, 0, 0), some (.if_icmp .lt 12, 14, 0, 0), none, none, some (.iload_n 0, 0, 0, 0), some (.iload_n 2, 0, 0, 0), some (.if_icmp .gt 7, 14, 0, 0), none, none, some (.iconst 1, 0, 0, 0), some (.goto 4, 15, 0, 0), none, none, some (.iconst 0, 0, 0, 0), some (.ireturn, 0, 0, 0)]
-- 66: NoisyCodesModel.isPrimitive(II)Z
def xr_66 : List (Option xi_R) := [some (.iconst 1, 0, 0, 0), some (.istore_n 2, 0, 0, 0), some (.iconst 1, 0, 0, 0), some (.istore_n 3, 0, 0, 0), some (.iload_n 3, 0, 0, 0), some (.iconst 1, 0, 0, 0), some (.iload_n 1, 0, 0, 0), some (.ishl, 0, 0, 0), some (.if_icmp .ge 37, 45, 0, 0), none, none, some (.iload_n 2, 0, 0, 0), some (.iconst 2, 0, 0, 0), some (.iload_n 0, 0, 0, 0), some (.iload_n 1, 0, 0, 0), some (.invokestatic 41, 67, 4, 0), none, none, some (.istore_n 2, 0, 0, 0), some (.iload_n 2, 0, 0, 0), some (.iconst 1, 0, 0, 0), some (.if_icmp .ne 18, 39, 0, 0), none, none, some (.iload_n 3, 0, 0, 0), some (.iconst 1, 0, 0, 0), some (.iload_n 1, 0, 0, 0), some (.ishl, 0, 0, 0), some (.iconst 1, 0, 0, 0), some (.isub, 0, 0, 0), some (.if_icmp .ne 7, 37, 0, 0), none, none, some (.iconst 1, 0, 0, 0), some (.goto 4, 38, 0, 0), none, none, some (.iconst 0, 0, 0, 0), some (.ireturn, 0, 0, 0), some (.iinc 3 1, 0, 0, 0), none, none, some (.goto (-38), 4, 0, 0), none, none, some (.iconst 0, 0, 0, 0), some (.ireturn, 0, 0, 0)]
-- 67: NoisyCodesModel.product(IIII)I
def xr_67 : List (Option xi_R) := [some (.iconst 0, 0, 0, 0), some (.istore 4, 0, 0, 0), none, some (.iload_n 0, 0, 0, 0), some (.istore 5, 0, 0, 0), none, some (.iconst 0, 0, 0, 0), some (.istore 6, 0, 0, 0), none, some (.iload 6, 0, 0, 0), none, some (.iload_n 3, 0, 0, 0), some (.if_icmp .ge 58, 70, 0, 0), none, none, some (.iload_n 1, 0, 0, 0), some (.iload 6, 0, 0, 0), none, some (.ishr, 0, 0, 0), some (.iconst 1, 0, 0, 0), some (.iand, 0, 0, 0), some (.iconst 1, 0, 0, 0), some (.if_icmp .ne 11, 33, 0, 0), none, none, some (.iload 4, 0, 0, 0), none, some (.iload 5, 0, 0, 0), none, some (.ixor, 0, 0, 0), some (.goto 5, 35, 0, 0), none, none, some (.iload 4, 0, 0, 0), none, some (.istore 4, 0, 0, 0), none, some (.iload 5, 0, 0, 0), none, some (.iconst 1, 0, 0, 0), some (.ishl, 0, 0, 0), some (.istore 5, 0, 0, 0), none, some (.iload 5, 0, 0, 0), none, some (.iload_n 3, 0, 0, 0), some (.ishr, 0, 0, 0), some (.iconst 1, 0, 0, 0), some (.iand, 0, 0, 0), some (.iconst 1, 0, 0, 0), some (.if_icmp .ne 10, 60, 0, 0), none, none, some (.iload 5, 0, 0, 0), none, some (.iload_n 2, 0, 0, 0), some (.ixor, 0, 0, 0), some (.goto 5, 62, 0, 0), none, none, some (.iload 5, 0, 0, 0), none, some (.istore 5, 0, 0, 0), none, some (.iinc 6 1, 0, 0, 0), none, none, some (.goto (-58), 9, 0, 0), none, none, some (.iload 4, 0, 0, 0), none, some (.ireturn, 0, 0, 0)]
-- 68: NoisyCodesModel.makeGenerator()V
def xr_68 : List (Option xi_R) := [some (.iconst 0, 0, 0, 0), some (.istore_n 1, 0, 0, 0), some (.iload_n 1, 0, 0, 0), some (.bipush 32, 0, 0, 0), none, some (.if_icmp .ge 24, 29, 0, 0), none, none, some (.aload_n 0, 0, 0, 0), some (.getfield 25, 7, 14, 0), none, none, some (.iload_n 1, 0, 0, 0), some (.iload_n 1, 0, 0, 0), some (.ifCond .ne 7, 21, 0, 0), none, none, some (.iconst 1, 0, 0, 0), some (.goto 4, 22, 0, 0), none, none, some (.iconst 0, 0, 0, 0), some (.iastore, 0, 0, 0), some (.iinc 1 1, 0, 0, 0), none, none, some (.goto (-24), 2, 0, 0), none, none, some (.aload_n 0, 0, 0, 0), some (.iconst 0, 0, 0, 0), some (.putfield 51, 7, 8, 0), none, none, some (.iconst 1, 0, 0, 0), some (.istore_n 1, 0, 0, 0), some (.iload_n 1, 0, 0, 0), some (.aload_n 0, 0, 0, 0), some (.getfield 32, 7, 4, 0), none, none, some (.if_icmp .gt 109, 150, 0, 0), none, none, some (.aload_n 0, 0, 0, 0), some (.iload_n 1, 0, 0, 0), some (.aload_n 0, 0, 0, 0), some (.getfield 32, 7, 4, 0), none, none, some (.irem, 0, 0, 0), some (.ifCond .ne 10, 61, 0, 0), none, none, some (.aload_n 0, 0, 0, 0), some (.getfield 32, 7, 4, 0), none, none, some (.goto 4, 62, 0, 0), none, none, some (.iload_n 1, 0, 0, 0), some (.invokevirtual 54, 69, 2, 0), none, none, some (.ifCond .eq 79, 144, 0, 0), none, none, some (.aload_n 0, 0, 0, 0), some (.iload_n 1, 0, 0, 0), some (.invokevirtual 58, 70, 2, 0), none, none, some (.istore_n 2, 0, 0, 0), some (.aload_n 0, 0, 0, 0), some (.dup, 0, 0, 0), some (.getfield 51, 7, 8, 0), none, none, some (.iconst 1, 0, 0, 0), some (.iadd, 0, 0, 0), some (.putfield 51, 7, 8, 0), none, none, some (.aload_n 0, 0, 0, 0), some (.getfield 51, 7, 8, 0), none, none, some (.istore_n 3, 0, 0, 0), some (.iload_n 3, 0, 0, 0), some (.ifCond .lt 54, 144, 0, 0), none, none, some (.iload_n 3, 0, 0, 0), some (.ifCond .le 14, 108, 0, 0), none, none, some (.aload_n 0, 0, 0, 0), some (.getfield 25, 7, 14, 0), none, none, some (.iload_n 3, 0, 0, 0), some (.iconst 1, 0, 0, 0), some (.isub, 0, 0, 0), some (.iaload, 0, 0, 0), some (.goto 4, 109, 0, 0), none, none, some (.iconst 0, 0, 0, 0), some (.istore 4, 0, 0, 0), none, some (.aload_n 0, 0, 0, 0), some (.getfield 25, 7, 14, 0), none, none, some (.iload_n 3, 0, 0, 0), some (.iload 4, 0, 0, 0), none, some (.aload_n 0, 0, 0, 0), some (.getfield 25, 7, 14, 0), none, none, some (.iload_n 3, 0, 0, 0), some (.iaload, 0, 0, 0), some (.iload_n 2, 0, 0, 0), some (.aload_n 0, 0, 0, 0), some (.getfield 35, 7, 2, 0), none, none, some (.aload_n 0, 0, 0, 0), some (.getfield 38, 7, 3, 0), none, none, some (.invokestatic 41, 67, 4, 0), none, none, some (.ixor, 0, 0, 0), some (.iastore, 0, 0, 0), some (.iinc 3 (-1), 0, 0, 0), none, none, some (.goto (-52), 89, 0, 0), none, none, some (.iinc 1 1, 0, 0, 0), none, none, some (.goto (-111), 36, 0, 0), none, none, some (.aload_n 0, 0, 0, 0), some (.iconst 0, 0, 0, 0), some (.putfield 62, 7, 7, 0), none, none, some (.iconst 0, 0, 0, 0), some (.istore_n 1, 0, 0, 0), some (.iload_n 1, 0, 0, 0), some (.aload_n 0, 0, 0, 0), some (.getfield 51, 7, 8, 0), none, none, some (.if_icmp .gt 26, 188, 0, 0), none, none, some (.aload_n 0, 0, 0, 0), some (.aload_n 0, 0, 0, 0), some (.getfield 62, 7, 7, 0), none, none, some (.aload_n 0, 0, 0, 0), some (.getfield 25, 7, 14, 0), none, none, some (.iload_n 1, 0, 0, 0), some (.iaload, 0, 0, 0), some (.iload_n 1, 0, 0, 0), some (.ishl, 0, 0, 0), some (.ior, 0, 0, 0), some (.putfield 62, 7, 7, 0), none, none, some (.iinc 1 1, 0, 0, 0), none, none, some (.goto (-28), 157, 0, 0), none, none, some (.iconst 1, 0, 0, 0), some (.istore_n 1, 0, 0, 0), some (.iconst 0, 0, 0, 0), some (.istore_n 2, 0, 0, 0), some (.iload_n 2, 0, 0, 0), some (.aload_n 0, 0, 0, 0), some (.getfield 32, 7, 4, 0), none, none, some (.if_icmp .ge 43, 240, 0, 0), none, none, some (.iload_n 1, 0, 0, 0), some (.aload_n 0, 0, 0, 0), some (.getfield 51, 7, 8, 0), none, none, some (.ishr, 0, 0, 0), some (.iconst 1, 0, 0, 0), some (.iand, 0, 0, 0), some (.iconst 1, 0, 0, 0), some (.if_icmp .ne 12, 221, 0, 0), none, none, some (.iload_n 1, 0, 0, 0), some (.aload_n 0, 0, 0, 0), some (.getfield 62, 7, 7, 0), none, none, some (.ixor, 0, 0, 0), some (.goto 4, 222, 0, 0), none, none, some (.iload_n 1, 0, 0, 0), some (.istore_n 1, 0, 0, 0), some (.aload_n 0, 0, 0, 0), some (.getfield 22, 7, 13, 0), none, none, some (.iload_n 2, 0, 0, 0), some (.iload_n 1, 0, 0, 0), some (.iastore, 0, 0, 0), some (.iload_n 1, 0, 0, 0), some (.iconst 1, 0, 0, 0), some (.ishl, 0, 0, 0), some (.istore_n 1, 0, 0, 0), some (.iinc 2 1, 0, 0, 0), none, none, some (.goto (-45), 192, 0, 0), none, none, some (.return_, 0, 0, 0)]
-- 69: NoisyCodesModel.isZero(I)Z
def xr_69 : List (Option xi_R) := [some (.iload_n 1, 0, 0, 0), some (.istore_n 2, 0, 0, 0), some (.iconst 0, 0, 0, 0), some (.istore_n 3, 0, 0, 0), some (.iconst 0, 0, 0, 0), some (.istore 4, 0, 0, 0), none, some (.iload 4, 0, 0, 0), none, some (.aload_n 0, 0, 0, 0), some (.getfield 38, 7, 3, 0), none, none, some (.if_icmp .ge 42, 55, 0, 0), none, none, some (.iload_n 3, 0, 0, 0), some (.ifCond .ne 17, 34, 0, 0), none, none, some (.iload_n 2, 0, 0, 0), some (.iconst 1, 0, 0, 0), some (.iconst 2, 0, 0, 0), some (.aload_n 0, 0, 0, 0), some (.getfield 44, 7, 5, 0), none, none, some (.imul, 0, 0, 0), some (.invokestatic 47, 65, 3, 0), none, none, some (.ifCond .eq 7, 38, 0, 0), none, none, some (.iconst 1, 0, 0, 0), some (.goto 4, 39, 0, 0), none, none, some (.iconst 0, 0, 0, 0), some (.istore_n 3, 0, 0, 0), some (.iconst 2, 0, 0, 0), some (.iload_n 2, 0, 0, 0), some (.imul, 0, 0, 0), some (.aload_n 0, 0, 0, 0), some (.getfield 32, 7, 4, 0), none, none, some (.irem, 0, 0, 0), some (.istore_n 2, 0, 0, 0), some (.iinc 4 1, 0, 0, 0), none, none, some (.goto (-45), 7, 0, 0), none, none, some (.iload_n 3, 0, 0, 0), some (.ireturn, 0, 0, 0)]
-- 70: NoisyCodesModel.powerOf(I)I
def xr_70 : List (Option xi_R) := [some (.iconst 1, 0, 0, 0), some (.istore_n 2, 0, 0, 0), some (.iconst 0, 0, 0, 0), some (.istore_n 3, 0, 0, 0), some (.iload_n 3, 0, 0, 0), some (.iload_n 1, 0, 0, 0), some (.aload_n 0, 0, 0, 0), some (.getfield 32, 7, 4, 0), none, none, some (.irem, 0, 0, 0), some (.if_icmp .ge 23, 34, 0, 0), none, none, some (.iload_n 2, 0, 0, 0), some (.iconst 2, 0, 0, 0), some (.aload_n 0, 0, 0, 0), some (.getfield 35, 7, 2, 0), none, none, some (.aload_n 0, 0, 0, 0), some (.getfield 38, 7, 3, 0), none, none, some (.invokestatic 41, 67, 4, 0), none, none, some (.istore_n 2, 0, 0, 0), some (.iinc 3 1, 0, 0, 0), none, none, some (.goto (-27), 4, 0, 0), none, none, some (.iload_n 2, 0, 0, 0), some (.ireturn, 0, 0, 0)]
-- 71: NoisyCodesModel.length()I
def xr_71 : List (Option xi_R) := [some (.aload_n 0, 0, 0, 0), some (.aload_n 0, 0, 0, 0), some (.getfield 69, 7, 1, 0), none, none, some (.ifCond .eq 7, 12, 0, 0), none, none, some (.iconst 0, 0, 0, 0), some (.goto 4, 13, 0, 0), none, none, some (.iconst 1, 0, 0, 0), some (.putfield 28, 7, 0, 0), none, none, some (.aload_n 0, 0, 0, 0), some (.getfield 69, 7, 1, 0), none, none, some (.ifCond .eq 10, 30, 0, 0), none, none, some (.aload_n 0, 0, 0, 0), some (.getfield 32, 7, 4, 0), none, none, some (.goto 4, 31, 0, 0), none, none, some (.iconst 0, 0, 0, 0), some (.ireturn, 0, 0, 0)]
-- 72: NoisyCodesModel.generator()I
def xr_72 : List (Option xi_R) := [some (.aload_n 0, 0, 0, 0), some (.aload_n 0, 0, 0, 0), some (.getfield 69, 7, 1, 0), none, none, some (.ifCond .eq 7, 12, 0, 0), none, none, some (.iconst 0, 0, 0, 0), some (.goto 4, 13, 0, 0), none, none, some (.iconst 1, 0, 0, 0), some (.putfield 28, 7, 0, 0), none, none, some (.aload_n 0, 0, 0, 0), some (.getfield 69, 7, 1, 0), none, none, some (.ifCond .eq 10, 30, 0, 0), none, none, some (.aload_n 0, 0, 0, 0), some (.getfield 62, 7, 7, 0), none, none, some (.goto 4, 31, 0, 0), none, none, some (.iconst 0, 0, 0, 0), some (.ireturn, 0, 0, 0)]
-- 73: NoisyCodesModel.power(I)I
def xr_73 : List (Option xi_R) := [some (.aload_n 0, 0, 0, 0), some (.aload_n 0, 0, 0, 0), some (.getfield 69, 7, 1, 0), none, none, some (.ifCond .ne 7, 12, 0, 0), none, none, some (.iconst 1, 0, 0, 0), some (.goto 12, 21, 0, 0), none, none, some (.iload_n 1, 0, 0, 0), some (.ifCond .ge 7, 20, 0, 0), none, none, some (.iconst 2, 0, 0, 0), some (.goto 4, 21, 0, 0), none, none, some (.iconst 0, 0, 0, 0), some (.putfield 28, 7, 0, 0), none, none, some (.aload_n 0, 0, 0, 0), some (.getfield 28, 7, 0, 0), none, none, some (.ifCond .le 7, 35, 0, 0), none, none, some (.iconst 0, 0, 0, 0), some (.goto 8, 40, 0, 0), none, none, some (.aload_n 0, 0, 0, 0), some (.iload_n 1, 0, 0, 0), some (.invokevirtual 58, 70, 2, 0), none, none, some (.ireturn, 0, 0, 0)]
-- 74: NoisyCodesModel.log(I)I
def xr_74 : List (Option xi_R) := [some (.aload_n 0, 0, 0, 0), some (.aload_n 0, 0, 0, 0), some (.getfield 69, 7, 1, 0), none, none, some (.ifCond .ne 7, 12, 0, 0), none, none, some (.iconst 1, 0, 0, 0), some (.goto 20, 29, 0, 0), none, none, some (.iload_n 1, 0, 0, 0), some (.iconst 1, 0, 0, 0), some (.aload_n 0, 0, 0, 0), some (.getfield 32, 7, 4, 0), none, none, some (.invokestatic 47, 65, 3, 0), none, none, some (.ifCond .eq 7, 28, 0, 0), none, none, some (.iconst 0, 0, 0, 0), some (.goto 4, 29, 0, 0), none, none, some (.iconst 2, 0, 0, 0), some (.putfield 28, 7, 0, 0), none, none, some (.aload_n 0, 0, 0, 0), some (.getfield 28, 7, 0, 0), none, none, some (.ifCond .le 5, 41, 0, 0), none, none, some (.iconst 0, 0, 0, 0), some (.ireturn, 0, 0, 0), some (.iconst 0, 0, 0, 0), some (.istore_n 2, 0, 0, 0), some (.aload_n 0, 0, 0, 0), some (.iload_n 2, 0, 0, 0), some (.invokevirtual 58, 70, 2, 0), none, none, some (.iload_n 1, 0, 0, 0), some (.if_icmp .eq 9, 58, 0, 0), none, none, some (.iinc 2 1, 0, 0, 0), none, none, some (.goto (-12), 43, 0, 0), none, none, some (.iload_n 2, 0, 0, 0), some (.ireturn, 0, 0, 0)]
-- 75: NoisyCodesModel.times(II)I
def xr_75 : List (Option xi_R) := [some (.aload_n 0, 0, 0, 0), some (.aload_n 0, 0, 0, 0), some (.getfield 69, 7, 1, 0), none, none, some (.ifCond .ne 7, 12, 0, 0), none, none, some (.iconst 1, 0, 0, 0), some (.goto 32, 41, 0, 0), none, none, some (.iload_n 1, 0, 0, 0), some (.iconst 0, 0, 0, 0), some (.aload_n 0, 0, 0, 0), some (.getfield 32, 7, 4, 0), none, none, some (.invokestatic 47, 65, 3, 0), none, none, some (.ifCond .eq 19, 40, 0, 0), none, none, some (.iload_n 2, 0, 0, 0), some (.iconst 0, 0, 0, 0), some (.aload_n 0, 0, 0, 0), some (.getfield 32, 7, 4, 0), none, none, some (.invokestatic 47, 65, 3, 0), none, none, some (.ifCond .eq 7, 40, 0, 0), none, none, some (.iconst 0, 0, 0, 0), some (.goto 4, 41, 0, 0), none, none, some (.iconst 2, 0, 0, 0), some (.putfield 28, 7, 0, 0), none, none, some (.aload_n 0, 0, 0, 0), some (.getfield 28, 7, 0, 0), none, none, some (.ifCond .le 7, 55, 0, 0), none, none, some (.iconst 0, 0, 0, 0), some (.goto 16, 68, 0, 0), none, none, some (.iload_n 1, 0, 0, 0), some (.iload_n 2, 0, 0, 0), some (.aload_n 0, 0, 0, 0), some (.getfield 35, 7, 2, 0), none, none, some (.aload_n 0, 0, 0, 0), some (.getfield 38, 7, 3, 0), none, none, some (.invokestatic 41, 67, 4, 0), none, none, some (.ireturn, 0, 0, 0)]
-- 76: NoisyCodesModel.put(II)V
def xr_76 : List (Option xi_R) := [some (.aload_n 0, 0, 0, 0), some (.aload_n 0, 0, 0, 0), some (.getfield 69, 7, 1, 0), none, none, some (.ifCond .ne 7, 12, 0, 0), none, none, some (.iconst 1, 0, 0, 0), some (.goto 35, 44, 0, 0), none, none, some (.iload_n 1, 0, 0, 0), some (.iconst 0, 0, 0, 0), some (.aload_n 0, 0, 0, 0), some (.invokevirtual 79, 77, 1, 0), none, none, some (.iconst 1, 0, 0, 0), some (.isub, 0, 0, 0), some (.invokestatic 47, 65, 3, 0), none, none, some (.ifCond .ne 7, 30, 0, 0), none, none, some (.iconst 2, 0, 0, 0), some (.goto 17, 44, 0, 0), none, none, some (.iload_n 2, 0, 0, 0), some (.iconst 0, 0, 0, 0), some (.iconst 1, 0, 0, 0), some (.invokestatic 47, 65, 3, 0), none, none, some (.ifCond .eq 7, 43, 0, 0), none, none, some (.iconst 0, 0, 0, 0), some (.goto 4, 44, 0, 0), none, none, some (.iconst 3, 0, 0, 0), some (.putfield 28, 7, 0, 0), none, none, some (.aload_n 0, 0, 0, 0), some (.getfield 28, 7, 0, 0), none, none, some (.ifCond .ne 64, 115, 0, 0), none, none, some (.iload_n 1, 0, 0, 0), some (.aload_n 0, 0, 0, 0), some (.getfield 32, 7, 4, 0), none, none, some (.aload_n 0, 0, 0, 0), some (.getfield 51, 7, 8, 0), none, none, some (.isub, 0, 0, 0), some (.idiv, 0, 0, 0), some (.istore_n 3, 0, 0, 0), some (.iconst 1, 0, 0, 0), some (.iload_n 1, 0, 0, 0), some (.aload_n 0, 0, 0, 0), some (.getfield 32, 7, 4, 0), none, none, some (.aload_n 0, 0, 0, 0), some (.getfield 51, 7, 8, 0), none, none, some (.isub, 0, 0, 0), some (.irem, 0, 0, 0), some (.ishl, 0, 0, 0), some (.istore 4, 0, 0, 0), none, some (.aload_n 0, 0, 0, 0), some (.getfield 7, 7, 9, 0), none, none, some (.iload_n 3, 0, 0, 0), some (.iload_n 2, 0, 0, 0), some (.iconst 1, 0, 0, 0), some (.if_icmp .ne 15, 103, 0, 0), none, none, some (.aload_n 0, 0, 0, 0), some (.getfield 7, 7, 9, 0), none, none, some (.iload_n 3, 0, 0, 0), some (.iaload, 0, 0, 0), some (.iload 4, 0, 0, 0), none, some (.ior, 0, 0, 0), some (.goto 14, 114, 0, 0), none, none, some (.aload_n 0, 0, 0, 0), some (.getfield 7, 7, 9, 0), none, none, some (.iload_n 3, 0, 0, 0), some (.iaload, 0, 0, 0), some (.iload 4, 0, 0, 0), none, some (.iconst (-1), 0, 0, 0), some (.ixor, 0, 0, 0), some (.iand, 0, 0, 0), some (.iastore, 0, 0, 0), some (.return_, 0, 0, 0)]
-- 77: NoisyCodesModel.messageBits()I
def xr_77 : List (Option xi_R) := [some (.aload_n 0, 0, 0, 0), some (.getfield 69, 7, 1, 0), none, none, some (.ifCond .eq 20, 24, 0, 0), none, none, some (.aload_n 0, 0, 0, 0), some (.getfield 73, 7, 6, 0), none, none, some (.aload_n 0, 0, 0, 0), some (.getfield 32, 7, 4, 0), none, none, some (.aload_n 0, 0, 0, 0), some (.getfield 51, 7, 8, 0), none, none, some (.isub, 0, 0, 0), some (.imul, 0, 0, 0), some (.goto 4, 25, 0, 0), none, none, some (.iconst 0, 0, 0, 0), some (.ireturn, 0, 0, 0)]
-- 78: NoisyCodesModel.get(I)I
def xr_78 : List (Option xi_R) := [some (.aload_n 0, 0, 0, 0), some (.aload_n 0, 0, 0, 0), some (.getfield 69, 7, 1, 0), none, none, some (.ifCond .ne 7, 12, 0, 0), none, none, some (.iconst 1, 0, 0, 0), some (.goto 22, 31, 0, 0), none, none, some (.iload_n 1, 0, 0, 0), some (.iconst 0, 0, 0, 0), some (.aload_n 0, 0, 0, 0), some (.invokevirtual 79, 77, 1, 0), none, none, some (.iconst 1, 0, 0, 0), some (.isub, 0, 0, 0), some (.invokestatic 47, 65, 3, 0), none, none, some (.ifCond .eq 7, 30, 0, 0), none, none, some (.iconst 0, 0, 0, 0), some (.goto 4, 31, 0, 0), none, none, some (.iconst 2, 0, 0, 0), some (.putfield 28, 7, 0, 0), none, none, some (.aload_n 0, 0, 0, 0), some (.getfield 28, 7, 0, 0), none, none, some (.ifCond .le 7, 45, 0, 0), none, none, some (.iconst 0, 0, 0, 0), some (.goto 33, 75, 0, 0), none, none, some (.aload_n 0, 0, 0, 0), some (.getfield 7, 7, 9, 0), none, none, some (.iload_n 1, 0, 0, 0), some (.aload_n 0, 0, 0, 0), some (.getfield 32, 7, 4, 0), none, none, some (.aload_n 0, 0, 0, 0), some (.getfield 51, 7, 8, 0), none, none, some (.isub, 0, 0, 0), some (.idiv, 0, 0, 0), some (.iaload, 0, 0, 0), some (.iload_n 1, 0, 0, 0), some (.aload_n 0, 0, 0, 0), some (.getfield 32, 7, 4, 0), none, none, some (.aload_n 0, 0, 0, 0), some (.getfield 51, 7, 8, 0), none, none, some (.isub, 0, 0, 0), some (.irem, 0, 0, 0), some (.ishr, 0, 0, 0), some (.iconst 1, 0, 0, 0), some (.iand, 0, 0, 0), some (.ireturn, 0, 0, 0)]
-- 79: NoisyCodesModel.encode()I
def xr_79 : List (Option xi_R) := [some (.aload_n 0, 0, 0, 0), some (.aload_n 0, 0, 0, 0), some (.getfield 69, 7, 1, 0), none, none, some (.ifCond .eq 7, 12, 0, 0), none, none, some (.iconst 0, 0, 0, 0), some (.goto 4, 13, 0, 0), none, none, some (.iconst 1, 0, 0, 0), some (.putfield 28, 7, 0, 0), none, none, some (.iconst 0, 0, 0, 0), some (.istore_n 1, 0, 0, 0), some (.iconst 0, 0, 0, 0), some (.istore_n 2, 0, 0, 0), some (.iload_n 2, 0, 0, 0), some (.aload_n 0, 0, 0, 0), some (.getfield 73, 7, 6, 0), none, none, some (.if_icmp .ge 53, 78, 0, 0), none, none, some (.aload_n 0, 0, 0, 0), some (.getfield 69, 7, 1, 0), none, none, some (.ifCond .eq 46, 78, 0, 0), none, none, some (.aload_n 0, 0, 0, 0), some (.getfield 7, 7, 9, 0), none, none, some (.iload_n 2, 0, 0, 0), some (.iaload, 0, 0, 0), some (.aload_n 0, 0, 0, 0), some (.getfield 51, 7, 8, 0), none, none, some (.ishl, 0, 0, 0), some (.istore_n 3, 0, 0, 0), some (.aload_n 0, 0, 0, 0), some (.getfield 13, 7, 10, 0), none, none, some (.iload_n 2, 0, 0, 0), some (.iload_n 3, 0, 0, 0), some (.aload_n 0, 0, 0, 0), some (.iload_n 3, 0, 0, 0), some (.invokevirtual 83, 80, 2, 0), none, none, some (.ior, 0, 0, 0), some (.iastore, 0, 0, 0), some (.iload_n 1, 0, 0, 0), some (.aload_n 0, 0, 0, 0), some (.getfield 13, 7, 10, 0), none, none, some (.iload_n 2, 0, 0, 0), some (.iaload, 0, 0, 0), some (.invokestatic 86, 81, 1, 0), none, none, some (.iadd, 0, 0, 0), some (.istore_n 1, 0, 0, 0), some (.iinc 2 1, 0, 0, 0), none, none, some (.goto (-55), 20, 0, 0), none, none, some (.iload_n 1, 0, 0, 0), some (.ireturn, 0, 0, 0)]
-- 80: NoisyCodesModel.remainder(I)I
def xr_80 : List (Option xi_R) := [some (.iconst 0, 0, 0, 0), some (.istore_n 2, 0, 0, 0), some (.iconst 0, 0, 0, 0), some (.istore_n 3, 0, 0, 0), some (.iload_n 3, 0, 0, 0), some (.aload_n 0, 0, 0, 0), some (.getfield 32, 7, 4, 0), none, none, some (.if_icmp .ge 31, 40, 0, 0), none, none, some (.iload_n 1, 0, 0, 0), some (.iload_n 3, 0, 0, 0), some (.ishr, 0, 0, 0), some (.iconst 1, 0, 0, 0), some (.iand, 0, 0, 0), some (.iconst 1, 0, 0, 0), some (.if_icmp .ne 14, 32, 0, 0), none, none, some (.iload_n 2, 0, 0, 0), some (.aload_n 0, 0, 0, 0), some (.getfield 22, 7, 13, 0), none, none, some (.iload_n 3, 0, 0, 0), some (.iaload, 0, 0, 0), some (.ixor, 0, 0, 0), some (.goto 4, 33, 0, 0), none, none, some (.iload_n 2, 0, 0, 0), some (.istore_n 2, 0, 0, 0), some (.iinc 3 1, 0, 0, 0), none, none, some (.goto (-33), 4, 0, 0), none, none, some (.iload_n 2, 0, 0, 0), some (.ireturn, 0, 0, 0)]
-- 81: NoisyCodesModel.ones(I)I
def xr_81 : List (Option xi_R) := [some (.iconst 0, 0, 0, 0), some (.istore_n 1, 0, 0, 0), some (.iconst 0, 0, 0, 0), some (.istore_n 2, 0, 0, 0), some (.iload_n 2, 0, 0, 0), some (.bipush 31, 0, 0, 0), none, some (.if_icmp .ge 17, 24, 0, 0), none, none, some (.iload_n 1, 0, 0, 0), some (.iload_n 0, 0, 0, 0), some (.iload_n 2, 0, 0, 0), some (.ishr, 0, 0, 0), some (.iconst 1, 0, 0, 0), some (.iand, 0, 0, 0), some (.iadd, 0, 0, 0), some (.istore_n 1, 0, 0, 0), some (.iinc 2 1, 0, 0, 0), none, none, some (.goto (-17), 4, 0, 0), none, none, some (.iload_n 1, 0, 0, 0), some (.ireturn, 0, 0, 0)]
-- 82: NoisyCodesModel.bit(I)I
def xr_82 : List (Option xi_R) := [some (.aload_n 0, 0, 0, 0), some (.aload_n 0, 0, 0, 0), some (.getfield 69, 7, 1, 0), none, none, some (.ifCond .ne 7, 12, 0, 0), none, none, some (.iconst 1, 0, 0, 0), some (.goto 22, 31, 0, 0), none, none, some (.iload_n 1, 0, 0, 0), some (.iconst 0, 0, 0, 0), some (.aload_n 0, 0, 0, 0), some (.invokevirtual 89, 83, 1, 0), none, none, some (.iconst 1, 0, 0, 0), some (.isub, 0, 0, 0), some (.invokestatic 47, 65, 3, 0), none, none, some (.ifCond .eq 7, 30, 0, 0), none, none, some (.iconst 0, 0, 0, 0), some (.goto 4, 31, 0, 0), none, none, some (.iconst 2, 0, 0, 0), some (.putfield 28, 7, 0, 0), none, none, some (.aload_n 0, 0, 0, 0), some (.getfield 28, 7, 0, 0), none, none, some (.ifCond .le 7, 45, 0, 0), none, none, some (.iconst 0, 0, 0, 0), some (.goto 23, 65, 0, 0), none, none, some (.aload_n 0, 0, 0, 0), some (.getfield 13, 7, 10, 0), none, none, some (.iload_n 1, 0, 0, 0), some (.aload_n 0, 0, 0, 0), some (.getfield 73, 7, 6, 0), none, none, some (.irem, 0, 0, 0), some (.iaload, 0, 0, 0), some (.iload_n 1, 0, 0, 0), some (.aload_n 0, 0, 0, 0), some (.getfield 73, 7, 6, 0), none, none, some (.idiv, 0, 0, 0), some (.ishr, 0, 0, 0), some (.iconst 1, 0, 0, 0), some (.iand, 0, 0, 0), some (.ireturn, 0, 0, 0)]
-- 83: NoisyCodesModel.channelBits()I
def xr_83 : List (Option xi_R) := [some (.aload_n 0, 0, 0, 0), some (.getfield 69, 7, 1, 0), none, none, some (.ifCond .eq 15, 19, 0, 0), none, none, some (.aload_n 0, 0, 0, 0), some (.getfield 73, 7, 6, 0), none, none, some (.aload_n 0, 0, 0, 0), some (.getfield 32, 7, 4, 0), none, none, some (.imul, 0, 0, 0), some (.goto 4, 20, 0, 0), none, none, some (.iconst 0, 0, 0, 0), some (.ireturn, 0, 0, 0)]
-- 84: NoisyCodesModel.burst(II)V
def xr_84 : List (Option xi_R) := [some (.iload_n 1, 0, 0, 0), some (.iconst 0, 0, 0, 0), some (.aload_n 0, 0, 0, 0), some (.invokevirtual 89, 83, 1, 0), none, none, some (.iconst 1, 0, 0, 0), some (.isub, 0, 0, 0), some (.invokestatic 47, 65, 3, 0), none, none, some (.ifCond .eq 13, 24, 0, 0), none, none, some (.iload_n 2, 0, 0, 0), some (.aload_n 0, 0, 0, 0), some (.invokevirtual 89, 83, 1, 0), none, none, some (.iload_n 1, 0, 0, 0), some (.isub, 0, 0, 0), some (.if_icmp .le 7, 28, 0, 0), none, none, some (.iconst 1, 0, 0, 0), some (.goto 4, 29, 0, 0), none, none, some (.iconst 0, 0, 0, 0), some (.istore_n 3, 0, 0, 0), some (.aload_n 0, 0, 0, 0), some (.aload_n 0, 0, 0, 0), some (.getfield 69, 7, 1, 0), none, none, some (.ifCond .ne 7, 42, 0, 0), none, none, some (.iconst 1, 0, 0, 0), some (.goto 26, 65, 0, 0), none, none, some (.iload_n 3, 0, 0, 0), some (.ifCond .eq 7, 50, 0, 0), none, none, some (.iconst 2, 0, 0, 0), some (.goto 18, 65, 0, 0), none, none, some (.iload_n 2, 0, 0, 0), some (.iconst 1, 0, 0, 0), some (.bipush 124, 0, 0, 0), none, some (.invokestatic 47, 65, 3, 0), none, none, some (.ifCond .eq 7, 64, 0, 0), none, none, some (.iconst 0, 0, 0, 0), some (.goto 4, 65, 0, 0), none, none, some (.iconst 3, 0, 0, 0), some (.putfield 28, 7, 0, 0), none, none, some (.iconst 0, 0, 0, 0), some (.istore 4, 0, 0, 0), none, some (.iload 4, 0, 0, 0), none, some (.iload_n 2, 0, 0, 0), some (.if_icmp .ge 24, 98, 0, 0), none, none, some (.aload_n 0, 0, 0, 0), some (.getfield 28, 7, 0, 0), none, none, some (.ifCond .ne 17, 98, 0, 0), none, none, some (.aload_n 0, 0, 0, 0), some (.iload_n 1, 0, 0, 0), some (.iload 4, 0, 0, 0), none, some (.iadd, 0, 0, 0), some (.invokevirtual 92, 85, 2, 0), none, none, some (.iinc 4 1, 0, 0, 0), none, none, some (.goto (-24), 71, 0, 0), none, none, some (.return_, 0, 0, 0)]
-- 85: NoisyCodesModel.flip(I)V
def xr_85 : List (Option xi_R) := [some (.aload_n 0, 0, 0, 0), some (.getfield 13, 7, 10, 0), none, none, some (.iload_n 1, 0, 0, 0), some (.aload_n 0, 0, 0, 0), some (.getfield 73, 7, 6, 0), none, none, some (.irem, 0, 0, 0), some (.aload_n 0, 0, 0, 0), some (.getfield 13, 7, 10, 0), none, none, some (.iload_n 1, 0, 0, 0), some (.aload_n 0, 0, 0, 0), some (.getfield 73, 7, 6, 0), none, none, some (.irem, 0, 0, 0), some (.iaload, 0, 0, 0), some (.iconst 1, 0, 0, 0), some (.iload_n 1, 0, 0, 0), some (.aload_n 0, 0, 0, 0), some (.getfield 73, 7, 6, 0), none, none, some (.idiv, 0, 0, 0), some (.ishl, 0, 0, 0), some (.ixor, 0, 0, 0), some (.iastore, 0, 0, 0), some (.return_, 0, 0, 0)]
-- 86: NoisyCodesModel.noise(II)I
def xr_86 : List (Option xi_R) := [some (.aload_n 0, 0, 0, 0), some (.aload_n 0, 0, 0, 0), some (.getfield 69, 7, 1, 0), none, none, some (.ifCond .ne 7, 12, 0, 0), none, none, some (.iconst 1, 0, 0, 0), some (.goto 19, 28, 0, 0), none, none, some (.iload_n 2, 0, 0, 0), some (.iconst 0, 0, 0, 0), some (.sipush 1000, 0, 0, 0), none, none, some (.invokestatic 47, 65, 3, 0), none, none, some (.ifCond .eq 7, 27, 0, 0), none, none, some (.iconst 0, 0, 0, 0), some (.goto 4, 28, 0, 0), none, none, some (.iconst 2, 0, 0, 0), some (.putfield 28, 7, 0, 0), none, none, some (.iload_n 1, 0, 0, 0), some (.istore_n 3, 0, 0, 0), some (.iconst 0, 0, 0, 0), some (.istore 4, 0, 0, 0), none, some (.iconst 0, 0, 0, 0), some (.istore 5, 0, 0, 0), none, some (.iload 5, 0, 0, 0), none, some (.aload_n 0, 0, 0, 0), some (.invokevirtual 89, 83, 1, 0), none, none, some (.if_icmp .ge 46, 91, 0, 0), none, none, some (.aload_n 0, 0, 0, 0), some (.getfield 28, 7, 0, 0), none, none, some (.ifCond .ne 39, 91, 0, 0), none, none, some (.iload_n 3, 0, 0, 0), some (.ldc 96, 0, 0, 1103515245), none, some (.imul, 0, 0, 0), some (.sipush 12345, 0, 0, 0), none, none, some (.iadd, 0, 0, 0), some (.istore_n 3, 0, 0, 0), some (.iload_n 3, 0, 0, 0), some (.bipush 16, 0, 0, 0), none, some (.iushr, 0, 0, 0), some (.sipush 1000, 0, 0, 0), none, none, some (.irem, 0, 0, 0), some (.iload_n 2, 0, 0, 0), some (.if_icmp .ge 12, 85, 0, 0), none, none, some (.aload_n 0, 0, 0, 0), some (.iload 5, 0, 0, 0), none, some (.invokevirtual 92, 85, 2, 0), none, none, some (.iinc 4 1, 0, 0, 0), none, none, some (.iinc 5 1, 0, 0, 0), none, none, some (.goto (-49), 39, 0, 0), none, none, some (.iload 4, 0, 0, 0), none, some (.ireturn, 0, 0, 0)]
-- 87: NoisyCodesModel.syndrome(II)I
def xr_87 : List (Option xi_R) := [some (.aload_n 0, 0, 0, 0), some (.aload_n 0, 0, 0, 0), some (.getfield 69, 7, 1, 0), none, none, some (.ifCond .ne 7, 12, 0, 0), none, none, some (.iconst 1, 0, 0, 0), some (.goto 36, 45, 0, 0), none, none, some (.iload_n 1, 0, 0, 0), some (.iconst 0, 0, 0, 0), some (.aload_n 0, 0, 0, 0), some (.getfield 73, 7, 6, 0), none, none, some (.iconst 1, 0, 0, 0), some (.isub, 0, 0, 0), some (.invokestatic 47, 65, 3, 0), none, none, some (.ifCond .eq 21, 44, 0, 0), none, none, some (.iload_n 2, 0, 0, 0), some (.iconst 1, 0, 0, 0), some (.iconst 2, 0, 0, 0), some (.aload_n 0, 0, 0, 0), some (.getfield 44, 7, 5, 0), none, none, some (.imul, 0, 0, 0), some (.invokestatic 47, 65, 3, 0), none, none, some (.ifCond .eq 7, 44, 0, 0), none, none, some (.iconst 0, 0, 0, 0), some (.goto 4, 45, 0, 0), none, none, some (.iconst 2, 0, 0, 0), some (.putfield 28, 7, 0, 0), none, none, some (.iconst 0, 0, 0, 0), some (.istore_n 3, 0, 0, 0), some (.iconst 0, 0, 0, 0), some (.istore 4, 0, 0, 0), none, some (.iload 4, 0, 0, 0), none, some (.aload_n 0, 0, 0, 0), some (.getfield 32, 7, 4, 0), none, none, some (.if_icmp .ge 46, 105, 0, 0), none, none, some (.aload_n 0, 0, 0, 0), some (.getfield 28, 7, 0, 0), none, none, some (.ifCond .ne 39, 105, 0, 0), none, none, some (.aload_n 0, 0, 0, 0), some (.getfield 13, 7, 10, 0), none, none, some (.iload_n 1, 0, 0, 0), some (.iaload, 0, 0, 0), some (.iload 4, 0, 0, 0), none, some (.ishr, 0, 0, 0), some (.iconst 1, 0, 0, 0), some (.iand, 0, 0, 0), some (.iconst 1, 0, 0, 0), some (.if_icmp .ne 16, 97, 0, 0), none, none, some (.iload_n 3, 0, 0, 0), some (.aload_n 0, 0, 0, 0), some (.iload 4, 0, 0, 0), none, some (.iload_n 2, 0, 0, 0), some (.imul, 0, 0, 0), some (.invokevirtual 58, 70, 2, 0), none, none, some (.ixor, 0, 0, 0), some (.goto 4, 98, 0, 0), none, none, some (.iload_n 3, 0, 0, 0), some (.istore_n 3, 0, 0, 0), some (.iinc 4 1, 0, 0, 0), none, none, some (.goto (-49), 53, 0, 0), none, none, some (.iload_n 3, 0, 0, 0), some (.ireturn, 0, 0, 0)]
-- 88: NoisyCodesModel.decode(I)I
def xr_88 : List (Option xi_R) := [some (.aload_n 0, 0, 0, 0), some (.aload_n 0, 0, 0, 0), some (.getfield 69, 7, 1, 0), none, none, some (.ifCond .ne 7, 12, 0, 0), none, none, some (.iconst 1, 0, 0, 0), some (.goto 17, 26, 0, 0), none, none, some (.iload_n 1, 0, 0, 0), some (.iconst 0, 0, 0, 0), some (.iconst 2, 0, 0, 0), some (.invokestatic 47, 65, 3, 0), none, none, some (.ifCond .eq 7, 25, 0, 0), none, none, some (.iconst 0, 0, 0, 0), some (.goto 4, 26, 0, 0), none, none, some (.iconst 2, 0, 0, 0), some (.putfield 28, 7, 0, 0), none, none, some (.aload_n 0, 0, 0, 0), some (.getfield 28, 7, 0, 0), none, none, some (.ifCond .le 7, 40, 0, 0), none, none, some (.iconst 0, 0, 0, 0), some (.goto 8, 45, 0, 0), none, none, some (.aload_n 0, 0, 0, 0), some (.iconst (-1), 0, 0, 0), some (.invokevirtual 100, 89, 2, 0), none, none, some (.istore_n 2, 0, 0, 0), some (.aload_n 0, 0, 0, 0), some (.iload_n 2, 0, 0, 0), some (.ifCond .ge 7, 55, 0, 0), none, none, some (.iconst 3, 0, 0, 0), some (.goto 7, 59, 0, 0), none, none, some (.aload_n 0, 0, 0, 0), some (.getfield 28, 7, 0, 0), none, none, some (.putfield 28, 7, 0, 0), none, none, some (.aload_n 0, 0, 0, 0), some (.getfield 28, 7, 0, 0), none, none, some (.ifCond .le 5, 71, 0, 0), none, none, some (.iconst 0, 0, 0, 0), some (.ireturn, 0, 0, 0), some (.aload_n 0, 0, 0, 0), some (.invokevirtual 103, 91, 1, 0), none, none, some (.iload_n 2, 0, 0, 0), some (.ireturn, 0, 0, 0)]
-- 89: NoisyCodesModel.mend(I)I
def xr_89 : List (Option xi_R) := [some (.iconst 0, 0, 0, 0), some (.istore_n 2, 0, 0, 0), some (.iconst 0, 0, 0, 0), some (.istore_n 3, 0, 0, 0), some (.iload_n 3, 0, 0, 0), some (.aload_n 0, 0, 0, 0), some (.getfield 73, 7, 6, 0), none, none, some (.if_icmp .ge 68, 77, 0, 0), none, none, some (.iload_n 1, 0, 0, 0), some (.ifCond .ge 12, 25, 0, 0), none, none, some (.aload_n 0, 0, 0, 0), some (.getfield 13, 7, 10, 0), none, none, some (.iload_n 3, 0, 0, 0), some (.iaload, 0, 0, 0), some (.goto 13, 35, 0, 0), none, none, some (.aload_n 0, 0, 0, 0), some (.getfield 16, 7, 11, 0), none, none, some (.iconst 4, 0, 0, 0), some (.iload_n 1, 0, 0, 0), some (.imul, 0, 0, 0), some (.iload_n 3, 0, 0, 0), some (.iadd, 0, 0, 0), some (.iaload, 0, 0, 0), some (.istore 4, 0, 0, 0), none, some (.aload_n 0, 0, 0, 0), some (.iload 4, 0, 0, 0), none, some (.invokevirtual 97, 90, 2, 0), none, none, some (.istore 5, 0, 0, 0), none, some (.iload 5, 0, 0, 0), none, some (.ifCond .ge 5, 52, 0, 0), none, none, some (.iconst (-1), 0, 0, 0), some (.ireturn, 0, 0, 0), some (.aload_n 0, 0, 0, 0), some (.getfield 19, 7, 12, 0), none, none, some (.iload_n 3, 0, 0, 0), some (.iload 4, 0, 0, 0), none, some (.iload 5, 0, 0, 0), none, some (.ixor, 0, 0, 0), some (.iastore, 0, 0, 0), some (.iload_n 2, 0, 0, 0), some (.iload 5, 0, 0, 0), none, some (.invokestatic 86, 81, 1, 0), none, none, some (.iadd, 0, 0, 0), some (.istore_n 2, 0, 0, 0), some (.iinc 3 1, 0, 0, 0), none, none, some (.goto (-70), 4, 0, 0), none, none, some (.iload_n 2, 0, 0, 0), some (.ireturn, 0, 0, 0)]
-- 90: NoisyCodesModel.errorsOf(I)I
def xr_90 : List (Option xi_R) := [some (.aload_n 0, 0, 0, 0), some (.iload_n 1, 0, 0, 0), some (.invokevirtual 83, 80, 2, 0), none, none, some (.istore_n 2, 0, 0, 0), some (.iload_n 2, 0, 0, 0), some (.ifCond .ne 5, 12, 0, 0), none, none, some (.iconst 0, 0, 0, 0), some (.ireturn, 0, 0, 0), some (.iconst 0, 0, 0, 0), some (.istore_n 3, 0, 0, 0), some (.iload_n 3, 0, 0, 0), some (.aload_n 0, 0, 0, 0), some (.getfield 32, 7, 4, 0), none, none, some (.if_icmp .ge 147, 166, 0, 0), none, none, some (.aload_n 0, 0, 0, 0), some (.getfield 22, 7, 13, 0), none, none, some (.iload_n 3, 0, 0, 0), some (.iaload, 0, 0, 0), some (.iload_n 2, 0, 0, 0), some (.if_icmp .ne 7, 36, 0, 0), none, none, some (.iconst 1, 0, 0, 0), some (.iload_n 3, 0, 0, 0), some (.ishl, 0, 0, 0), some (.ireturn, 0, 0, 0), some (.iload_n 3, 0, 0, 0), some (.iconst 1, 0, 0, 0), some (.iadd, 0, 0, 0), some (.istore 4, 0, 0, 0), none, some (.iload 4, 0, 0, 0), none, some (.aload_n 0, 0, 0, 0), some (.getfield 32, 7, 4, 0), none, none, some (.if_icmp .ge 113, 160, 0, 0), none, none, some (.aload_n 0, 0, 0, 0), some (.getfield 44, 7, 5, 0), none, none, some (.iconst 1, 0, 0, 0), some (.if_icmp .le 105, 160, 0, 0), none, none, some (.aload_n 0, 0, 0, 0), some (.getfield 22, 7, 13, 0), none, none, some (.iload_n 3, 0, 0, 0), some (.iaload, 0, 0, 0), some (.aload_n 0, 0, 0, 0), some (.getfield 22, 7, 13, 0), none, none, some (.iload 4, 0, 0, 0), none, some (.iaload, 0, 0, 0), some (.ixor, 0, 0, 0), some (.iload_n 2, 0, 0, 0), some (.if_icmp .ne 12, 85, 0, 0), none, none, some (.iconst 1, 0, 0, 0), some (.iload_n 3, 0, 0, 0), some (.ishl, 0, 0, 0), some (.iconst 1, 0, 0, 0), some (.iload 4, 0, 0, 0), none, some (.ishl, 0, 0, 0), some (.ior, 0, 0, 0), some (.ireturn, 0, 0, 0), some (.iload 4, 0, 0, 0), none, some (.iconst 1, 0, 0, 0), some (.iadd, 0, 0, 0), some (.istore 5, 0, 0, 0), none, some (.iload 5, 0, 0, 0), none, some (.aload_n 0, 0, 0, 0), some (.getfield 32, 7, 4, 0), none, none, some (.if_icmp .ge 57, 154, 0, 0), none, none, some (.aload_n 0, 0, 0, 0), some (.getfield 44, 7, 5, 0), none, none, some (.iconst 2, 0, 0, 0), some (.if_icmp .le 49, 154, 0, 0), none, none, some (.aload_n 0, 0, 0, 0), some (.getfield 22, 7, 13, 0), none, none, some (.iload_n 3, 0, 0, 0), some (.iaload, 0, 0, 0), some (.aload_n 0, 0, 0, 0), some (.getfield 22, 7, 13, 0), none, none, some (.iload 4, 0, 0, 0), none, some (.iaload, 0, 0, 0), some (.ixor, 0, 0, 0), some (.aload_n 0, 0, 0, 0), some (.getfield 22, 7, 13, 0), none, none, some (.iload 5, 0, 0, 0), none, some (.iaload, 0, 0, 0), some (.ixor, 0, 0, 0), some (.iload_n 2, 0, 0, 0), some (.if_icmp .ne 17, 148, 0, 0), none, none, some (.iconst 1, 0, 0, 0), some (.iload_n 3, 0, 0, 0), some (.ishl, 0, 0, 0), some (.iconst 1, 0, 0, 0), some (.iload 4, 0, 0, 0), none, some (.ishl, 0, 0, 0), some (.ior, 0, 0, 0), some (.iconst 1, 0, 0, 0), some (.iload 5, 0, 0, 0), none, some (.ishl, 0, 0, 0), some (.ior, 0, 0, 0), some (.ireturn, 0, 0, 0), some (.iinc 5 1, 0, 0, 0), none, none, some (.goto (-60), 91, 0, 0), none, none, some (.iinc 4 1, 0, 0, 0), none, none, some (.goto (-116), 41, 0, 0), none, none, some (.iinc 3 1, 0, 0, 0), none, none, some (.goto (-149), 14, 0, 0), none, none, some (.iconst (-1), 0, 0, 0), some (.ireturn, 0, 0, 0)]
-- 91: NoisyCodesModel.take()V
def xr_91 : List (Option xi_R) := [some (.iconst 0, 0, 0, 0), some (.istore_n 1, 0, 0, 0), some (.iload_n 1, 0, 0, 0), some (.aload_n 0, 0, 0, 0), some (.getfield 73, 7, 6, 0), none, none, some (.if_icmp .ge 38, 45, 0, 0), none, none, some (.aload_n 0, 0, 0, 0), some (.getfield 13, 7, 10, 0), none, none, some (.iload_n 1, 0, 0, 0), some (.aload_n 0, 0, 0, 0), some (.getfield 19, 7, 12, 0), none, none, some (.iload_n 1, 0, 0, 0), some (.iaload, 0, 0, 0), some (.iastore, 0, 0, 0), some (.aload_n 0, 0, 0, 0), some (.getfield 7, 7, 9, 0), none, none, some (.iload_n 1, 0, 0, 0), some (.aload_n 0, 0, 0, 0), some (.getfield 19, 7, 12, 0), none, none, some (.iload_n 1, 0, 0, 0), some (.iaload, 0, 0, 0), some (.aload_n 0, 0, 0, 0), some (.getfield 51, 7, 8, 0), none, none, some (.ishr, 0, 0, 0), some (.iastore, 0, 0, 0), some (.iinc 1 1, 0, 0, 0), none, none, some (.goto (-40), 2, 0, 0), none, none, some (.return_, 0, 0, 0)]
-- 92: NoisyCodesModel.save(I)V
def xr_92 : List (Option xi_R) := [some (.aload_n 0, 0, 0, 0), some (.aload_n 0, 0, 0, 0), some (.getfield 69, 7, 1, 0), none, none, some (.ifCond .ne 7, 12, 0, 0), none, none, some (.iconst 1, 0, 0, 0), some (.goto 17, 26, 0, 0), none, none, some (.iload_n 1, 0, 0, 0), some (.iconst 0, 0, 0, 0), some (.iconst 3, 0, 0, 0), some (.invokestatic 47, 65, 3, 0), none, none, some (.ifCond .eq 7, 25, 0, 0), none, none, some (.iconst 0, 0, 0, 0), some (.goto 4, 26, 0, 0), none, none, some (.iconst 2, 0, 0, 0), some (.putfield 28, 7, 0, 0), none, none, some (.iconst 0, 0, 0, 0), some (.istore_n 2, 0, 0, 0), some (.iload_n 2, 0, 0, 0), some (.aload_n 0, 0, 0, 0), some (.getfield 73, 7, 6, 0), none, none, some (.if_icmp .ge 32, 68, 0, 0), none, none, some (.aload_n 0, 0, 0, 0), some (.getfield 28, 7, 0, 0), none, none, some (.ifCond .ne 25, 68, 0, 0), none, none, some (.aload_n 0, 0, 0, 0), some (.getfield 16, 7, 11, 0), none, none, some (.iconst 4, 0, 0, 0), some (.iload_n 1, 0, 0, 0), some (.imul, 0, 0, 0), some (.iload_n 2, 0, 0, 0), some (.iadd, 0, 0, 0), some (.aload_n 0, 0, 0, 0), some (.getfield 13, 7, 10, 0), none, none, some (.iload_n 2, 0, 0, 0), some (.iaload, 0, 0, 0), some (.iastore, 0, 0, 0), some (.iinc 2 1, 0, 0, 0), none, none, some (.goto (-34), 31, 0, 0), none, none, some (.return_, 0, 0, 0)]
-- 93: NoisyCodesModel.load(I)I
def xr_93 : List (Option xi_R) := [some (.aload_n 0, 0, 0, 0), some (.aload_n 0, 0, 0, 0), some (.getfield 69, 7, 1, 0), none, none, some (.ifCond .ne 7, 12, 0, 0), none, none, some (.iconst 1, 0, 0, 0), some (.goto 17, 26, 0, 0), none, none, some (.iload_n 1, 0, 0, 0), some (.iconst 0, 0, 0, 0), some (.iconst 3, 0, 0, 0), some (.invokestatic 47, 65, 3, 0), none, none, some (.ifCond .eq 7, 25, 0, 0), none, none, some (.iconst 0, 0, 0, 0), some (.goto 4, 26, 0, 0), none, none, some (.iconst 2, 0, 0, 0), some (.putfield 28, 7, 0, 0), none, none, some (.aload_n 0, 0, 0, 0), some (.getfield 28, 7, 0, 0), none, none, some (.ifCond .le 7, 40, 0, 0), none, none, some (.iconst 0, 0, 0, 0), some (.goto 8, 45, 0, 0), none, none, some (.aload_n 0, 0, 0, 0), some (.iload_n 1, 0, 0, 0), some (.invokevirtual 100, 89, 2, 0), none, none, some (.istore_n 2, 0, 0, 0), some (.aload_n 0, 0, 0, 0), some (.iload_n 2, 0, 0, 0), some (.ifCond .ge 7, 55, 0, 0), none, none, some (.iconst 3, 0, 0, 0), some (.goto 7, 59, 0, 0), none, none, some (.aload_n 0, 0, 0, 0), some (.getfield 28, 7, 0, 0), none, none, some (.putfield 28, 7, 0, 0), none, none, some (.aload_n 0, 0, 0, 0), some (.getfield 28, 7, 0, 0), none, none, some (.ifCond .le 5, 71, 0, 0), none, none, some (.iconst 0, 0, 0, 0), some (.ireturn, 0, 0, 0), some (.aload_n 0, 0, 0, 0), some (.invokevirtual 103, 91, 1, 0), none, none, some (.iconst 0, 0, 0, 0), some (.istore_n 3, 0, 0, 0), some (.iload_n 3, 0, 0, 0), some (.aload_n 0, 0, 0, 0), some (.getfield 73, 7, 6, 0), none, none, some (.if_icmp .ge 25, 107, 0, 0), none, none, some (.aload_n 0, 0, 0, 0), some (.getfield 16, 7, 11, 0), none, none, some (.iconst 4, 0, 0, 0), some (.iload_n 1, 0, 0, 0), some (.imul, 0, 0, 0), some (.iload_n 3, 0, 0, 0), some (.iadd, 0, 0, 0), some (.aload_n 0, 0, 0, 0), some (.getfield 13, 7, 10, 0), none, none, some (.iload_n 3, 0, 0, 0), some (.iaload, 0, 0, 0), some (.iastore, 0, 0, 0), some (.iinc 3 1, 0, 0, 0), none, none, some (.goto (-27), 77, 0, 0), none, none, some (.iload_n 2, 0, 0, 0), some (.ireturn, 0, 0, 0)]
-- 94: NoisyCodesLaw.begin(LNoisyCodes;III[J)I
def xr_94 : List (Option xi_R) := [some (.aload 4, 0, 0, 0), none, some (.iconst 0, 0, 0, 0), some (.aload_n 0, 0, 0, 0), some (.iload_n 1, 0, 0, 0), some (.iload_n 2, 0, 0, 0), some (.iload_n 3, 0, 0, 0), some (.invokevirtual 7, 8, 4, 0), none, none, some (.i2l, 0, 0, 0), some (.lastore, 0, 0, 0), some (.goto 11, 23, 0, 0), none, none, some (.astore 5, 0, 0, 0), none, some (.iconst 1, 0, 0, 0), some (.ireturn, 0, 0, 0), some (.astore 5, 0, 0, 0), none, some (.iconst 2, 0, 0, 0), some (.ireturn, 0, 0, 0), some (.iconst 0, 0, 0, 0), some (.ireturn, 0, 0, 0)]
-- 95: NoisyCodesLaw.length(LNoisyCodes;[J)I
def xr_95 : List (Option xi_R) := [some (.aload_n 1, 0, 0, 0), some (.iconst 0, 0, 0, 0), some (.aload_n 0, 0, 0, 0), some (.invokevirtual 17, 23, 1, 0), none, none, some (.i2l, 0, 0, 0), some (.lastore, 0, 0, 0), some (.goto 6, 14, 0, 0), none, none, some (.astore_n 2, 0, 0, 0), some (.iconst 1, 0, 0, 0), some (.ireturn, 0, 0, 0), some (.iconst 0, 0, 0, 0), some (.ireturn, 0, 0, 0)]
-- 96: NoisyCodesLaw.generator(LNoisyCodes;[J)I
def xr_96 : List (Option xi_R) := [some (.aload_n 1, 0, 0, 0), some (.iconst 0, 0, 0, 0), some (.aload_n 0, 0, 0, 0), some (.invokevirtual 23, 25, 1, 0), none, none, some (.i2l, 0, 0, 0), some (.lastore, 0, 0, 0), some (.goto 6, 14, 0, 0), none, none, some (.astore_n 2, 0, 0, 0), some (.iconst 1, 0, 0, 0), some (.ireturn, 0, 0, 0), some (.iconst 0, 0, 0, 0), some (.ireturn, 0, 0, 0)]
-- 97: NoisyCodesLaw.power(LNoisyCodes;I[J)I
def xr_97 : List (Option xi_R) := [some (.aload_n 2, 0, 0, 0), some (.iconst 0, 0, 0, 0), some (.aload_n 0, 0, 0, 0), some (.iload_n 1, 0, 0, 0), some (.invokevirtual 26, 26, 2, 0), none, none, some (.i2l, 0, 0, 0), some (.lastore, 0, 0, 0), some (.goto 9, 18, 0, 0), none, none, some (.astore_n 3, 0, 0, 0), some (.iconst 1, 0, 0, 0), some (.ireturn, 0, 0, 0), some (.astore_n 3, 0, 0, 0), some (.iconst 2, 0, 0, 0), some (.ireturn, 0, 0, 0), some (.iconst 0, 0, 0, 0), some (.ireturn, 0, 0, 0)]
-- 98: NoisyCodesLaw.log(LNoisyCodes;I[J)I
def xr_98 : List (Option xi_R) := [some (.aload_n 2, 0, 0, 0), some (.iconst 0, 0, 0, 0), some (.aload_n 0, 0, 0, 0), some (.iload_n 1, 0, 0, 0), some (.invokevirtual 30, 27, 2, 0), none, none, some (.i2l, 0, 0, 0), some (.lastore, 0, 0, 0), some (.goto 9, 18, 0, 0), none, none, some (.astore_n 3, 0, 0, 0), some (.iconst 1, 0, 0, 0), some (.ireturn, 0, 0, 0), some (.astore_n 3, 0, 0, 0), some (.iconst 2, 0, 0, 0), some (.ireturn, 0, 0, 0), some (.iconst 0, 0, 0, 0), some (.ireturn, 0, 0, 0)]
-- 99: NoisyCodesLaw.times(LNoisyCodes;II[J)I
def xr_99 : List (Option xi_R) := [some (.aload_n 3, 0, 0, 0), some (.iconst 0, 0, 0, 0), some (.aload_n 0, 0, 0, 0), some (.iload_n 1, 0, 0, 0), some (.iload_n 2, 0, 0, 0), some (.invokevirtual 33, 29, 3, 0), none, none, some (.i2l, 0, 0, 0), some (.lastore, 0, 0, 0), some (.goto 11, 21, 0, 0), none, none, some (.astore 4, 0, 0, 0), none, some (.iconst 1, 0, 0, 0), some (.ireturn, 0, 0, 0), some (.astore 4, 0, 0, 0), none, some (.iconst 2, 0, 0, 0), some (.ireturn, 0, 0, 0), some (.iconst 0, 0, 0, 0), some (.ireturn, 0, 0, 0)]
-- 100: NoisyCodesLaw.put(LNoisyCodes;II)I
def xr_100 : List (Option xi_R) := [some (.aload_n 0, 0, 0, 0), some (.iload_n 1, 0, 0, 0), some (.iload_n 2, 0, 0, 0), some (.invokevirtual 37, 30, 3, 0), none, none, some (.goto 12, 18, 0, 0), none, none, some (.astore_n 3, 0, 0, 0), some (.iconst 1, 0, 0, 0), some (.ireturn, 0, 0, 0), some (.astore_n 3, 0, 0, 0), some (.iconst 2, 0, 0, 0), some (.ireturn, 0, 0, 0), some (.astore_n 3, 0, 0, 0), some (.iconst 3, 0, 0, 0), some (.ireturn, 0, 0, 0), some (.iconst 0, 0, 0, 0), some (.ireturn, 0, 0, 0)]
-- 101: NoisyCodesLaw.get(LNoisyCodes;I[J)I
def xr_101 : List (Option xi_R) := [some (.aload_n 2, 0, 0, 0), some (.iconst 0, 0, 0, 0), some (.aload_n 0, 0, 0, 0), some (.iload_n 1, 0, 0, 0), some (.invokevirtual 43, 32, 2, 0), none, none, some (.i2l, 0, 0, 0), some (.lastore, 0, 0, 0), some (.goto 9, 18, 0, 0), none, none, some (.astore_n 3, 0, 0, 0), some (.iconst 1, 0, 0, 0), some (.ireturn, 0, 0, 0), some (.astore_n 3, 0, 0, 0), some (.iconst 2, 0, 0, 0), some (.ireturn, 0, 0, 0), some (.iconst 0, 0, 0, 0), some (.ireturn, 0, 0, 0)]
-- 102: NoisyCodesLaw.encode(LNoisyCodes;[J)I
def xr_102 : List (Option xi_R) := [some (.aload_n 1, 0, 0, 0), some (.iconst 0, 0, 0, 0), some (.aload_n 0, 0, 0, 0), some (.invokevirtual 46, 33, 1, 0), none, none, some (.i2l, 0, 0, 0), some (.lastore, 0, 0, 0), some (.goto 6, 14, 0, 0), none, none, some (.astore_n 2, 0, 0, 0), some (.iconst 1, 0, 0, 0), some (.ireturn, 0, 0, 0), some (.iconst 0, 0, 0, 0), some (.ireturn, 0, 0, 0)]
-- 103: NoisyCodesLaw.bit(LNoisyCodes;I[J)I
def xr_103 : List (Option xi_R) := [some (.aload_n 2, 0, 0, 0), some (.iconst 0, 0, 0, 0), some (.aload_n 0, 0, 0, 0), some (.iload_n 1, 0, 0, 0), some (.invokevirtual 49, 36, 2, 0), none, none, some (.i2l, 0, 0, 0), some (.lastore, 0, 0, 0), some (.goto 9, 18, 0, 0), none, none, some (.astore_n 3, 0, 0, 0), some (.iconst 1, 0, 0, 0), some (.ireturn, 0, 0, 0), some (.astore_n 3, 0, 0, 0), some (.iconst 2, 0, 0, 0), some (.ireturn, 0, 0, 0), some (.iconst 0, 0, 0, 0), some (.ireturn, 0, 0, 0)]
-- 104: NoisyCodesLaw.burst(LNoisyCodes;II)I
def xr_104 : List (Option xi_R) := [some (.aload_n 0, 0, 0, 0), some (.iload_n 1, 0, 0, 0), some (.iload_n 2, 0, 0, 0), some (.invokevirtual 52, 38, 3, 0), none, none, some (.goto 12, 18, 0, 0), none, none, some (.astore_n 3, 0, 0, 0), some (.iconst 1, 0, 0, 0), some (.ireturn, 0, 0, 0), some (.astore_n 3, 0, 0, 0), some (.iconst 2, 0, 0, 0), some (.ireturn, 0, 0, 0), some (.astore_n 3, 0, 0, 0), some (.iconst 3, 0, 0, 0), some (.ireturn, 0, 0, 0), some (.iconst 0, 0, 0, 0), some (.ireturn, 0, 0, 0)]
-- 105: NoisyCodesLaw.noise(LNoisyCodes;II[J)I
def xr_105 : List (Option xi_R) := [some (.aload_n 3, 0, 0, 0), some (.iconst 0, 0, 0, 0), some (.aload_n 0, 0, 0, 0), some (.iload_n 1, 0, 0, 0), some (.iload_n 2, 0, 0, 0), some (.invokevirtual 55, 40, 3, 0), none, none, some (.i2l, 0, 0, 0), some (.lastore, 0, 0, 0), some (.goto 11, 21, 0, 0), none, none, some (.astore 4, 0, 0, 0), none, some (.iconst 1, 0, 0, 0), some (.ireturn, 0, 0, 0), some (.astore 4, 0, 0, 0), none, some (.iconst 2, 0, 0, 0), some (.ireturn, 0, 0, 0), some (.iconst 0, 0, 0, 0), some (.ireturn, 0, 0, 0)]
-- 106: NoisyCodesLaw.syndrome(LNoisyCodes;II[J)I
def xr_106 : List (Option xi_R) := [some (.aload_n 3, 0, 0, 0), some (.iconst 0, 0, 0, 0), some (.aload_n 0, 0, 0, 0), some (.iload_n 1, 0, 0, 0), some (.iload_n 2, 0, 0, 0), some (.invokevirtual 58, 41, 3, 0), none, none, some (.i2l, 0, 0, 0), some (.lastore, 0, 0, 0), some (.goto 11, 21, 0, 0), none, none, some (.astore 4, 0, 0, 0), none, some (.iconst 1, 0, 0, 0), some (.ireturn, 0, 0, 0), some (.astore 4, 0, 0, 0), none, some (.iconst 2, 0, 0, 0), some (.ireturn, 0, 0, 0), some (.iconst 0, 0, 0, 0), some (.ireturn, 0, 0, 0)]
-- 107: NoisyCodesLaw.decode(LNoisyCodes;I[J)I
def xr_107 : List (Option xi_R) := [some (.aload_n 2, 0, 0, 0), some (.iconst 0, 0, 0, 0), some (.aload_n 0, 0, 0, 0), some (.iload_n 1, 0, 0, 0), some (.invokevirtual 61, 43, 2, 0), none, none, some (.i2l, 0, 0, 0), some (.lastore, 0, 0, 0), some (.goto 12, 21, 0, 0), none, none, some (.astore_n 3, 0, 0, 0), some (.iconst 1, 0, 0, 0), some (.ireturn, 0, 0, 0), some (.astore_n 3, 0, 0, 0), some (.iconst 2, 0, 0, 0), some (.ireturn, 0, 0, 0), some (.astore_n 3, 0, 0, 0), some (.iconst 3, 0, 0, 0), some (.ireturn, 0, 0, 0), some (.iconst 0, 0, 0, 0), some (.ireturn, 0, 0, 0)]
-- 108: NoisyCodesLaw.save(LNoisyCodes;I)I
def xr_108 : List (Option xi_R) := [some (.aload_n 0, 0, 0, 0), some (.iload_n 1, 0, 0, 0), some (.invokevirtual 64, 60, 2, 0), none, none, some (.goto 9, 14, 0, 0), none, none, some (.astore_n 2, 0, 0, 0), some (.iconst 1, 0, 0, 0), some (.ireturn, 0, 0, 0), some (.astore_n 2, 0, 0, 0), some (.iconst 2, 0, 0, 0), some (.ireturn, 0, 0, 0), some (.iconst 0, 0, 0, 0), some (.ireturn, 0, 0, 0)]
-- 109: NoisyCodesLaw.load(LNoisyCodes;I[J)I
def xr_109 : List (Option xi_R) := [some (.aload_n 2, 0, 0, 0), some (.iconst 0, 0, 0, 0), some (.aload_n 0, 0, 0, 0), some (.iload_n 1, 0, 0, 0), some (.invokevirtual 68, 61, 2, 0), none, none, some (.i2l, 0, 0, 0), some (.lastore, 0, 0, 0), some (.goto 12, 21, 0, 0), none, none, some (.astore_n 3, 0, 0, 0), some (.iconst 1, 0, 0, 0), some (.ireturn, 0, 0, 0), some (.astore_n 3, 0, 0, 0), some (.iconst 2, 0, 0, 0), some (.ireturn, 0, 0, 0), some (.astore_n 3, 0, 0, 0), some (.iconst 3, 0, 0, 0), some (.ireturn, 0, 0, 0), some (.iconst 0, 0, 0, 0), some (.ireturn, 0, 0, 0)]
-- 110: NoisyCodesLaw.law([I)Z
def xr_110 : List (Option xi_R) := [some (.new 8, 0, 0, 0), none, none, some (.dup, 0, 0, 0), some (.invokespecial 71, 0, 1, 0), none, none, some (.astore_n 1, 0, 0, 0), some (.new 72, 7, 0, 0), none, none, some (.dup, 0, 0, 0), some (.invokespecial 74, 62, 1, 0), none, none, some (.astore_n 2, 0, 0, 0), some (.iconst 1, 0, 0, 0), some (.newarray .long, 0, 0, 0), none, some (.astore_n 3, 0, 0, 0), some (.iconst 0, 0, 0, 0), some (.istore 4, 0, 0, 0), none, some (.iload 4, 0, 0, 0), none, some (.aload_n 0, 0, 0, 0), some (.arraylength, 0, 0, 0), some (.iconst 4, 0, 0, 0), some (.isub, 0, 0, 0), some (.if_icmp .gt 977, 1006, 0, 0), none, none, some (.aload_n 0, 0, 0, 0), some (.iload 4, 0, 0, 0), none, some (.iaload, 0, 0, 0), some (.bipush 15, 0, 0, 0), none, some (.iand, 0, 0, 0), some (.tableswitch 961 0 15 #[77, 157, 201, 245, 301, 357, 425, 473, 529, 573, 629, 677, 745, 813, 869, 905], 0, 0, 0), none, none, none, none, none, none, none, none, none, none, none, none, none, none, none, none, none, none, none, none, none, none, none, none, none, none, none, none, none, none, none, none, none, none, none, none, none, none, none, none, none, none, none, none, none, none, none, none, none, none, none, none, none, none, none, none, none, none, none, none, none, none, none, none, none, none, none, none, none, none, none, none, none, none, none, none, some (.aload_n 1, 0, 0, 0), some (.aload_n 0, 0, 0, 0), some (.iload 4, 0, 0, 0), none, some (.iconst 1, 0, 0, 0), some (.iadd, 0, 0, 0), some (.iaload, 0, 0, 0), some (.aload_n 0, 0, 0, 0), some (.iload 4, 0, 0, 0), none, some (.iconst 2, 0, 0, 0), some (.iadd, 0, 0, 0), some (.iaload, 0, 0, 0), some (.aload_n 0, 0, 0, 0), some (.iload 4, 0, 0, 0), none, some (.iconst 3, 0, 0, 0), some (.iadd, 0, 0, 0), some (.iaload, 0, 0, 0), some (.aload_n 3, 0, 0, 0), some (.invokestatic 75, 94, 5, 0), none, none, some (.istore 5, 0, 0, 0), none, some (.aload_n 2, 0, 0, 0), some (.aload_n 0, 0, 0, 0), some (.iload 4, 0, 0, 0), none, some (.iconst 1, 0, 0, 0), some (.iadd, 0, 0, 0), some (.iaload, 0, 0, 0), some (.aload_n 0, 0, 0, 0), some (.iload 4, 0, 0, 0), none, some (.iconst 2, 0, 0, 0), some (.iadd, 0, 0, 0), some (.iaload, 0, 0, 0), some (.aload_n 0, 0, 0, 0), some (.iload 4, 0, 0, 0), none, some (.iconst 3, 0, 0, 0), some (.iadd, 0, 0, 0), some (.iaload, 0, 0, 0), some (.invokevirtual 80, 64, 4, 0), none, none, some (.istore 6, 0, 0, 0), none, some (.aload_n 2, 0, 0, 0), some (.invokevirtual 81, 63, 1, 0), none, none, some (.iload 5, 0, 0, 0), none, some (.if_icmp .eq 5, 176, 0, 0), none, none, some (.iconst 0, 0, 0, 0), some (.ireturn, 0, 0, 0), some (.iload 5, 0, 0, 0), none, some (.ifCond .ne 15, 193, 0, 0), none, none, some (.aload_n 3, 0, 0, 0), some (.iconst 0, 0, 0, 0), some (.laload, 0, 0, 0), some (.iload 6, 0, 0, 0), none, some (.i2l, 0, 0, 0), some (.lcmp, 0, 0, 0), some (.ifCond .eq 5, 193, 0, 0), none, none, some (.iconst 0, 0, 0, 0), some (.ireturn, 0, 0, 0), some (.goto 807, 1000, 0, 0), none, none, some (.aload_n 1, 0, 0, 0), some (.aload_n 3, 0, 0, 0), some (.invokestatic 84, 95, 2, 0), none, none, some (.istore 5, 0, 0, 0), none, some (.aload_n 2, 0, 0, 0), some (.invokevirtual 87, 71, 1, 0), none, none, some (.istore 6, 0, 0, 0), none, some (.aload_n 2, 0, 0, 0), some (.invokevirtual 81, 63, 1, 0), none, none, some (.iload 5, 0, 0, 0), none, some (.if_icmp .eq 5, 220, 0, 0), none, none, some (.iconst 0, 0, 0, 0), some (.ireturn, 0, 0, 0), some (.iload 5, 0, 0, 0), none, some (.ifCond .ne 15, 237, 0, 0), none, none, some (.aload_n 3, 0, 0, 0), some (.iconst 0, 0, 0, 0), some (.laload, 0, 0, 0), some (.iload 6, 0, 0, 0), none, some (.i2l, 0, 0, 0), some (.lcmp, 0, 0, 0), some (.ifCond .eq 5, 237, 0, 0), none, none, some (.iconst 0, 0, 0, 0), some (.ireturn, 0, 0, 0), some (.goto 763, 1000, 0, 0), none, none, some (.aload_n 1, 0, 0, 0), some (.aload_n 3, 0, 0, 0), some (.invokestatic 88, 96, 2, 0), none, none, some (.istore 5, 0, 0, 0), none, some (.aload_n 2, 0, 0, 0), some (.invokevirtual 90, 72, 1, 0), none, none, some (.istore 6, 0, 0, 0), none, some (.aload_n 2, 0, 0, 0), some (.invokevirtual 81, 63, 1, 0), none, none, some (.iload 5, 0, 0, 0), none, some (.if_icmp .eq 5, 264, 0, 0), none, none, some (.iconst 0, 0, 0, 0), some (.ireturn, 0, 0, 0), some (.iload 5, 0, 0, 0), none, some (.ifCond .ne 15, 281, 0, 0), none, none, some (.aload_n 3, 0, 0, 0), some (.iconst 0, 0, 0, 0), some (.laload, 0, 0, 0), some (.iload 6, 0, 0, 0), none, some (.i2l, 0, 0, 0), some (.lcmp, 0, 0, 0), some (.ifCond .eq 5, 281, 0, 0), none, none, some (.iconst 0, 0, 0, 0), some (.ireturn, 0, 0, 0), some (.goto 719, 1000, 0, 0), none, none, some (.aload_n 1, 0, 0, 0), some (.aload_n 0, 0, 0, 0), some (.iload 4, 0, 0, 0), none, some (.iconst 1, 0, 0, 0), some (.iadd, 0, 0, 0), some (.iaload, 0, 0, 0), some (.aload_n 3, 0, 0, 0), some (.invokestatic 91, 97, 3, 0), none, none, some (.istore 5, 0, 0, 0), none, some (.aload_n 2, 0, 0, 0), some (.aload_n 0, 0, 0, 0), some (.iload 4, 0, 0, 0), none, some (.iconst 1, 0, 0, 0), some (.iadd, 0, 0, 0), some (.iaload, 0, 0, 0), some (.invokevirtual 94, 73, 2, 0), none, none, some (.istore 6, 0, 0, 0), none, some (.aload_n 2, 0, 0, 0), some (.invokevirtual 81, 63, 1, 0), none, none, some (.iload 5, 0, 0, 0), none, some (.if_icmp .eq 5, 320, 0, 0), none, none, some (.iconst 0, 0, 0, 0), some (.ireturn, 0, 0, 0), some (.iload 5, 0, 0, 0), none, some (.ifCond .ne 15, 337, 0, 0), none, none, some (.aload_n 3, 0, 0, 0), some (.iconst 0, 0, 0, 0), some (.laload, 0, 0, 0), some (.iload 6, 0, 0, 0), none, some (.i2l, 0, 0, 0), some (.lcmp, 0, 0, 0), some (.ifCond .eq 5, 337, 0, 0), none, none, some (.iconst 0, 0, 0, 0), some (.ireturn, 0, 0, 0), some (.goto 663, 1000, 0, 0), none, none, some (.aload_n 1, 0, 0, 0), some (.aload_n 0, 0, 0, 0), some (.iload 4, 0, 0, 0), none, some (.iconst 1, 0, 0, 0), some (.iadd, 0, 0, 0), some (.iaload, 0, 0, 0), some (.aload_n 3, 0, 0, 0), some (.invokestatic 95, 98, 3, 0), none, none, some (.istore 5, 0, 0, 0), none, some (.aload_n 2, 0, 0, 0), some (.aload_n 0, 0, 0, 0), some (.iload 4, 0, 0, 0), none, some (.iconst 1, 0, 0, 0), some (.iadd, 0, 0, 0), some (.iaload, 0, 0, 0), some (.invokevirtual 97, 74, 2, 0), none, none, some (.istore 6, 0, 0, 0), none, some (.aload_n 2, 0, 0, 0), some (.invokevirtual 81, 63, 1, 0), none, none, some (.iload 5, 0, 0, 0), none, some (.if_icmp .eq 5, 376, 0, 0), none, none, some (.iconst 0, 0, 0, 0), some (.ireturn, 0, 0, 0), some (.iload 5, 0, 0, 0), none, some (.ifCond .ne 15, 393, 0, 0), none, none, some (.aload_n 3, 0, 0, 0), some (.iconst 0, 0, 0, 0), some (.laload, 0, 0, 0), some (.iload 6, 0, 0, 0), none, some (.i2l, 0, 0, 0), some (.lcmp, 0, 0, 0), some (.ifCond .eq 5, 393, 0, 0), none, none, some (.iconst 0, 0, 0, 0), some (.ireturn, 0, 0, 0), some (.goto 607, 1000, 0, 0), none, none, some (.aload_n 1, 0, 0, 0), some (.aload_n 0, 0, 0, 0), some (.iload 4, 0, 0, 0), none, some (.iconst 1, 0, 0, 0), some (.iadd, 0, 0, 0), some (.iaload, 0, 0, 0), some (.aload_n 0, 0, 0, 0), some (.iload 4, 0, 0, 0), none, some (.iconst 2, 0, 0, 0), some (.iadd, 0, 0, 0), some (.iaload, 0, 0, 0), some (.aload_n 3, 0, 0, 0), some (.invokestatic 98, 99, 4, 0), none, none, some (.istore 5, 0, 0, 0), none, some (.aload_n 2, 0, 0, 0), some (.aload_n 0, 0, 0, 0), some (.iload 4, 0, 0, 0), none, some (.iconst 1, 0, 0, 0), some (.iadd, 0, 0, 0), some (.iaload, 0, 0, 0), some (.aload_n 0, 0, 0, 0), some (.iload 4, 0, 0, 0), none, some (.iconst 2, 0, 0, 0), some (.iadd, 0, 0, 0), some (.iaload, 0, 0, 0), some (.invokevirtual 101, 75, 3, 0), none, none, some (.istore 6, 0, 0, 0), none, some (.aload_n 2, 0, 0, 0), some (.invokevirtual 81, 63, 1, 0), none, none, some (.iload 5, 0, 0, 0), none, some (.if_icmp .eq 5, 444, 0, 0), none, none, some (.iconst 0, 0, 0, 0), some (.ireturn, 0, 0, 0), some (.iload 5, 0, 0, 0), none, some (.ifCond .ne 15, 461, 0, 0), none, none, some (.aload_n 3, 0, 0, 0), some (.iconst 0, 0, 0, 0), some (.laload, 0, 0, 0), some (.iload 6, 0, 0, 0), none, some (.i2l, 0, 0, 0), some (.lcmp, 0, 0, 0), some (.ifCond .eq 5, 461, 0, 0), none, none, some (.iconst 0, 0, 0, 0), some (.ireturn, 0, 0, 0), some (.goto 539, 1000, 0, 0), none, none, some (.aload_n 1, 0, 0, 0), some (.aload_n 0, 0, 0, 0), some (.iload 4, 0, 0, 0), none, some (.iconst 1, 0, 0, 0), some (.iadd, 0, 0, 0), some (.iaload, 0, 0, 0), some (.aload_n 0, 0, 0, 0), some (.iload 4, 0, 0, 0), none, some (.iconst 2, 0, 0, 0), some (.iadd, 0, 0, 0), some (.iaload, 0, 0, 0), some (.invokestatic 102, 100, 3, 0), none, none, some (.istore 5, 0, 0, 0), none, some (.aload_n 2, 0, 0, 0), some (.aload_n 0, 0, 0, 0), some (.iload 4, 0, 0, 0), none, some (.iconst 1, 0, 0, 0), some (.iadd, 0, 0, 0), some (.iaload, 0, 0, 0), some (.aload_n 0, 0, 0, 0), some (.iload 4, 0, 0, 0), none, some (.iconst 2, 0, 0, 0), some (.iadd, 0, 0, 0), some (.iaload, 0, 0, 0), some (.invokevirtual 105, 76, 3, 0), none, none, some (.aload_n 2, 0, 0, 0), some (.invokevirtual 81, 63, 1, 0), none, none, some (.iload 5, 0, 0, 0), none, some (.if_icmp .eq 5, 509, 0, 0), none, none, some (.iconst 0, 0, 0, 0), some (.ireturn, 0, 0, 0), some (.goto 491, 1000, 0, 0), none, none, some (.aload_n 1, 0, 0, 0), some (.aload_n 0, 0, 0, 0), some (.iload 4, 0, 0, 0), none, some (.iconst 1, 0, 0, 0), some (.iadd, 0, 0, 0), some (.iaload, 0, 0, 0), some (.aload_n 3, 0, 0, 0), some (.invokestatic 106, 101, 3, 0), none, none, some (.istore 5, 0, 0, 0), none, some (.aload_n 2, 0, 0, 0), some (.aload_n 0, 0, 0, 0), some (.iload 4, 0, 0, 0), none, some (.iconst 1, 0, 0, 0), some (.iadd, 0, 0, 0), some (.iaload, 0, 0, 0), some (.invokevirtual 108, 78, 2, 0), none, none, some (.istore 6, 0, 0, 0), none, some (.aload_n 2, 0, 0, 0), some (.invokevirtual 81, 63, 1, 0), none, none, some (.iload 5, 0, 0, 0), none, some (.if_icmp .eq 5, 548, 0, 0), none, none, some (.iconst 0, 0, 0, 0), some (.ireturn, 0, 0, 0), some (.iload 5, 0, 0, 0), none, some (.ifCond .ne 15, 565, 0, 0), none, none, some (.aload_n 3, 0, 0, 0), some (.iconst 0, 0, 0, 0), some (.laload, 0, 0, 0), some (.iload 6, 0, 0, 0), none, some (.i2l, 0, 0, 0), some (.lcmp, 0, 0, 0), some (.ifCond .eq 5, 565, 0, 0), none, none, some (.iconst 0, 0, 0, 0), some (.ireturn, 0, 0, 0), some (.goto 435, 1000, 0, 0), none, none, some (.aload_n 1, 0, 0, 0), some (.aload_n 3, 0, 0, 0), some (.invokestatic 109, 102, 2, 0), none, none, some (.istore 5, 0, 0, 0), none, some (.aload_n 2, 0, 0, 0), some (.invokevirtual 111, 79, 1, 0), none, none, some (.istore 6, 0, 0, 0), none, some (.aload_n 2, 0, 0, 0), some (.invokevirtual 81, 63, 1, 0), none, none, some (.iload 5, 0, 0, 0), none, some (.if_icmp .eq 5, 592, 0, 0), none, none, some (.iconst 0, 0, 0, 0), some (.ireturn, 0, 0, 0), some (.iload 5, 0, 0, 0), none, some (.ifCond .ne 15, 609, 0, 0), none, none, some (.aload_n 3, 0, 0, 0), some (.iconst 0, 0, 0, 0), some (.laload, 0, 0, 0), some (.iload 6, 0, 0, 0), none, some (.i2l, 0, 0, 0), some (.lcmp, 0, 0, 0), some (.ifCond .eq 5, 609, 0, 0), none, none, some (.iconst 0, 0, 0, 0), some (.ireturn, 0, 0, 0), some (.goto 391, 1000, 0, 0), none, none, some (.aload_n 1, 0, 0, 0), some (.aload_n 0, 0, 0, 0), some (.iload 4, 0, 0, 0), none, some (.iconst 1, 0, 0, 0), some (.iadd, 0, 0, 0), some (.iaload, 0, 0, 0), some (.aload_n 3, 0, 0, 0), some (.invokestatic 112, 103, 3, 0), none, none, some (.istore 5, 0, 0, 0), none, some (.aload_n 2, 0, 0, 0), some (.aload_n 0, 0, 0, 0), some (.iload 4, 0, 0, 0), none, some (.iconst 1, 0, 0, 0), some (.iadd, 0, 0, 0), some (.iaload, 0, 0, 0), some (.invokevirtual 114, 82, 2, 0), none, none, some (.istore 6, 0, 0, 0), none, some (.aload_n 2, 0, 0, 0), some (.invokevirtual 81, 63, 1, 0), none, none, some (.iload 5, 0, 0, 0), none, some (.if_icmp .eq 5, 648, 0, 0), none, none, some (.iconst 0, 0, 0, 0), some (.ireturn, 0, 0, 0), some (.iload 5, 0, 0, 0), none, some (.ifCond .ne 15, 665, 0, 0), none, none, some (.aload_n 3, 0, 0, 0), some (.iconst 0, 0, 0, 0), some (.laload, 0, 0, 0), some (.iload 6, 0, 0, 0), none, some (.i2l, 0, 0, 0), some (.lcmp, 0, 0, 0), some (.ifCond .eq 5, 665, 0, 0), none, none, some (.iconst 0, 0, 0, 0), some (.ireturn, 0, 0, 0), some (.goto 335, 1000, 0, 0), none, none, some (.aload_n 1, 0, 0, 0), some (.aload_n 0, 0, 0, 0), some (.iload 4, 0, 0, 0), none, some (.iconst 1, 0, 0, 0), some (.iadd, 0, 0, 0), some (.iaload, 0, 0, 0), some (.aload_n 0, 0, 0, 0), some (.iload 4, 0, 0, 0), none, some (.iconst 2, 0, 0, 0), some (.iadd, 0, 0, 0), some (.iaload, 0, 0, 0), some (.invokestatic 115, 104, 3, 0), none, none, some (.istore 5, 0, 0, 0), none, some (.aload_n 2, 0, 0, 0), some (.aload_n 0, 0, 0, 0), some (.iload 4, 0, 0, 0), none, some (.iconst 1, 0, 0, 0), some (.iadd, 0, 0, 0), some (.iaload, 0, 0, 0), some (.aload_n 0, 0, 0, 0), some (.iload 4, 0, 0, 0), none, some (.iconst 2, 0, 0, 0), some (.iadd, 0, 0, 0), some (.iaload, 0, 0, 0), some (.invokevirtual 117, 84, 3, 0), none, none, some (.aload_n 2, 0, 0, 0), some (.invokevirtual 81, 63, 1, 0), none, none, some (.iload 5, 0, 0, 0), none, some (.if_icmp .eq 5, 713, 0, 0), none, none, some (.iconst 0, 0, 0, 0), some (.ireturn, 0, 0, 0), some (.goto 287, 1000, 0, 0), none, none, some (.aload_n 1, 0, 0, 0), some (.aload_n 0, 0, 0, 0), some (.iload 4, 0, 0, 0), none, some (.iconst 1, 0, 0, 0), some (.iadd, 0, 0, 0), some (.iaload, 0, 0, 0), some (.aload_n 0, 0, 0, 0), some (.iload 4, 0, 0, 0), none, some (.iconst 2, 0, 0, 0), some (.iadd, 0, 0, 0), some (.iaload, 0, 0, 0), some (.aload_n 3, 0, 0, 0), some (.invokestatic 118, 105, 4, 0), none, none, some (.istore 5, 0, 0, 0), none, some (.aload_n 2, 0, 0, 0), some (.aload_n 0, 0, 0, 0), some (.iload 4, 0, 0, 0), none, some (.iconst 1, 0, 0, 0), some (.iadd, 0, 0, 0), some (.iaload, 0, 0, 0), some (.aload_n 0, 0, 0, 0), some (.iload 4, 0, 0, 0), none, some (.iconst 2, 0, 0, 0), some (.iadd, 0, 0, 0), some (.iaload, 0, 0, 0), some (.invokevirtual 120, 86, 3, 0), none, none, some (.istore 6, 0, 0, 0), none, some (.aload_n 2, 0, 0, 0), some (.invokevirtual 81, 63, 1, 0), none, none, some (.iload 5, 0, 0, 0), none, some (.if_icmp .eq 5, 764, 0, 0), none, none, some (.iconst 0, 0, 0, 0), some (.ireturn, 0, 0, 0), some (.iload 5, 0, 0, 0), none, some (.ifCond .ne 15, 781, 0, 0), none, none, some (.aload_n 3, 0, 0, 0), some (.iconst 0, 0, 0, 0), some (.laload, 0, 0, 0), some (.iload 6, 0, 0, 0), none, some (.i2l, 0, 0, 0), some (.lcmp, 0, 0, 0), some (.ifCond .eq 5, 781, 0, 0), none, none, some (.iconst 0, 0, 0, 0), some (.ireturn, 0, 0, 0), some (.goto 219, 1000, 0, 0), none, none, some (.aload_n 1, 0, 0, 0), some (.aload_n 0, 0, 0, 0), some (.iload 4, 0, 0, 0), none, some (.iconst 1, 0, 0, 0), some (.iadd, 0, 0, 0), some (.iaload, 0, 0, 0), some (.aload_n 0, 0, 0, 0), some (.iload 4, 0, 0, 0), none, some (.iconst 2, 0, 0, 0), some (.iadd, 0, 0, 0), some (.iaload, 0, 0, 0), some (.aload_n 3, 0, 0, 0), some (.invokestatic 121, 106, 4, 0), none, none, some (.istore 5, 0, 0, 0), none, some (.aload_n 2, 0, 0, 0), some (.aload_n 0, 0, 0, 0), some (.iload 4, 0, 0, 0), none, some (.iconst 1, 0, 0, 0), some (.iadd, 0, 0, 0), some (.iaload, 0, 0, 0), some (.aload_n 0, 0, 0, 0), some (.iload 4, 0, 0, 0), none, some (.iconst 2, 0, 0, 0), some (.iadd, 0, 0, 0), some (.iaload, 0, 0, 0), some (.invokevirtual 123, 87, 3, 0), none, none, some (.istore 6, 0, 0, 0), none, some (.aload_n 2, 0, 0, 0), some (.invokevirtual 81, 63, 1, 0), none, none, some (.iload 5, 0, 0, 0), none, some (.if_icmp .eq 5, 832, 0, 0), none, none, some (.iconst 0, 0, 0, 0), some (.ireturn, 0, 0, 0), some (.iload 5, 0, 0, 0), none, some (.ifCond .ne 15, 849, 0, 0), none, none, some (.aload_n 3, 0, 0, 0), some (.iconst 0, 0, 0, 0), some (.laload, 0, 0, 0), some (.iload 6, 0, 0, 0), none, some (.i2l, 0, 0, 0), some (.lcmp, 0, 0, 0), some (.ifCond .eq 5, 849, 0, 0), none, none, some (.iconst 0, 0, 0, 0), some (.ireturn, 0, 0, 0), some (.goto 151, 1000, 0, 0), none, none, some (.aload_n 1, 0, 0, 0), some (.aload_n 0, 0, 0, 0), some (.iload 4, 0, 0, 0), none, some (.iconst 1, 0, 0, 0), some (.iadd, 0, 0, 0), some (.iaload, 0, 0, 0), some (.aload_n 3, 0, 0, 0), some (.invokestatic 124, 107, 3, 0), none, none, some (.istore 5, 0, 0, 0), none, some (.aload_n 2, 0, 0, 0), some (.aload_n 0, 0, 0, 0), some (.iload 4, 0, 0, 0), none, some (.iconst 1, 0, 0, 0), some (.iadd, 0, 0, 0), some (.iaload, 0, 0, 0), some (.invokevirtual 126, 88, 2, 0), none, none, some (.istore 6, 0, 0, 0), none, some (.aload_n 2, 0, 0, 0), some (.invokevirtual 81, 63, 1, 0), none, none, some (.iload 5, 0, 0, 0), none, some (.if_icmp .eq 5, 888, 0, 0), none, none, some (.iconst 0, 0, 0, 0), some (.ireturn, 0, 0, 0), some (.iload 5, 0, 0, 0), none, some (.ifCond .ne 15, 905, 0, 0), none, none, some (.aload_n 3, 0, 0, 0), some (.iconst 0, 0, 0, 0), some (.laload, 0, 0, 0), some (.iload 6, 0, 0, 0), none, some (.i2l, 0, 0, 0), some (.lcmp, 0, 0, 0), some (.ifCond .eq 5, 905, 0, 0), none, none, some (.iconst 0, 0, 0, 0), some (.ireturn, 0, 0, 0), some (.goto 95, 1000, 0, 0), none, none, some (.aload_n 1, 0, 0, 0), some (.aload_n 0, 0, 0, 0), some (.iload 4, 0, 0, 0), none, some (.iconst 1, 0, 0, 0), some (.iadd, 0, 0, 0), some (.iaload, 0, 0, 0), some (.invokestatic 127, 108, 2, 0), none, none, some (.istore 5, 0, 0, 0), none, some (.aload_n 2, 0, 0, 0), some (.aload_n 0, 0, 0, 0), some (.iload 4, 0, 0, 0), none, some (.iconst 1, 0, 0, 0), some (.iadd, 0, 0, 0), some (.iaload, 0, 0, 0), some (.invokevirtual 130, 92, 2, 0), none, none, some (.aload_n 2, 0, 0, 0), some (.invokevirtual 81, 63, 1, 0), none, none, some (.iload 5, 0, 0, 0), none, some (.if_icmp .eq 5, 941, 0, 0), none, none, some (.iconst 0, 0, 0, 0), some (.ireturn, 0, 0, 0), some (.goto 59, 1000, 0, 0), none, none, some (.aload_n 1, 0, 0, 0), some (.aload_n 0, 0, 0, 0), some (.iload 4, 0, 0, 0), none, some (.iconst 1, 0, 0, 0), some (.iadd, 0, 0, 0), some (.iaload, 0, 0, 0), some (.aload_n 3, 0, 0, 0), some (.invokestatic 131, 109, 3, 0), none, none, some (.istore 5, 0, 0, 0), none, some (.aload_n 2, 0, 0, 0), some (.aload_n 0, 0, 0, 0), some (.iload 4, 0, 0, 0), none, some (.iconst 1, 0, 0, 0), some (.iadd, 0, 0, 0), some (.iaload, 0, 0, 0), some (.invokevirtual 133, 93, 2, 0), none, none, some (.istore 6, 0, 0, 0), none, some (.aload_n 2, 0, 0, 0), some (.invokevirtual 81, 63, 1, 0), none, none, some (.iload 5, 0, 0, 0), none, some (.if_icmp .eq 5, 980, 0, 0), none, none, some (.iconst 0, 0, 0, 0), some (.ireturn, 0, 0, 0), some (.iload 5, 0, 0, 0), none, some (.ifCond .ne 15, 997, 0, 0), none, none, some (.aload_n 3, 0, 0, 0), some (.iconst 0, 0, 0, 0), some (.laload, 0, 0, 0), some (.iload 6, 0, 0, 0), none, some (.i2l, 0, 0, 0), some (.lcmp, 0, 0, 0), some (.ifCond .eq 5, 997, 0, 0), none, none, some (.iconst 0, 0, 0, 0), some (.ireturn, 0, 0, 0), some (.goto 3, 1000, 0, 0), none, none, some (.iinc 4 4, 0, 0, 0), none, none, some (.goto (-980), 23, 0, 0), none, none, some (.iconst 1, 0, 0, 0), some (.ireturn, 0, 0, 0)]
end
section
/-! PRINTED by gen.py out of the claim: classes, words that do not keep, methods -/
def xT_0 : u_T := fun k => match k with
  | 0 => ("NoisyCodes", "code", "LNoisyCodes$BlockCode;", true)
  | 1 => ("NoisyCodes", "field", "LNoisyCodes$Field;", true)
  | 2 => ("NoisyCodes", "mender", "LNoisyCodes$Mender;", true)
  | 3 => ("NoisyCodes", "message", "[I", true)
  | 4 => ("NoisyCodes", "channel", "[I", true)
  | 5 => ("NoisyCodes", "mended", "[I", true)
  | 6 => ("NoisyCodes", "kept", "[[I", true)
  | 7 => ("NoisyCodes", "depth", "I", false)
  | _ => ("NoisyCodes", "begun", "Z", false)
def xT_1 : u_T := fun k => match k with
  | 0 => ("NoisyCodes$BlockCode", "field", "LNoisyCodes$Field;", true)
  | 1 => ("NoisyCodes$BlockCode", "factors", "[I", true)
  | 2 => ("NoisyCodes$BlockCode", "errors", "I", false)
  | 3 => ("NoisyCodes$BlockCode", "divisor", "I", false)
  | 4 => ("NoisyCodes$BlockCode", "checkBits", "I", false)
  | _ => ("NoisyCodes$BlockCode", "messageBits", "I", false)
def xT_2 : u_T := fun k => match k with
  | 0 => ("NoisyCodes$Field", "powers", "[I", true)
  | 1 => ("NoisyCodes$Field", "logs", "[I", true)
  | _ => ("NoisyCodes$Field", "order", "I", false)
def xT_3 : u_T := fun k => match k with
  | 0 => ("NoisyCodes$Mender", "ways", "[LNoisyCodes$Way;", true)
  | 1 => ("NoisyCodes$Mender", "syndromes", "[I", true)
  | _ => ("NoisyCodes$Mender", "locator", "[I", true)
def xT_4 : u_T := fun k => match k with
  | _ => ("", "", "", false)
def xT_5 : u_T := fun k => match k with
  | 0 => ("NoisyCodes$ShiftRegister", "earlier", "[I", true)
  | _ => ("NoisyCodes$ShiftRegister", "spare", "[I", true)
def xT_6 : u_T := fun k => match k with
  | 0 => ("NoisyCodes$Division", "firstRest", "[I", true)
  | 1 => ("NoisyCodes$Division", "secondRest", "[I", true)
  | 2 => ("NoisyCodes$Division", "firstFactor", "[I", true)
  | _ => ("NoisyCodes$Division", "secondFactor", "[I", true)
def xT_7 : u_T := fun k => match k with
  | 0 => ("NoisyCodesModel", "code", "I", false)
  | 1 => ("NoisyCodesModel", "begun", "Z", false)
  | 2 => ("NoisyCodesModel", "polynomial", "I", false)
  | 3 => ("NoisyCodesModel", "degree", "I", false)
  | 4 => ("NoisyCodesModel", "n", "I", false)
  | 5 => ("NoisyCodesModel", "t", "I", false)
  | 6 => ("NoisyCodesModel", "depth", "I", false)
  | 7 => ("NoisyCodesModel", "generator", "I", false)
  | 8 => ("NoisyCodesModel", "checks", "I", false)
  | 9 => ("NoisyCodesModel", "message", "[I", false)
  | 10 => ("NoisyCodesModel", "channel", "[I", false)
  | 11 => ("NoisyCodesModel", "kept", "[I", false)
  | 12 => ("NoisyCodesModel", "mended", "[I", false)
  | 13 => ("NoisyCodesModel", "rest", "[I", false)
  | _ => ("NoisyCodesModel", "product", "[I", false)
abbrev xi_cl : List vw_C := [("NoisyCodes", xT_0, 9), ("NoisyCodes$BlockCode", xT_1, 6), ("NoisyCodes$Field", xT_2, 3), ("NoisyCodes$Mender", xT_3, 3), ("NoisyCodes$Formulas", xT_4, 0), ("NoisyCodes$ShiftRegister", xT_5, 2), ("NoisyCodes$Division", xT_6, 4), ("NoisyCodesModel", xT_7, 15)]
def xi_ks : List xi_K := [[(.object "NoisyCodes$BlockCode", .null), (.object "NoisyCodes$Field", .null), (.object "NoisyCodes$Mender", .null), (.array .int, .null), (.array .int, .null), (.array .int, .null), (.array (.array .int), .null), (.int, .int 0), (.boolean, .int 0)], [(.object "NoisyCodes$Field", .null), (.array .int, .null), (.int, .int 0), (.int, .int 0), (.int, .int 0), (.int, .int 0)], [(.array .int, .null), (.array .int, .null), (.int, .int 0)], [(.array (.object "NoisyCodes$Way"), .null), (.array .int, .null), (.array .int, .null)], [], [(.array .int, .null), (.array .int, .null)], [(.array .int, .null), (.array .int, .null), (.array .int, .null), (.array .int, .null)], [(.int, .int 0), (.boolean, .int 0), (.int, .int 0), (.int, .int 0), (.int, .int 0), (.int, .int 0), (.int, .int 0), (.int, .int 0), (.int, .int 0), (.array .int, .null), (.array .int, .null), (.array .int, .null), (.array .int, .null), (.array .int, .null), (.array .int, .null)]]
def xi_nw : List Cond := [.fieldLinkNest "NoisyCodes" 95 "NoisyCodes$Field" "logs" "[I" "NoisyCodes", .fieldLinkNest "NoisyCodes$BlockCode" 47 "NoisyCodes$Field" "order" "I" "NoisyCodes", .fieldLinkNest "NoisyCodes$Mender" 71 "NoisyCodes$Field" "order" "I" "NoisyCodes", .fieldLinkNest "NoisyCodes" 82 "NoisyCodes$Field" "order" "I" "NoisyCodes", .fieldLinkNest "NoisyCodes" 16 "NoisyCodes$BlockCode" "field" "LNoisyCodes$Field;" "NoisyCodes", .fieldLinkNest "NoisyCodes$Mender" 53 "NoisyCodes$BlockCode" "field" "LNoisyCodes$Field;" "NoisyCodes", .fieldLinkNest "NoisyCodes$Mender" 39 "NoisyCodes$BlockCode" "errors" "I" "NoisyCodes", .fieldLinkNest "NoisyCodes" 125 "NoisyCodes$BlockCode" "errors" "I" "NoisyCodes", .fieldLinkNest "NoisyCodes" 85 "NoisyCodes$BlockCode" "divisor" "I" "NoisyCodes", .fieldLinkNest "NoisyCodes" 76 "NoisyCodes$BlockCode" "messageBits" "I" "NoisyCodes", .methodLinkNest "NoisyCodes$Mender" 19 ⟨"NoisyCodes$Formulas", "<init>", "()V"⟩ "NoisyCodes", .methodLinkNest "NoisyCodes$Formulas" 1 ⟨"NoisyCodes$Way", "<init>", "()V"⟩ "NoisyCodes", .methodLinkNest "NoisyCodes$ShiftRegister" 3 ⟨"NoisyCodes$Way", "<init>", "()V"⟩ "NoisyCodes", .methodLinkNest "NoisyCodes$Division" 3 ⟨"NoisyCodes$Way", "<init>", "()V"⟩ "NoisyCodes", .declares ⟨"java/lang/RuntimeException", "<init>", "()V"⟩, .declares ⟨"java/lang/RuntimeException", "<init>", "(Ljava/lang/String;)V"⟩, .declares ⟨"java/lang/Exception", "<init>", "()V"⟩, .declares ⟨"java/lang/Exception", "<init>", "(Ljava/lang/String;)V"⟩, .declares ⟨"java/lang/Throwable", "<init>", "()V"⟩, .declares ⟨"java/lang/Throwable", "<init>", "(Ljava/lang/String;)V"⟩, .declares ⟨"NoisyCodes$Way", "locate", "(LNoisyCodes$Field;[II[I)V"⟩, .castable "java/lang/IllegalArgumentException" "java/lang/IllegalArgumentException", .castable "java/lang/ArithmeticException" "java/lang/ArithmeticException", .castable "java/lang/IllegalStateException" "java/lang/IllegalStateException", .castable "java/lang/IndexOutOfBoundsException" "java/lang/IndexOutOfBoundsException", .castable "NoisyCodes$Division" "NoisyCodes$Way", .castable "NoisyCodes$Formulas" "NoisyCodes$Way", .castable "NoisyCodes$ShiftRegister" "NoisyCodes$Way"]
def xi_lwn : Nat := 767
def xi_ex : List String := ["java/lang/IllegalStateException", "java/lang/IllegalArgumentException", "java/lang/IndexOutOfBoundsException", "java/lang/ArithmeticException"]
-- name, code, locals, answer, handlers (none: no table), frames and locals that it needs
abbrev xm_T : Type := MethodName × ByteArray × Nat × Option FieldType × Option (List (Nat × Nat × Nat × Nat)) × Nat × Nat
def xm_0 : xm_T := (⟨"NoisyCodes", "<init>", "()V"⟩, prog_1_method_1_code, 1, none, none, 4, 80)
def xm_1 : xm_T := (⟨"NoisyCodes$BlockCode", "<init>", "()V"⟩, prog_2_method_1_code, 1, none, none, 2, 40)
def xm_2 : xm_T := (⟨"NoisyCodes$Field", "<init>", "()V"⟩, prog_4_method_1_code, 1, none, none, 1, 20)
def xm_3 : xm_T := (⟨"NoisyCodes$Mender", "<init>", "()V"⟩, prog_6_method_1_code, 1, none, none, 3, 60)
def xm_4 : xm_T := (⟨"NoisyCodes$Formulas", "<init>", "()V"⟩, prog_5_method_1_code, 1, none, none, 2, 40)
def xm_5 : xm_T := (⟨"NoisyCodes$Way", "<init>", "()V"⟩, prog_8_method_1_code, 1, none, none, 1, 20)
def xm_6 : xm_T := (⟨"NoisyCodes$ShiftRegister", "<init>", "()V"⟩, prog_7_method_1_code, 1, none, none, 2, 40)
def xm_7 : xm_T := (⟨"NoisyCodes$Division", "<init>", "()V"⟩, prog_3_method_1_code, 1, none, none, 2, 40)
def xm_8 : xm_T := (⟨"NoisyCodes", "begin", "(III)I"⟩, prog_1_method_2_code, 4, (some .int), none, 6, 89)
def xm_9 : xm_T := (⟨"NoisyCodes$Field", "hasRightDegree", "(I)Z"⟩, prog_4_method_2_code, 1, (some .boolean), none, 0, 0)
def xm_10 : xm_T := (⟨"NoisyCodes$Field", "isPrimitive", "(I)Z"⟩, prog_4_method_3_code, 4, (some .boolean), none, 2, 42)
def xm_11 : xm_T := (⟨"NoisyCodes$Field", "orderFor", "(I)I"⟩, prog_4_method_9_code, 1, (some .int), none, 0, 0)
def xm_12 : xm_T := (⟨"NoisyCodes$Field", "timesX", "(II)I"⟩, prog_4_method_10_code, 3, (some .int), none, 1, 20)
def xm_13 : xm_T := (⟨"NoisyCodes$Field", "makeFrom", "(I)V"⟩, prog_4_method_4_code, 4, none, none, 2, 42)
def xm_14 : xm_T := (⟨"NoisyCodes$BlockCode", "makeFor", "(I)V"⟩, prog_2_method_2_code, 3, none, none, 3, 67)
def xm_15 : xm_T := (⟨"NoisyCodes$BlockCode", "rootsFor", "(I)I"⟩, prog_2_method_7_code, 6, (some .int), none, 0, 0)
def xm_16 : xm_T := (⟨"NoisyCodes$BlockCode", "polynomialOf", "(I)I"⟩, prog_2_method_8_code, 4, (some .int), none, 2, 44)
def xm_17 : xm_T := (⟨"java/util/Arrays", "fill", "([II)V"⟩, prog_20_method_103_code, 4, none, none, 0, 0)
def xm_18 : xm_T := (⟨"NoisyCodes$Field", "raised", "(I)I"⟩, prog_4_method_6_code, 2, (some .int), none, 0, 0)
def xm_19 : xm_T := (⟨"NoisyCodes$BlockCode", "multiplyByRoot", "(I)V"⟩, prog_2_method_9_code, 3, none, none, 1, 22)
def xm_20 : xm_T := (⟨"NoisyCodes$Field", "product", "(II)I"⟩, prog_4_method_7_code, 3, (some .int), none, 0, 0)
def xm_21 : xm_T := (⟨"java/lang/Integer", "bitCount", "(I)I"⟩, prog_16_method_49_code, 1, (some .int), none, 0, 0)
def xm_22 : xm_T := (⟨"NoisyCodes", "clearWords", "()V"⟩, prog_1_method_22_code, 2, none, none, 1, 23)
def xm_23 : xm_T := (⟨"NoisyCodes", "length", "()I"⟩, prog_1_method_3_code, 1, (some .int), none, 7, 109)
def xm_24 : xm_T := (⟨"NoisyCodes", "requireCode", "()V"⟩, prog_1_method_18_code, 1, none, none, 6, 89)
def xm_25 : xm_T := (⟨"NoisyCodes", "generator", "()I"⟩, prog_1_method_4_code, 1, (some .int), none, 7, 109)
def xm_26 : xm_T := (⟨"NoisyCodes", "power", "(I)I"⟩, prog_1_method_5_code, 2, (some .int), none, 7, 109)
def xm_27 : xm_T := (⟨"NoisyCodes", "log", "(I)I"⟩, prog_1_method_6_code, 2, (some .int), none, 7, 109)
def xm_28 : xm_T := (⟨"NoisyCodes$Field", "holds", "(I)Z"⟩, prog_4_method_5_code, 2, (some .boolean), none, 0, 0)
def xm_29 : xm_T := (⟨"NoisyCodes", "times", "(II)I"⟩, prog_1_method_7_code, 3, (some .int), none, 7, 109)
def xm_30 : xm_T := (⟨"NoisyCodes", "put", "(II)V"⟩, prog_1_method_8_code, 5, none, none, 7, 110)
def xm_31 : xm_T := (⟨"NoisyCodes", "requireIndex", "(II)V"⟩, prog_1_method_19_code, 2, none, none, 6, 89)
def xm_32 : xm_T := (⟨"NoisyCodes", "get", "(I)I"⟩, prog_1_method_9_code, 2, (some .int), none, 7, 110)
def xm_33 : xm_T := (⟨"NoisyCodes", "encode", "()I"⟩, prog_1_method_10_code, 3, (some .int), none, 7, 109)
def xm_34 : xm_T := (⟨"NoisyCodes$BlockCode", "codewordOf", "(I)I"⟩, prog_2_method_3_code, 3, (some .int), none, 1, 23)
def xm_35 : xm_T := (⟨"NoisyCodes$BlockCode", "remainderOf", "(I)I"⟩, prog_2_method_10_code, 4, (some .int), none, 0, 0)
def xm_36 : xm_T := (⟨"NoisyCodes", "bit", "(I)I"⟩, prog_1_method_11_code, 2, (some .int), none, 7, 110)
def xm_37 : xm_T := (⟨"NoisyCodes", "channelBits", "()I"⟩, prog_1_method_20_code, 1, (some .int), none, 0, 0)
def xm_38 : xm_T := (⟨"NoisyCodes", "burst", "(II)V"⟩, prog_1_method_12_code, 5, none, none, 7, 110)
def xm_39 : xm_T := (⟨"NoisyCodes", "flip", "(I)V"⟩, prog_1_method_21_code, 2, none, none, 0, 0)
def xm_40 : xm_T := (⟨"NoisyCodes", "noise", "(II)I"⟩, prog_1_method_13_code, 7, (some .int), none, 7, 109)
def xm_41 : xm_T := (⟨"NoisyCodes", "syndrome", "(II)I"⟩, prog_1_method_14_code, 3, (some .int), none, 7, 110)
def xm_42 : xm_T := (⟨"NoisyCodes$BlockCode", "valueAtPower", "(II)I"⟩, prog_2_method_6_code, 5, (some .int), none, 1, 21)
def xm_43 : xm_T := (⟨"NoisyCodes", "decode", "(I)I"⟩, prog_1_method_15_code, 3, (some .int), none, 7, 154)
def xm_44 : xm_T := (⟨"NoisyCodes", "mend", "([II)I"⟩, prog_1_method_23_code, 6, (some .int), none, 5, 129)
def xm_45 : xm_T := (⟨"NoisyCodes$Mender", "nearestCodeword", "(LNoisyCodes$BlockCode;II)I"⟩, prog_6_method_2_code, 6, (some .int), none, 4, 104)
def xm_46 : xm_T := (⟨"NoisyCodes$BlockCode", "isCodeword", "(I)Z"⟩, prog_2_method_5_code, 2, (some .boolean), none, 1, 23)
def xm_47 : xm_T := (⟨"NoisyCodes$Division", "locate", "(LNoisyCodes$Field;[II[I)V"⟩, prog_3_method_2_code, 11, none, none, 3, 74)
def xm_48 : xm_T := (⟨"NoisyCodes$Division", "fillRows", "([II)V"⟩, prog_3_method_3_code, 3, none, none, 1, 40)
def xm_49 : xm_T := (⟨"NoisyCodes$Division", "degreeOf", "([I)I"⟩, prog_3_method_5_code, 3, (some .int), none, 0, 0)
def xm_50 : xm_T := (⟨"NoisyCodes$Division", "divide", "(LNoisyCodes$Field;[I[I[I[I)V"⟩, prog_3_method_4_code, 8, none, none, 2, 47)
def xm_51 : xm_T := (⟨"NoisyCodes$Field", "quotient", "(II)I"⟩, prog_4_method_8_code, 3, (some .int), none, 0, 0)
def xm_52 : xm_T := (⟨"NoisyCodes$Way", "addShifted", "(LNoisyCodes$Field;[I[III)V"⟩, prog_8_method_3_code, 6, none, none, 1, 22)
def xm_53 : xm_T := (⟨"NoisyCodes$Formulas", "locate", "(LNoisyCodes$Field;[II[I)V"⟩, prog_5_method_2_code, 8, none, none, 1, 22)
def xm_54 : xm_T := (⟨"NoisyCodes$ShiftRegister", "locate", "(LNoisyCodes$Field;[II[I)V"⟩, prog_7_method_2_code, 10, none, none, 2, 48)
def xm_55 : xm_T := (⟨"NoisyCodes$ShiftRegister", "gapAt", "(LNoisyCodes$Field;II[I[I)I"⟩, prog_7_method_3_code, 7, (some .int), none, 1, 22)
def xm_56 : xm_T := (⟨"NoisyCodes$Mender", "placesOfErrors", "(LNoisyCodes$Field;)I"⟩, prog_6_method_3_code, 4, (some .int), none, 2, 46)
def xm_57 : xm_T := (⟨"NoisyCodes$Mender", "locatorAtPower", "(LNoisyCodes$Field;I)I"⟩, prog_6_method_4_code, 5, (some .int), none, 1, 22)
def xm_58 : xm_T := (⟨"NoisyCodes", "takeMended", "()V"⟩, prog_1_method_24_code, 2, none, none, 1, 21)
def xm_59 : xm_T := (⟨"NoisyCodes$BlockCode", "messageOf", "(I)I"⟩, prog_2_method_4_code, 2, (some .int), none, 0, 0)
def xm_60 : xm_T := (⟨"NoisyCodes", "save", "(I)V"⟩, prog_1_method_16_code, 2, none, none, 7, 110)
def xm_61 : xm_T := (⟨"NoisyCodes", "load", "(I)I"⟩, prog_1_method_17_code, 3, (some .int), none, 7, 154)
def xm_62 : xm_T := (⟨"NoisyCodesModel", "<init>", "()V"⟩, prog_10_method_1_code, 1, none, none, 1, 20)
def xm_63 : xm_T := (⟨"NoisyCodesModel", "thrown", "()I"⟩, prog_10_method_2_code, 1, (some .int), none, 0, 0)
def xm_64 : xm_T := (⟨"NoisyCodesModel", "begin", "(III)I"⟩, prog_10_method_10_code, 7, (some .int), none, 3, 73)
def xm_65 : xm_T := (⟨"NoisyCodesModel", "within", "(III)Z"⟩, prog_10_method_3_code, 3, (some .boolean), none, 0, 0)
def xm_66 : xm_T := (⟨"NoisyCodesModel", "isPrimitive", "(II)Z"⟩, prog_10_method_6_code, 4, (some .boolean), none, 1, 26)
def xm_67 : xm_T := (⟨"NoisyCodesModel", "product", "(IIII)I"⟩, prog_10_method_4_code, 7, (some .int), none, 0, 0)
def xm_68 : xm_T := (⟨"NoisyCodesModel", "makeGenerator", "()V"⟩, prog_10_method_8_code, 5, none, none, 2, 49)
def xm_69 : xm_T := (⟨"NoisyCodesModel", "isZero", "(I)Z"⟩, prog_10_method_7_code, 5, (some .boolean), none, 1, 22)
def xm_70 : xm_T := (⟨"NoisyCodesModel", "powerOf", "(I)I"⟩, prog_10_method_5_code, 4, (some .int), none, 1, 26)
def xm_71 : xm_T := (⟨"NoisyCodesModel", "length", "()I"⟩, prog_10_method_11_code, 1, (some .int), none, 0, 0)
def xm_72 : xm_T := (⟨"NoisyCodesModel", "generator", "()I"⟩, prog_10_method_12_code, 1, (some .int), none, 0, 0)
def xm_73 : xm_T := (⟨"NoisyCodesModel", "power", "(I)I"⟩, prog_10_method_13_code, 2, (some .int), none, 2, 49)
def xm_74 : xm_T := (⟨"NoisyCodesModel", "log", "(I)I"⟩, prog_10_method_14_code, 3, (some .int), none, 2, 49)
def xm_75 : xm_T := (⟨"NoisyCodesModel", "times", "(II)I"⟩, prog_10_method_15_code, 3, (some .int), none, 1, 26)
def xm_76 : xm_T := (⟨"NoisyCodesModel", "put", "(II)V"⟩, prog_10_method_18_code, 5, none, none, 1, 22)
def xm_77 : xm_T := (⟨"NoisyCodesModel", "messageBits", "()I"⟩, prog_10_method_16_code, 1, (some .int), none, 0, 0)
def xm_78 : xm_T := (⟨"NoisyCodesModel", "get", "(I)I"⟩, prog_10_method_19_code, 2, (some .int), none, 1, 22)
def xm_79 : xm_T := (⟨"NoisyCodesModel", "encode", "()I"⟩, prog_10_method_21_code, 4, (some .int), none, 1, 23)
def xm_80 : xm_T := (⟨"NoisyCodesModel", "remainder", "(I)I"⟩, prog_10_method_9_code, 4, (some .int), none, 0, 0)
def xm_81 : xm_T := (⟨"NoisyCodesModel", "ones", "(I)I"⟩, prog_10_method_20_code, 3, (some .int), none, 0, 0)
def xm_82 : xm_T := (⟨"NoisyCodesModel", "bit", "(I)I"⟩, prog_10_method_22_code, 2, (some .int), none, 1, 22)
def xm_83 : xm_T := (⟨"NoisyCodesModel", "channelBits", "()I"⟩, prog_10_method_17_code, 1, (some .int), none, 0, 0)
def xm_84 : xm_T := (⟨"NoisyCodesModel", "burst", "(II)V"⟩, prog_10_method_24_code, 5, none, none, 1, 22)
def xm_85 : xm_T := (⟨"NoisyCodesModel", "flip", "(I)V"⟩, prog_10_method_23_code, 2, none, none, 0, 0)
def xm_86 : xm_T := (⟨"NoisyCodesModel", "noise", "(II)I"⟩, prog_10_method_25_code, 6, (some .int), none, 1, 22)
def xm_87 : xm_T := (⟨"NoisyCodesModel", "syndrome", "(II)I"⟩, prog_10_method_26_code, 5, (some .int), none, 2, 49)
def xm_88 : xm_T := (⟨"NoisyCodesModel", "decode", "(I)I"⟩, prog_10_method_30_code, 3, (some .int), none, 3, 73)
def xm_89 : xm_T := (⟨"NoisyCodesModel", "mend", "(I)I"⟩, prog_10_method_28_code, 6, (some .int), none, 2, 48)
def xm_90 : xm_T := (⟨"NoisyCodesModel", "errorsOf", "(I)I"⟩, prog_10_method_27_code, 6, (some .int), none, 1, 23)
def xm_91 : xm_T := (⟨"NoisyCodesModel", "take", "()V"⟩, prog_10_method_29_code, 2, none, none, 0, 0)
def xm_92 : xm_T := (⟨"NoisyCodesModel", "save", "(I)V"⟩, prog_10_method_31_code, 3, none, none, 1, 22)
def xm_93 : xm_T := (⟨"NoisyCodesModel", "load", "(I)I"⟩, prog_10_method_32_code, 4, (some .int), none, 3, 73)
def xm_94 : xm_T := (⟨"NoisyCodesLaw", "begin", "(LNoisyCodes;III[J)I"⟩, method_3_code, 6, (some .int), (some [(0, 12, 15, 13), (0, 12, 19, 15)]), 7, 112)
def xm_95 : xm_T := (⟨"NoisyCodesLaw", "length", "(LNoisyCodes;[J)I"⟩, method_4_code, 3, (some .int), (some [(0, 8, 11, 21)]), 8, 129)
def xm_96 : xm_T := (⟨"NoisyCodesLaw", "generator", "(LNoisyCodes;[J)I"⟩, method_5_code, 3, (some .int), (some [(0, 8, 11, 21)]), 8, 129)
def xm_97 : xm_T := (⟨"NoisyCodesLaw", "power", "(LNoisyCodes;I[J)I"⟩, method_6_code, 4, (some .int), (some [(0, 9, 12, 21), (0, 9, 15, 13)]), 8, 130)
def xm_98 : xm_T := (⟨"NoisyCodesLaw", "log", "(LNoisyCodes;I[J)I"⟩, method_7_code, 4, (some .int), (some [(0, 9, 12, 21), (0, 9, 15, 13)]), 8, 130)
def xm_99 : xm_T := (⟨"NoisyCodesLaw", "times", "(LNoisyCodes;II[J)I"⟩, method_8_code, 5, (some .int), (some [(0, 10, 13, 21), (0, 10, 17, 13)]), 8, 131)
def xm_100 : xm_T := (⟨"NoisyCodesLaw", "put", "(LNoisyCodes;II)I"⟩, method_9_code, 4, (some .int), (some [(0, 6, 9, 21), (0, 6, 12, 41), (0, 6, 15, 13)]), 8, 134)
def xm_101 : xm_T := (⟨"NoisyCodesLaw", "get", "(LNoisyCodes;I[J)I"⟩, method_10_code, 4, (some .int), (some [(0, 9, 12, 21), (0, 9, 15, 41)]), 8, 131)
def xm_102 : xm_T := (⟨"NoisyCodesLaw", "encode", "(LNoisyCodes;[J)I"⟩, method_11_code, 3, (some .int), (some [(0, 8, 11, 21)]), 8, 131)
def xm_103 : xm_T := (⟨"NoisyCodesLaw", "bit", "(LNoisyCodes;I[J)I"⟩, method_12_code, 4, (some .int), (some [(0, 9, 12, 21), (0, 9, 15, 41)]), 8, 131)
def xm_104 : xm_T := (⟨"NoisyCodesLaw", "burst", "(LNoisyCodes;II)I"⟩, method_13_code, 4, (some .int), (some [(0, 6, 9, 21), (0, 6, 12, 41), (0, 6, 15, 13)]), 8, 134)
def xm_105 : xm_T := (⟨"NoisyCodesLaw", "noise", "(LNoisyCodes;II[J)I"⟩, method_14_code, 5, (some .int), (some [(0, 10, 13, 21), (0, 10, 17, 13)]), 8, 135)
def xm_106 : xm_T := (⟨"NoisyCodesLaw", "syndrome", "(LNoisyCodes;II[J)I"⟩, method_15_code, 5, (some .int), (some [(0, 10, 13, 21), (0, 10, 17, 41)]), 8, 132)
def xm_107 : xm_T := (⟨"NoisyCodesLaw", "decode", "(LNoisyCodes;I[J)I"⟩, method_16_code, 4, (some .int), (some [(0, 9, 12, 21), (0, 9, 15, 13), (0, 9, 18, 15)]), 8, 176)
def xm_108 : xm_T := (⟨"NoisyCodesLaw", "save", "(LNoisyCodes;I)I"⟩, method_17_code, 3, (some .int), (some [(0, 5, 8, 21), (0, 5, 11, 41)]), 8, 131)
def xm_109 : xm_T := (⟨"NoisyCodesLaw", "load", "(LNoisyCodes;I[J)I"⟩, method_18_code, 4, (some .int), (some [(0, 9, 12, 21), (0, 9, 15, 41), (0, 9, 18, 15)]), 8, 176)
def xm_110 : xm_T := (⟨"NoisyCodesLaw", "law", "([I)Z"⟩, code, 7, (some .boolean), none, 9, 199)
def xm_tab : List xm_T := [xm_0, xm_1, xm_2, xm_3, xm_4, xm_5, xm_6, xm_7, xm_8, xm_9, xm_10, xm_11, xm_12, xm_13, xm_14, xm_15, xm_16, xm_17, xm_18, xm_19, xm_20, xm_21, xm_22, xm_23, xm_24, xm_25, xm_26, xm_27, xm_28, xm_29, xm_30, xm_31, xm_32, xm_33, xm_34, xm_35, xm_36, xm_37, xm_38, xm_39, xm_40, xm_41, xm_42, xm_43, xm_44, xm_45, xm_46, xm_47, xm_48, xm_49, xm_50, xm_51, xm_52, xm_53, xm_54, xm_55, xm_56, xm_57, xm_58, xm_59, xm_60, xm_61, xm_62, xm_63, xm_64, xm_65, xm_66, xm_67, xm_68, xm_69, xm_70, xm_71, xm_72, xm_73, xm_74, xm_75, xm_76, xm_77, xm_78, xm_79, xm_80, xm_81, xm_82, xm_83, xm_84, xm_85, xm_86, xm_87, xm_88, xm_89, xm_90, xm_91, xm_92, xm_93, xm_94, xm_95, xm_96, xm_97, xm_98, xm_99, xm_100, xm_101, xm_102, xm_103, xm_104, xm_105, xm_106, xm_107, xm_108, xm_109, xm_110]
-- the method that is called by the names of subclasses
def xi_up : Nat := 52
-- the class number of each method (99: no objects of it)
def xc_tab : List Nat := [0, 1, 2, 3, 4, 99, 5, 6, 0, 2, 2, 2, 2, 2, 1, 1, 1, 99, 2, 1, 2, 99, 0, 0, 0, 0, 0, 0, 2, 0, 0, 0, 0, 0, 1, 1, 0, 0, 0, 0, 0, 0, 1, 0, 0, 3, 1, 6, 6, 6, 6, 2, 99, 4, 5, 5, 3, 3, 0, 1, 0, 0, 7, 7, 7, 7, 7, 7, 7, 7, 7, 7, 7, 7, 7, 7, 7, 7, 7, 7, 7, 7, 7, 7, 7, 7, 7, 7, 7, 7, 7, 7, 7, 7, 99, 99, 99, 99, 99, 99, 99, 99, 99, 99, 99, 99, 99, 99, 99, 99, 99]
def xi_vt (a ci : Nat) : Option Nat := bif a == 900 then (match ci with
  | 4 => some 53
  | 5 => some 54
  | 6 => some 47
  | _ => none) else bif xc_tab.getD a 99 == ci then some a else none
def xt_0 : xi_M := (xr_0, [], 0)
def xt_1 : xi_M := (xr_1, [], 0)
def xt_2 : xi_M := (xr_2, [], 0)
def xt_3 : xi_M := (xr_3, [], 0)
def xt_4 : xi_M := (xr_4, [], 0)
def xt_5 : xi_M := (xr_5, [], 0)
def xt_6 : xi_M := (xr_6, [], 0)
def xt_7 : xi_M := (xr_7, [], 0)
def xt_8 : xi_M := (xr_8, [], 1)
def xt_9 : xi_M := (xr_9, [], 2)
def xt_10 : xi_M := (xr_10, [], 2)
def xt_11 : xi_M := (xr_11, [], 1)
def xt_12 : xi_M := (xr_12, [], 1)
def xt_13 : xi_M := (xr_13, [], 0)
def xt_14 : xi_M := (xr_14, [], 0)
def xt_15 : xi_M := (xr_15, [], 1)
def xt_16 : xi_M := (xr_16, [], 1)
def xt_17 : xi_M := (xr_17, [], 0)
def xt_18 : xi_M := (xr_18, [], 1)
def xt_19 : xi_M := (xr_19, [], 0)
def xt_20 : xi_M := (xr_20, [], 1)
def xt_21 : xi_M := (xr_21, [], 1)
def xt_22 : xi_M := (xr_22, [], 0)
def xt_23 : xi_M := (xr_23, [], 1)
def xt_24 : xi_M := (xr_24, [], 0)
def xt_25 : xi_M := (xr_25, [], 1)
def xt_26 : xi_M := (xr_26, [], 1)
def xt_27 : xi_M := (xr_27, [], 1)
def xt_28 : xi_M := (xr_28, [], 2)
def xt_29 : xi_M := (xr_29, [], 1)
def xt_30 : xi_M := (xr_30, [], 0)
def xt_31 : xi_M := (xr_31, [], 0)
def xt_32 : xi_M := (xr_32, [], 1)
def xt_33 : xi_M := (xr_33, [], 1)
def xt_34 : xi_M := (xr_34, [], 1)
def xt_35 : xi_M := (xr_35, [], 1)
def xt_36 : xi_M := (xr_36, [], 1)
def xt_37 : xi_M := (xr_37, [], 1)
def xt_38 : xi_M := (xr_38, [], 0)
def xt_39 : xi_M := (xr_39, [], 0)
def xt_40 : xi_M := (xr_40, [], 1)
def xt_41 : xi_M := (xr_41, [], 1)
def xt_42 : xi_M := (xr_42, [], 1)
def xt_43 : xi_M := (xr_43, [], 1)
def xt_44 : xi_M := (xr_44, [], 1)
def xt_45 : xi_M := (xr_45, [], 1)
def xt_46 : xi_M := (xr_46, [], 2)
def xt_47 : xi_M := (xr_47, [], 0)
def xt_48 : xi_M := (xr_48, [], 0)
def xt_49 : xi_M := (xr_49, [], 1)
def xt_50 : xi_M := (xr_50, [], 0)
def xt_51 : xi_M := (xr_51, [], 1)
def xt_52 : xi_M := (xr_52, [], 0)
def xt_53 : xi_M := (xr_53, [], 0)
def xt_54 : xi_M := (xr_54, [], 0)
def xt_55 : xi_M := (xr_55, [], 1)
def xt_56 : xi_M := (xr_56, [], 1)
def xt_57 : xi_M := (xr_57, [], 1)
def xt_58 : xi_M := (xr_58, [], 0)
def xt_59 : xi_M := (xr_59, [], 1)
def xt_60 : xi_M := (xr_60, [], 0)
def xt_61 : xi_M := (xr_61, [], 1)
def xt_62 : xi_M := (xr_62, [], 0)
def xt_63 : xi_M := (xr_63, [], 1)
def xt_64 : xi_M := (xr_64, [], 1)
def xt_65 : xi_M := (xr_65, [], 2)
def xt_66 : xi_M := (xr_66, [], 2)
def xt_67 : xi_M := (xr_67, [], 1)
def xt_68 : xi_M := (xr_68, [], 0)
def xt_69 : xi_M := (xr_69, [], 2)
def xt_70 : xi_M := (xr_70, [], 1)
def xt_71 : xi_M := (xr_71, [], 1)
def xt_72 : xi_M := (xr_72, [], 1)
def xt_73 : xi_M := (xr_73, [], 1)
def xt_74 : xi_M := (xr_74, [], 1)
def xt_75 : xi_M := (xr_75, [], 1)
def xt_76 : xi_M := (xr_76, [], 0)
def xt_77 : xi_M := (xr_77, [], 1)
def xt_78 : xi_M := (xr_78, [], 1)
def xt_79 : xi_M := (xr_79, [], 1)
def xt_80 : xi_M := (xr_80, [], 1)
def xt_81 : xi_M := (xr_81, [], 1)
def xt_82 : xi_M := (xr_82, [], 1)
def xt_83 : xi_M := (xr_83, [], 1)
def xt_84 : xi_M := (xr_84, [], 0)
def xt_85 : xi_M := (xr_85, [], 0)
def xt_86 : xi_M := (xr_86, [], 1)
def xt_87 : xi_M := (xr_87, [], 1)
def xt_88 : xi_M := (xr_88, [], 1)
def xt_89 : xi_M := (xr_89, [], 1)
def xt_90 : xi_M := (xr_90, [], 1)
def xt_91 : xi_M := (xr_91, [], 0)
def xt_92 : xi_M := (xr_92, [], 0)
def xt_93 : xi_M := (xr_93, [], 1)
def xt_94 : xi_M := (xr_94, [(0, 12, 15, [1]), (0, 12, 19, [3])], 1)
def xt_95 : xi_M := (xr_95, [(0, 8, 11, [0])], 1)
def xt_96 : xi_M := (xr_96, [(0, 8, 11, [0])], 1)
def xt_97 : xi_M := (xr_97, [(0, 9, 12, [0]), (0, 9, 15, [1])], 1)
def xt_98 : xi_M := (xr_98, [(0, 9, 12, [0]), (0, 9, 15, [1])], 1)
def xt_99 : xi_M := (xr_99, [(0, 10, 13, [0]), (0, 10, 17, [1])], 1)
def xt_100 : xi_M := (xr_100, [(0, 6, 9, [0]), (0, 6, 12, [2]), (0, 6, 15, [1])], 1)
def xt_101 : xi_M := (xr_101, [(0, 9, 12, [0]), (0, 9, 15, [2])], 1)
def xt_102 : xi_M := (xr_102, [(0, 8, 11, [0])], 1)
def xt_103 : xi_M := (xr_103, [(0, 9, 12, [0]), (0, 9, 15, [2])], 1)
def xt_104 : xi_M := (xr_104, [(0, 6, 9, [0]), (0, 6, 12, [2]), (0, 6, 15, [1])], 1)
def xt_105 : xi_M := (xr_105, [(0, 10, 13, [0]), (0, 10, 17, [1])], 1)
def xt_106 : xi_M := (xr_106, [(0, 10, 13, [0]), (0, 10, 17, [2])], 1)
def xt_107 : xi_M := (xr_107, [(0, 9, 12, [0]), (0, 9, 15, [1]), (0, 9, 18, [3])], 1)
def xt_108 : xi_M := (xr_108, [(0, 5, 8, [0]), (0, 5, 11, [2])], 1)
def xt_109 : xi_M := (xr_109, [(0, 9, 12, [0]), (0, 9, 15, [2]), (0, 9, 18, [3])], 1)
def xt_110 : xi_M := (xr_110, [], 2)
def xt_tab : List xi_M := [xt_0, xt_1, xt_2, xt_3, xt_4, xt_5, xt_6, xt_7, xt_8, xt_9, xt_10, xt_11, xt_12, xt_13, xt_14, xt_15, xt_16, xt_17, xt_18, xt_19, xt_20, xt_21, xt_22, xt_23, xt_24, xt_25, xt_26, xt_27, xt_28, xt_29, xt_30, xt_31, xt_32, xt_33, xt_34, xt_35, xt_36, xt_37, xt_38, xt_39, xt_40, xt_41, xt_42, xt_43, xt_44, xt_45, xt_46, xt_47, xt_48, xt_49, xt_50, xt_51, xt_52, xt_53, xt_54, xt_55, xt_56, xt_57, xt_58, xt_59, xt_60, xt_61, xt_62, xt_63, xt_64, xt_65, xt_66, xt_67, xt_68, xt_69, xt_70, xt_71, xt_72, xt_73, xt_74, xt_75, xt_76, xt_77, xt_78, xt_79, xt_80, xt_81, xt_82, xt_83, xt_84, xt_85, xt_86, xt_87, xt_88, xt_89, xt_90, xt_91, xt_92, xt_93, xt_94, xt_95, xt_96, xt_97, xt_98, xt_99, xt_100, xt_101, xt_102, xt_103, xt_104, xt_105, xt_106, xt_107, xt_108, xt_109, xt_110]
-- how many parameters each method has
def xl_tab : List Nat := [1, 1, 1, 1, 1, 1, 1, 1, 4, 1, 4, 1, 3, 4, 3, 6, 4, 4, 2, 3, 3, 1, 2, 1, 1, 1, 2, 2, 2, 3, 5, 2, 2, 3, 3, 4, 2, 1, 5, 2, 7, 3, 5, 3, 6, 6, 2, 11, 3, 3, 8, 3, 6, 8, 10, 7, 4, 5, 2, 2, 2, 3, 1, 1, 7, 3, 4, 7, 5, 5, 4, 1, 1, 2, 3, 3, 5, 1, 2, 4, 4, 3, 2, 1, 5, 2, 6, 5, 3, 6, 6, 2, 3, 4, 6, 3, 3, 4, 4, 5, 4, 4, 3, 4, 4, 5, 5, 4, 3, 4, 7]
def xn_tab : List Nat := [0, 0, 0, 0, 0, 0, 0, 0, 3, 1, 1, 1, 2, 1, 1, 1, 1, 2, 1, 1, 2, 1, 0, 0, 0, 0, 1, 1, 1, 2, 2, 2, 1, 0, 1, 1, 1, 0, 2, 1, 2, 2, 2, 1, 2, 3, 1, 4, 2, 1, 5, 2, 5, 4, 4, 5, 1, 2, 0, 1, 1, 1, 0, 0, 3, 3, 2, 4, 0, 1, 1, 0, 0, 1, 1, 2, 2, 0, 1, 0, 1, 1, 1, 0, 2, 1, 2, 2, 1, 1, 1, 0, 1, 1, 5, 2, 2, 3, 3, 4, 3, 3, 2, 3, 3, 4, 4, 3, 2, 3, 1]
-- the places of the classes' words
def xk_cp : List Nat := [175, 177, 179, 181, 183, 185, 187, 189, 191, 45, 25, 91, 93, 95, 97, 99, 101, 53, 26, 71, 73, 75, 59, 27, 157, 159, 161, 105, 28, 113, 30, 130, 132, 123, 31, 145, 147, 149, 151, 136, 32, 610, 612, 614, 616, 618, 620, 622, 624, 626, 628, 630, 632, 634, 636, 638, 590, 33]
end
section
/-! Runs of the little machine, goal first. DRAFT until it has compiled once. -/
def xi_rok (k : Nat) (v : Option Value) : Bool := match k, v with
  | 0, none => true
  | 1, some (.int _) => true
  | 2, some (.int x) => decide (x = 0) || decide (x = 1)
  | _, _ => false
abbrev xi_Rel : Type := Nat → List Value → List xi_C → xi_O → List xi_C → Nat → Nat → Prop
-- may the callee of this row throw
def xi_mayx (r : xi_R) : Bool := match r.1 with
  | .invokestatic _ => !(r.2.1 == xi_up)
  | .invokevirtual _ => decide (r.2.1 < 900)
  | _ => false
def xi_go (ks : List xi_K) (vt : Nat → Nat → Option Nat) (mt : xi_M) (C : xi_Rel) (K N : Nat) (Q : xi_O → List xi_C → Prop) : Nat → Nat → Nat → xi_S → Prop
  | 0, _, _, _ => False
  | f + 1, k, n, s => ∃ r, mt.1[s.1]? = some (some r) ∧
      ((∃ t dk dn, xi_pure ks r s = some (t, dk, dn) ∧ k + dk ≤ K ∧ n + dn ≤ N ∧ xi_go ks vt mt C K N Q f (k + dk) (n + dn) t)
      ∨ (∃ v, xi_ret r.1 s.2.2.1 = some v ∧ xi_rok mt.2.2 v = true ∧ k ≤ K ∧ n ≤ N ∧ Q (.inl v) s.2.2.2)
      ∨ (∃ x, xi_thr mt.1 s.1 r = some x ∧ mt.2.1 = [] ∧ (s.2.2.1.map fun v => v.category).sum ≤ 8 ∧ k + 1 ≤ K ∧ n + 6 ≤ N ∧ Q (.inr x) s.2.2.2)
      ∨ (∃ y as rest o h dk dn, xi_inv vt r s.2.2.1 s.2.2.2 = some (y, as, rest) ∧ (rest.map fun v => v.category).sum ≤ 8 ∧ C y as s.2.2.2 o h dk dn ∧ k + dk ≤ K ∧ n + dn ≤ N
          ∧ (s.2.2.2.length = h.length ∨ xi_wf s.2.1 rest s.2.2.2 = true) ∧ (xi_mayx r = true ∨ ∃ v, o = .inl v)
          ∧ match o with
            | .inl v => xi_go ks vt mt C K N Q f (k + dk) (n + dn) (s.1 + 3, s.2.1, v.toList ++ rest, h)
            | .inr x => match xi_hdl mt.2.1 s.1 x with
              | none => Q (.inr x) h
              | some w => ∃ pc ls, xi_cat mt.1 w s.2.1 = some (pc, ls) ∧ xi_go ks vt mt C K N Q f (k + dk) (n + dn) (pc, ls, [], h)))
-- the call of method y at depth d
def xi_at : Nat → xi_Rel
  | 0 => fun _ _ _ _ _ _ _ => False
  | d + 1 => fun y as h o h2 K N => ∃ mt, xt_tab[y]? = some mt ∧ (as.map fun v => v.category).sum ≤ xl_tab.getD y 0 ∧ ∃ f, xi_go xi_ks xi_vt mt (xi_at d) K N (fun o1 h1 => o1 = o ∧ h1 = h2) f 0 0 (0, lv_args 0 as, [], h)
def xi_E (ks : List xi_K) (vt : Nat → Nat → Option Nat) (mt : xi_M) (C : xi_Rel) (K N : Nat) (Q : xi_O → List xi_C → Prop) (k n : Nat) (s : xi_S) : Prop := ∃ f, xi_go ks vt mt C K N Q f k n s
-- so many pure steps that make nothing
def xi_run (ks : List xi_K) (rows : List (Option xi_R)) : Nat → xi_S → Option xi_S
  | 0, s => some s
  | j + 1, s => match rows[s.1]? with
    | some (some r) => match xi_pure ks r s with
      | some (t, 0, 0) => xi_run ks rows j t
      | _ => none
    | _ => none
section XE
variable {ks : List xi_K} {vt : Nat → Nat → Option Nat} {mt : xi_M} {C : xi_Rel} {K N : Nat} {Q : xi_O → List xi_C → Prop} {k n : Nat}
theorem xi_E.run (hk : k ≤ K) (hn : n ≤ N) : ∀ (j : Nat) {s t : xi_S}, xi_run ks mt.1 j s = some t → xi_E ks vt mt C K N Q k n t → xi_E ks vt mt C K N Q k n s := by
  intro j
  induction j with
  | zero =>
    intro s t h e
    cases h
    exact e
  | succ j ih =>
    intro s t h e
    unfold xi_run at h
    split at h
    · rename_i r hr
      split at h
      · rename_i u hu
        obtain ⟨f, hf⟩ := ih h e
        exact ⟨f + 1, r, hr, Or.inl ⟨u, 0, 0, hu, hk, hn, hf⟩⟩
      · cases h
    · cases h
-- one step of any kind of pure
theorem xi_E.one {s t : xi_S} {r : xi_R} {dk dn : Nat} (hr : mt.1[s.1]? = some (some r)) (hp : xi_pure ks r s = some (t, dk, dn)) (hk : k + dk ≤ K) (hn : n + dn ≤ N) (e : xi_E ks vt mt C K N Q (k + dk) (n + dn) t) : xi_E ks vt mt C K N Q k n s := by
  obtain ⟨f, e⟩ := e
  exact ⟨f + 1, r, hr, Or.inl ⟨t, dk, dn, hp, hk, hn, e⟩⟩
-- a pure step to a pc that hangs on a Bool
theorem xi_E.brn (hk : k ≤ K) (hn : n ≤ N) {s : xi_S} {r : xi_R} {b : Bool} {x y : Nat} {ls : xi_L} {st : List Value} {h : List xi_C}
    (hr : mt.1[s.1]? = some (some r)) (hp : xi_pure ks r s = some ((bif b then x else y, ls, st, h), 0, 0))
    (ht : b = true → xi_E ks vt mt C K N Q k n (x, ls, st, h)) (hf : b = false → xi_E ks vt mt C K N Q k n (y, ls, st, h)) : xi_E ks vt mt C K N Q k n s := by
  cases b with
  | true => exact xi_E.one (dk := 0) (dn := 0) hr hp hk hn (ht rfl)
  | false => exact xi_E.one (dk := 0) (dn := 0) hr hp hk hn (hf rfl)
theorem xi_E.ret {s : xi_S} {r : xi_R} {v : Option Value} (hk : k ≤ K) (hn : n ≤ N) (hr : mt.1[s.1]? = some (some r)) (hv : xi_ret r.1 s.2.2.1 = some v) (ho : xi_rok mt.2.2 v = true) (hq : Q (.inl v) s.2.2.2) : xi_E ks vt mt C K N Q k n s :=
  ⟨1, r, hr, Or.inr (Or.inl ⟨v, hv, ho, hk, hn, hq⟩)⟩
theorem xi_E.thr {s : xi_S} {r : xi_R} {x : Nat} (hr : mt.1[s.1]? = some (some r)) (hx : xi_thr mt.1 s.1 r = some x) (h0 : mt.2.1 = []) (hw : (s.2.2.1.map fun v => v.category).sum ≤ 8) (hk : k + 1 ≤ K) (hn : n + 6 ≤ N) (hq : Q (.inr x) s.2.2.2) : xi_E ks vt mt C K N Q k n s :=
  ⟨1, r, hr, Or.inr (Or.inr (Or.inl ⟨x, hx, h0, hw, hk, hn, hq⟩))⟩
theorem xi_E.call {dk dn : Nat} {s : xi_S} {r : xi_R} {y : Nat} {as rest : List Value} {v : Option Value} {h : List xi_C}
    (hr : mt.1[s.1]? = some (some r)) (hi : xi_inv vt r s.2.2.1 s.2.2.2 = some (y, as, rest)) (hw : (rest.map fun v => v.category).sum ≤ 8) (hc : C y as s.2.2.2 (.inl v) h dk dn) (hk : k + dk ≤ K) (hn : n + dn ≤ N) (hl : s.2.2.2.length = h.length ∨ xi_wf s.2.1 rest s.2.2.2 = true)
    (e : xi_E ks vt mt C K N Q (k + dk) (n + dn) (s.1 + 3, s.2.1, v.toList ++ rest, h)) : xi_E ks vt mt C K N Q k n s := by
  obtain ⟨f, e⟩ := e
  exact ⟨f + 1, r, hr, Or.inr (Or.inr (Or.inr ⟨y, as, rest, .inl v, h, dk, dn, hi, hw, hc, hk, hn, hl, Or.inr ⟨v, rfl⟩, e⟩))⟩
-- a call that throws, not taken here
theorem xi_E.callX {dk dn : Nat} {s : xi_S} {r : xi_R} {y x : Nat} {as rest : List Value} {h : List xi_C}
    (hr : mt.1[s.1]? = some (some r)) (hi : xi_inv vt r s.2.2.1 s.2.2.2 = some (y, as, rest)) (hw : (rest.map fun v => v.category).sum ≤ 8) (hc : C y as s.2.2.2 (.inr x) h dk dn) (hk : k + dk ≤ K) (hn : n + dn ≤ N) (hl : s.2.2.2.length = h.length ∨ xi_wf s.2.1 rest s.2.2.2 = true)
    (hm : xi_mayx r = true) (h0 : xi_hdl mt.2.1 s.1 x = none) (hq : Q (.inr x) h) : xi_E ks vt mt C K N Q k n s :=
  ⟨1, r, hr, Or.inr (Or.inr (Or.inr ⟨y, as, rest, .inr x, h, dk, dn, hi, hw, hc, hk, hn, hl, Or.inl hm, by
    show (match xi_hdl mt.2.1 s.1 x with
      | none => Q (.inr x) h
      | some w => _)
    rw [h0]
    exact hq⟩))⟩
-- a call that throws, taken by a handler
theorem xi_E.callC {dk dn : Nat} {s : xi_S} {r : xi_R} {y x w pc : Nat} {as rest : List Value} {h : List xi_C} {ls : xi_L}
    (hr : mt.1[s.1]? = some (some r)) (hi : xi_inv vt r s.2.2.1 s.2.2.2 = some (y, as, rest)) (hw : (rest.map fun v => v.category).sum ≤ 8) (hc : C y as s.2.2.2 (.inr x) h dk dn) (hk : k + dk ≤ K) (hn : n + dn ≤ N) (hl : s.2.2.2.length = h.length ∨ xi_wf s.2.1 rest s.2.2.2 = true)
    (hm : xi_mayx r = true) (h0 : xi_hdl mt.2.1 s.1 x = some w) (h1 : xi_cat mt.1 w s.2.1 = some (pc, ls)) (e : xi_E ks vt mt C K N Q (k + dk) (n + dn) (pc, ls, [], h)) : xi_E ks vt mt C K N Q k n s := by
  obtain ⟨f, e⟩ := e
  refine ⟨f + 1, r, hr, Or.inr (Or.inr (Or.inr ⟨y, as, rest, .inr x, h, dk, dn, hi, hw, hc, hk, hn, hl, Or.inl hm, ?_⟩))⟩
  show (match xi_hdl mt.2.1 s.1 x with
    | none => Q (.inr x) h
    | some w => _)
  rw [h0]
  exact ⟨pc, ls, h1, e⟩
end XE
-- more depth, more bounds do no harm
theorem xi_go.mono {ks : List xi_K} {vt : Nat → Nat → Option Nat} {mt : xi_M} {C C' : xi_Rel} {K N : Nat} {Q Q' : xi_O → List xi_C → Prop} (hC : ∀ y as h o h2 dk dn, C y as h o h2 dk dn → C' y as h o h2 dk dn) (hQ : ∀ o h, Q o h → Q' o h) :
    ∀ (f k n : Nat) (s : xi_S), xi_go ks vt mt C K N Q f k n s → xi_go ks vt mt C' K N Q' f k n s := by
  intro f
  induction f with
  | zero => intro k n s h; exact h.elim
  | succ f ih =>
    intro k n s h
    obtain ⟨r, hr, h⟩ := h
    refine ⟨r, hr, ?_⟩
    rcases h with ⟨t, dk, dn, h1, h2, h3, h4⟩ | ⟨v, h1, h2, h3, h4, h5⟩ | ⟨x, h1, h2, h3, h4, h5, h6⟩ | ⟨y, as, rest, o, h, dk, dn, h1, h2, h3, h4, h5, h6, h6b, h7⟩
    · exact Or.inl ⟨t, dk, dn, h1, h2, h3, ih _ _ _ h4⟩
    · exact Or.inr (Or.inl ⟨v, h1, h2, h3, h4, hQ _ _ h5⟩)
    · exact Or.inr (Or.inr (Or.inl ⟨x, h1, h2, h3, h4, h5, hQ _ _ h6⟩))
    · refine Or.inr (Or.inr (Or.inr ⟨y, as, rest, o, h, dk, dn, h1, h2, hC _ _ _ _ _ _ _ h3, h4, h5, h6, h6b, ?_⟩))
      cases o with
      | inl v => exact ih _ _ _ h7
      | inr x =>
        dsimp only at h7 ⊢
        split at h7
        · exact hQ _ _ h7
        · obtain ⟨pc, ls, q1, q2⟩ := h7
          exact ⟨pc, ls, q1, ih _ _ _ q2⟩
theorem xi_at.up : ∀ (d : Nat) {y : Nat} {as : List Value} {h : List xi_C} {o : xi_O} {h2 : List xi_C} {K N : Nat}, xi_at d y as h o h2 K N → xi_at (d + 1) y as h o h2 K N := by
  intro d
  induction d with
  | zero => intro y as h o h2 K N e; exact e.elim
  | succ d ih =>
    intro y as h o h2 K N e
    obtain ⟨mt, h1, h2, f, e⟩ := e
    exact ⟨mt, h1, h2, f, xi_go.mono (fun _ _ _ _ _ _ _ => ih) (fun _ _ q => q) f 0 0 _ e⟩
end
section
/-! The little machine as a function: closed runs by the kernel. DRAFT until it has compiled once. -/
def xi_isl (o : xi_O) : Bool := match o with
  | .inl _ => true
  | .inr _ => false
def xi_exec : Nat → xi_M → Nat → Nat → xi_S → Option (xi_O × List xi_C × Nat × Nat)
  | 0, _, _, _, _ => none
  | f + 1, mt, k, n, s => match mt.1[s.1]? with
    | some (some r) => match xi_pure xi_ks r s with
      | some q => xi_exec f mt (k + q.2.1) (n + q.2.2) q.1
      | none => match xi_ret r.1 s.2.2.1 with
        | some v => bif xi_rok mt.2.2 v then some (.inl v, s.2.2.2, k, n) else none
        | none => match xi_thr mt.1 s.1 r with
          | some x => bif mt.2.1.isEmpty && decide ((s.2.2.1.map fun v => v.category).sum ≤ 8) then some (.inr x, s.2.2.2, k + 1, n + 6) else none
          | none => match xi_inv xi_vt r s.2.2.1 s.2.2.2 with
            | some c => match xt_tab[c.1]? with
              | some mc => bif decide ((c.2.1.map fun v => v.category).sum ≤ xl_tab.getD c.1 0) && decide ((c.2.2.map fun v => v.category).sum ≤ 8) then (match xi_exec f mc 0 0 (0, lv_args 0 c.2.1, [], s.2.2.2) with
                | some w => bif (s.2.2.2.length == w.2.1.length || xi_wf s.2.1 c.2.2 s.2.2.2) && (xi_mayx r || xi_isl w.1) then (match w.1 with
                  | .inl v => xi_exec f mt (k + w.2.2.1) (n + w.2.2.2) (s.1 + 3, s.2.1, v.toList ++ c.2.2, w.2.1)
                  | .inr x => match xi_hdl mt.2.1 s.1 x with
                    | none => some (.inr x, w.2.1, k + w.2.2.1, n + w.2.2.2)
                    | some at9 => match xi_cat mt.1 at9 s.2.1 with
                      | some z => xi_exec f mt (k + w.2.2.1) (n + w.2.2.2) (z.1, z.2, [], w.2.1)
                      | none => none) else none
                | none => none) else none
              | none => none
            | none => none
    | _ => none
theorem xi_go.wide {ks : List xi_K} {vt : Nat → Nat → Option Nat} {mt : xi_M} {C : xi_Rel} {K N K' N' : Nat} {Q : xi_O → List xi_C → Prop} (hK : K ≤ K') (hN : N ≤ N') :
    ∀ (f k n : Nat) (s : xi_S), xi_go ks vt mt C K N Q f k n s → xi_go ks vt mt C K' N' Q f k n s := by
  intro f
  induction f with
  | zero => intro k n s h; exact h.elim
  | succ f ih =>
    intro k n s h
    obtain ⟨r, hr, h⟩ := h
    refine ⟨r, hr, ?_⟩
    rcases h with ⟨t, dk, dn, h1, h2, h3, h4⟩ | ⟨v, h1, h2, h3, h4, h5⟩ | ⟨x, h1, h2, h3, h4, h5, h6⟩ | ⟨y, as, rest, o, h, dk, dn, h1, h2, h3, h4, h5, h6, h6b, h7⟩
    · exact Or.inl ⟨t, dk, dn, h1, Nat.le_trans h2 hK, Nat.le_trans h3 hN, ih _ _ _ h4⟩
    · exact Or.inr (Or.inl ⟨v, h1, h2, Nat.le_trans h3 hK, Nat.le_trans h4 hN, h5⟩)
    · exact Or.inr (Or.inr (Or.inl ⟨x, h1, h2, h3, Nat.le_trans h4 hK, Nat.le_trans h5 hN, h6⟩))
    · refine Or.inr (Or.inr (Or.inr ⟨y, as, rest, o, h, dk, dn, h1, h2, h3, Nat.le_trans h4 hK, Nat.le_trans h5 hN, h6, h6b, ?_⟩))
      cases o with
      | inl v => exact ih _ _ _ h7
      | inr x =>
        dsimp only at h7 ⊢
        split at h7
        · exact h7
        · obtain ⟨pc, ls, q1, q2⟩ := h7
          exact ⟨pc, ls, q1, ih _ _ _ q2⟩
theorem xi_at.wide {d y : Nat} {as : List Value} {h : List xi_C} {o : xi_O} {h2 : List xi_C} {K N K' N' : Nat} (e : xi_at d y as h o h2 K N) (hK : K ≤ K') (hN : N ≤ N') : xi_at d y as h o h2 K' N' := by
  cases d with
  | zero => exact e.elim
  | succ d =>
    obtain ⟨mt, h1, h3, f, e⟩ := e
    exact ⟨mt, h1, h3, f, xi_go.wide hK hN f 0 0 _ e⟩
theorem xi_at.le {d d' y : Nat} {as : List Value} {h : List xi_C} {o : xi_O} {h2 : List xi_C} {K N : Nat} (e : xi_at d y as h o h2 K N) (hd : d ≤ d') : xi_at d' y as h o h2 K N := by
  induction hd with
  | refl => exact e
  | step _ ih => exact xi_at.up _ ih
theorem xi_exec_ok : ∀ (f : Nat) (mt : xi_M) (k n : Nat) (s : xi_S) (o : xi_O) (h2 : List xi_C) (k' n' : Nat), xi_exec f mt k n s = some (o, h2, k', n') → ∀ d, f ≤ d → k ≤ k' ∧ n ≤ n' ∧ ∀ K N, k' ≤ K → n' ≤ N → xi_go xi_ks xi_vt mt (xi_at d) K N (fun o1 h1 => o1 = o ∧ h1 = h2) f k n s := by
  intro f
  induction f with
  | zero => intro mt k n s o h2 k' n' h; cases h
  | succ f ih =>
    intro mt k n s o h2 k' n' h d hd
    unfold xi_exec at h
    split at h
    · rename_i r hr
      split at h
      · rename_i q hp
        obtain ⟨t, dk, dn⟩ := q
        obtain ⟨g1, g2, g3⟩ := ih mt _ _ _ _ _ _ _ h d (by omega)
        dsimp only at g1 g2 g3
        refine ⟨by omega, by omega, fun K N hK hN => ?_⟩
        exact ⟨r, hr, Or.inl ⟨t, dk, dn, hp, by omega, by omega, g3 K N hK hN⟩⟩
      · split at h
        · rename_i v hv
          cases hro : xi_rok mt.2.2 v with
          | false => rw [hro] at h; cases h
          | true =>
            rw [hro] at h
            cases h
            exact ⟨Nat.le_refl _, Nat.le_refl _, fun K N hK hN => ⟨r, hr, Or.inr (Or.inl ⟨v, hv, hro, hK, hN, rfl, rfl⟩)⟩⟩
        · split at h
          · rename_i x hx
            cases hc : (mt.2.1.isEmpty && decide ((s.2.2.1.map fun v => v.category).sum ≤ 8)) with
            | false => rw [hc] at h; cases h
            | true =>
              rw [hc] at h
              cases h
              obtain ⟨c1, c2⟩ := Bool.and_eq_true_iff.mp hc
              exact ⟨by omega, by omega, fun K N hK hN => ⟨r, hr, Or.inr (Or.inr (Or.inl ⟨x, hx, List.isEmpty_iff.mp c1, of_decide_eq_true c2, hK, hN, rfl, rfl⟩))⟩⟩
          · split at h
            · rename_i c hi
              obtain ⟨y, as, rest⟩ := c
              dsimp only at h
              split at h
              · rename_i mc hmc
                cases hc : (decide ((as.map fun v => v.category).sum ≤ xl_tab.getD y 0) && decide ((rest.map fun v => v.category).sum ≤ 8)) with
                | false => rw [hc] at h; cases h
                | true =>
                  rw [hc] at h
                  simp only [cond_true] at h
                  obtain ⟨c1, c2⟩ := Bool.and_eq_true_iff.mp hc
                  split at h
                  · rename_i w hw
                    obtain ⟨o9, h9, dk, dn⟩ := w
                    dsimp only at h
                    cases hb : ((s.2.2.2.length == h9.length || xi_wf s.2.1 rest s.2.2.2) && (xi_mayx r || xi_isl o9)) with
                    | false => rw [hb] at h; cases h
                    | true =>
                      rw [hb] at h
                      simp only [cond_true] at h
                      obtain ⟨b1, b2⟩ := Bool.and_eq_true_iff.mp hb
                      have b1 : s.2.2.2.length = h9.length ∨ xi_wf s.2.1 rest s.2.2.2 = true := by
                        rcases Bool.or_eq_true_iff.mp b1 with z | z
                        · exact Or.inl (by simpa using z)
                        · exact Or.inr z
                      have b2 : xi_mayx r = true ∨ ∃ v, o9 = .inl v := by
                        rcases Bool.or_eq_true_iff.mp b2 with z | z
                        · exact Or.inl z
                        · cases o9 with
                          | inl v => exact Or.inr ⟨v, rfl⟩
                          | inr x => cases z
                      obtain ⟨d, rfl⟩ : ∃ d9, d = d9 + 1 := ⟨d - 1, by omega⟩
                      obtain ⟨-, -, gc⟩ := ih mc 0 0 _ _ _ _ _ hw d (by omega)
                      have hat : xi_at (d + 1) y as s.2.2.2 o9 h9 dk dn := ⟨mc, hmc, of_decide_eq_true c1, f, gc dk dn (Nat.le_refl _) (Nat.le_refl _)⟩
                      cases o9 with
                      | inl v =>
                        dsimp only at h
                        obtain ⟨g1, g2, g3⟩ := ih mt _ _ _ _ _ _ _ h (d + 1) (by omega)
                        refine ⟨by omega, by omega, fun K N hK hN => ⟨r, hr, Or.inr (Or.inr (Or.inr ⟨y, as, rest, .inl v, h9, dk, dn, hi, of_decide_eq_true c2, hat, by omega, by omega, b1, b2, g3 K N hK hN⟩))⟩⟩
                      | inr x =>
                        dsimp only at h
                        split at h
                        · rename_i hn
                          cases h
                          refine ⟨by omega, by omega, fun K N hK hN => ⟨r, hr, Or.inr (Or.inr (Or.inr ⟨y, as, rest, .inr x, _, dk, dn, hi, of_decide_eq_true c2, hat, hK, hN, b1, b2, ?_⟩))⟩⟩
                          dsimp only
                          rw [hn]
                          exact ⟨rfl, rfl⟩
                        · rename_i at9 hn
                          split at h
                          · rename_i z hz
                            obtain ⟨pc, ls⟩ := z
                            obtain ⟨g1, g2, g3⟩ := ih mt _ _ _ _ _ _ _ h (d + 1) (by omega)
                            refine ⟨by omega, by omega, fun K N hK hN => ⟨r, hr, Or.inr (Or.inr (Or.inr ⟨y, as, rest, .inr x, h9, dk, dn, hi, of_decide_eq_true c2, hat, by omega, by omega, b1, b2, ?_⟩))⟩⟩
                            dsimp only
                            rw [hn]
                            exact ⟨pc, ls, hz, g3 K N hK hN⟩
                          · cases h
                  · cases h
              · cases h
            · cases h
    · cases h
-- a call by its run
def xi_call (f y : Nat) (as : List Value) (h : List xi_C) : Option (xi_O × List xi_C × Nat × Nat) := match xt_tab[y]? with
  | some mt => bif decide ((as.map fun v => v.category).sum ≤ xl_tab.getD y 0) then xi_exec f mt 0 0 (0, lv_args 0 as, [], h) else none
  | none => none
theorem xi_call_ok {f y : Nat} {as : List Value} {h : List xi_C} {o : xi_O} {h2 : List xi_C} {k n : Nat} (e : xi_call f y as h = some (o, h2, k, n)) {d : Nat} (hd : f ≤ d) {K N : Nat} (hK : k ≤ K) (hN : n ≤ N) : xi_at (d + 1) y as h o h2 K N := by
  unfold xi_call at e
  split at e
  · rename_i mt hmt
    cases hc : decide ((as.map fun v => v.category).sum ≤ xl_tab.getD y 0) with
    | false => rw [hc] at e; cases e
    | true =>
      rw [hc] at e
      simp only [cond_true] at e
      exact ⟨mt, hmt, of_decide_eq_true hc, f, (xi_exec_ok f mt 0 0 _ o h2 k n e d hd).2.2 K N hK hN⟩
  · cases e
end
section
/-! Blocks: pure steps with their side conditions beside them. DRAFT until it has compiled once. -/
-- one pure step that makes nothing: the conditions, the next state
def xi_prc (r : xi_R) (s : xi_S) : Option (List Bool × xi_S) := match r.1, s.2.2.1 with
  | .iaload, .int j :: .ref q :: st => (match s.2.2.2[q]? with
    | some (.inl l) => some ([xi_in j l.length], (s.1 + 1, s.2.1, .int (l.getD j.toNatClampNeg 0) :: st, s.2.2.2))
    | _ => none)
  | .iastore, .int x :: .int j :: .ref (q + 1) :: st => (match s.2.2.2[q + 1]? with
    | some (.inl l) => some ([xi_in j l.length], (s.1 + 1, s.2.1, st, s.2.2.2.set (q + 1) (.inl (l.set j.toNatClampNeg x))))
    | _ => none)
  | .idiv, .int y :: .int x :: st => some ([!decide (y = 0)], (s.1 + 1, s.2.1, .int (x / y) :: st, s.2.2.2))
  | .irem, .int y :: .int x :: st => some ([!decide (y = 0)], (s.1 + 1, s.2.1, .int (x - x / y * y) :: st, s.2.2.2))
  | _, _ => match xi_pure xi_ks r s with
    | some (t, 0, 0) => some ([], t)
    | _ => none
def xi_runc (rows : List (Option xi_R)) : Nat → xi_S → Option (List Bool × xi_S)
  | 0, s => some ([], s)
  | j + 1, s => match rows[s.1]? with
    | some (some r) => match xi_prc r s with
      | some a => match xi_runc rows j a.2 with
        | some b => some (a.1 ++ b.1, b.2)
        | none => none
      | none => none
    | _ => none
theorem xi_prc_ok {r : xi_R} {s t : xi_S} {cs : List Bool} (h : xi_prc r s = some (cs, t)) (hc : cs.all id = true) : xi_pure xi_ks r s = some (t, 0, 0) := by
  obtain ⟨i, a, b, v⟩ := r
  obtain ⟨pc, ls, st, hp⟩ := s
  unfold xi_prc at h
  dsimp only at h
  split at h
  · rename_i j q st1
    split at h
    · rename_i l hq
      cases h
      have hin : xi_in j l.length = true := by simpa using hc
      simp [xi_pure, xi_lod, xi_brn, xi_rd, hq, hin, xi_len]
    · cases h
  · rename_i x j q st1
    split at h
    · rename_i l hq
      cases h
      have hin : xi_in j l.length = true := by simpa using hc
      simp [xi_pure, xi_lod, xi_brn, xi_rd, xi_str, xi_wr, hq, hin, xi_len]
    · cases h
  · rename_i y x st1
    cases h
    have hy : ¬ y = 0 := by simpa using hc
    simp [xi_pure, xi_lod, xi_brn, xi_rd, xi_str, xi_wr, xi_stk, xi_bin, hy, xi_len]
  · rename_i y x st1
    cases h
    have hy : ¬ y = 0 := by simpa using hc
    simp [xi_pure, xi_lod, xi_brn, xi_rd, xi_str, xi_wr, xi_stk, xi_bin, hy, xi_len]
  · split at h
    · rename_i t1 hp1
      cases h
      exact hp1
    · cases h
section XB
variable {vt : Nat → Nat → Option Nat} {mt : xi_M} {C : xi_Rel} {K N : Nat} {Q : xi_O → List xi_C → Prop} {k n : Nat}
theorem xi_E.runc (hk : k ≤ K) (hn : n ≤ N) : ∀ (j : Nat) {s t : xi_S} {cs : List Bool}, xi_runc mt.1 j s = some (cs, t) → cs.all id = true → xi_E xi_ks vt mt C K N Q k n t → xi_E xi_ks vt mt C K N Q k n s := by
  intro j
  induction j with
  | zero =>
    intro s t cs h hc e
    cases h
    exact e
  | succ j ih =>
    intro s t cs h hc e
    unfold xi_runc at h
    split at h
    · rename_i r hr
      split at h
      · rename_i a ha
        split at h
        · rename_i b hb
          cases h
          rw [List.all_append, Bool.and_eq_true] at hc
          exact xi_E.one (dk := 0) (dn := 0) hr (xi_prc_ok (cs := a.1) (t := a.2) ha hc.1) hk hn (ih hb hc.2 e)
        · cases h
      · cases h
    · cases h
theorem xi_E.bif {b : Bool} {x y : Nat} {ls : xi_L} {st : List Value} {h : List xi_C} (ht : b = true → xi_E xi_ks vt mt C K N Q k n (x, ls, st, h)) (hf : b = false → xi_E xi_ks vt mt C K N Q k n (y, ls, st, h)) : xi_E xi_ks vt mt C K N Q k n (bif b then x else y, ls, st, h) := by
  cases b with
  | true => exact ht rfl
  | false => exact hf rfl
end XB
-- a call of a method is a run from its start
theorem xi_at.of {d y : Nat} {mt : xi_M} {as : List Value} {h : List xi_C} {o : xi_O} {h2 : List xi_C} {K N : Nat} (hm : xt_tab[y]? = some mt) (hl : decide ((as.map fun v => v.category).sum ≤ xl_tab.getD y 0) = true) (e : xi_E xi_ks xi_vt mt (xi_at d) K N (fun o1 h1 => o1 = o ∧ h1 = h2) 0 0 (0, lv_args 0 as, [], h)) : xi_at (d + 1) y as h o h2 K N := by
  obtain ⟨f, e⟩ := e
  exact ⟨mt, hm, of_decide_eq_true hl, f, e⟩
end
section
/-! The little machine's places as addresses. DRAFT until it has compiled once. -/
def xi_em (as : List Nat) (v : Value) : Value := match v with
  | .ref i => .ref (as.getD i 0)
  | v => v
theorem xi_em_cat (as : List Nat) (v : Value) : (xi_em as v).category = v.category := by cases v <;> rfl
theorem xi_em_sum (as : List Nat) (st : List Value) : ((st.map (xi_em as)).map fun v => v.category).sum = (st.map fun v => v.category).sum := by
  rw [List.map_map]
  exact congrArg List.sum (List.map_congr_left (fun v _ => xi_em_cat as v))
def xi_el (as : List Nat) (lv : xi_L) : List (Nat × Value) := lv.map (fun q => (q.1, xi_em as q.2))
theorem xi_look_mem : ∀ {lv : xi_L} {i : Nat} {v : Value}, xi_look lv i = some v → (i, v) ∈ lv := by
  intro lv
  induction lv with
  | nil => intro i v h; cases h
  | cons q l ih =>
    intro i v h
    unfold xi_look at h
    cases hq : (q.1 == i) with
    | true =>
      rw [hq] at h
      have h1 : some q.2 = some v := h
      cases h1
      have h2 : q.1 = i := by simpa using hq
      subst h2
      exact List.mem_cons_self
    | false =>
      rw [hq] at h
      exact List.mem_cons_of_mem _ (ih h)
theorem xi_el_at {ls : Array Slot} {nL i : Nat} {as : List Nat} {lv : xi_L} {v : Value} (h : lv_has ls nL (xi_el as lv)) (hk : xi_look lv i = some v) : ls[i]? = some (.val (xi_em as v)) :=
  h.2.2 (i, xi_em as v) (List.mem_map.mpr ⟨(i, v), xi_look_mem hk, rfl⟩)
theorem xi_el_filter (as : List Nat) (lv : xi_L) (i : Nat) : xi_el as (lv.filter (xi_keep i)) = (xi_el as lv).filter (fun q => !(q.1 == i) && !(q.1 + 1 == i && q.2.category == 2)) := by
  unfold xi_el
  rw [List.filter_map]
  congr 1
  apply List.filter_congr
  intro q _
  simp [xi_keep, xi_em_cat]
theorem xi_el_sto (as : List Nat) (lv : xi_L) (i : Nat) (v : Value) : (i, xi_em as v) :: (xi_el as lv).filter (fun q => !(q.1 == i) && !(q.1 + 1 == i && q.2.category == 2)) = xi_el as (xi_sto lv i v) := by
  rw [← xi_el_filter]
  rfl
-- cells; cs: the class ids of int[], long[], Way[], int[][]
def xi_ea (cs : Nat → ClassId) (as : List Nat) (c : xi_C) : va_E := match c with
  | .inl l => .inl (cs 0, l.length, .inl (fun j => l.getD j 0))
  | .inr (.inl l) => .inl (cs 1, l.length, .inr (.inl (fun j => l.getD j 0)))
  | .inr (.inr (.inl (k, l))) => .inl (cs (k + 2), l.length, .inr (.inr (.inr (.inr (fun j => (l.getD j none).map (fun i => as.getD i 0))))))
  | .inr (.inr (.inr (ci, fs))) => .inr (ci, fs.map (xi_em as))
def xi_ws (cs : Nat → ClassId) (as : List Nat) (h : List xi_C) : va_W := ((as.zip h).drop 1).map (fun q => (q.1, xi_ea cs as q.2))
theorem xi_ws_get {cs : Nat → ClassId} {as : List Nat} {h : List xi_C} (q : Nat) : (xi_ws cs as h)[q]? = match as[q + 1]?, h[q + 1]? with
    | some a, some c => some (a, xi_ea cs as c)
    | _, _ => none := by
  unfold xi_ws
  rw [List.getElem?_map, List.getElem?_drop, Nat.add_comm 1 q]
  show Option.map _ (List.zipWith Prod.mk as h)[q + 1]? = _
  rw [List.getElem?_zipWith]
  cases as[q + 1]? <;> cases h[q + 1]? <;> rfl
theorem xi_ws_at {cs : Nat → ClassId} {as : List Nat} {h : List xi_C} {q a : Nat} {c : xi_C} (ha : as[q + 1]? = some a) (hc : h[q + 1]? = some c) : (xi_ws cs as h)[q]? = some (a, xi_ea cs as c) := by
  rw [xi_ws_get, ha, hc]
theorem xi_getD {as : List Nat} {i a : Nat} (h : as[i]? = some a) : as.getD i 0 = a := by
  rw [List.getD_eq_getElem?_getD, h]; rfl
-- a place that the heap has, the addresses have
theorem xi_addr {as : List Nat} {h : List xi_C} (hl : as.length = h.length) {q : Nat} {c : xi_C} (hc : h[q]? = some c) : ∃ a, as[q]? = some a := by
  have h1 := (List.getElem?_eq_some_iff.mp hc).1
  exact ⟨_, List.getElem?_eq_getElem (by omega)⟩
theorem xi_ws_set {cs : Nat → ClassId} {as : List Nat} {h : List xi_C} {q a : Nat} {c0 c : xi_C} (ha : as[q + 1]? = some a) (hc : h[q + 1]? = some c0) : xi_ws cs as (h.set (q + 1) c) = (xi_ws cs as h).set q (a, xi_ea cs as c) := by
  have hq := (List.getElem?_eq_some_iff.mp hc).1
  have hw : q < (xi_ws cs as h).length := (List.getElem?_eq_some_iff.mp (xi_ws_at (cs := cs) ha hc)).1
  apply List.ext_getElem?
  intro j
  rw [xi_ws_get]
  by_cases hj : j = q
  · subst hj
    rw [List.getElem?_set_self hq, ha, List.getElem?_set_self hw]
  · rw [List.getElem?_set_ne (by omega), List.getElem?_set_ne (by omega), xi_ws_get]
-- arrays written
theorem xi_upd (l : List Int32) (j : Nat) (x : Int32) (hj : j < l.length) : (fun i => (l.set j x).getD i 0) = upd (fun i => l.getD i 0) j x := by
  funext i
  unfold upd
  by_cases h : i = j
  · subst h
    rw [if_pos rfl, List.getD_eq_getElem?_getD, List.getElem?_set_self hj]
    rfl
  · rw [if_neg h]
    show (l.set j x).getD i 0 = l.getD i 0
    rw [List.getD_eq_getElem?_getD, List.getD_eq_getElem?_getD, List.getElem?_set_ne (Ne.symm h)]
theorem xi_updL (l : List Int64) (j : Nat) (x : Int64) (hj : j < l.length) : (fun i => (l.set j x).getD i 0) = vp_updL (fun i => l.getD i 0) j x := by
  funext i
  unfold vp_updL
  by_cases h : i = j
  · subst h
    rw [if_pos rfl, List.getD_eq_getElem?_getD, List.getElem?_set_self hj]
    rfl
  · rw [if_neg h]
    show (l.set j x).getD i 0 = l.getD i 0
    rw [List.getD_eq_getElem?_getD, List.getD_eq_getElem?_getD, List.getElem?_set_ne (Ne.symm h)]
-- the addresses grow: nothing that is well formed changes
theorem xi_em_app {as z : List Nat} {v : Value} (h : xi_wfv as.length v = true) : xi_em (as ++ z) v = xi_em as v := by
  cases v with
  | ref i =>
    have hi : i < as.length := by simpa [xi_wfv] using h
    show Value.ref ((as ++ z).getD i 0) = Value.ref (as.getD i 0)
    rw [List.getD_eq_getElem?_getD, List.getD_eq_getElem?_getD, List.getElem?_append_left hi]
  | _ => rfl
theorem xi_em_apps {as z : List Nat} {st : List Value} (h : st.all (xi_wfv as.length) = true) : st.map (xi_em (as ++ z)) = st.map (xi_em as) :=
  List.map_congr_left (fun v hv => xi_em_app (List.all_eq_true.mp h v hv))
theorem xi_el_app {as z : List Nat} {lv : xi_L} (h : lv.all (fun q => xi_wfv as.length q.2) = true) : xi_el (as ++ z) lv = xi_el as lv := by
  unfold xi_el
  apply List.map_congr_left
  intro q hq
  rw [xi_em_app (List.all_eq_true.mp h q hq)]
theorem xi_ea_app {cs : Nat → ClassId} {as z : List Nat} {c : xi_C} (h : xi_wfc as.length c = true) : xi_ea cs (as ++ z) c = xi_ea cs as c := by
  rcases c with l | l | ⟨k, l⟩ | ⟨ci, fs⟩
  · rfl
  · rfl
  · show (Sum.inl _ : va_E) = Sum.inl _
    have hf : (fun j => (l.getD j none).map (fun i => (as ++ z).getD i 0)) = (fun j => (l.getD j none).map (fun i => as.getD i 0)) := by
      funext j
      cases hj : l.getD j none with
      | none => rfl
      | some i =>
        have hm : some i ∈ l := by
          rw [List.getD_eq_getElem?_getD] at hj
          cases h9 : l[j]? with
          | none => rw [h9] at hj; cases hj
          | some w =>
            rw [h9] at hj
            have : w = some i := hj
            subst this
            exact List.mem_of_getElem? h9
        have hi : i < as.length := by simpa using List.all_eq_true.mp h (some i) hm
        show some ((as ++ z).getD i 0) = some (as.getD i 0)
        rw [List.getD_eq_getElem?_getD, List.getD_eq_getElem?_getD, List.getElem?_append_left hi]
    rw [hf]
  · show (Sum.inr (ci, fs.map (xi_em (as ++ z))) : va_E) = Sum.inr (ci, fs.map (xi_em as))
    rw [xi_em_apps h]
theorem xi_ws_push {cs : Nat → ClassId} {as z : List Nat} {h y : List xi_C} (hl : as.length = h.length) (h0 : 0 < h.length) (hw : h.all (xi_wfc h.length) = true) : xi_ws cs (as ++ z) (h ++ y) = xi_ws cs as h ++ (z.zip y).map (fun q => (q.1, xi_ea cs (as ++ z) q.2)) := by
  unfold xi_ws
  rw [List.zip_append hl, List.drop_append_of_le_length (by rw [List.length_zip, hl]; omega), List.map_append]
  congr 1
  apply List.map_congr_left
  intro q hq
  have hq2 : q.2 ∈ h := (List.of_mem_zip (List.mem_of_mem_drop hq)).2
  rw [xi_ea_app (by rw [hl]; exact List.all_eq_true.mp hw q.2 hq2)]
end
section
/-! One step of the little machine is a step of the machine: what doesn't touch the heap. DRAFT until it has compiled once. -/
section XS
variable {p : Program} {l : Launch} {e : Env} {R : Room} {s : State} {m : MethodId} {args : Array Value} {below : List Frame} {meth : Method} {c : Code} {H : Heap} {locs : List Loc} {cells slots : Nat} {Q : State → Prop}
variable {cc : ByteArray} {pc : Nat} {ls : Array Slot} {as : List Nat} {rest : List Value} {nL : Nat}
set_option maxHeartbeats 4000000 in
theorem xi_lod_ok (hx : p.tables.exec = Jvm.exec) (hb : c.code = cc) {i : Instr} {own : String} {lv : xi_L} {v : Int32} {w : Value} (hd : decode cc pc = .ok (i, xi_len i)) (hown : s.vm.findClass own = some m.cls)
    (hc : ∀ k, i = .ldc k ∨ i = .ldc_w k → (Jvm.Cond.constant own k v).before args s = true) (hl : lv_has ls nL (xi_el as lv)) (h : xi_lod i lv v = some w)
    (kk : W p l e R s m args below meth c H locs cells slots Q (F0 m (pc + xi_len i) ls (xi_em as w :: rest))) : W p l e R s m args below meth c H locs cells slots Q (F0 m pc ls rest) := by
  unfold xi_lod at h
  split at h
  · split at h
    · rename_i k _ x hk
      cases h
      exact lv_iload_n hx hb hd rfl (xi_el_at hl hk) kk
    · cases h
  · split at h
    · rename_i k _ x hk
      cases h
      exact lv_iload hx hb hd (xi_el_at hl hk) kk
    · cases h
  · split at h
    · rename_i k _ x hk
      cases h
      exact lv_aload_n hx hb hd rfl (xi_el_at hl hk) kk
    · cases h
  · split at h
    · rename_i k _ x hk
      cases h
      exact lv_aload hx hb hd (xi_el_at hl hk) kk
    · cases h
  · cases h
    exact lv_iconst hx hb hd rfl kk
  · cases h
    exact lv_bipush hx hb hd rfl kk
  · cases h
    exact lv_sipush hx hb hd rfl kk
  · rename_i k
    cases h
    exact lv_ldc hx hb hown (hc k (Or.inl rfl)) hd kk
  · rename_i k
    cases h
    exact lv_ldcw hx hb hown (hc k (Or.inr rfl)) hd kk
  · cases h
def xi_six (i : Instr) : Nat := match i with
  | .istore_n k => k.val
  | .istore k => k
  | .astore_n k => k.val
  | .astore k => k
  | .iinc k _ => k
  | _ => 0
set_option maxHeartbeats 4000000 in
theorem xi_str_ok (hx : p.tables.exec = Jvm.exec) (hb : c.code = cc) {i : Instr} {lv lv' : xi_L} {st st' : List Value} (hd : decode cc pc = .ok (i, xi_len i)) (hn : xi_six i < nL) (hl : lv_has ls nL (xi_el as lv)) (h : xi_str i lv st = some (lv', st'))
    (kk : ∀ ls' : Array Slot, lv_has ls' nL (xi_el as lv') → W p l e R s m args below meth c H locs cells slots Q (F0 m (pc + xi_len i) ls' (st'.map (xi_em as)))) : W p l e R s m args below meth c H locs cells slots Q (F0 m pc ls (st.map (xi_em as))) := by
  unfold xi_str at h
  split at h
  · split at h
    · rename_i k _ x st1
      cases h
      exact lv_istore_n hx hb hd rfl hl hn (xi_el_sto as lv k.val (.int x)) kk
    · cases h
  · split at h
    · rename_i k _ x st1
      cases h
      exact lv_istore hx hb hd hl hn (xi_el_sto as lv k (.int x)) kk
    · cases h
  · split at h
    · rename_i k _ x st1
      cases h
      exact lv_astore_n hx hb hd rfl hl hn (xi_el_sto as lv k.val (.ref x)) kk
    · cases h
  · split at h
    · rename_i k _ x st1
      cases h
      exact lv_astore hx hb hd hl hn (xi_el_sto as lv k (.ref x)) kk
    · cases h
  · split at h
    · rename_i k d _ x hk
      cases h
      obtain ⟨j, hj⟩ := List.getElem?_of_mem (List.mem_map.mpr ⟨(k, Value.int x), xi_look_mem hk, rfl⟩ : (k, xi_em as (.int x)) ∈ xi_el as lv)
      exact lv_iinc hx hb hd hl hj rfl hn (xi_el_sto as lv k (.int (x + Int32.ofInt d))) kk
    · cases h
  · cases h
set_option maxHeartbeats 4000000 in
theorem xi_bin_ok (hx : p.tables.exec = Jvm.exec) (hb : c.code = cc) {i : Instr} {x y z : Int32} (hd : decode cc pc = .ok (i, xi_len i)) (h : xi_bin i x y = some z)
    (kk : W p l e R s m args below meth c H locs cells slots Q (F0 m (pc + xi_len i) ls (.int z :: rest))) : W p l e R s m args below meth c H locs cells slots Q (F0 m pc ls (.int y :: .int x :: rest)) := by
  unfold xi_bin at h
  split at h
  · cases h; exact lv_iadd hx hb hd kk
  · cases h; exact lv_isub hx hb hd kk
  · cases h; exact lv_imul hx hb hd kk
  · cases h; exact lv_iand hx hb hd kk
  · cases h; exact lv_ior hx hb hd kk
  · cases h; exact lv_ixor hx hb hd kk
  · cases h; exact lv_ishl hx hb hd kk
  · cases h; exact lv_ishr hx hb hd kk
  · cases h; exact lv_iushr hx hb hd rfl kk
  · by_cases hy : y = 0
    · rw [decide_eq_true hy] at h; cases h
    · rw [decide_eq_false hy] at h; cases h; exact lv_idiv hx hb hd hy kk
  · by_cases hy : y = 0
    · rw [decide_eq_true hy] at h; cases h
    · rw [decide_eq_false hy] at h; cases h; exact lv_irem hx hb hd hy kk
  · cases h
set_option maxHeartbeats 4000000 in
theorem xi_stk_ok (hx : p.tables.exec = Jvm.exec) (hb : c.code = cc) {i : Instr} {st st' : List Value} (hd : decode cc pc = .ok (i, xi_len i)) (h : xi_stk i st = some st')
    (kk : W p l e R s m args below meth c H locs cells slots Q (F0 m (pc + xi_len i) ls (st'.map (xi_em as)))) : W p l e R s m args below meth c H locs cells slots Q (F0 m pc ls (st.map (xi_em as))) := by
  unfold xi_stk at h
  split at h
  · split at h
    · cases h; exact lv_dup hx hb hd rfl kk
    · cases h; exact lv_dup hx hb hd rfl kk
    · cases h
  · split at h
    · cases h; exact lv_dup2_11 hx hb hd rfl rfl kk
    · cases h
  · split at h
    · cases h; exact lv_i2l hx hb hd rfl kk
    · cases h
  · split at h
    · cases h; exact W.lcmp hx hb hd kk
    · cases h
  · split at h
    · rename_i y x st1
      obtain ⟨z, hz, h2⟩ := Option.map_eq_some_iff.mp h
      subst h2
      exact xi_bin_ok hx hb hd hz kk
    · cases h
def xi_off (i : Instr) : Int := match i with
  | .goto o => o
  | .ifCond _ o => o
  | .if_icmp _ o => o
  | _ => 0
def xi_isbr (i : Instr) : Bool := match i with
  | .goto _ => true
  | .ifCond _ _ => true
  | .if_icmp _ _ => true
  | _ => false
theorem xi_bt {b : Bool} {x y : Nat} {P : Nat → Prop} (h : b = true) (k : P (bif b then x else y)) : P x := by subst h; exact k
theorem xi_bf {b : Bool} {x y : Nat} {P : Nat → Prop} (h : b = false) (k : P (bif b then x else y)) : P y := by subst h; exact k
set_option maxHeartbeats 4000000 in
theorem xi_brn_ok (hx : p.tables.exec = Jvm.exec) (hb : c.code = cc) {i : Instr} {a pc' len : Nat} {st st' : List Value} (hd : decode cc pc = .ok (i, len)) (hlen : xi_isbr i = true → len = xi_len i) (ht : xi_isbr i = true → (pc : Int) + xi_off i = (a : Int)) (h : xi_brn i a pc st = some (pc', st'))
    (kk : W p l e R s m args below meth c H locs cells slots Q (F0 m pc' ls (st'.map (xi_em as)))) : W p l e R s m args below meth c H locs cells slots Q (F0 m pc ls (st.map (xi_em as))) := by
  unfold xi_brn at h
  split at h
  · cases h
    rw [hlen rfl] at hd
    exact lv_goto hx hb hd (ht rfl) kk
  · split at h
    · rename_i cd o _ x st1
      cases h
      rw [hlen rfl] at hd
      have kt : xi_cmp cd x 0 = true → W p l e R s m args below meth c H locs cells slots Q (F0 m a ls (st'.map (xi_em as))) := fun h9 => by rw [h9] at kk; exact kk
      have kf : xi_cmp cd x 0 = false → W p l e R s m args below meth c H locs cells slots Q (F0 m (pc + 3) ls (st'.map (xi_em as))) := fun h9 => by rw [h9] at kk; exact kk
      cases cd with
      | eq => exact lv_if_eq hx hb hd (ht rfl) (fun h => kt (decide_eq_true h)) (fun h => kf (decide_eq_false h))
      | ne => exact lv_if_ne hx hb hd (ht rfl) (fun h => kt (by simp [xi_cmp, h])) (fun h => kf (by simp [xi_cmp, h]))
      | lt => exact lv_if_lt hx hb hd (ht rfl) (fun h => kt (decide_eq_true h)) (fun h => kf (decide_eq_false h))
      | ge => exact lv_if_ge hx hb hd (ht rfl) (fun h => kt (decide_eq_true h)) (fun h => kf (decide_eq_false h))
      | gt => exact lv_if_gt hx hb hd (ht rfl) (fun h => kt (decide_eq_true h)) (fun h => kf (decide_eq_false h))
      | le => exact lv_if_le hx hb hd (ht rfl) (fun h => kt (decide_eq_true h)) (fun h => kf (decide_eq_false h))
    · cases h
  · split at h
    · rename_i cd o _ y x st1
      cases h
      rw [hlen rfl] at hd
      have kt : xi_cmp cd x y = true → W p l e R s m args below meth c H locs cells slots Q (F0 m a ls (st'.map (xi_em as))) := fun h9 => by rw [h9] at kk; exact kk
      have kf : xi_cmp cd x y = false → W p l e R s m args below meth c H locs cells slots Q (F0 m (pc + 3) ls (st'.map (xi_em as))) := fun h9 => by rw [h9] at kk; exact kk
      cases cd with
      | eq => exact lv_icmp_eq hx hb hd (ht rfl) (fun h => kt (decide_eq_true h)) (fun h => kf (decide_eq_false h))
      | ne => exact lv_icmp_ne hx hb hd (ht rfl) (fun h => kt (by simp [xi_cmp, h])) (fun h => kf (by simp [xi_cmp, h]))
      | lt => exact lv_icmp_lt hx hb hd (ht rfl) (fun h => kt (decide_eq_true h)) (fun h => kf (decide_eq_false h))
      | ge => exact lv_icmp_ge hx hb hd (ht rfl) (fun h => kt (decide_eq_true h)) (fun h => kf (decide_eq_false h))
      | gt => exact lv_icmp_gt hx hb hd (ht rfl) (fun h => kt (decide_eq_true h)) (fun h => kf (decide_eq_false h))
      | le => exact lv_icmp_le hx hb hd (ht rfl) (fun h => kt (decide_eq_true h)) (fun h => kf (decide_eq_false h))
    · cases h
  · split at h
    · rename_i d lo hi offs _ x st1
      by_cases h1 : x.toInt < lo
      · simp [h1] at h
      · by_cases h2 : hi < x.toInt
        · simp [h2] at h
        · simp only [h1, h2, decide_false, Bool.or_self, cond_false] at h
          split at h
          · rename_i o ho
            by_cases h3 : 0 ≤ (pc : Int) + o
            · simp only [h3, decide_true, cond_true, Option.some.injEq, Prod.mk.injEq] at h
              obtain ⟨rfl, rfl⟩ := h
              exact lv_tableIn hx hb hd h1 h2 ho (Int.toNat_of_nonneg h3).symm kk
            · simp [h3] at h
          · cases h
    · cases h
  · cases h
end XS
end
section
/-! One step of the little machine is a step of the machine: reads and writes of the heap. Behind the tables (xi_cl, xi_ks, xi_gw, xi_nw). DRAFT until it has compiled once. -/
-- the words that keep
def xi_gw : List Cond := lw_tbl.filter goodWord
theorem xi_has_in {w : Cond} (h : w ∈ xi_gw) : w ∈ xi_gw := h
-- words looked up by their places in the table: the kernel compares them
def xi_lk (ps : List Nat) : List Cond := ps.map (fun i => lw_tbl.getD i (.initialized ""))
def xi_lkn (ps : List Nat) : List Cond := ps.map (fun i => xi_nw.getD i (.initialized ""))
theorem xi_lw_len : lw_tbl.length = xi_lwn := by decide +kernel
theorem xi_lk_in {ps : List Nat} {ws : List Cond} (h : xi_lk ps = ws) (hp : ps.all (fun i => decide (i < xi_lwn)) = true) (hg : (xi_lk ps).all goodWord = true) : ∀ w ∈ ws, w ∈ xi_gw := fun w hw => by
  rw [← h] at hw
  have hg := List.all_eq_true.mp hg w hw
  obtain ⟨i, hi, rfl⟩ := List.mem_map.mp hw
  have hl : i < lw_tbl.length := by rw [xi_lw_len]; exact of_decide_eq_true (List.all_eq_true.mp hp i hi)
  refine List.mem_filter.mpr ⟨?_, hg⟩
  rw [List.getD_eq_getElem?_getD, List.getElem?_eq_getElem hl]
  exact List.getElem_mem hl
theorem xi_lkn_in {ps : List Nat} {ws : List Cond} (h : xi_lkn ps = ws) (hp : ps.all (fun i => decide (i < xi_nw.length)) = true) : ∀ w ∈ ws, w ∈ xi_nw := fun w hw => by
  rw [← h] at hw
  obtain ⟨i, hi, rfl⟩ := List.mem_map.mp hw
  have hl := of_decide_eq_true (List.all_eq_true.mp hp i hi)
  rw [List.getD_eq_getElem?_getD, List.getElem?_eq_getElem hl]
  exact List.getElem_mem hl
-- the classes: field words, types, names apart
def xi_clB (ci : Nat) : Bool := match xi_cl[ci]? with
  | some q => (List.range q.2.2).all (fun k => match (xi_ks.getD ci [])[k]? with
      | some z => decide (parseFieldDescriptor (q.2.1 k).2.2.1 = some z.1) && decide (z.2 = defaultValue z.1)
      | none => false) && (xi_ks.getD ci []).length == q.2.2 && (List.range q.2.2).all (fun a => (List.range q.2.2).all (fun b => a == b || decide ((q.2.1 a).2.1 ≠ (q.2.1 b).2.1)))
  | none => true
theorem xi_clB_all : (List.range xi_cl.length).all xi_clB = true := by decide +kernel
theorem xi_clW : xi_lk xk_cp = xi_cl.flatMap (fun q => u_ws q.1 q.2.1 q.2.2 ++ [.instantiable q.1 q.2.2, .initialized q.1]) := by decide +kernel
theorem xi_clOk : ∀ (ci : Nat) (q : vw_C), xi_cl[ci]? = some q → (∀ w ∈ u_ws q.1 q.2.1 q.2.2, w ∈ xi_gw) ∧ (∀ k, k < q.2.2 → ∃ ty v, (xi_ks.getD ci [])[k]? = some (ty, v) ∧ parseFieldDescriptor (q.2.1 k).2.2.1 = some ty ∧ v = defaultValue ty) ∧ (xi_ks.getD ci []).length = q.2.2 ∧ (∀ a, a < q.2.2 → ∀ b, b < q.2.2 → a ≠ b → (q.2.1 a).2.1 ≠ (q.2.1 b).2.1) ∧ Cond.instantiable q.1 q.2.2 ∈ xi_gw ∧ Cond.initialized q.1 ∈ xi_gw := by
  intro ci q h
  have hw : ∀ w ∈ u_ws q.1 q.2.1 q.2.2 ++ [.instantiable q.1 q.2.2, .initialized q.1], w ∈ xi_gw := fun w hw => xi_lk_in xi_clW (by decide +kernel) (by decide +kernel) w (List.mem_flatMap.mpr ⟨q, List.mem_of_getElem? h, hw⟩)
  have hB := List.all_eq_true.mp xi_clB_all ci (List.mem_range.mpr (List.getElem?_eq_some_iff.mp h).1)
  unfold xi_clB at hB
  rw [h] at hB
  dsimp only at hB
  obtain ⟨hB, b3⟩ := Bool.and_eq_true_iff.mp hB
  obtain ⟨b1, b2⟩ := Bool.and_eq_true_iff.mp hB
  refine ⟨fun w h9 => hw w (List.mem_append_left _ h9), fun k hk => ?_, by simpa using b2, fun a ha b hb hab => ?_, hw _ (List.mem_append_right _ List.mem_cons_self), hw _ (List.mem_append_right _ (List.mem_cons_of_mem _ List.mem_cons_self))⟩
  · have b1 := List.all_eq_true.mp b1 k (List.mem_range.mpr hk)
    split at b1
    · rename_i z hz
      obtain ⟨c1, c2⟩ := Bool.and_eq_true_iff.mp b1
      exact ⟨z.1, z.2, hz, of_decide_eq_true c1, of_decide_eq_true c2⟩
    · cases b1
  · have b3 := List.all_eq_true.mp (List.all_eq_true.mp b3 a (List.mem_range.mpr ha)) b (List.mem_range.mpr hb)
    rcases Bool.or_eq_true_iff.mp b3 with c1 | c1
    · exact absurd (by simpa using c1) hab
    · exact of_decide_eq_true c1
def xi_ty (cs : Nat → ClassId) : List (ClassId × FieldType) := [(cs 0, .int), (cs 1, .long), (cs 2, .object "NoisyCodes$Way"), (cs 3, .array .int)]
theorem xi_in_ok {i : Int32} {n : Nat} (h : xi_in i n = true) : vp_in i n ∧ i.toNatClampNeg < n := by
  unfold xi_in at h
  simp only [Bool.and_eq_true, Bool.not_eq_true', decide_eq_false_iff_not, decide_eq_true_eq] at h
  exact ⟨fun q => q.elim h.1 (fun z => by omega), h.2⟩
theorem xi_fit_ok {ty : FieldType} {v : Value} (as : List Nat) (h : xi_fit ty v = true) : narrow ty (xi_em as v) = xi_em as v ∧ fits ty (xi_em as v) = true := by
  unfold xi_fit at h
  split at h
  · exact ⟨rfl, rfl⟩
  · rename_i x
    rcases Bool.or_eq_true_iff.mp h with q | q
    · have q := of_decide_eq_true q
      subst q
      exact ⟨rfl, rfl⟩
    · have q := of_decide_eq_true q
      subst q
      exact ⟨rfl, rfl⟩
  · exact ⟨rfl, rfl⟩
  · exact ⟨rfl, rfl⟩
  · cases h
-- the world at the addresses as
def xi_Wd (D : va_G) (cs : Nat → ClassId) (b base : Nat) (X : List Int32) (A : Nat → Prop) (as : List Nat) (h : List xi_C) (H : Heap) : Prop :=
  as.length = h.length ∧ as[0]? = some b ∧ h[0]? = some (.inl X) ∧ (∀ a ∈ as.drop 1, base ≤ a) ∧ va_P D xi_cl (xi_ws cs as h) H ∧ va_D A (xi_ws cs as h)
-- what doesn't change while a method runs
def xi_Cx (p : Program) (s : State) (m : MethodId) (args : Array Value) (c : Code) (cc : ByteArray) (own : String) (D : va_G) (cs : Nat → ClassId) (b : Nat) (X : List Int32) (A : Nat → Prop) : Prop :=
  p.tables.exec = Jvm.exec ∧ c.code = cc ∧ s.vm.findClass own = some m.cls ∧ (∀ w ∈ xi_gw, w.before args s = true) ∧ (∀ w ∈ xi_nw, va_Nw w s) ∧ va_K D xi_cl (xi_ty cs) s ∧ va_X b X.length (fun j => X.getD j 0) s s.heap ∧ b < s.heap.size ∧ ¬ A b ∧ ∀ q, s.heap.size ≤ q → A q
def xi_okf (own : String) (k ci b : Nat) : Prop := ∃ q, xi_cl[ci]? = some q ∧ b < q.2.2 ∧ (Cond.fieldLink own k (q.2.1 b).1 (q.2.1 b).2.1 (q.2.1 b).2.2.1 ∈ xi_gw ∨ Cond.fieldLinkNest own k (q.2.1 b).1 (q.2.1 b).2.1 (q.2.1 b).2.2.1 "NoisyCodes" ∈ xi_nw)
def xi_okp (own nm : String) (k ci b : Nat) : Prop := ∃ q, xi_cl[ci]? = some q ∧ b < q.2.2 ∧ Cond.fieldLink own k (q.2.1 b).1 (q.2.1 b).2.1 (q.2.1 b).2.2.1 ∈ xi_gw ∧ ((q.2.1 b).2.2.2 = false ∨ ((q.2.1 b).1 = own ∧ nm = "<init>"))
section XH
variable {p : Program} {l : Launch} {e : Env} {R : Room} {s : State} {m : MethodId} {args : Array Value} {below : List Frame} {meth : Method} {c : Code} {H : Heap} {locs : List Loc} {cells slots : Nat} {Q : State → Prop}
variable {cc : ByteArray} {pc : Nat} {ls : Array Slot} {as : List Nat} {nL : Nat} {own : String} {D : va_G} {cs : Nat → ClassId} {b base : Nat} {X : List Int32} {A : Nat → Prop} {h : List xi_C}
set_option maxHeartbeats 4000000 in
theorem xi_rd_ok (C0 : xi_Cx p s m args c cc own D cs b X A) (hJ : xi_Wd D cs b base X A as h H) (hS : va_S A s.heap H locs) {i : Instr} {a1 b1 : Nat} {st st' : List Value} (hd : decode cc pc = .ok (i, xi_len i))
    (hk : ∀ k, i = .getfield k → xi_okf own k a1 b1) (h1 : xi_rd i a1 b1 st h = some st')
    (kk : W p l e R s m args below meth c H locs cells slots Q (F0 m (pc + xi_len i) ls (st'.map (xi_em as)))) : W p l e R s m args below meth c H locs cells slots Q (F0 m pc ls (st.map (xi_em as))) := by
  obtain ⟨hx, hb, hown, hts, hnw, hK, hX, hbl, hbA, hA⟩ := C0
  obtain ⟨hlen, ha0, hh0, hbase, hP, hD⟩ := hJ
  unfold xi_rd at h1
  split at h1
  -- iaload
  · split at h1
    · rename_i j q st1
      split at h1
      · rename_i lx hq
        cases hin : xi_in j lx.length with
        | false => rw [hin] at h1; cases h1
        | true =>
          rw [hin] at h1
          cases h1
          obtain ⟨hin1, hin2⟩ := xi_in_ok hin
          cases q with
          | zero =>
            cases hh0.symm.trans hq
            have e0 : as.getD 0 0 = b := xi_getD ha0
            show W p l e R s m args below meth c H locs cells slots Q (F0 m pc ls (.int j :: .ref (as.getD 0 0) :: st1.map (xi_em as)))
            rw [e0]
            exact va_sld hx hb hX hbl hbA hS hin1 hd kk
          | succ q =>
            obtain ⟨ad, had⟩ := xi_addr hlen hq
            show W p l e R s m args below meth c H locs cells slots Q (F0 m pc ls (.int j :: .ref (as.getD (q + 1) 0) :: st1.map (xi_em as)))
            rw [xi_getD had]
            exact va_iald hx hb hK hP q 0 (xi_ws_at had hq) rfl hin1 hd kk
      · cases h1
    · cases h1
  -- laload
  · split at h1
    · rename_i j q st1
      split at h1
      · rename_i lx hq
        cases hin : xi_in j lx.length with
        | false => rw [hin] at h1; cases h1
        | true =>
          rw [hin] at h1
          cases h1
          obtain ⟨hin1, hin2⟩ := xi_in_ok hin
          obtain ⟨ad, had⟩ := xi_addr hlen hq
          show W p l e R s m args below meth c H locs cells slots Q (F0 m pc ls (.int j :: .ref (as.getD (q + 1) 0) :: st1.map (xi_em as)))
          rw [xi_getD had]
          exact va_lald hx hb hK hP q 1 (xi_ws_at had hq) rfl hin1 hd kk
      · cases h1
    · cases h1
  -- aaload
  · split at h1
    · rename_i j q st1
      split at h1
      · rename_i kd lx hq
        cases hin : (decide (kd < 2) && xi_in j lx.length) with
        | false => rw [hin] at h1; cases h1
        | true =>
          rw [hin] at h1
          simp only [cond_true] at h1
          obtain ⟨hk2, hin⟩ := Bool.and_eq_true_iff.mp hin
          have hk2 := of_decide_eq_true hk2
          obtain ⟨hin1, hin2⟩ := xi_in_ok hin
          split at h1
          · rename_i y hy
            cases h1
            obtain ⟨ad, had⟩ := xi_addr hlen hq
            show W p l e R s m args below meth c H locs cells slots Q (F0 m pc ls (.int j :: .ref (as.getD (q + 1) 0) :: st1.map (xi_em as)))
            rw [xi_getD had]
            have hw := xi_ws_at (cs := cs) had hq
            have hcell := hP q _ hw
            have hty : ∃ ty, (xi_ty cs)[kd + 2]? = some (cs (kd + 2), ty) ∧ ty.isReference = true := by
              rcases (show kd = 0 ∨ kd = 1 by omega) with rfl | rfl
              · exact ⟨_, rfl, rfl⟩
              · exact ⟨_, rfl, rfl⟩
            obtain ⟨ty, ht1, ht2⟩ := hty
            have harr := (hK.2 (kd + 2) _ ht1).1
            exact W.aald hx hb (ty := ty) (cell := arrV (cs (kd + 2)) lx.length (fun j => va_rf ((lx.getD j none).map (fun i => as.getD i 0)))) hcell (harr _ _) ht2 (fun q9 => by cases q9)
              (by rw [show (arrV (cs (kd + 2)) lx.length (fun j => va_rf ((lx.getD j none).map (fun i => as.getD i 0)))).slots.size = lx.length by simp [arrV]]; exact hin1)
              (v := .ref (as.getD y 0)) (by
                rw [arrV_read _ _ hin2]
                show some (va_rf ((lx.getD j.toNatClampNeg none).map (fun i => as.getD i 0))) = _
                rw [hy]
                rfl) rfl rfl hd kk
          · cases h1
      · cases h1
    · cases h1
  -- arraylength
  · split at h1
    · rename_i q st1
      split at h1
      · rename_i lx hq
        cases h1
        cases q with
        | zero =>
          cases hh0.symm.trans hq
          have e0 : as.getD 0 0 = b := xi_getD ha0
          show W p l e R s m args below meth c H locs cells slots Q (F0 m pc ls (.ref (as.getD 0 0) :: st1.map (xi_em as)))
          rw [e0]
          exact va_slen hx hb hX hbl hbA hS hd kk
        | succ q =>
          obtain ⟨ad, had⟩ := xi_addr hlen hq
          show W p l e R s m args below meth c H locs cells slots Q (F0 m pc ls (.ref (as.getD (q + 1) 0) :: st1.map (xi_em as)))
          rw [xi_getD had]
          exact va_alen hx hb hK hP q 0 (xi_ws_at had hq) (ty := .int) rfl rfl hd kk
      · cases h1
    · cases h1
  -- getfield
  · rename_i k
    split at h1
    · rename_i q st1
      split at h1
      · rename_i ci fs hq
        cases hci : (ci == a1) with
        | false => rw [hci] at h1; cases h1
        | true =>
          rw [hci] at h1
          simp only [cond_true] at h1
          have hci : ci = a1 := by simpa using hci
          subst hci
          split at h1
          · rename_i v hv
            cases h1
            obtain ⟨ad, had⟩ := xi_addr hlen hq
            have hw := xi_ws_at (cs := cs) had hq
            have hvv : (fs.map (xi_em as))[b1]? = some (xi_em as v) := by rw [List.getElem?_map, hv]; rfl
            show W p l e R s m args below meth c H locs cells slots Q (F0 m pc ls (.ref (as.getD (q + 1) 0) :: st1.map (xi_em as)))
            rw [xi_getD had]
            obtain ⟨r, hr, hbn, hlk⟩ := hk k rfl
            have hin := (xi_clOk ci r hr).1
            rcases hlk with z | z
            · exact va_get hx hb hts hin hown hK hP q hw hr b1 hbn (hts _ z) (fun _ h9 => h9) hvv hd kk
            · exact va_getN hx hb hts hin hown hK hP q hw hr b1 hbn (va_Nw.use rfl (hnw _ z)) (fun _ h9 => h9) hvv hd kk
          · cases h1
      · cases h1
    · cases h1
  · cases h1

theorem xi_Wd.set (hJ : xi_Wd D cs b base X A as h H) {q ad : Nat} {c0 c1 : xi_C} {ev : va_E} {H1 : Heap} (had : as[q + 1]? = some ad) (hq : h[q + 1]? = some c0) (he : xi_ea cs as c1 = ev)
    (hP1 : va_P D xi_cl ((xi_ws cs as h).set q (ad, ev)) H1) (hD1 : va_D A ((xi_ws cs as h).set q (ad, ev))) : xi_Wd D cs b base X A as (h.set (q + 1) c1) H1 := by
  obtain ⟨hlen, ha0, hh0, hbase, hP, hD⟩ := hJ
  subst he
  exact ⟨by rw [List.length_set]; exact hlen, ha0, by rw [List.getElem?_set_ne (by omega)]; exact hh0, hbase, by rw [xi_ws_set had hq]; exact hP1, by rw [xi_ws_set had hq]; exact hD1⟩
theorem xi_cpy_len (l g : List Int32) (sp dp n : Nat) : (xi_cpy l g sp dp n).length = g.length := by simp [xi_cpy]
theorem xi_cpy_fun (l g : List Int32) (sp dp n : Nat) (h : dp + n ≤ g.length) : (fun j => (xi_cpy l g sp dp n).getD j 0) = va_cpy (fun j => l.getD j 0) (fun j => g.getD j 0) sp dp n := by
  funext j
  unfold va_cpy
  by_cases hj : j < g.length
  · rw [List.getD_eq_getElem?_getD, xi_cpy, List.getElem?_map, List.getElem?_range hj]
    by_cases h9 : dp ≤ j ∧ j < dp + n
    · rw [if_pos h9]
      simp [h9.1, h9.2]
    · rw [if_neg h9]
      have h8 : (decide (dp ≤ j) && decide (j < dp + n)) = false := by
        rw [Bool.and_eq_false_iff]
        by_cases h7 : dp ≤ j
        · exact Or.inr (decide_eq_false (fun z => h9 ⟨h7, z⟩))
        · exact Or.inl (decide_eq_false h7)
      simp [h8]
  · have h1 : (xi_cpy l g sp dp n)[j]? = none := List.getElem?_eq_none (by rw [xi_cpy_len]; omega)
    have h2 : g[j]? = none := List.getElem?_eq_none (by omega)
    rw [List.getD_eq_getElem?_getD, h1, if_neg (by omega)]
    show (0 : Int32) = g.getD j 0
    rw [List.getD_eq_getElem?_getD, h2]
    rfl
theorem xi_upR (as : List Nat) (l : List (Option Nat)) (j : Nat) (y : Nat) (hj : j < l.length) : (fun i => ((l.set j (some y)).getD i none).map (fun q => as.getD q 0)) = va_up (fun i => (l.getD i none).map (fun q => as.getD q 0)) j (some (as.getD y 0)) := by
  funext i
  unfold va_up
  by_cases h : i = j
  · subst h
    rw [if_pos rfl, List.getD_eq_getElem?_getD, List.getElem?_set_self hj]
    rfl
  · rw [if_neg h]
    show ((l.set j (some y)).getD i none).map (fun q => as.getD q 0) = (l.getD i none).map (fun q => as.getD q 0)
    rw [List.getD_eq_getElem?_getD, List.getD_eq_getElem?_getD, List.getElem?_set_ne (Ne.symm h)]
-- the words of Object.<init> and arraycopy
def xi_okw (own : String) (i : Instr) (a : Nat) : Prop := match i with
  | .invokespecial k => a = 1000 → (Cond.methodLink own k objectInit ∈ xi_gw ∧ Cond.instanceMethod objectInit ∈ xi_gw ∧ Cond.code objectInit ⟨#[0xb1]⟩ 1 none ∈ xi_gw)
  | .invokestatic k => a = 1001 → (Cond.methodLink own k arraycopyName ∈ xi_gw ∧ Cond.native arraycopyName ∈ xi_gw ∧ Cond.static arraycopyName ∈ xi_gw ∧ Cond.initialized "java/lang/System" ∈ xi_gw)
  | _ => True
-- room for them
def xi_okR (i : Instr) (a : Nat) (R : Room) : Prop := match i with
  | .invokespecial _ => a = 1000 → 1 ≤ R.frames ∧ 20 ≤ R.locals
  | .invokestatic _ => a = 1001 → 1 ≤ R.frames ∧ 8 + (nativeFrameWords "java/lang/System" "arraycopy" 5 + 11) ≤ R.locals
  | _ => True
set_option maxHeartbeats 4000000 in
theorem xi_wr_ok (C0 : xi_Cx p s m args c cc own D cs b X A) (hJ : xi_Wd D cs b base X A as h H) (hS : va_S A s.heap H locs) {nm : String} (hnm : meth.name = nm) (hls : ls.size = c.maxLocals) {i : Instr} {a1 b1 : Nat} {st st' : List Value} {h' : List xi_C} (hd : decode cc pc = .ok (i, xi_len i))
    (hk : ∀ k, i = .putfield k → xi_okp own nm k a1 b1) (hw : xi_okw own i a1) (hR : xi_okR i a1 R) (h1 : xi_wr xi_ks i a1 b1 st h = some (st', h'))
    (kk : ∀ (H1 : Heap) (locs1 : List Loc), xi_Wd D cs b base X A as h' H1 → va_S A s.heap H1 locs1 → W p l e R s m args below meth c H1 locs1 cells slots Q (F0 m (pc + xi_len i) ls (st'.map (xi_em as)))) : W p l e R s m args below meth c H locs cells slots Q (F0 m pc ls (st.map (xi_em as))) := by
  have hJ0 := hJ
  obtain ⟨hx, hb, hown, hts, hnw, hK, hX, hbl, hbA, hA⟩ := C0
  obtain ⟨hlen, ha0, hh0, hbase, hP, hD⟩ := hJ
  unfold xi_wr at h1
  split at h1
  -- iastore
  · split at h1
    · rename_i x j q st1
      split at h1
      · rename_i lx hq
        cases hin : xi_in j lx.length with
        | false => rw [hin] at h1; cases h1
        | true =>
          rw [hin] at h1
          cases h1
          obtain ⟨hin1, hin2⟩ := xi_in_ok hin
          obtain ⟨ad, had⟩ := xi_addr hlen hq
          show W p l e R s m args below meth c H locs cells slots Q (F0 m pc ls (.int x :: .int j :: .ref (as.getD (q + 1) 0) :: st'.map (xi_em as)))
          rw [xi_getD had]
          exact va_iast hx hb hK hP hD hS q 0 (xi_ws_at had hq) rfl hin1 hd (fun H1 locs1 hP1 hD1 hS1 => kk H1 locs1 (hJ0.set had hq (by
            show (Sum.inl (cs 0, (lx.set j.toNatClampNeg x).length, Sum.inl (fun i => (lx.set j.toNatClampNeg x).getD i 0)) : va_E) = _
            rw [xi_upd lx _ x hin2, List.length_set]) hP1 hD1) hS1)
      · cases h1
    · cases h1
  -- lastore
  · split at h1
    · rename_i x j q st1
      split at h1
      · rename_i lx hq
        cases hin : xi_in j lx.length with
        | false => rw [hin] at h1; cases h1
        | true =>
          rw [hin] at h1
          cases h1
          obtain ⟨hin1, hin2⟩ := xi_in_ok hin
          obtain ⟨ad, had⟩ := xi_addr hlen hq
          show W p l e R s m args below meth c H locs cells slots Q (F0 m pc ls (.long x :: .int j :: .ref (as.getD (q + 1) 0) :: st'.map (xi_em as)))
          rw [xi_getD had]
          exact va_last hx hb hK hP hD hS q 1 (xi_ws_at had hq) rfl hin1 hd (fun H1 locs1 hP1 hD1 hS1 => kk H1 locs1 (hJ0.set had hq (by
            show (Sum.inl (cs 1, (lx.set j.toNatClampNeg x).length, Sum.inr (Sum.inl (fun i => (lx.set j.toNatClampNeg x).getD i 0))) : va_E) = _
            rw [xi_updL lx _ x hin2, List.length_set]) hP1 hD1) hS1)
      · cases h1
    · cases h1
  -- aastore
  · split at h1
    · rename_i v j q st1
      split at h1
      · rename_i kd lx ci fs hq hv
        cases hin : (xi_in j lx.length && xi_asg kd ci) with
        | false => rw [hin] at h1; cases h1
        | true =>
          rw [hin] at h1
          cases h1
          obtain ⟨hin, has⟩ := Bool.and_eq_true_iff.mp hin
          obtain ⟨hin1, hin2⟩ := xi_in_ok hin
          obtain ⟨hkd, hci⟩ := Bool.and_eq_true_iff.mp has
          have hkd : kd = 0 := by simpa using hkd
          subst hkd
          obtain ⟨ad, had⟩ := xi_addr hlen hq
          obtain ⟨av, hav⟩ := xi_addr hlen hv
          show W p l e R s m args below meth c H locs cells slots Q (F0 m pc ls (.ref (as.getD (v + 1) 0) :: .int j :: .ref (as.getD (q + 1) 0) :: st'.map (xi_em as)))
          rw [xi_getD had, xi_getD hav]
          obtain ⟨r, hr, hca⟩ : ∃ r : vw_C, xi_cl[ci]? = some r ∧ va_Nw (.castable r.1 "NoisyCodes$Way") s := by
            rcases (show ci = 4 ∨ ci = 5 ∨ ci = 6 by simpa [or_assoc] using hci) with rfl | rfl | rfl
            · exact ⟨_, rfl, hnw _ (by decide +kernel)⟩
            · exact ⟨_, rfl, hnw _ (by decide +kernel)⟩
            · exact ⟨_, rfl, hnw _ (by decide +kernel)⟩
          exact va_astqO hx hb hK hP hD hS q 2 v ci (xi_ws_at had hq) rfl hca (xi_ws_at hav hv) hr hin1 hd (fun H1 locs1 hP1 hD1 hS1 => kk H1 locs1 (hJ0.set had hq (by
            show (Sum.inl (cs 2, (lx.set j.toNatClampNeg (some (v + 1))).length, Sum.inr (Sum.inr (Sum.inr (Sum.inr (fun i => ((lx.set j.toNatClampNeg (some (v + 1))).getD i none).map (fun q => as.getD q 0)))))) : va_E) = _
            rw [xi_upR as lx _ (v + 1) hin2, List.length_set, xi_getD hav]) hP1 hD1) hS1)
      · cases h1
    · cases h1
  -- putfield
  · rename_i k
    split at h1
    · rename_i v q st1
      split at h1
      · rename_i ci fs ty dv hq hty
        cases hin : (ci == a1 && decide (b1 < fs.length) && xi_fit ty v) with
        | false => rw [hin] at h1; cases h1
        | true =>
          rw [hin] at h1
          cases h1
          obtain ⟨hin, hfit⟩ := Bool.and_eq_true_iff.mp hin
          obtain ⟨hci, hbl1⟩ := Bool.and_eq_true_iff.mp hin
          have hci : ci = a1 := by simpa using hci
          subst hci
          have hbl1 := of_decide_eq_true hbl1
          obtain ⟨hf1, hf2⟩ := xi_fit_ok as hfit
          obtain ⟨ad, had⟩ := xi_addr hlen hq
          show W p l e R s m args below meth c H locs cells slots Q (F0 m pc ls (xi_em as v :: .ref (as.getD (q + 1) 0) :: st'.map (xi_em as)))
          rw [xi_getD had]
          obtain ⟨r, hr, hbn, hlk, hfin⟩ := hk k rfl
          · have hlk := hts _ hlk
            obtain ⟨hin, hty0, -, hnms, -, -⟩ := xi_clOk ci r hr
            obtain ⟨ty', dv', ht1, ht2, -⟩ := hty0 b1 hbn
            cases hty.symm.trans ht1
            have hall : ∀ k, k < r.2.2 → parseFieldDescriptor (r.2.1 k).2.2.1 = some ((((xi_ks.getD ci [])[k]?).map (fun q => q.1)).getD .int) := fun k hk9 => by
              obtain ⟨ty9, dv9, h8, h9, -⟩ := hty0 k hk9
              rw [h8]
              exact h9
            have hlf : b1 < (fs.map (xi_em as)).length := by rw [List.length_map]; exact hbl1
            have hset : xi_ea cs as (.inr (.inr (.inr (ci, fs.set b1 v)))) = .inr (ci, (fs.map (xi_em as)).set b1 (xi_em as v)) := by
              show (Sum.inr (ci, (fs.set b1 v).map (xi_em as)) : va_E) = _
              rw [List.map_set]
            rcases hfin with z | z
            · exact va_put hx hb hts hin _ hall hnms hown hK hP hD hS q (xi_ws_at had hq) hr b1 hbn hlk (fun _ h9 => h9) z ht2 hf1 hf2 hlf hd (fun H1 locs1 hP1 hD1 hS1 => kk H1 locs1 (hJ0.set had hq hset hP1 hD1) hS1)
            · obtain ⟨z1, z2⟩ := z
              cases hff : (r.2.1 b1).2.2.2 with
              | false => exact va_put hx hb hts hin _ hall hnms hown hK hP hD hS q (xi_ws_at had hq) hr b1 hbn hlk (fun _ h9 => h9) hff ht2 hf1 hf2 hlf hd (fun H1 locs1 hP1 hD1 hS1 => kk H1 locs1 (hJ0.set had hq hset hP1 hD1) hS1)
              | true => exact va_putF hx hb hts hin _ hall hnms hown hK hP hD hS q (xi_ws_at had hq) hr b1 hbn hlk (fun _ h9 => h9) hff (hnm.trans z2) z1 ht2 hf1 hf2 hlf hd (fun H1 locs1 hP1 hD1 hS1 => kk H1 locs1 (hJ0.set had hq hset hP1 hD1) hS1)
      · cases h1
    · cases h1
  -- Object.<init>
  · rename_i k
    cases ha : (a1 == 1000) with
    | false => rw [ha] at h1; cases h1
    | true =>
      rw [ha] at h1
      simp only [cond_true] at h1
      split at h1
      · rename_i q st1
        cases hsum : decide ((st1.map fun v => v.category).sum ≤ 8) with
        | false => rw [hsum] at h1; cases h1
        | true =>
          rw [hsum] at h1
          cases h1
          have hsum := of_decide_eq_true hsum
          have hw := hw (by simpa using ha)
          have hR1 := hR (by simpa using ha)
          exact W.objInit hx hb hown (hts _ hw.1) (hts _ hw.2.1) (hts _ hw.2.2) rfl hls rfl hd hR1.1 (by
            have e9 : ((F0 m pc ls ((Value.ref q :: st').map (xi_em as))).monitorRoom) = 0 := rfl
            rw [e9, xi_em_sum]
            omega) (kk H locs hJ0 hS)
      · cases h1
  -- arraycopy
  · rename_i k
    cases ha : (a1 == 1001) with
    | false => rw [ha] at h1; cases h1
    | true =>
      rw [ha] at h1
      simp only [cond_true] at h1
      split at h1
      · rename_i n dp q sp o st1
        split at h1
        · rename_i lx gx hq0 hq1
          cases hin : (!decide (n < 0) && !decide (dp < 0) && !decide (sp < 0) && decide (sp.toNatClampNeg + n.toNatClampNeg ≤ lx.length) && decide (dp.toNatClampNeg + n.toNatClampNeg ≤ gx.length) && decide ((st1.map fun v => v.category).sum ≤ 8)) with
          | false => rw [hin] at h1; cases h1
          | true =>
            rw [hin] at h1
            cases h1
            simp only [Bool.and_eq_true, Bool.not_eq_true', decide_eq_false_iff_not, decide_eq_true_eq] at hin
            obtain ⟨⟨⟨⟨⟨g1, g2⟩, g3⟩, g4⟩, g5⟩, g6⟩ := hin
            have hw := hw (by simpa using ha)
            have hR1 := hR (by simpa using ha)
            obtain ⟨ad, had⟩ := xi_addr hlen hq1
            obtain ⟨ao, hao⟩ := xi_addr hlen hq0
            show W p l e R s m args below meth c H locs cells slots Q (F0 m pc ls (.int n :: .int dp :: .ref (as.getD (q + 1) 0) :: .int sp :: .ref (as.getD (o + 1) 0) :: st'.map (xi_em as)))
            rw [xi_getD had, xi_getD hao]
            exact va_copyi hx hb hls.symm hown (hts _ hw.1) (hts _ hw.2.1) (hts _ hw.2.2.1) (hts _ hw.2.2.2) hK hP hD hS o q 0 0 (xi_ws_at hao hq0) (xi_ws_at had hq1) rfl rfl rfl g3 g2 g1 g4 g5 (fun _ _ => rfl) hR1.1 (by rw [xi_em_sum]; omega) hd
              (fun H1 locs1 hP1 hD1 hS1 => kk H1 locs1 (hJ0.set had hq1 (by
                show (Sum.inl (cs 0, (xi_cpy lx gx _ _ _).length, Sum.inl (fun i => (xi_cpy lx gx _ _ _).getD i 0)) : va_E) = _
                rw [xi_cpy_fun lx gx _ _ _ g5, xi_cpy_len]) hP1 hD1) hS1)
        · cases h1
      · cases h1
  · cases h1
end XH
end
section
/-! One step of the little machine is a step of the machine: new cells. DRAFT until it has compiled once. -/
theorem xi_em_def (as : List Nat) (ty : FieldType) : xi_em as (defaultValue ty) = defaultValue ty := by cases ty <;> rfl
theorem xi_rep (n : Nat) : (fun j => (List.replicate n (0 : Int32)).getD j 0) = fun _ => 0 := by
  funext j
  rw [List.getD_eq_getElem?_getD, List.getElem?_replicate]
  split <;> rfl
theorem xi_repL (n : Nat) : (fun j => (List.replicate n (0 : Int64)).getD j 0) = fun _ => 0 := by
  funext j
  rw [List.getD_eq_getElem?_getD, List.getElem?_replicate]
  split <;> rfl
theorem xi_repR (as : List Nat) (n : Nat) : (fun j => ((List.replicate n (none : Option Nat)).getD j none).map (fun q => as.getD q 0)) = fun _ => none := by
  funext j
  rw [List.getD_eq_getElem?_getD, List.getElem?_replicate]
  split <;> rfl
def xi_okn (own : String) (i : Instr) (a b : Nat) : Prop := match i with
  | .new k => b = 0 → ∃ q, xi_cl[a]? = some q ∧ Cond.classLink own k q.1 ∈ xi_gw
  | .newarray .int => Cond.arrayClass .int ∈ xi_gw
  | .newarray .long => Cond.arrayClass .long ∈ xi_gw
  | .anewarray k => a = 0 ∧ Cond.classLink own k "NoisyCodes$Way" ∈ xi_gw
  | .multianewarray k j => j = 2 ∧ Cond.classLink own k "[[I" ∈ xi_gw ∧ Cond.arrayClass .int ∈ xi_gw
  | _ => True
section XN
variable {p : Program} {l : Launch} {e : Env} {R : Room} {s : State} {m : MethodId} {args : Array Value} {below : List Frame} {meth : Method} {c : Code} {H : Heap} {locs : List Loc} {cells slots : Nat} {Q : State → Prop}
variable {cc : ByteArray} {pc : Nat} {ls : Array Slot} {as : List Nat} {nL : Nat} {own : String} {D : va_G} {cs : Nat → ClassId} {b base : Nat} {X : List Int32} {A : Nat → Prop} {h : List xi_C}
-- the world with one cell more
theorem xi_Wd.push (hJ : xi_Wd D cs b base X A as h H) (hwf : h.all (xi_wfc h.length) = true) (hAb : ∀ q, A q → base ≤ q) {q : Nat} {c1 : xi_C} {ev : va_E} {H1 : Heap} (he : xi_ea cs (as ++ [q]) c1 = ev)
    (hP1 : va_P D xi_cl (xi_ws cs as h ++ [(q, ev)]) H1) (hD1 : va_D A (xi_ws cs as h ++ [(q, ev)])) : xi_Wd D cs b base X A (as ++ [q]) (h ++ [c1]) H1 := by
  obtain ⟨hlen, ha0, hh0, hbase, hP, hD⟩ := hJ
  subst he
  have h0 : 0 < h.length := (List.getElem?_eq_some_iff.mp hh0).1
  have hpush : xi_ws cs (as ++ [q]) (h ++ [c1]) = xi_ws cs as h ++ [(q, xi_ea cs (as ++ [q]) c1)] := xi_ws_push hlen h0 hwf
  have hAq : A q := hD1.2 (xi_ws cs as h).length (q, xi_ea cs (as ++ [q]) c1) (by rw [List.getElem?_append_right (Nat.le_refl _), Nat.sub_self]; rfl)
  refine ⟨by rw [List.length_append, List.length_append, hlen]; rfl, by rw [List.getElem?_append_left (by omega)]; exact ha0, by rw [List.getElem?_append_left h0]; exact hh0, fun a ha => ?_, by rw [hpush]; exact hP1, by rw [hpush]; exact hD1⟩
  rw [List.drop_append_of_le_length (by omega)] at ha
  rcases List.mem_append.mp ha with ha | ha
  · exact hbase a ha
  · rw [List.mem_singleton] at ha
    subst ha
    exact hAb _ hAq
set_option maxHeartbeats 4000000 in
theorem xi_new_ok (C0 : xi_Cx p s m args c cc own D cs b X A) (hAO : va_AO "NoisyCodes$Way" s) (hAb : ∀ q, A q → base ≤ q) (hJ : xi_Wd D cs b base X A as h H) (hS : va_S A s.heap H locs) {i : Instr} {a1 b1 dk dn : Nat} {lv : xi_L} {st st' : List Value} {h' : List xi_C} (hd : decode cc pc = .ok (i, xi_len i))
    (hi : ∀ k j, i ≠ .multianewarray k j) (hk : xi_okn own i a1 b1) (hwf : xi_wf lv st h = true) (h1 : xi_new xi_ks i a1 b1 st h = some (st', h', dk, dn)) (hcell : cells + dk ≤ R.cells) (hslot : slots + dn ≤ R.slots) (hl : lv_has ls nL (xi_el as lv))
    (kk : ∀ (z : List Nat) (H1 : Heap), xi_Wd D cs b base X A (as ++ z) h' H1 → va_S A s.heap H1 locs → lv_has ls nL (xi_el (as ++ z) lv) → W p l e R s m args below meth c H1 locs (cells + dk) (slots + dn) Q (F0 m (pc + xi_len i) ls (st'.map (xi_em (as ++ z))))) : W p l e R s m args below meth c H locs cells slots Q (F0 m pc ls (st.map (xi_em as))) := by
  have hJ0 := hJ
  obtain ⟨hx, hb, hown, hts, hnw, hK, hX, hbl, hbA, hA⟩ := C0
  obtain ⟨hlen, ha0, hh0, hbase, hP, hD⟩ := hJ
  unfold xi_wf at hwf
  obtain ⟨hwf, hwh⟩ := Bool.and_eq_true_iff.mp hwf
  obtain ⟨hwl, hws⟩ := Bool.and_eq_true_iff.mp hwf
  have hlq : ∀ z : List Nat, lv_has ls nL (xi_el (as ++ z) lv) := fun z => by rw [xi_el_app (by rw [hlen]; exact hwl)]; exact hl
  have hgq : ∀ q : Nat, (as ++ [q]).getD h.length 0 = q := fun q => by
    rw [List.getD_eq_getElem?_getD, ← hlen, List.getElem?_append_right (Nat.le_refl _), Nat.sub_self]
    rfl
  unfold xi_new at h1
  split at h1
  -- new
  · rename_i k
    cases hb1 : (b1 == 0) with
    | false => rw [hb1] at h1; cases h1
    | true =>
      rw [hb1] at h1
      simp only [cond_true] at h1
      split at h1
      · rename_i kx hkx
        cases h1
        obtain ⟨r, hr, hk⟩ := hk (by simpa using hb1)
        · obtain ⟨hin, hty0, hln, -, hinst, hini⟩ := xi_clOk a1 r hr
          have hks : xi_ks.getD a1 [] = kx := by rw [List.getD_eq_getElem?_getD, hkx]; rfl
          rw [hks] at hty0 hln
          have hall : ∀ k, k < r.2.2 → parseFieldDescriptor (r.2.1 k).2.2.1 = some (((kx[k]?).map (fun q => q.1)).getD .int) := fun k hk9 => by
            obtain ⟨ty9, dv9, h8, h9, -⟩ := hty0 k hk9
            rw [h8]
            exact h9
          refine va_new (ci := a1) (fs := kx.map (fun q => q.2)) (C := r.1) (T := r.2.1) (N := r.2.2) hx hb hts hin _ hall hown (hts _ hk) (hts _ hinst) (hts _ hini) hK hP hD hS hA hr (fun j hj => ?_) hcell (by rw [← hln]; exact hslot) hd (fun q H1 hP1 hD1 hS1 => ?_)
          · obtain ⟨ty9, dv9, h8, -, h9⟩ := hty0 j hj
            rw [h8]
            subst h9
            unfold vp_V
            rw [List.getD_eq_getElem?_getD, List.getElem?_map, h8]
            rfl
          · have := kk [q] H1 (hJ0.push hwh hAb (by
              show (Sum.inr (a1, (kx.map (fun q => q.2)).map (xi_em (as ++ [q]))) : va_E) = Sum.inr (a1, kx.map (fun q => q.2))
              congr 2
              rw [List.map_map]
              apply List.map_congr_left
              intro w hw
              obtain ⟨j, hj⟩ := List.getElem?_of_mem hw
              have hjl : j < r.2.2 := by rw [← hln]; exact (List.getElem?_eq_some_iff.mp hj).1
              obtain ⟨ty9, dv9, h8, -, h9⟩ := hty0 j hjl
              cases hj.symm.trans h8
              show xi_em _ dv9 = dv9
              subst h9
              exact xi_em_def _ _) hP1 hD1) hS1 (hlq [q])
            rw [List.map_cons, xi_em_apps (by rw [hlen]; exact hws)] at this
            have e9 : xi_em (as ++ [q]) (.ref h.length) = .ref q := by show Value.ref _ = Value.ref _; rw [hgq]
            rw [e9, hln] at this
            exact this
      · cases h1
  -- newarray int
  · split at h1
    · rename_i z st1 x9
      cases hz : (!decide (z < 0) && decide (z.toNatClampNeg ≤ 1000)) with
      | false => rw [hz] at h1; cases h1
      | true =>
        rw [hz] at h1
        cases h1
        simp only [Bool.and_eq_true, Bool.not_eq_true', decide_eq_false_iff_not, decide_eq_true_eq] at hz
        refine va_newa (atype := .int) (ty := .int) (a0 := (z.toNatClampNeg, .inl (fun _ => 0))) hx hb (hts _ (xi_has_in hk)) rfl hK hP hD hS hA (fun _ => rfl) hz.1 rfl (by have := hz.2; show z.toNatClampNeg * componentBytes .int ≤ 536870912; have e4 : componentBytes .int = 4 := rfl; rw [e4]; omega) hcell hslot hd (fun q cA H1 hK1 hP1 hD1 hS1 => ?_)
        have hcA : cA = cs 0 := by
          have h8 : s.vm.findClass ("[" ++ (FieldType.int).toString) = some cA := (hK1.2 4 (cA, .int) rfl).2
          have h9 : s.vm.findClass ("[" ++ (FieldType.int).toString) = some (cs 0) := (hK.2 0 (cs 0, .int) rfl).2
          exact Option.some.inj (h8.symm.trans h9)
        subst hcA
        have := kk [q] H1 (hJ0.push hwh hAb (by
          show (Sum.inl (cs 0, (List.replicate z.toNatClampNeg (0 : Int32)).length, Sum.inl (fun j => (List.replicate z.toNatClampNeg (0 : Int32)).getD j 0)) : va_E) = _
          rw [xi_rep, List.length_replicate]) hP1 hD1) hS1 (hlq [q])
        rw [List.map_cons, xi_em_apps (by rw [hlen]; exact (by rw [List.all_cons] at hws; exact (Bool.and_eq_true_iff.mp hws).2))] at this
        have e9 : xi_em (as ++ [q]) (.ref h.length) = .ref q := by show Value.ref _ = Value.ref _; rw [hgq]
        rw [e9] at this
        exact this
    · cases h1
  -- newarray long
  · split at h1
    · rename_i z st1 x9
      cases hz : (!decide (z < 0) && decide (z.toNatClampNeg ≤ 1000)) with
      | false => rw [hz] at h1; cases h1
      | true =>
        rw [hz] at h1
        cases h1
        simp only [Bool.and_eq_true, Bool.not_eq_true', decide_eq_false_iff_not, decide_eq_true_eq] at hz
        refine va_newa (atype := .long) (ty := .long) (a0 := (z.toNatClampNeg, .inr (.inl (fun _ => 0)))) hx hb (hts _ (xi_has_in hk)) rfl hK hP hD hS hA (fun _ => rfl) hz.1 rfl (by have := hz.2; show z.toNatClampNeg * componentBytes .long ≤ 536870912; have e4 : componentBytes .long = 8 := rfl; rw [e4]; omega) hcell hslot hd (fun q cA H1 hK1 hP1 hD1 hS1 => ?_)
        have hcA : cA = cs 1 := by
          have h8 : s.vm.findClass ("[" ++ (FieldType.long).toString) = some cA := (hK1.2 4 (cA, .long) rfl).2
          have h9 : s.vm.findClass ("[" ++ (FieldType.long).toString) = some (cs 1) := (hK.2 1 (cs 1, .long) rfl).2
          exact Option.some.inj (h8.symm.trans h9)
        subst hcA
        have := kk [q] H1 (hJ0.push hwh hAb (by
          show (Sum.inl (cs 1, (List.replicate z.toNatClampNeg (0 : Int64)).length, Sum.inr (Sum.inl (fun j => (List.replicate z.toNatClampNeg (0 : Int64)).getD j 0))) : va_E) = _
          rw [xi_repL, List.length_replicate]) hP1 hD1) hS1 (hlq [q])
        rw [List.map_cons, xi_em_apps (by rw [hlen]; exact (by rw [List.all_cons] at hws; exact (Bool.and_eq_true_iff.mp hws).2))] at this
        have e9 : xi_em (as ++ [q]) (.ref h.length) = .ref q := by show Value.ref _ = Value.ref _; rw [hgq]
        rw [e9] at this
        exact this
    · cases h1
  -- anewarray
  · rename_i k
    split at h1
    · rename_i z st1 x9
      cases hz : (!decide (z < 0) && decide (z.toNatClampNeg ≤ 1000)) with
      | false => rw [hz] at h1; cases h1
      | true =>
        rw [hz] at h1
        cases h1
        simp only [Bool.and_eq_true, Bool.not_eq_true', decide_eq_false_iff_not, decide_eq_true_eq] at hz
        obtain ⟨ha1, hk⟩ := hk
        subst ha1
        refine va_newq (C := "NoisyCodes$Way") hx hb hown (hts _ (xi_has_in hk)) hAO hK hP hD hS hA hz.1 rfl (by have := hz.2; omega) hcell hslot hd (fun q cA H1 hK1 hP1 hD1 hS1 => ?_)
        have hcA : cA = cs 2 := by
          obtain ⟨_, _, _, _, _, h8⟩ := (hK1.2 4 (cA, .object "NoisyCodes$Way") rfl).2
          obtain ⟨_, _, _, _, _, h9⟩ := (hK.2 2 (cs 2, .object "NoisyCodes$Way") rfl).2
          exact Option.some.inj (h8.symm.trans h9)
        subst hcA
        have := kk [q] H1 (hJ0.push hwh hAb (by
          show (Sum.inl (cs 2, (List.replicate z.toNatClampNeg (none : Option Nat)).length, Sum.inr (Sum.inr (Sum.inr (Sum.inr (fun j => ((List.replicate z.toNatClampNeg (none : Option Nat)).getD j none).map (fun w => (as ++ [q]).getD w 0)))))) : va_E) = _
          rw [xi_repR, List.length_replicate]) hP1 hD1) hS1 (hlq [q])
        rw [List.map_cons, xi_em_apps (by rw [hlen]; exact (by rw [List.all_cons] at hws; exact (Bool.and_eq_true_iff.mp hws).2))] at this
        have e9 : xi_em (as ++ [q]) (.ref h.length) = .ref q := by show Value.ref _ = Value.ref _; rw [hgq]
        rw [e9] at this
        exact this
    · cases h1
  · rename_i k j
    exact absurd rfl (hi k j)
  · cases h1
end XN
end
section
/-! Contracts of the little machine's methods, and calls. Behind 01 (the kit's laws of exceptions). DRAFT until it has compiled once. -/
def xi_nc : List (String × String) := xi_ex.flatMap (fun a => (xi_ex.filter (fun b => decide (b ≠ a))).map (fun b => (a, b)))
def xi_AOA (U : State) : Prop := (Cond.arrayOver (.array .int)).before #[] U = true
theorem xi_AOA.moved {u U : State} (hvm : u.vm.Alike U.vm) (h : xi_AOA u) : xi_AOA U := over_moved (a := #[]) (a' := #[]) hvm h
def xi_Tb (D : va_G) (cs : Nat → ClassId) (b base : Nat) (X : List Int32) (U : State) : Prop :=
  va_K D xi_cl (xi_ty cs) U ∧ va_X b X.length (fun j => X.getD j 0) U U.heap ∧ b < base ∧ base ≤ U.heap.size ∧ (∀ w ∈ xi_nw, va_Nw w U) ∧ (∀ q ∈ xi_nc, va_Nc q.1 q.2 U) ∧ va_AO "NoisyCodes$Way" U ∧ xi_AOA U ∧
  vx_Zq Bundle.tN "UNASSIGNED_STACK" Bundle.steD (fun q => base ≤ q) U U.heap ∧ vx_Zq Bundle.tN "SUPPRESSED_SENTINEL" Bundle.listD (fun q => base ≤ q) U U.heap
def xi_In (D : va_G) (cs : Nat → ClassId) (b base : Nat) (X : List Int32) (as : List Nat) (h : List xi_C) (sz : Nat) (U : State) : Prop :=
  U.heap.size = sz ∧ xi_Wd D cs b base X (fun _ => True) as h U.heap ∧ xi_Tb D cs b base X U
def xi_A (as : List Nat) (sz : Nat) : Nat → Prop := fun q => q ∈ as.drop 1 ∨ sz ≤ q
def xi_Qc (D : va_G) (cs : Nat → ClassId) (b base : Nat) (X : List Int32) (as : List Nat) (sz : Nat) (o : xi_O) (h2 : List xi_C) : Array Value → State → Outcome → State → Prop := fun _ st oc t =>
  (∃ (v : Option Value) (z : List Nat), o = .inl v ∧ oc = .returned (v.map (xi_em (as ++ z))) ∧ xi_Wd D cs b base X (xi_A as sz) (as ++ z) h2 t.heap) ∧ va_F (xi_A as sz) st t
def xi_XC (D : va_G) (cs : Nat → ClassId) (b base : Nat) (X : List Int32) (as : List Nat) (sz : Nat) (o : xi_O) (h2 : List xi_C) : String → State → State → Prop := fun E st t =>
  (∃ (x : Nat) (z : List Nat), o = .inr x ∧ xi_ex[x]? = some E ∧ xi_Wd D cs b base X (xi_A as sz) (as ++ z) h2 t.heap) ∧ va_F (xi_A as sz) st t
def xi_rm (q : xm_T) (K N : Nat) : Room := { frames := q.2.2.2.2.2.1, cells := K, slots := N, locals := q.2.2.2.2.2.2 }
def xi_cw (q : xm_T) : Cond := match q.2.2.2.2.1 with
  | none => .code q.1 q.2.1 q.2.2.1 q.2.2.2.1
  | some hh => .codeWith q.1 q.2.1 q.2.2.1 q.2.2.2.1 hh
def xi_wl (q : xm_T) : List Cond := xi_cw q :: xi_gw
def xi_Con (l : Launch) (D : va_G) (cs : Nat → ClassId) (b base : Nat) (X : List Int32) (y : Nat) (av : List Value) (h : List xi_C) (o : xi_O) (h2 : List xi_C) (K N : Nat) : Prop :=
  ∀ q, xm_tab[y]? = some q → ∀ (as : List Nat) (sz : Nat), vx_Met l q.1 (xi_wl q) (xi_rm q K N) (va_Pc (av.map (xi_em as)) (xi_In D cs b base X as h sz)) (xi_Qc D cs b base X as sz o h2) (xi_XC D cs b base X as sz o h2) K N (xi_A as sz)
-- the words that do not keep stay, kind by kind
def xi_nwk (w : Cond) : Bool := match w with
  | .fieldLinkNest .. => true
  | .methodLinkNest .. => true
  | .declares _ => true
  | .castable .. => true
  | _ => false
theorem xi_nw_all : ∀ w ∈ xi_nw, xi_nwk w = true := by decide +kernel
theorem xi_nw_warm {s U : State} (hW : s.WarmedH U.vm) {w : Cond} (hw : w ∈ xi_nw) (h : va_Nw w s) : va_Nw w U := by
  have hk := xi_nw_all w hw
  unfold xi_nwk at hk
  split at hk
  · exact va_Nw.warmF hW h
  · exact va_Nw.warmM hW h
  · exact va_Nw.warmD hW h
  · exact va_Nw.warmC hW h
  · cases hk
theorem xi_Tb.go {D : va_G} {cs : Nat → ClassId} {b base : Nat} {X : List Int32} {u U : State} (h : xi_Tb D cs b base X u) (hW : u.WarmedH U.vm) (hsz : u.heap.size ≤ U.heap.size) (hk : ∀ q : Nat, q < base → U.heap[q]? = u.heap[q]?) : xi_Tb D cs b base X U := by
  obtain ⟨h1, h2, h3, h4, h5, h6, h7, h7b, h8, h9⟩ := h
  have ha := hW.alike
  exact ⟨h1.moved ha, (h2.kept (hk b h3)).moved ha, h3, Nat.le_trans h4 hsz, fun w hw => xi_nw_warm hW hw (h5 w hw), fun q hq => (h6 q hq).moved ha, h7.moved ha, h7b.moved ha,
    (h8.kept (fun a _ hn => hk a (Nat.lt_of_not_le hn))).moved ha, (h9.kept (fun a _ hn => hk a (Nat.lt_of_not_le hn))).moved ha⟩
theorem xi_blind {D : va_G} {cs : Nat → ClassId} {b base : Nat} {X : List Int32} (av : List Value) (as : List Nat) (h : List xi_C) (sz : Nat) : FrameBlind (va_Pc av (xi_In D cs b base X as h sz)) := fun a U g mk q => by
  obtain ⟨q0, q1, q2, q3⟩ := q
  exact ⟨q0, q1, q2, q3.go (U := U.calling g mk a) (State.WarmedH.refl U) (Nat.le_refl _) (fun _ _ => rfl)⟩
theorem xi_goodIn {q : xm_T} (h : xi_cw q ∈ xi_gw) : GoodIn xi_gw (xi_wl q) := fun w hw => by
  have h1 : w ∈ xi_gw := by
    rcases List.mem_cons.mp hw with e | e
    · rw [e]; exact h
    · exact e
  exact ⟨h1, good_of_word (List.mem_filter.mp h1).2⟩
theorem xi_good1 {w : Cond} (h : w ∈ xi_gw) : w ∈ xi_gw ∧ ((w.onTables && w.keeps) = true ∨ ∃ ty, w = .arrayClass ty) := ⟨xi_has_in h, good_of_word (List.mem_filter.mp (xi_has_in h)).2⟩
section XC
variable {p : Program} {l : Launch} {e : Env} {R : Room} {s : State} {m : MethodId} {args : Array Value} {below : List Frame} {meth : Method} {c : Code} {H : Heap} {locs : List Loc} {cells slots : Nat} {Q : State → Prop}
variable {cc : ByteArray} {pc : Nat} {ls : Array Slot} {as : List Nat} {nL : Nat} {own : String} {D : va_G} {cs : Nat → ClassId} {b base : Nat} {X : List Int32} {A : Nat → Prop} {h h2 : List xi_C} {o : xi_O} {dk dn : Nat} {st0 rest : List Value} {a : Array Value}
theorem xi_Wd.weaken {B : Nat → Prop} {as : List Nat} (hJ : xi_Wd D cs b base X A as h H) (hAB : ∀ q, A q → B q) : xi_Wd D cs b base X B as h H := by
  obtain ⟨h1, h2, h3, h4, h5, h6⟩ := hJ
  exact ⟨h1, h2, h3, h4, h5, h6.weaken (fun _ _ _ h => hAB _ h)⟩
-- the addresses of the world are A's
theorem xi_Wd.inA (hJ : xi_Wd D cs b base X A as h H) {q : Nat} (hq : q ∈ as.drop 1) : A q := by
  obtain ⟨h1, -, -, -, -, h6⟩ := hJ
  obtain ⟨j, hj⟩ := List.getElem?_of_mem hq
  rw [List.getElem?_drop, Nat.add_comm] at hj
  have hl := (List.getElem?_eq_some_iff.mp hj).1
  have hh : h[j + 1]? = some h[j + 1] := List.getElem?_eq_getElem (by omega)
  exact h6.2 j _ (xi_ws_at hj hh)
theorem xi_ofRun (hr : vx_Run p l e R s m args below meth c H locs cells slots dk dn (F0 m pc ls st0) rest (xi_Qc D cs b base X as H.size o h2 a) (xi_XC D cs b base X as H.size o h2) (xi_A as H.size))
    (hJ : xi_Wd D cs b base X A as h H) (hS : va_S A s.heap H locs) (hA : ∀ q, s.heap.size ≤ q → A q)
    (kr : ∀ (v : Option Value) (z : List Nat) (H1 : Heap) (locs1 : List Loc), o = .inl v → xi_Wd D cs b base X A (as ++ z) h2 H1 → va_S A s.heap H1 locs1 → W p l e R s m args below meth c H1 locs1 (cells + dk) (slots + dn) Q (F0 m (pc + 3) ls ((v.map (xi_em (as ++ z))).toList ++ rest)))
    (kx : ∀ (x : Nat) (z : List Nat) (E : String) (ce : Cell) (q9 : Addr) (H1 : Heap) (locs1 : List Loc), o = .inr x → xi_ex[x]? = some E → xi_Wd D cs b base X A (as ++ z) h2 H1 → va_S A s.heap H1 locs1 → H1[q9]? = some ce → ce.vm = .none → s.vm.findClass E = some ce.cls → vx_W p l e R s m args below meth c H1 locs1 (cells + dk) (slots + dn) Q (F0 m pc ls rest) q9) :
    W p l e R s m args below meth c H locs cells slots Q (F0 m pc ls st0) := by
  have hAA : ∀ q, xi_A as H.size q → A q := fun q hq => hq.elim (fun z => hJ.inA z) (fun z => hA q (Nat.le_trans hS.1 z))
  intro T hT Xs
  rcases hr T hT Xs with ⟨v, st₀, t, T', L, h0, X', hL, e1, e2, ⟨⟨v', z, ho, hv, hw⟩, hF⟩, st⟩ | ⟨q9, st₀, t, T', L, E, ce, h0, X', hL, e1, e2, ⟨⟨x, z, ho, hE, hw⟩, hF⟩, hce, hcv, hcl, st⟩
  · cases hv
    have hkp := vx_keep h0 e1 hS (fun q _ hq => hAA q hq) hAA hL hF
    obtain ⟨t2, a1, b1⟩ := kr v' z T'.heap (locs ++ L) ho (by rw [e1]; exact hw.weaken hAA) hkp.2.2 T' rfl X'
    exact ⟨t2, st t2 a1, b1⟩
  · have hkp := vx_keep h0 e1 hS (fun q _ hq => hAA q hq) hAA hL hF
    obtain ⟨t2, a1, b1⟩ := kx x z E ce q9 T'.heap (locs ++ L) ho hE (by rw [e1]; exact hw.weaken hAA) hkp.2.2 (by rw [e1]; exact hce) hcv hcl T' rfl X'
    exact ⟨t2, st.trans a1, b1⟩
-- a callee that does not throw is one of the kit's contracts
theorem xi_met {y : MethodName} {ws : List Cond} {rm : Room} {Pc : Array Value → State → Prop} {K N sz : Nat} {free : Addr → Prop} {v : Option Value} (hM : vx_Met l y ws rm Pc (xi_Qc D cs b base X as sz (.inl v) h2) (xi_XC D cs b base X as sz (.inl v) h2) K N free) : Met l y ws rm Pc (xi_Qc D cs b base X as sz (.inl v) h2) K N free := by
  refine MetFree.mono hM (fun _ _ h => h) (fun _ _ _ _ _ h => h) (fun a s o t _ hq => ?_)
  rcases hq with hq | ⟨q, -, E, ce, L, hx, -⟩
  · exact hq
  · obtain ⟨⟨x, z, ho, -⟩, -⟩ := hx
    cases ho
theorem xi_run_of {mc ms : Nat} {g : JFrame} {Qa : State → Outcome → State → Prop} {XC : String → State → State → Prop} {free : Addr → Prop} (hr : va_Run p l e R s m args below meth c H locs cells slots mc ms g rest Qa free) : vx_Run p l e R s m args below meth c H locs cells slots mc ms g rest Qa XC free := fun T hT Xs => Or.inl (hr T hT Xs)
-- what holds for the callee where it is called
theorem xi_pre (hTb : xi_Tb D cs b base X s) (hJ : xi_Wd D cs b base X A as h H) (hS : va_S A s.heap H locs) (hAb : ∀ q, A q → base ≤ q) (av : List Value) : ∀ U : State, U.heap = H → s.WarmedH U.vm → va_Pc av (xi_In D cs b base X as h H.size) av.toArray U := fun U hU hW =>
  ⟨rfl, by rw [hU], by rw [hU]; exact hJ.weaken (fun _ _ => trivial), hTb.go hW (by rw [hU]; exact hS.1) (fun q hq => by rw [hU]; exact hS.2.1 q (Nat.lt_of_lt_of_le hq hTb.2.2.2.1) (fun z => by have := hAb q z; omega))⟩
end XC
end
section
/-! Call sites, kind by kind. DRAFT until it has compiled once. -/
def xi_fr (qc q : xm_T) : Bool := decide (q.2.2.2.2.2.1 + 1 ≤ qc.2.2.2.2.2.1) && decide (8 + (q.2.2.1 + 11) + q.2.2.2.2.2.2 ≤ qc.2.2.2.2.2.2)
def xi_pl (y : MethodName) : Bool := decide (y.cls ≠ "java/lang/invoke/MethodHandle") && decide (y.cls ≠ "java/lang/invoke/VarHandle")
def xi_par (d : String) (n : Nat) : Bool := decide ((parseMethodDescriptor d).map (fun d => d.parameters.length) = some n)
theorem xi_good3 {ws0 ws : List Cond} (h0 : ∀ w ∈ ws0, w ∈ xi_gw) (h1 : GoodIn xi_gw ws) : GoodIn xi_gw (ws0 ++ ws) := fun w hw => by
  rcases List.mem_append.mp hw with z | z
  · exact xi_good1 (h0 w z)
  · exact h1 w z
theorem xi_fr_ok {qc q : xm_T} {K N K0 N0 : Nat} (h : xi_fr qc q = true) : (xi_rm q K N).frames + 1 ≤ (xi_rm qc K0 N0).frames ∧ 8 + (q.2.2.1 + 11) + (xi_rm q K N).locals ≤ (xi_rm qc K0 N0).locals := by
  obtain ⟨h1, h2⟩ := Bool.and_eq_true_iff.mp h
  exact ⟨of_decide_eq_true h1, of_decide_eq_true h2⟩
theorem xi_pl_ok {y : MethodName} (h : xi_pl y = true) : y.cls ≠ "java/lang/invoke/MethodHandle" ∧ y.cls ≠ "java/lang/invoke/VarHandle" := by
  obtain ⟨h1, h2⟩ := Bool.and_eq_true_iff.mp h
  exact ⟨of_decide_eq_true h1, of_decide_eq_true h2⟩
section XD
variable {p : Program} {l : Launch} {e : Env} {s : State} {m : MethodId} {args : Array Value} {below : List Frame} {meth : Method} {c : Code} {H : Heap} {locs : List Loc} {cells slots : Nat}
variable {cc : ByteArray} {pc : Nat} {ls : Array Slot} {as : List Nat} {own : String} {D : va_G} {cs : Nat → ClassId} {b base : Nat} {X : List Int32} {A : Nat → Prop} {h h2 : List xi_C} {o : xi_O} {dk dn K0 N0 k n y : Nat} {st rest av : List Value} {qc q : xm_T}
theorem xi_sum8 {rest : List Value} (hsum : (rest.map fun v => v.category).sum ≤ 8) : 2 * (F0 m pc ls st).monitorRoom + ((rest.map (xi_em as)).map fun v => v.category).sum ≤ 8 := by
  have e9 : (F0 m pc ls st).monitorRoom = 0 := rfl
  rw [e9, xi_em_sum]
  omega
set_option maxHeartbeats 4000000 in
theorem xi_siteS (C0 : xi_Cx p s m args c cc own D cs b X A) (hTb : xi_Tb D cs b base X s) (hAb : ∀ q, A q → base ≤ q) (hJ : xi_Wd D cs b base X A as h H) (hS : va_S A s.heap H locs) (hls : ls.size = c.maxLocals)
    (hq : xm_tab[y]? = some q) (hd : decode cc pc = .ok (.invokestatic k, 3)) (w1 : (.methodLink own k q.1 : Cond) ∈ xi_gw) (w2 : (.static q.1 : Cond) ∈ xi_gw) (w3 : (.initialized q.1.cls : Cond) ∈ xi_gw) (w4 : (xi_cw q : Cond) ∈ xi_gw)
    (hfr : xi_fr qc q = true) (hpl : xi_pl q.1 = true) (hpar : xi_par q.1.desc n = true) (hn : av.length = n) (hcon : xi_Con l D cs b base X y av h o h2 dk dn) (hst : st = av.reverse ++ rest) (hsum : (rest.map fun v => v.category).sum ≤ 8) (hcell : cells + dk ≤ K0) (hslot : slots + dn ≤ N0) :
    vx_Run p l e (xi_rm qc K0 N0) s m args below meth c H locs cells slots dk dn (F0 m pc ls (st.map (xi_em as))) (rest.map (xi_em as)) (xi_Qc D cs b base X as H.size o h2 (av.map (xi_em as)).toArray) (xi_XC D cs b base X as H.size o h2) (xi_A as H.size) := by
  obtain ⟨hx, hb, hown, hts, hnw, hK, hX, hbl, hbA, hA⟩ := C0
  have hpl := xi_pl_ok hpl
  have hG : GoodIn xi_gw (va_wsS own k q.1 (xi_wl q)) := xi_good3 (ws0 := [.methodLink own k q.1, .static q.1, .initialized q.1.cls]) (fun w hw => by
    simp only [List.mem_cons, List.not_mem_nil, or_false] at hw
    rcases hw with rfl | rfl | rfl <;> assumption) (xi_goodIn (xi_has_in w4))
  have hst' : (F0 m pc ls (st.map (xi_em as))).stack = (av.map (xi_em as)).reverse ++ rest.map (xi_em as) := by
    show st.map (xi_em as) = _
    rw [hst, List.map_append, List.map_reverse]
  cases hh : q.2.2.2.2.1 with
  | none =>
    have hcw : xi_wl q = Cond.code q.1 q.2.1 q.2.2.1 q.2.2.2.1 :: xi_gw := by unfold xi_wl xi_cw; rw [hh]
    exact vx_runS (Ts := xi_gw) (nL := ls.size) ⟨hx, hb, hls.symm, hown, hts⟩ (hcon q hq as H.size) (va_cwS n hts hG hcw rfl rfl ⟨hpl.1, hpl.2, of_decide_eq_true hpar⟩ (xi_fr_ok hfr)) ⟨xi_blind _ as h H.size, xi_pre hTb hJ hS hAb _⟩ rfl (by rw [List.length_map]; exact hn) rfl hst' (xi_sum8 hsum) hd ⟨hcell, hslot⟩
  | some hh' =>
    have hcw : xi_wl q = Cond.codeWith q.1 q.2.1 q.2.2.1 q.2.2.2.1 hh' :: xi_gw := by unfold xi_wl xi_cw; rw [hh]
    exact vx_runSX (Ts := xi_gw) (nL := ls.size) ⟨hx, hb, hls.symm, hown, hts⟩ (hcon q hq as H.size) (vx_cwSW n hts hG hcw rfl rfl ⟨hpl.1, hpl.2, of_decide_eq_true hpar⟩ (xi_fr_ok hfr)) ⟨xi_blind _ as h H.size, xi_pre hTb hJ hS hAb _⟩ rfl (by rw [List.length_map]; exact hn) rfl hst' (xi_sum8 hsum) hd ⟨hcell, hslot⟩
set_option maxHeartbeats 4000000 in
theorem xi_siteV (C0 : xi_Cx p s m args c cc own D cs b X A) (hTb : xi_Tb D cs b base X s) (hAb : ∀ q, A q → base ≤ q) (hJ : xi_Wd D cs b base X A as h H) (hS : va_S A s.heap H locs) (hls : ls.size = c.maxLocals)
    (hq : xm_tab[y]? = some q) (hh : q.2.2.2.2.1 = none) (hd : decode cc pc = .ok (.invokevirtual k, 3)) (w1 : (.methodLink own k q.1 : Cond) ∈ xi_gw) (w2 : (.instanceMethod q.1 : Cond) ∈ xi_gw) (w3 : (.initialized q.1.cls : Cond) ∈ xi_gw) (w4 : (xi_cw q : Cond) ∈ xi_gw) (w5 : (.selects q.1.cls q.1 q.1 : Cond) ∈ xi_gw)
    {ci qo : Nat} {fs : List Value} {r : vw_C} (hr : xi_cl[ci]? = some r) (hrc : r.1 = q.1.cls) (hqo : h[qo + 1]? = some (.inr (.inr (.inr (ci, fs)))))
    (hfr : xi_fr qc q = true) (hpl : xi_pl q.1 = true) (hpar : xi_par q.1.desc n = true) (hn : av.length = n) (hcon : xi_Con l D cs b base X y (.ref (qo + 1) :: av) h o h2 dk dn) (hst : st = av.reverse ++ .ref (qo + 1) :: rest) (hsum : (rest.map fun v => v.category).sum ≤ 8) (hcell : cells + dk ≤ K0) (hslot : slots + dn ≤ N0) :
    vx_Run p l e (xi_rm qc K0 N0) s m args below meth c H locs cells slots dk dn (F0 m pc ls (st.map (xi_em as))) (rest.map (xi_em as)) (xi_Qc D cs b base X as H.size o h2 ((Value.ref (qo + 1) :: av).map (xi_em as)).toArray) (xi_XC D cs b base X as H.size o h2) (xi_A as H.size) := by
  obtain ⟨hx, hb, hown, hts, hnw, hK, hX, hbl, hbA, hA⟩ := C0
  have hpl := xi_pl_ok hpl
  have hG : GoodIn xi_gw (wsV own k q.1.cls q.1 (xi_wl q)) := xi_good3 (ws0 := [.methodLink own k q.1, .instanceMethod q.1, .selects q.1.cls q.1 q.1, .initialized q.1.cls]) (fun w hw => by
    simp only [List.mem_cons, List.not_mem_nil, or_false] at hw
    rcases hw with rfl | rfl | rfl | rfl <;> assumption) (xi_goodIn (xi_has_in w4))
  have hst' : (F0 m pc ls (st.map (xi_em as))).stack = (av.map (xi_em as)).reverse ++ .ref (as.getD (qo + 1) 0) :: rest.map (xi_em as) := by
    show st.map (xi_em as) = _
    rw [hst, List.map_append, List.map_reverse]
    rfl
  have hcw : xi_wl q = Cond.code q.1 q.2.1 q.2.2.1 q.2.2.2.1 :: xi_gw := by unfold xi_wl xi_cw; rw [hh]
  obtain ⟨ad, had⟩ := xi_addr hJ.1 hqo
  have hrec := va_recv hK hJ.2.2.2.2.1 hr (xi_ws_at (cs := cs) had hqo)
  rw [← xi_getD had, hrc] at hrec
  exact vx_runV (Ts := xi_gw) (nL := ls.size) (C := q.1.cls) (b := as.getD (qo + 1) 0) (As := av.map (xi_em as)) ⟨hx, hb, hls.symm, hown, hts⟩ (hcon q hq as H.size) (cwV n hts hG hcw rfl rfl ⟨rfl, hpl.1, hpl.2, of_decide_eq_true hpar⟩ (xi_fr_ok hfr)) ⟨xi_blind _ as h H.size, hrec, xi_pre hTb hJ hS hAb _⟩ rfl (by rw [List.length_map]; exact hn) rfl hst' (xi_sum8 hsum) hd ⟨hcell, hslot⟩
set_option maxHeartbeats 4000000 in
-- a constructor, by its link or by the nest's
theorem xi_siteI (C0 : xi_Cx p s m args c cc own D cs b X A) (hTb : xi_Tb D cs b base X s) (hAb : ∀ q, A q → base ≤ q) (hJ : xi_Wd D cs b base X A as h H) (hS : va_S A s.heap H locs) (hls : ls.size = c.maxLocals)
    (hq : xm_tab[y]? = some q) (hh : q.2.2.2.2.1 = none) (hret : q.2.2.2.1 = none) (hnm : q.1.name = "<init>") (hd : decode cc pc = .ok (.invokespecial k, 3)) (w1 : (.methodLink own k q.1 : Cond) ∈ xi_gw ∨ Cond.methodLinkNest own k q.1 "NoisyCodes" ∈ xi_nw) (w2 : (.instanceMethod q.1 : Cond) ∈ xi_gw) (w3 : (.initialized q.1.cls : Cond) ∈ xi_gw) (w4 : (xi_cw q : Cond) ∈ xi_gw)
    {qo : Nat} {v : Option Value} (hfr : xi_fr qc q = true) (hpl : xi_pl q.1 = true) (hpar : xi_par q.1.desc n = true) (hn : av.length = n) (hcon : xi_Con l D cs b base X y (.ref (qo + 1) :: av) h (.inl v) h2 dk dn) (hst : st = av.reverse ++ .ref (qo + 1) :: rest) (hsum : (rest.map fun v => v.category).sum ≤ 8) (hcell : cells + dk ≤ K0) (hslot : slots + dn ≤ N0) :
    vx_Run p l e (xi_rm qc K0 N0) s m args below meth c H locs cells slots dk dn (F0 m pc ls (st.map (xi_em as))) (rest.map (xi_em as)) (xi_Qc D cs b base X as H.size (.inl v) h2 ((Value.ref (qo + 1) :: av).map (xi_em as)).toArray) (xi_XC D cs b base X as H.size (.inl v) h2) (xi_A as H.size) := by
  obtain ⟨hx, hb, hown, hts, hnw, hK, hX, hbl, hbA, hA⟩ := C0
  have hpl := xi_pl_ok hpl
  have hst' : (F0 m pc ls (st.map (xi_em as))).stack = (av.map (xi_em as)).reverse ++ .ref (as.getD (qo + 1) 0) :: rest.map (xi_em as) := by
    show st.map (xi_em as) = _
    rw [hst, List.map_append, List.map_reverse]
    rfl
  have hcw : xi_wl q = Cond.code q.1 q.2.1 q.2.2.1 none :: xi_gw := by unfold xi_wl xi_cw; rw [hh, hret]
  have hG := xi_goodIn (xi_has_in w4)
  have hM := xi_met (hcon q hq as H.size)
  rcases w1 with w1 | w1
  · exact xi_run_of (va_runI (Ts := xi_gw) (nL := ls.size) (b := as.getD (qo + 1) 0) (As := av.map (xi_em as)) ⟨hx, hb, hls.symm, hown, hts⟩ hM (cwI n hts hG hcw rfl rfl (hts _ (xi_has_in w3)) (hts _ (xi_has_in w1)) (hts _ (xi_has_in w2)) hnm ⟨hpl.1, hpl.2, of_decide_eq_true hpar⟩ (xi_fr_ok hfr)) ⟨xi_blind _ as h H.size, xi_pre hTb hJ hS hAb _⟩ rfl (by rw [List.length_map]; exact hn) rfl hst' (xi_sum8 hsum) hd ⟨hcell, hslot⟩)
  · exact xi_run_of (va_runIN (Ts := xi_gw) (nL := ls.size) (b := as.getD (qo + 1) 0) (As := av.map (xi_em as)) ⟨hx, hb, hls.symm, hown, hts⟩ hM ⟨va_cnB n hts hG hcw rfl rfl (hnw _ w1) (hts _ (xi_has_in w3)) ⟨hpl.1, hpl.2, of_decide_eq_true hpar⟩ (xi_fr_ok hfr), hnm, hts _ (xi_has_in w2)⟩ ⟨xi_blind _ as h H.size, xi_pre hTb hJ hS hAb _⟩ rfl (by rw [List.length_map]; exact hn) rfl hst' (xi_sum8 hsum) hd ⟨hcell, hslot⟩)
set_option maxHeartbeats 4000000 in
-- the abstract Way.locate by the receiver's class
theorem xi_siteA (C0 : xi_Cx p s m args c cc own D cs b X A) (hTb : xi_Tb D cs b base X s) (hAb : ∀ q, A q → base ≤ q) (hJ : xi_Wd D cs b base X A as h H) (hS : va_S A s.heap H locs) (hls : ls.size = c.maxLocals)
    (hq : xm_tab[y]? = some q) (hh : q.2.2.2.2.1 = none) {x : MethodName} (hxn : x.cls = "NoisyCodes$Way") (hd : decode cc pc = .ok (.invokevirtual k, 3)) (w1 : (.methodLink own k x : Cond) ∈ xi_gw) (w2 : (.instanceMethod q.1 : Cond) ∈ xi_gw) (w3 : (.initialized q.1.cls : Cond) ∈ xi_gw) (w4 : (xi_cw q : Cond) ∈ xi_gw)
    {ci qo : Nat} {fs : List Value} {r : vw_C} (hr : xi_cl[ci]? = some r) (w5 : (.selects r.1 x q.1 : Cond) ∈ xi_gw) (w6 : (.sameMethod x.cls "NoisyCodes$Way" x.name x.desc : Cond) ∈ xi_gw) (w7 : Cond.declares ⟨"NoisyCodes$Way", x.name, x.desc⟩ ∈ xi_nw) (hqo : h[qo + 1]? = some (.inr (.inr (.inr (ci, fs)))))
    {v : Option Value} (hfr : xi_fr qc q = true) (hpar : xi_par x.desc n = true) (hn : av.length = n) (hcon : xi_Con l D cs b base X y (.ref (qo + 1) :: av) h (.inl v) h2 dk dn) (hst : st = av.reverse ++ .ref (qo + 1) :: rest) (hsum : (rest.map fun v => v.category).sum ≤ 8) (hcell : cells + dk ≤ K0) (hslot : slots + dn ≤ N0) :
    vx_Run p l e (xi_rm qc K0 N0) s m args below meth c H locs cells slots dk dn (F0 m pc ls (st.map (xi_em as))) (rest.map (xi_em as)) (xi_Qc D cs b base X as H.size (.inl v) h2 ((Value.ref (qo + 1) :: av).map (xi_em as)).toArray) (xi_XC D cs b base X as H.size (.inl v) h2) (xi_A as H.size) := by
  obtain ⟨hx, hb, hown, hts, hnw, hK, hX, hbl, hbA, hA⟩ := C0
  have hG : GoodIn xi_gw (va_wsU own k r.1 "NoisyCodes$Way" x q.1 (xi_wl q)) := xi_good3 (ws0 := [.methodLink own k x, .sameMethod x.cls "NoisyCodes$Way" x.name x.desc, .selects r.1 x q.1, .instanceMethod q.1, .initialized q.1.cls]) (fun w hw => by
    simp only [List.mem_cons, List.not_mem_nil, or_false] at hw
    rcases hw with rfl | rfl | rfl | rfl | rfl <;> assumption) (xi_goodIn (xi_has_in w4))
  have hst' : (F0 m pc ls (st.map (xi_em as))).stack = (av.map (xi_em as)).reverse ++ .ref (as.getD (qo + 1) 0) :: rest.map (xi_em as) := by
    show st.map (xi_em as) = _
    rw [hst, List.map_append, List.map_reverse]
    rfl
  have hcw : xi_wl q = Cond.code q.1 q.2.1 q.2.2.1 q.2.2.2.1 :: xi_gw := by unfold xi_wl xi_cw; rw [hh]
  obtain ⟨ad, had⟩ := xi_addr hJ.1 hqo
  have hrec := va_recv hK hJ.2.2.2.2.1 hr (xi_ws_at (cs := cs) had hqo)
  rw [← xi_getD had] at hrec
  exact xi_run_of (va_runU (Ts := xi_gw) (nL := ls.size) (C := r.1) (b := as.getD (qo + 1) 0) (As := av.map (xi_em as)) ⟨hx, hb, hls.symm, hown, hts⟩ (xi_met (hcon q hq as H.size)) (va_cwA n hts hG hcw rfl rfl (hnw _ w7) ⟨by decide +kernel, by decide +kernel, of_decide_eq_true hpar⟩ (xi_fr_ok hfr)) ⟨xi_blind _ as h H.size, hrec, xi_pre hTb hJ hS hAb _⟩ rfl (by rw [List.length_map]; exact hn) rfl hst' (xi_sum8 hsum) hd ⟨hcell, hslot⟩)
end XD
end
section
/-! A static method called by the name of a subclass; new int[4][4]. DRAFT until it has compiled once. -/
section XU
variable {p : Program} {l : Launch} {e : Env} {s : State} {m : MethodId} {args : Array Value} {below : List Frame} {meth : Method} {c : Code} {H : Heap} {locs : List Loc} {cells slots : Nat}
variable {cc : ByteArray} {pc : Nat} {ls : Array Slot} {as : List Nat} {own : String} {D : va_G} {cs : Nat → ClassId} {b base : Nat} {X : List Int32} {A : Nat → Prop} {h h2 : List xi_C} {o : xi_O} {dk dn K0 N0 k n y : Nat} {st rest av : List Value} {qc q : xm_T}
set_option maxHeartbeats 4000000 in
theorem xi_siteU (C0 : xi_Cx p s m args c cc own D cs b X A) (hTb : xi_Tb D cs b base X s) (hAb : ∀ q, A q → base ≤ q) (hJ : xi_Wd D cs b base X A as h H) (hS : va_S A s.heap H locs) (hls : ls.size = c.maxLocals)
    (hq : xm_tab[y]? = some q) (hh : q.2.2.2.2.1 = none) (hd : decode cc pc = .ok (.invokestatic k, 3)) (w1 : (.methodLink own k ⟨own, q.1.name, q.1.desc⟩ : Cond) ∈ xi_gw) (w1b : (.sameMethod own q.1.cls q.1.name q.1.desc : Cond) ∈ xi_gw) (w2 : (.static q.1 : Cond) ∈ xi_gw) (w3 : (.initialized q.1.cls : Cond) ∈ xi_gw) (w4 : (xi_cw q : Cond) ∈ xi_gw)
    {v : Option Value} (hfr : xi_fr qc q = true) (hpl : xi_pl q.1 = true) (hpar : xi_par q.1.desc n = true) (hn : av.length = n) (hcon : xi_Con l D cs b base X y av h (.inl v) h2 dk dn) (hst : st = av.reverse ++ rest) (hsum : (rest.map fun v => v.category).sum ≤ 8) (hcell : cells + dk ≤ K0) (hslot : slots + dn ≤ N0) :
    vx_Run p l e (xi_rm qc K0 N0) s m args below meth c H locs cells slots dk dn (F0 m pc ls (st.map (xi_em as))) (rest.map (xi_em as)) (xi_Qc D cs b base X as H.size (.inl v) h2 (av.map (xi_em as)).toArray) (xi_XC D cs b base X as H.size (.inl v) h2) (xi_A as H.size) := by
  obtain ⟨hx, hb, hown, hts, hnw, hK, hX, hbl, hbA, hA⟩ := C0
  have hpl := xi_pl_ok hpl
  have hst' : (F0 m pc ls (st.map (xi_em as))).stack = (av.map (xi_em as)).reverse ++ rest.map (xi_em as) := by
    show st.map (xi_em as) = _
    rw [hst, List.map_append, List.map_reverse]
  have hcw : xi_wl q = Cond.code q.1 q.2.1 q.2.2.1 q.2.2.2.1 :: xi_gw := by unfold xi_wl xi_cw; rw [hh]
  have hG := xi_goodIn (xi_has_in w4)
  have hM := xi_met (hcon q hq as H.size)
  have hcode : (Cond.code q.1 q.2.1 q.2.2.1 q.2.2.2.1).before args s = true := hts _ (by have h9 := xi_has_in w4; unfold xi_cw at h9; rw [hh] at h9; exact h9)
  have hB : Back l (xi_rm qc K0 N0) p e below s args q.1 3 8 (PreOf (xi_rm qc K0 N0) dk dn (va_Pc (av.map (xi_em as)) (xi_In D cs b base X as h H.size))) (PostOf (xi_Qc D cs b base X as H.size (.inl v) h2) dk dn (xi_A as H.size)) :=
    back_of (bytes := q.2.1) (maxL := q.2.2.1) (ret := q.2.2.2.1) hM (xi_blind _ as h H.size) rfl rfl (xi_fr_ok hfr).1 (xi_fr_ok hfr).2 (pay_in hts hG) (by rw [hcw]; exact List.mem_cons_self) (fun a' U hW => word_at hW (xi_good1 w3).2 (hts _ (xi_has_in w3)))
  obtain ⟨mk, hnamed⟩ := Cond.code_named hcode
  obtain ⟨methM, cM, hmethM, -, -, -, -, -, -, hsigM⟩ := Cond.code_spec hnamed hcode
  have hlen : ∀ sig, parseMethodDescriptor q.1.desc = some sig → (av.map (xi_em as)).length = sig.parameters.length := fun sig h9 => by
    have h8 := of_decide_eq_true hpar
    rw [h9] at h8
    rw [List.length_map, hn]
    exact (Option.some.inj h8).symm
  have hstatic : methM.isStatic = true := Cond.static_spec hnamed hmethM (hts _ (xi_has_in w2))
  obtain ⟨kP, hkP, -⟩ := className_of_methodNamed hnamed
  have hinitP : kP.init = .initialized := Cond.initialized_spec (findClass_of_methodNamed hnamed) hkP (hts _ (xi_has_in w3))
  refine xi_run_of (fun T hT Xs => ?_)
  obtain ⟨vm₁, X₁, hstep₁⟩ := Xs.invokestaticUp hx (own := own) (owner := q.1.cls) (x := ⟨own, q.1.name, q.1.desc⟩) hown (hts _ (xi_has_in w1)) (hts _ (xi_has_in w1b)) hpl hnamed hmethM hstatic hkP hinitP (g := F0 m pc ls (st.map (xi_em as))) rfl (argsL := av.map (xi_em as)) (rest := rest.map (xi_em as)) (hlen _ hsigM) hst' (by rw [hb]; exact hd)
  obtain ⟨v', ⟨U', l2, c2, s2⟩, X', ⟨g', mk', t, L, e1, e2, hq9, h1, hL, h3, h4⟩, hsteps⟩ := hB m meth c ⟨T.setVm vm₁, locs, cells, slots⟩ { F0 m pc ls (st.map (xi_em as)) with stack := rest.map (xi_em as) } (.invokestatic k) mk (av.map (xi_em as)).toArray X₁ rfl hls (by rw [hb]; exact hd) (xi_sum8 (m := m) (pc := pc) (ls := ls) (st := rest) hsum) (X₁.named hnamed) ⟨hcell, hslot, xi_pre hTb hJ hS hAb _ (T.setVm vm₁) hT X₁.warmed⟩
  dsimp only [Pt.U, Pt.locs, Pt.cells, Pt.slots] at X' e1 e2 h1 h3 h4 hsteps
  subst h1; subst h3; subst h4
  exact ⟨v', (T.setVm vm₁).calling g' mk' (av.map (xi_em as)).toArray, t, U', L, hT, X', hL, e1, e2, hq9, fun target h9 => hstep₁ _ fun acts => by rw [doInvoke_state]; exact hsteps.trans h9⟩
end XU
section XV
variable {p : Program} {l : Launch} {e : Env} {R : Room} {s : State} {m : MethodId} {args : Array Value} {below : List Frame} {meth : Method} {c : Code} {H : Heap} {locs : List Loc} {cells slots : Nat} {Q : State → Prop}
variable {cc : ByteArray} {pc : Nat} {ls : Array Slot} {as : List Nat} {nL : Nat} {own : String} {D : va_G} {cs : Nat → ClassId} {b base : Nat} {X : List Int32} {A : Nat → Prop} {h : List xi_C}
def xi_grid (n : Nat) : List xi_C := [.inr (.inr (.inl (1, [some (n + 1), some (n + 2), some (n + 3), some (n + 4)]))), .inl [0, 0, 0, 0], .inl [0, 0, 0, 0], .inl [0, 0, 0, 0], .inl [0, 0, 0, 0]]
theorem xi_inner (cA : ClassId) : Jvm.Free.Multi.innerC cA 4 (defaultValue .int) = vp_cell cA (4, .inl (fun j => ([0, 0, 0, 0] : List Int32).getD j 0)) := by
  show ({ cls := cA, slots := Array.replicate 4 (Value.int 0), vm := .none } : Cell) = { cls := cA, slots := arrSlots 4 (fun j => ([0, 0, 0, 0] : List Int32).getD j 0), vm := .none }
  congr 1
theorem xi_arrV_eq (cA : ClassId) (n : Nat) (f g : Nat → Value) (h : ∀ j, j < n → f j = g j) : arrV cA n f = arrV cA n g := by
  have h1 : (fun j : Fin n => f j.val) = fun j : Fin n => g j.val := funext (fun j => h j.val j.isLt)
  show ({ cls := cA, slots := Array.ofFn (n := n) fun j => f j.val, vm := .none } : Cell) = { cls := cA, slots := Array.ofFn (n := n) fun j => g j.val, vm := .none }
  rw [h1]
theorem xi_outerI (cA : ClassId) (M N : Nat) : ∀ i, Jvm.Free.Multi.outerC cA M N i = arrV cA M (fun j => if j < i then .ref (N + 1 + j) else .null)
  | 0 => by
    show ({ cls := cA, slots := Array.replicate M .null, vm := .none } : Cell) = _
    rw [arrV_new]
    exact xi_arrV_eq _ _ _ _ (fun j _ => by simp)
  | i + 1 => by
    show (Jvm.Free.Multi.outerC cA M N i).setSlot i (.ref (N + 1 + i)) = _
    rw [xi_outerI cA M N i, arrV_store]
    refine xi_arrV_eq _ _ _ _ (fun j _ => ?_)
    unfold updV
    by_cases h : j = i
    · subst h
      rw [if_pos rfl, if_pos (Nat.lt_succ_self j)]
    · rw [if_neg h]
      show (if j < i then Value.ref (N + 1 + j) else .null) = _
      by_cases h2 : j < i
      · rw [if_pos h2, if_pos (by omega)]
      · rw [if_neg h2, if_neg (by omega)]
theorem xi_outer (cA : ClassId) (N : Nat) (f : Nat → Option Nat) (hf : ∀ j, j < 4 → f j = some (N + 1 + j)) : Jvm.Free.Multi.outerC cA 4 N 4 = vp_cell cA (4, .inr (.inr (.inr (.inr f)))) := by
  rw [vp_cell_q, xi_outerI]
  refine xi_arrV_eq _ _ _ _ (fun j hj => ?_)
  rw [if_pos hj, hf j hj]
  rfl
set_option maxHeartbeats 4000000 in
theorem xi_mna_ok (C0 : xi_Cx p s m args c cc own D cs b X A) (hAO : xi_AOA s) (hAb : ∀ q, A q → base ≤ q) (hJ : xi_Wd D cs b base X A as h H) (hS : va_S A s.heap H locs) {k : Nat} {lv : xi_L} {st : List Value} (hd : decode cc pc = .ok (.multianewarray k 2, 4))
    (w1 : (.classLink own k "[[I" : Cond) ∈ xi_gw) (w2 : (.arrayClass .int : Cond) ∈ xi_gw) (hwf : xi_wf lv (.int 4 :: .int 4 :: st) h = true) (hcell : cells + 5 ≤ R.cells) (hslot : slots + 20 ≤ R.slots) (hl : lv_has ls nL (xi_el as lv))
    (kk : ∀ (z : List Nat) (H1 : Heap), xi_Wd D cs b base X A (as ++ z) (h ++ xi_grid h.length) H1 → va_S A s.heap H1 locs → lv_has ls nL (xi_el (as ++ z) lv) → W p l e R s m args below meth c H1 locs (cells + 5) (slots + 20) Q (F0 m (pc + 4) ls ((Value.ref h.length :: st).map (xi_em (as ++ z))))) : W p l e R s m args below meth c H locs cells slots Q (F0 m pc ls ((Value.int 4 :: .int 4 :: st).map (xi_em as))) := by
  have hJ0 := hJ
  obtain ⟨hx, hb, hown, hts, hnw, hK, hX, hbl, hbA, hA⟩ := C0
  obtain ⟨hlen, ha0, hh0, hbase, hP, hD⟩ := hJ
  unfold xi_wf at hwf
  obtain ⟨hwf, hwh⟩ := Bool.and_eq_true_iff.mp hwf
  obtain ⟨hwl, hws⟩ := Bool.and_eq_true_iff.mp hwf
  have hws : st.all (xi_wfv h.length) = true := by simpa [xi_wfv] using hws
  have h0 : 0 < h.length := (List.getElem?_eq_some_iff.mp hh0).1
  have e4 : (4 : Int32).toNatClampNeg = 4 := by decide
  intro T hT Xs
  obtain ⟨vm₁, cA, comp, -, fA, fC, hO, hI, X', step⟩ := Xs.multianewarray2F hx (ty := .int) hown (by rw [show ("[" ++ (FieldType.array .int).toString) = "[[I" by decide]; exact hts _ w1) hAO (hts _ (xi_has_in w2)) (g := F0 m pc ls (.int 4 :: .int 4 :: st.map (xi_em as))) rfl (by rw [hb]; exact hd) (n := 4) (k := 4) rfl (by decide) (by decide) (by decide) (by decide) (by decide) rfl rfl (by rw [e4]; omega) (by rw [e4]; omega)
  rw [e4] at X' step
  have X' := (show cells + 1 + 4 = cells + 5 by omega) ▸ (show slots + 4 + 4 * 4 = slots + 20 by omega) ▸ X'
  have hc0 : s.vm.findClass ("[" ++ (FieldType.int).toString) = some (cs 0) := (hK.2 0 (cs 0, .int) rfl).2
  have hc3 : s.vm.findClass ("[" ++ (FieldType.array .int).toString) = some (cs 3) := (hK.2 3 (cs 3, .array .int) rfl).2
  have ec0 : comp = cs 0 := Option.some.inj (fC.symm.trans hc0)
  have ec3 : cA = cs 3 := Option.some.inj (fA.symm.trans hc3)
  subst ec0
  subst ec3
  have hTh : (T.setVm vm₁).heap = H := hT
  obtain ⟨f1, f2, -, -⟩ := Jvm.Free.Multi.fill_facts (T.setVm vm₁) (cs 3) (cs 0) 4 4 (defaultValue .int) 4
  have hold : ∀ x : Nat, x < H.size → (Jvm.Free.Multi.fill (T.setVm vm₁) (cs 3) (cs 0) 4 4 (defaultValue .int) 4).heap[x]? = H[x]? := fun x hx9 => by
    have := Jvm.Free.Multi.fill_old (T.setVm vm₁) (cs 3) (cs 0) 4 4 (defaultValue .int) (a := x) (by rw [hTh]; exact hx9) 4
    rw [hTh] at this
    exact this
  have hrow : ∀ j : Nat, j < 4 → (Jvm.Free.Multi.fill (T.setVm vm₁) (cs 3) (cs 0) 4 4 (defaultValue .int) 4).heap[H.size + 1 + j]? = some (Jvm.Free.Multi.innerC (cs 0) 4 (defaultValue .int)) := fun j hj => by
    have := Jvm.Free.Multi.fill_inner (T.setVm vm₁) (cs 3) (cs 0) 4 4 (defaultValue .int) 4 j hj
    rw [hTh] at this
    exact this
  rw [hTh] at f1 f2
  generalize Jvm.Free.Multi.fill (T.setVm vm₁) (cs 3) (cs 0) 4 4 (defaultValue .int) 4 = F at X' step f1 f2 hold hrow
  have hgz : ∀ j, j < 5 → (as ++ [H.size, H.size + 1, H.size + 2, H.size + 3, H.size + 4]).getD (h.length + j) 0 = H.size + j := fun j hj => by
    rw [List.getD_eq_getElem?_getD, ← hlen, List.getElem?_append_right (Nat.le_add_right _ _), Nat.add_sub_cancel_left]
    rcases (show j = 0 ∨ j = 1 ∨ j = 2 ∨ j = 3 ∨ j = 4 by omega) with rfl | rfl | rfl | rfl | rfl <;> rfl
  have hlq : lv_has ls nL (xi_el (as ++ [H.size, H.size + 1, H.size + 2, H.size + 3, H.size + 4]) lv) := by rw [xi_el_app (by rw [hlen]; exact hwl)]; exact hl
  have hpush : xi_ws cs (as ++ [H.size, H.size + 1, H.size + 2, H.size + 3, H.size + 4]) (h ++ xi_grid h.length) = xi_ws cs as h ++ ([H.size, H.size + 1, H.size + 2, H.size + 3, H.size + 4].zip (xi_grid h.length)).map (fun q => (q.1, xi_ea cs (as ++ [H.size, H.size + 1, H.size + 2, H.size + 3, H.size + 4]) q.2)) := xi_ws_push hlen h0 hwh
  have hAs : ∀ j, A (H.size + j) := fun j => hA _ (Nat.le_trans hS.1 (Nat.le_add_right _ _))
  have hP0 : va_P D xi_cl (xi_ws cs as h) F.heap := hP.kept (fun k9 x hx9 => hold x.1 ((hP k9 x hx9).lt))
  have hrw : ∀ j, j < 4 → F.heap[H.size + 1 + j]? = some (vp_cell (cs 0) (4, .inl (fun j => ([0, 0, 0, 0] : List Int32).getD j 0))) := fun j hj => by rw [hrow j hj, xi_inner]
  have hot := xi_outer (cs 3) H.size (fun j => (([some (h.length + 1), some (h.length + 2), some (h.length + 3), some (h.length + 4)] : List (Option Nat)).getD j none).map (fun i => (as ++ [H.size, H.size + 1, H.size + 2, H.size + 3, H.size + 4]).getD i 0)) (fun j hj => by
    rcases (show j = 0 ∨ j = 1 ∨ j = 2 ∨ j = 3 by omega) with rfl | rfl | rfl | rfl
    · exact congrArg some (hgz 1 (by decide))
    · exact congrArg some (hgz 2 (by decide))
    · exact congrArg some (hgz 3 (by decide))
    · exact congrArg some (hgz 4 (by decide)))
  have hP1 : va_P D xi_cl (([H.size, H.size + 1, H.size + 2, H.size + 3, H.size + 4].zip (xi_grid h.length)).map (fun q => (q.1, xi_ea cs (as ++ [H.size, H.size + 1, H.size + 2, H.size + 3, H.size + 4]) q.2))) F.heap := fun k9 x hx9 => by
    have h9 : k9 < 5 := (List.getElem?_eq_some_iff.mp hx9).1
    rcases (show k9 = 0 ∨ k9 = 1 ∨ k9 = 2 ∨ k9 = 3 ∨ k9 = 4 by omega) with rfl | rfl | rfl | rfl | rfl
    · cases hx9
      show F.heap[H.size]? = some _
      rw [f2]
      exact congrArg some hot
    · cases hx9
      exact hrw 0 (by decide)
    · cases hx9
      exact hrw 1 (by decide)
    · cases hx9
      exact hrw 2 (by decide)
    · cases hx9
      exact hrw 3 (by decide)
  have hx1 : ∀ (k9 : Nat) (x : Nat × va_E), (([H.size, H.size + 1, H.size + 2, H.size + 3, H.size + 4].zip (xi_grid h.length)).map (fun q => (q.1, xi_ea cs (as ++ [H.size, H.size + 1, H.size + 2, H.size + 3, H.size + 4]) q.2)))[k9]? = some x → x.1 = H.size + k9 := fun k9 x hx9 => by
    have h9 : k9 < 5 := (List.getElem?_eq_some_iff.mp hx9).1
    rcases (show k9 = 0 ∨ k9 = 1 ∨ k9 = 2 ∨ k9 = 3 ∨ k9 = 4 by omega) with rfl | rfl | rfl | rfl | rfl <;> (cases hx9; rfl)
  have hD1 : va_D A (([H.size, H.size + 1, H.size + 2, H.size + 3, H.size + 4].zip (xi_grid h.length)).map (fun q => (q.1, xi_ea cs (as ++ [H.size, H.size + 1, H.size + 2, H.size + 3, H.size + 4]) q.2))) :=
    ⟨fun i j x y hi hj hxy => by have g1 := hx1 i x hi; have g2 := hx1 j y hj; omega, fun k9 x hx9 => by rw [hx1 k9 x hx9]; exact hAs k9⟩
  have hJ1 : xi_Wd D cs b base X A (as ++ [H.size, H.size + 1, H.size + 2, H.size + 3, H.size + 4]) (h ++ xi_grid h.length) F.heap := by
    refine ⟨by rw [List.length_append, List.length_append, hlen]; rfl, by rw [List.getElem?_append_left (by omega)]; exact ha0, by rw [List.getElem?_append_left h0]; exact hh0, fun a ha => ?_, by rw [hpush]; exact hP0.app hP1, by rw [hpush]; exact hD.app hD1 (fun i j x y hi hj => by have g1 := (hP i x hi).lt; have g2 := hx1 j y hj; omega)⟩
    rw [List.drop_append_of_le_length (by omega)] at ha
    rcases List.mem_append.mp ha with ha | ha
    · exact hbase a ha
    · simp only [List.mem_cons, List.not_mem_nil, or_false] at ha
      rcases ha with rfl | rfl | rfl | rfl | rfl
      · exact hAb _ (hAs 0)
      · exact hAb _ (hAs 1)
      · exact hAb _ (hAs 2)
      · exact hAb _ (hAs 3)
      · exact hAb _ (hAs 4)
  have hS1 : va_S A s.heap F.heap locs := ⟨Nat.le_trans hS.1 (by rw [f1]; omega), fun q hq hn => by rw [hold q (Nat.lt_of_lt_of_le hq hS.1)]; exact hS.2.1 q hq hn, hS.2.2⟩
  have hk := kk _ F.heap hJ1 hS1 hlq
  rw [List.map_cons, xi_em_apps (by rw [hlen]; exact hws)] at hk
  have e9 : xi_em (as ++ [H.size, H.size + 1, H.size + 2, H.size + 3, H.size + 4]) (.ref h.length) = .ref H.size := congrArg Value.ref (hgz 0 (by decide))
  rw [e9] at hk
  obtain ⟨t2, a1, b1⟩ := hk F rfl X'
  refine ⟨t2, step t2 ?_, b1⟩
  rw [hT]
  exact a1
end XV
end
section
/-! What a row of the tables must be, and how the kernel checks it. DRAFT until it has compiled once. -/
def xi_nm : List String := ["java/lang/RuntimeException", "java/lang/Exception"]
def xi_dec (cc : ByteArray) (pc : Nat) (i : Instr) : Bool := match decode cc pc with
  | .ok (j, n) => decide (j = i) && (n == xi_len i || (match i with
    | .tableswitch .. => true
    | _ => false))
  | .error _ => false
def xi_okx (own : String) (ik ic x : Nat) : Prop := ∃ E, xi_ex[x]? = some E ∧ Bundle.fit E = true ∧ Cond.classLink own ik E ∈ xi_gw ∧ Cond.initialized E ∈ xi_gw ∧ (∀ w ∈ vx_at0 own ic E xi_nm, w ∈ xi_gw ∨ w ∈ xi_nw) ∧ (Cond.classLink own ik E :: Cond.initialized E :: vx_at0 own ic E xi_nm).all vx_ot = true
-- Way.locate
def xi_loc : MethodName := ⟨"NoisyCodes$Way", "locate", "(LNoisyCodes$Field;[II[I)V"⟩
-- a call's row
def xi_okc (qc : xm_T) (r : xi_R) : Prop := match r.1 with
  | .invokestatic k => r.2.1 < 900 → ∃ q, xm_tab[r.2.1]? = some q ∧ (r.2.1 = xi_up → Cond.methodLink qc.1.cls k ⟨qc.1.cls, q.1.name, q.1.desc⟩ ∈ xi_gw ∧ Cond.sameMethod qc.1.cls q.1.cls q.1.name q.1.desc ∈ xi_gw ∧ q.2.2.2.2.1 = none) ∧ (r.2.1 ≠ xi_up → Cond.methodLink qc.1.cls k q.1 ∈ xi_gw) ∧ Cond.static q.1 ∈ xi_gw ∧ Cond.initialized q.1.cls ∈ xi_gw ∧ xi_cw q ∈ xi_gw ∧ xi_fr qc q = true ∧ xi_pl q.1 = true ∧ xi_par q.1.desc r.2.2.1 = true
  | .invokespecial k => r.2.1 < 900 → ∃ q, xm_tab[r.2.1]? = some q ∧ q.2.2.2.2.1 = none ∧ q.2.2.2.1 = none ∧ q.1.name = "<init>" ∧ (Cond.methodLink qc.1.cls k q.1 ∈ xi_gw ∨ Cond.methodLinkNest qc.1.cls k q.1 "NoisyCodes" ∈ xi_nw) ∧ Cond.instanceMethod q.1 ∈ xi_gw ∧ Cond.initialized q.1.cls ∈ xi_gw ∧ xi_cw q ∈ xi_gw ∧ xi_fr qc q = true ∧ xi_pl q.1 = true ∧ xi_par q.1.desc (r.2.2.1 - 1) = true
  | .invokevirtual k => (r.2.1 = 900 → ∀ ci y, xi_vt 900 ci = some y → ∃ rr q, xi_cl[ci]? = some rr ∧ xm_tab[y]? = some q ∧ q.2.2.2.2.1 = none ∧ Cond.methodLink qc.1.cls k xi_loc ∈ xi_gw ∧ Cond.instanceMethod q.1 ∈ xi_gw ∧ Cond.initialized q.1.cls ∈ xi_gw ∧ xi_cw q ∈ xi_gw ∧ Cond.selects rr.1 xi_loc q.1 ∈ xi_gw ∧ Cond.sameMethod xi_loc.cls "NoisyCodes$Way" xi_loc.name xi_loc.desc ∈ xi_gw ∧ Cond.declares ⟨"NoisyCodes$Way", xi_loc.name, xi_loc.desc⟩ ∈ xi_nw ∧ xi_fr qc q = true ∧ xi_par xi_loc.desc (r.2.2.1 - 1) = true)
      ∧ (r.2.1 ≠ 900 → ∃ rr q, xi_cl[xc_tab.getD r.2.1 99]? = some rr ∧ xm_tab[r.2.1]? = some q ∧ rr.1 = q.1.cls ∧ q.2.2.2.2.1 = none ∧ Cond.methodLink qc.1.cls k q.1 ∈ xi_gw ∧ Cond.instanceMethod q.1 ∈ xi_gw ∧ Cond.initialized q.1.cls ∈ xi_gw ∧ xi_cw q ∈ xi_gw ∧ Cond.selects q.1.cls q.1 q.1 ∈ xi_gw ∧ xi_fr qc q = true ∧ xi_pl q.1 = true ∧ xi_par q.1.desc (r.2.2.1 - 1) = true)
  | _ => True
-- a row
def xi_oko (qc : xm_T) (rows : List (Option xi_R)) (pc : Nat) (r : xi_R) : Prop := match r.1 with
  | .ldc k => Cond.constant qc.1.cls k r.2.2.2 ∈ xi_gw
  | .ldc_w k => Cond.constant qc.1.cls k r.2.2.2 ∈ xi_gw
  | .goto o => (pc : Int) + o = (r.2.1 : Int)
  | .ifCond _ o => (pc : Int) + o = (r.2.1 : Int)
  | .if_icmp _ o => (pc : Int) + o = (r.2.1 : Int)
  | .istore_n k => k.val < qc.2.2.1
  | .istore k => k < qc.2.2.1
  | .astore_n k => k.val < qc.2.2.1
  | .astore k => k < qc.2.2.1
  | .iinc k _ => k < qc.2.2.1
  | .getfield k => xi_okf qc.1.cls k r.2.1 r.2.2.1
  | .putfield k => xi_okp qc.1.cls qc.1.name k r.2.1 r.2.2.1
  | .new k => (r.2.2.1 = 1 → ∀ ic z, rows[pc + 4]? = some (some (.invokespecial ic, z)) → xi_okx qc.1.cls k ic r.2.1 ∧ 6 ≤ qc.2.2.2.2.2.1 ∧ 8 + (13 * 3 + 42) ≤ qc.2.2.2.2.2.2) ∧ xi_okn qc.1.cls r.1 r.2.1 r.2.2.1
  | .newarray _ => xi_okn qc.1.cls r.1 r.2.1 r.2.2.1
  | .anewarray _ => xi_okn qc.1.cls r.1 r.2.1 r.2.2.1
  | .multianewarray _ _ => xi_okn qc.1.cls r.1 r.2.1 r.2.2.1
  | .invokespecial _ => r.2.1 = 1000 → 1 ≤ qc.2.2.2.2.2.1 ∧ 20 ≤ qc.2.2.2.2.2.2
  | .invokestatic _ => r.2.1 = 1001 → 1 ≤ qc.2.2.2.2.2.1 ∧ 8 + (nativeFrameWords "java/lang/System" "arraycopy" 5 + 11) ≤ qc.2.2.2.2.2.2
  | _ => True
def xi_okr (qc : xm_T) (rows : List (Option xi_R)) (pc : Nat) (r : xi_R) : Prop := xi_dec qc.2.1 pc r.1 = true ∧ xi_okc qc r ∧ xi_okw qc.1.cls r.1 r.2.1 ∧ xi_oko qc rows pc r
-- the numbers of a row
def xi_num (qc : xm_T) (rows : List (Option xi_R)) (pc : Nat) (r : xi_R) : Bool := xi_dec qc.2.1 pc r.1 && (match r.1 with
  | .goto o => decide ((pc : Int) + o = (r.2.1 : Int))
  | .ifCond _ o => decide ((pc : Int) + o = (r.2.1 : Int))
  | .if_icmp _ o => decide ((pc : Int) + o = (r.2.1 : Int))
  | .istore_n k => decide (k.val < qc.2.2.1)
  | .istore k => decide (k < qc.2.2.1)
  | .astore_n k => decide (k.val < qc.2.2.1)
  | .astore k => decide (k < qc.2.2.1)
  | .iinc k _ => decide (k < qc.2.2.1)
  | .getfield _ => (match xi_cl[r.2.1]? with
    | some q => decide (r.2.2.1 < q.2.2)
    | none => false)
  | .putfield _ => (match xi_cl[r.2.1]? with
    | some q => decide (r.2.2.1 < q.2.2) && (!(q.2.1 r.2.2.1).2.2.2 || (decide ((q.2.1 r.2.2.1).1 = qc.1.cls) && decide (qc.1.name = "<init>")))
    | none => false)
  | .new k => bif r.2.2.1 == 1 then (match rows[pc + 4]?, xi_ex[r.2.1]? with
    | some (some (.invokespecial ic, _)), some E => (Cond.classLink qc.1.cls k E :: Cond.initialized E :: vx_at0 qc.1.cls ic E xi_nm).all vx_ot && decide (6 ≤ qc.2.2.2.2.2.1) && decide (8 + (13 * 3 + 42) ≤ qc.2.2.2.2.2.2)
    | _, _ => false) else decide (r.2.1 < xi_cl.length)
  | .anewarray _ => r.2.1 == 0
  | .multianewarray _ j => j == 2
  | .invokespecial _ => bif decide (900 ≤ r.2.1) then (!(r.2.1 == 1000) || (decide (1 ≤ qc.2.2.2.2.2.1) && decide (20 ≤ qc.2.2.2.2.2.2))) else (match xm_tab[r.2.1]? with
    | some q => q.2.2.2.2.1.isNone && q.2.2.2.1.isNone && decide (q.1.name = "<init>") && xi_fr qc q && (r.2.2.1 - 1 == xn_tab.getD r.2.1 0)
    | none => false)
  | .invokestatic _ => bif decide (900 ≤ r.2.1) then (!(r.2.1 == 1001) || (decide (1 ≤ qc.2.2.2.2.2.1) && decide (8 + (nativeFrameWords "java/lang/System" "arraycopy" 5 + 11) ≤ qc.2.2.2.2.2.2))) else (match xm_tab[r.2.1]? with
    | some q => (!(r.2.1 == xi_up) || q.2.2.2.2.1.isNone) && xi_fr qc q && (r.2.2.1 == xn_tab.getD r.2.1 0)
    | none => false)
  | .invokevirtual _ => bif r.2.1 == 900 then ([4, 5, 6].all (fun ci => match xi_vt 900 ci with
      | some y => (match xm_tab[y]? with
        | some q => q.2.2.2.2.1.isNone && xi_fr qc q
        | none => false)
      | none => false) && r.2.2.1 == 5) else (match xm_tab[r.2.1]? with
    | some q => q.2.2.2.2.1.isNone && xi_fr qc q && (r.2.2.1 - 1 == xn_tab.getD r.2.1 0) && decide (xc_tab.getD r.2.1 99 < xi_cl.length)
    | none => false)
  | _ => true)
-- the words of a row: those that keep, and the others
def xi_need (qc : xm_T) (rows : List (Option xi_R)) (pc : Nat) (r : xi_R) : List Cond := match r.1 with
  | .ldc k => [.constant qc.1.cls k r.2.2.2]
  | .ldc_w k => [.constant qc.1.cls k r.2.2.2]
  | .getfield k => bif decide (r.2.2.2 = 0) then (match xi_cl[r.2.1]? with
    | some q => [.fieldLink qc.1.cls k (q.2.1 r.2.2.1).1 (q.2.1 r.2.2.1).2.1 (q.2.1 r.2.2.1).2.2.1]
    | none => []) else []
  | .putfield k => (match xi_cl[r.2.1]? with
    | some q => [.fieldLink qc.1.cls k (q.2.1 r.2.2.1).1 (q.2.1 r.2.2.1).2.1 (q.2.1 r.2.2.1).2.2.1]
    | none => [])
  | .new k => bif r.2.2.1 == 1 then (match rows[pc + 4]?, xi_ex[r.2.1]? with
    | some (some (.invokespecial ic, _)), some E => .classLink qc.1.cls k E :: .initialized E :: (vx_at0 qc.1.cls ic E xi_nm).filter goodWord
    | _, _ => []) else (match xi_cl[r.2.1]? with
    | some q => [.classLink qc.1.cls k q.1]
    | none => [])
  | .newarray .int => [.arrayClass .int]
  | .newarray .long => [.arrayClass .long]
  | .anewarray k => [.classLink qc.1.cls k "NoisyCodes$Way"]
  | .multianewarray k _ => [.classLink qc.1.cls k "[[I", .arrayClass .int]
  | .invokespecial k => bif decide (900 ≤ r.2.1) then (bif r.2.1 == 1000 then [.methodLink qc.1.cls k objectInit, .instanceMethod objectInit, .code objectInit ⟨#[0xb1]⟩ 1 none] else []) else (match xm_tab[r.2.1]? with
    | some q => (bif decide (r.2.2.2 = 0) then [.methodLink qc.1.cls k q.1] else []) ++ [.instanceMethod q.1, .initialized q.1.cls, xi_cw q]
    | none => [])
  | .invokestatic k => bif decide (900 ≤ r.2.1) then (bif r.2.1 == 1001 then [.methodLink qc.1.cls k arraycopyName, .native arraycopyName, .static arraycopyName, .initialized "java/lang/System"] else []) else (match xm_tab[r.2.1]? with
    | some q => (bif r.2.1 == xi_up then [.methodLink qc.1.cls k ⟨qc.1.cls, q.1.name, q.1.desc⟩, .sameMethod qc.1.cls q.1.cls q.1.name q.1.desc] else [.methodLink qc.1.cls k q.1]) ++ [.static q.1, .initialized q.1.cls, xi_cw q]
    | none => [])
  | .invokevirtual k => bif r.2.1 == 900 then [.methodLink qc.1.cls k xi_loc, .sameMethod xi_loc.cls "NoisyCodes$Way" xi_loc.name xi_loc.desc] ++ [4, 5, 6].flatMap (fun ci => match xi_vt 900 ci, xi_cl[ci]? with
      | some y, some rr => (match xm_tab[y]? with
        | some q => [.instanceMethod q.1, .initialized q.1.cls, xi_cw q, .selects rr.1 xi_loc q.1]
        | none => [])
      | _, _ => []) else (match xm_tab[r.2.1]? with
    | some q => [.methodLink qc.1.cls k q.1, .instanceMethod q.1, .initialized q.1.cls, xi_cw q, .selects q.1.cls q.1 q.1]
    | none => [])
  | _ => []
def xi_needN (qc : xm_T) (rows : List (Option xi_R)) (pc : Nat) (r : xi_R) : List Cond := match r.1 with
  | .getfield k => bif decide (r.2.2.2 = 0) then [] else (match xi_cl[r.2.1]? with
    | some q => [.fieldLinkNest qc.1.cls k (q.2.1 r.2.2.1).1 (q.2.1 r.2.2.1).2.1 (q.2.1 r.2.2.1).2.2.1 "NoisyCodes"]
    | none => [])
  | .new _ => bif r.2.2.1 == 1 then (match rows[pc + 4]?, xi_ex[r.2.1]? with
    | some (some (.invokespecial ic, _)), some E => (vx_at0 qc.1.cls ic E xi_nm).filter (fun w => !goodWord w)
    | _, _ => []) else []
  | .invokespecial k => bif decide (900 ≤ r.2.1) then [] else bif decide (r.2.2.2 = 0) then [] else (match xm_tab[r.2.1]? with
    | some q => [.methodLinkNest qc.1.cls k q.1 "NoisyCodes"]
    | none => [])
  | .invokevirtual _ => bif r.2.1 == 900 then [.declares ⟨"NoisyCodes$Way", xi_loc.name, xi_loc.desc⟩] else []
  | _ => []
-- handlers
def xi_okh (own : String) (hh : List (Nat × Nat × Nat × Nat)) (hk : List (Nat × Nat × Nat × List Nat)) : Prop := match hh, hk with
  | [], [] => True
  | a :: hh, q :: hk => a.1 = q.1 ∧ a.2.1 = q.2.1 ∧ a.2.2.1 = q.2.2.1 ∧ a.2.2.2 ≠ 0 ∧ (∃ x E, q.2.2.2 = [x] ∧ xi_ex[x]? = some E ∧ Cond.classLink own a.2.2.2 E ∈ xi_gw ∧ Cond.castable E E ∈ xi_nw) ∧ xi_okh own hh hk
  | _, _ => False
def xi_numh (hh : List (Nat × Nat × Nat × Nat)) (hk : List (Nat × Nat × Nat × List Nat)) : Bool := match hh, hk with
  | [], [] => true
  | a :: hh, q :: hk => a.1 == q.1 && a.2.1 == q.2.1 && a.2.2.1 == q.2.2.1 && !(a.2.2.2 == 0) && (match q.2.2.2 with
    | [x] => decide (x < xi_ex.length)
    | _ => false) && xi_numh hh hk
  | _, _ => false
def xi_needh (own : String) (hh : List (Nat × Nat × Nat × Nat)) (hk : List (Nat × Nat × Nat × List Nat)) : List Cond := match hh, hk with
  | a :: hh, q :: hk => (match q.2.2.2 with
    | [x] => [.classLink own a.2.2.2 (xi_ex.getD x "")]
    | _ => []) ++ xi_needh own hh hk
  | _, _ => []
def xi_needhN (hk : List (Nat × Nat × Nat × List Nat)) : List Cond := match hk with
  | q :: hk => (match q.2.2.2 with
    | [x] => [.castable (xi_ex.getD x "") (xi_ex.getD x "")]
    | _ => []) ++ xi_needhN hk
  | _ => []
-- a method: numbers and words
def xi_numm (q : xm_T) (mt : xi_M) : Bool := (List.range mt.1.length).all (fun pc => match mt.1[pc]? with
    | some (some r) => xi_num q mt.1 pc r
    | _ => true) && (match q.2.2.2.2.1 with
    | none => mt.2.1.isEmpty
    | some hh => xi_numh hh mt.2.1) && (match q.2.2.2.1 with
    | none => mt.2.2 == 0
    | some .int => mt.2.2 == 1
    | some .boolean => mt.2.2 == 2
    | _ => false)
def xi_needm (q : xm_T) (mt : xi_M) : List Cond := (List.range mt.1.length).flatMap (fun pc => match mt.1[pc]? with
    | some (some r) => xi_need q mt.1 pc r
    | _ => []) ++ (match q.2.2.2.2.1 with
    | none => []
    | some hh => xi_needh q.1.cls hh mt.2.1)
def xi_needmN (q : xm_T) (mt : xi_M) : List Cond := (List.range mt.1.length).flatMap (fun pc => match mt.1[pc]? with
    | some (some r) => xi_needN q mt.1 pc r
    | _ => []) ++ xi_needhN mt.2.1
-- what the tables say of each method
def xi_tabB (y : Nat) : Bool := match xm_tab[y]? with
  | some q => xi_pl q.1 && xi_par q.1.desc (xn_tab.getD y 0) && plainName q.1.cls && (match xi_cl[xc_tab.getD y 99]? with
    | some rr => decide (rr.1 = q.1.cls)
    | none => true) && (q.2.2.1 == xl_tab.getD y 0)
  | none => true
theorem xi_dec_ok {cc : ByteArray} {pc : Nat} {i : Instr} (h : xi_dec cc pc i = true) : ∃ n, decode cc pc = .ok (i, n) ∧ ((∀ d lo hi o, i ≠ .tableswitch d lo hi o) → n = xi_len i) := by
  unfold xi_dec at h
  split at h
  · rename_i j n hd
    obtain ⟨h1, h2⟩ := Bool.and_eq_true_iff.mp h
    have h1 := of_decide_eq_true h1
    subst h1
    refine ⟨n, hd, fun hs => ?_⟩
    rcases Bool.or_eq_true_iff.mp h2 with z | z
    · simpa using z
    · split at z
      · exact absurd rfl (hs _ _ _ _)
      · cases z
  · cases h
theorem xi_none {α : Type} {o : Option α} (h : o.isNone = true) : o = none := by
  cases o with
  | none => rfl
  | some _ => cases h
theorem xi_vt9 {ci y : Nat} (h : xi_vt 900 ci = some y) : ci = 4 ∨ ci = 5 ∨ ci = 6 := by
  unfold xi_vt at h
  simp only [beq_self_eq_true, cond_true] at h
  split at h
  · exact Or.inl rfl
  · exact Or.inr (Or.inl rfl)
  · exact Or.inr (Or.inr rfl)
  · cases h
theorem xi_vtn {a ci y : Nat} (ha : a ≠ 900) (h : xi_vt a ci = some y) : y = a ∧ xc_tab.getD a 99 = ci := by
  unfold xi_vt at h
  rw [show (a == 900) = false by simpa using ha] at h
  simp only [cond_false] at h
  cases hc : (xc_tab.getD a 99 == ci) with
  | false => rw [hc] at h; cases h
  | true =>
    rw [hc] at h
    have h : some a = some y := h
    cases h
    exact ⟨rfl, by simpa using hc⟩
section XK
variable {qc : xm_T} {rows : List (Option xi_R)} {pc : Nat} {k a b : Nat} {v : Int32}
set_option maxHeartbeats 4000000 in
theorem xi_ok_static (hT : ∀ y, xi_tabB y = true) (hn : xi_num qc rows pc (.invokestatic k, a, b, v) = true) (hw : ∀ w ∈ xi_need qc rows pc (.invokestatic k, a, b, v), w ∈ xi_gw) : xi_okr qc rows pc (.invokestatic k, a, b, v) := by
  obtain ⟨hd, hn⟩ := Bool.and_eq_true_iff.mp hn
  dsimp only at hn
  unfold xi_need at hw
  dsimp only at hw
  by_cases h9 : 900 ≤ a
  · rw [decide_eq_true h9] at hn hw
    simp only [cond_true] at hn hw
    refine ⟨hd, fun h => absurd (show a < 900 from h) (by omega), fun h => ?_, fun h => ?_⟩
    · have h : a = 1001 := h
      subst h
      simp only [beq_self_eq_true, cond_true] at hw
      exact ⟨hw _ (by simp), hw _ (by simp), hw _ (by simp), hw _ (by simp)⟩
    · have h : a = 1001 := h
      subst h
      simp only [beq_self_eq_true, Bool.not_true, Bool.false_or, Bool.and_eq_true, decide_eq_true_eq] at hn
      exact hn
  · rw [decide_eq_false h9] at hn hw
    simp only [cond_false] at hn hw
    split at hn
    · rename_i q hq
      rw [hq] at hw
      dsimp only at hw
      simp only [Bool.and_eq_true, beq_iff_eq] at hn
      obtain ⟨⟨n1, n2⟩, n3⟩ := hn
      have ht := hT a
      unfold xi_tabB at ht
      rw [hq] at ht
      simp only [Bool.and_eq_true] at ht
      obtain ⟨⟨⟨⟨t1, t2⟩, t3⟩, t4⟩, t5⟩ := ht
      have n3 : b = xn_tab.getD a 0 := n3
      refine ⟨hd, fun _ => ⟨q, hq, fun hu => ?_, fun hu => ?_, hw _ (by simp), hw _ (by simp), hw _ (by simp), n2, t1, by show xi_par _ b = true; rw [n3]; exact t2⟩, fun h => absurd (show a = 1001 from h) (by omega), fun h => absurd (show a = 1001 from h) (by omega)⟩
      · have hu : a = xi_up := hu
        rw [hu, beq_self_eq_true] at hw n1
        simp only [cond_true, Bool.not_true, Bool.false_or] at hw n1
        exact ⟨hw _ (by simp), hw _ (by simp), xi_none n1⟩
      · have hu : (a == xi_up) = false := by simpa using hu
        rw [hu] at hw
        simp only [cond_false] at hw
        exact hw _ (by simp)
    · cases hn
set_option maxHeartbeats 4000000 in
theorem xi_ok_special (hT : ∀ y, xi_tabB y = true) (hn : xi_num qc rows pc (.invokespecial k, a, b, v) = true) (hw : ∀ w ∈ xi_need qc rows pc (.invokespecial k, a, b, v), w ∈ xi_gw) (hwN : ∀ w ∈ xi_needN qc rows pc (.invokespecial k, a, b, v), w ∈ xi_nw) : xi_okr qc rows pc (.invokespecial k, a, b, v) := by
  obtain ⟨hd, hn⟩ := Bool.and_eq_true_iff.mp hn
  dsimp only at hn
  unfold xi_need at hw
  unfold xi_needN at hwN
  dsimp only at hw hwN
  by_cases h9 : 900 ≤ a
  · rw [decide_eq_true h9] at hn hw
    simp only [cond_true] at hn hw
    refine ⟨hd, fun h => absurd (show a < 900 from h) (by omega), fun h => ?_, fun h => ?_⟩
    · have h : a = 1000 := h
      subst h
      simp only [beq_self_eq_true, cond_true] at hw
      exact ⟨hw _ (by simp), hw _ (by simp), hw _ (by simp)⟩
    · have h : a = 1000 := h
      subst h
      simp only [beq_self_eq_true, Bool.not_true, Bool.false_or, Bool.and_eq_true, decide_eq_true_eq] at hn
      exact hn
  · rw [decide_eq_false h9] at hn hw hwN
    simp only [cond_false] at hn hw hwN
    split at hn
    · rename_i q hq
      rw [hq] at hw hwN
      dsimp only at hw hwN
      simp only [Bool.and_eq_true, beq_iff_eq, decide_eq_true_eq] at hn
      obtain ⟨⟨⟨⟨n1, n2⟩, n3⟩, n4⟩, n5⟩ := hn
      have ht := hT a
      unfold xi_tabB at ht
      rw [hq] at ht
      simp only [Bool.and_eq_true] at ht
      obtain ⟨⟨⟨⟨t1, t2⟩, t3⟩, t4⟩, t5⟩ := ht
      refine ⟨hd, fun _ => ⟨q, hq, xi_none n1, xi_none n2, n3, ?_, hw _ (by simp), hw _ (by simp), hw _ (by simp), n4, t1, by show xi_par _ (b - 1) = true; rw [n5]; exact t2⟩, fun h => absurd (show a = 1000 from h) (by omega), fun h => absurd (show a = 1000 from h) (by omega)⟩
      by_cases hv : v = 0
      · rw [decide_eq_true hv] at hw
        simp only [cond_true] at hw
        exact Or.inl (hw _ (by simp))
      · rw [decide_eq_false hv] at hwN
        simp only [cond_false] at hwN
        exact Or.inr (hwN _ (by simp))
    · cases hn
set_option maxHeartbeats 4000000 in
theorem xi_ok_virtual (hT : ∀ y, xi_tabB y = true) (hn : xi_num qc rows pc (.invokevirtual k, a, b, v) = true) (hw : ∀ w ∈ xi_need qc rows pc (.invokevirtual k, a, b, v), w ∈ xi_gw) (hwN : ∀ w ∈ xi_needN qc rows pc (.invokevirtual k, a, b, v), w ∈ xi_nw) : xi_okr qc rows pc (.invokevirtual k, a, b, v) := by
  obtain ⟨hd, hn⟩ := Bool.and_eq_true_iff.mp hn
  dsimp only at hn
  unfold xi_need at hw
  unfold xi_needN at hwN
  dsimp only at hw hwN
  refine ⟨hd, ⟨fun h => ?_, fun h => ?_⟩, trivial, trivial⟩
  · have h : a = 900 := h
    subst h
    simp only [beq_self_eq_true, cond_true] at hn hw hwN
    obtain ⟨n1, n2⟩ := Bool.and_eq_true_iff.mp hn
    intro ci y hy
    have hci := xi_vt9 hy
    have hm : ci ∈ [4, 5, 6] := by rcases hci with rfl | rfl | rfl <;> simp
    have n1 := List.all_eq_true.mp n1 ci hm
    rw [hy] at n1
    dsimp only at n1
    have hr : ∃ rr, xi_cl[ci]? = some rr := by rcases hci with rfl | rfl | rfl <;> exact ⟨_, rfl⟩
    obtain ⟨rr, hr⟩ := hr
    split at n1
    · rename_i q hq
      obtain ⟨n3, n4⟩ := Bool.and_eq_true_iff.mp n1
      have hwc : ∀ w ∈ [Cond.instanceMethod q.1, .initialized q.1.cls, xi_cw q, .selects rr.1 xi_loc q.1], w ∈ xi_gw := fun w hw9 => hw w (List.mem_append_right _ (List.mem_flatMap.mpr ⟨ci, hm, by rw [hy, hr]; dsimp only; rw [hq]; exact hw9⟩))
      have hw0 : ∀ w ∈ [Cond.methodLink qc.1.cls k xi_loc, .sameMethod xi_loc.cls "NoisyCodes$Way" xi_loc.name xi_loc.desc], w ∈ xi_gw := fun w hw9 => hw w (List.mem_append_left _ hw9)
      exact ⟨rr, q, hr, hq, xi_none n3, hw0 _ (by simp), hwc _ (by simp), hwc _ (by simp), hwc _ (by simp), hwc _ (by simp), hw0 _ (by simp), hwN _ (by simp), n4, by show xi_par _ (b - 1) = true; rw [show b = 5 by simpa using n2]; decide +kernel⟩
    · cases n1
  · have h : a ≠ 900 := h
    rw [show (a == 900) = false by simpa using h] at hn hw
    simp only [cond_false] at hn hw
    split at hn
    · rename_i q hq
      rw [hq] at hw
      dsimp only at hw
      simp only [Bool.and_eq_true, beq_iff_eq, decide_eq_true_eq] at hn
      obtain ⟨⟨⟨n1, n2⟩, n3⟩, n4⟩ := hn
      have ht := hT a
      unfold xi_tabB at ht
      rw [hq] at ht
      simp only [Bool.and_eq_true] at ht
      obtain ⟨⟨⟨⟨t1, t2⟩, t3⟩, t4⟩, t5⟩ := ht
      have hr := List.getElem?_eq_getElem n4
      rw [hr] at t4
      exact ⟨_, q, hr, hq, of_decide_eq_true t4, xi_none n1, hw _ (by simp), hw _ (by simp), hw _ (by simp), hw _ (by simp), hw _ (by simp), n2, t1, by show xi_par _ (b - 1) = true; rw [n3]; exact t2⟩
    · cases hn
set_option maxHeartbeats 4000000 in
theorem xi_ok_new (hn : xi_num qc rows pc (.new k, a, b, v) = true) (hfit : ∀ (x : Nat) (E : String), xi_ex[x]? = some E → Bundle.fit E = true) (hw : ∀ w ∈ xi_need qc rows pc (.new k, a, b, v), w ∈ xi_gw) (hwN : ∀ w ∈ xi_needN qc rows pc (.new k, a, b, v), w ∈ xi_nw) : xi_okr qc rows pc (.new k, a, b, v) := by
  obtain ⟨hd, hn⟩ := Bool.and_eq_true_iff.mp hn
  dsimp only at hn
  unfold xi_need at hw
  unfold xi_needN at hwN
  dsimp only at hw hwN
  refine ⟨hd, trivial, trivial, fun h ic z hz => ?_, fun h => ?_⟩
  · have h : b = 1 := h
    subst h
    simp only [beq_self_eq_true, cond_true] at hn hw hwN
    rw [hz] at hn hw hwN
    (try dsimp only at hn hw hwN)
    cases hE : xi_ex[a]? with
    | none => rw [hE] at hn; cases hn
    | some E =>
      rw [hE] at hn hw hwN
      dsimp only at hn hw hwN
      obtain ⟨hn, n3⟩ := Bool.and_eq_true_iff.mp hn
      obtain ⟨n1, n2⟩ := Bool.and_eq_true_iff.mp hn
      refine ⟨⟨E, hE, hfit a E hE, hw _ (by simp), hw _ (by simp), fun w hw9 => ?_, n1⟩, of_decide_eq_true n2, of_decide_eq_true n3⟩
      cases hg : goodWord w with
      | true => exact Or.inl (hw w (List.mem_cons_of_mem _ (List.mem_cons_of_mem _ (List.mem_filter.mpr ⟨hw9, hg⟩))))
      | false => exact Or.inr (hwN w (List.mem_filter.mpr ⟨hw9, by rw [hg]; rfl⟩))
  · have h : b = 0 := h
    subst h
    rw [show ((0 : Nat) == 1) = false from rfl] at hn hw
    simp only [cond_false] at hn hw
    have hl := of_decide_eq_true hn
    have hr := List.getElem?_eq_getElem hl
    rw [hr] at hw
    exact ⟨_, hr, hw _ (by simp)⟩
set_option maxHeartbeats 8000000 in
theorem xi_okr_of (hT : ∀ y, xi_tabB y = true) (hfit : ∀ (x : Nat) (E : String), xi_ex[x]? = some E → Bundle.fit E = true) {r : xi_R} (hn : xi_num qc rows pc r = true) (hw : ∀ w ∈ xi_need qc rows pc r, w ∈ xi_gw) (hwN : ∀ w ∈ xi_needN qc rows pc r, w ∈ xi_nw) : xi_okr qc rows pc r := by
  obtain ⟨i, a, b, v⟩ := r
  cases i
  case invokestatic k => exact xi_ok_static hT hn hw
  case invokespecial k => exact xi_ok_special hT hn hw hwN
  case invokevirtual k => exact xi_ok_virtual hT hn hw hwN
  case new k => exact xi_ok_new hn hfit hw hwN
  case getfield k =>
    obtain ⟨hd, hn⟩ := Bool.and_eq_true_iff.mp hn
    dsimp only at hn
    unfold xi_need at hw
    unfold xi_needN at hwN
    dsimp only at hw hwN
    split at hn
    · rename_i q hq
      rw [hq] at hw hwN
      dsimp only at hw hwN
      refine ⟨hd, trivial, trivial, ⟨q, hq, of_decide_eq_true hn, ?_⟩⟩
      by_cases hv : v = 0
      · rw [decide_eq_true hv] at hw
        simp only [cond_true] at hw
        exact Or.inl (hw _ (by simp))
      · rw [decide_eq_false hv] at hwN
        simp only [cond_false] at hwN
        exact Or.inr (hwN _ (by simp))
    · cases hn
  case putfield k =>
    obtain ⟨hd, hn⟩ := Bool.and_eq_true_iff.mp hn
    dsimp only at hn
    unfold xi_need at hw
    dsimp only at hw
    split at hn
    · rename_i q hq
      rw [hq] at hw
      dsimp only at hw
      obtain ⟨n1, n2⟩ := Bool.and_eq_true_iff.mp hn
      refine ⟨hd, trivial, trivial, ⟨q, hq, of_decide_eq_true n1, hw _ (by simp), ?_⟩⟩
      rcases Bool.or_eq_true_iff.mp n2 with z | z
      · exact Or.inl (by simpa using z)
      · obtain ⟨z1, z2⟩ := Bool.and_eq_true_iff.mp z
        exact Or.inr ⟨of_decide_eq_true z1, of_decide_eq_true z2⟩
    · cases hn
  case ldc k => exact ⟨(Bool.and_eq_true_iff.mp hn).1, trivial, trivial, hw _ (by simp [xi_need])⟩
  case ldc_w k => exact ⟨(Bool.and_eq_true_iff.mp hn).1, trivial, trivial, hw _ (by simp [xi_need])⟩
  case goto o => exact ⟨(Bool.and_eq_true_iff.mp hn).1, trivial, trivial, show (pc : Int) + o = (a : Int) from of_decide_eq_true (show decide ((pc : Int) + o = (a : Int)) = true from (Bool.and_eq_true_iff.mp hn).2)⟩
  case ifCond c o => exact ⟨(Bool.and_eq_true_iff.mp hn).1, trivial, trivial, show (pc : Int) + o = (a : Int) from of_decide_eq_true (show decide ((pc : Int) + o = (a : Int)) = true from (Bool.and_eq_true_iff.mp hn).2)⟩
  case if_icmp c o => exact ⟨(Bool.and_eq_true_iff.mp hn).1, trivial, trivial, show (pc : Int) + o = (a : Int) from of_decide_eq_true (show decide ((pc : Int) + o = (a : Int)) = true from (Bool.and_eq_true_iff.mp hn).2)⟩
  case istore_n k => exact ⟨(Bool.and_eq_true_iff.mp hn).1, trivial, trivial, show k.val < qc.2.2.1 from of_decide_eq_true (show decide (k.val < qc.2.2.1) = true from (Bool.and_eq_true_iff.mp hn).2)⟩
  case istore k => exact ⟨(Bool.and_eq_true_iff.mp hn).1, trivial, trivial, show k < qc.2.2.1 from of_decide_eq_true (show decide (k < qc.2.2.1) = true from (Bool.and_eq_true_iff.mp hn).2)⟩
  case astore_n k => exact ⟨(Bool.and_eq_true_iff.mp hn).1, trivial, trivial, show k.val < qc.2.2.1 from of_decide_eq_true (show decide (k.val < qc.2.2.1) = true from (Bool.and_eq_true_iff.mp hn).2)⟩
  case astore k => exact ⟨(Bool.and_eq_true_iff.mp hn).1, trivial, trivial, show k < qc.2.2.1 from of_decide_eq_true (show decide (k < qc.2.2.1) = true from (Bool.and_eq_true_iff.mp hn).2)⟩
  case iinc k d => exact ⟨(Bool.and_eq_true_iff.mp hn).1, trivial, trivial, show k < qc.2.2.1 from of_decide_eq_true (show decide (k < qc.2.2.1) = true from (Bool.and_eq_true_iff.mp hn).2)⟩
  case newarray t =>
    refine ⟨(Bool.and_eq_true_iff.mp hn).1, trivial, trivial, ?_⟩
    cases t <;> first | exact hw _ (by simp [xi_need]) | trivial
  case anewarray k => exact ⟨(Bool.and_eq_true_iff.mp hn).1, trivial, trivial, by simpa using (Bool.and_eq_true_iff.mp hn).2, hw _ (by simp [xi_need])⟩
  case multianewarray k j => exact ⟨(Bool.and_eq_true_iff.mp hn).1, trivial, trivial, by simpa using (Bool.and_eq_true_iff.mp hn).2, hw _ (by simp [xi_need]), hw _ (by simp [xi_need])⟩
  all_goals exact ⟨(Bool.and_eq_true_iff.mp hn).1, trivial, trivial, trivial⟩
end XK
theorem xi_okh_of {own : String} : ∀ {hh : List (Nat × Nat × Nat × Nat)} {hk : List (Nat × Nat × Nat × List Nat)}, xi_numh hh hk = true → (∀ w ∈ xi_needh own hh hk, w ∈ xi_gw) → (∀ w ∈ xi_needhN hk, w ∈ xi_nw) → xi_okh own hh hk := by
  intro hh
  induction hh with
  | nil =>
    intro hk hn hw hwN
    cases hk with
    | nil => exact trivial
    | cons q hk => cases hn
  | cons a hh ih =>
    intro hk hn hw hwN
    cases hk with
    | nil => cases hn
    | cons q hk =>
      unfold xi_numh at hn
      unfold xi_needh at hw
      unfold xi_needhN at hwN
      simp only [Bool.and_eq_true, beq_iff_eq, Bool.not_eq_true', beq_eq_false_iff_ne] at hn
      obtain ⟨⟨⟨⟨⟨n1, n2⟩, n3⟩, n4⟩, n5⟩, n6⟩ := hn
      refine ⟨n1, n2, n3, n4, ?_, ih n6 (fun w h => hw w (List.mem_append_right _ h)) (fun w h => hwN w (List.mem_append_right _ h))⟩
      split at n5
      · rename_i x hx
        rw [hx] at hw hwN
        dsimp only at hw hwN
        have hl := of_decide_eq_true n5
        have hE := List.getElem?_eq_getElem hl
        have hg : xi_ex.getD x "" = xi_ex[x] := by rw [List.getD_eq_getElem?_getD, hE]; rfl
        rw [hg] at hw hwN
        exact ⟨x, xi_ex[x], hx, hE, hw _ (List.mem_append_left _ List.mem_cons_self), hwN _ (List.mem_append_left _ List.mem_cons_self)⟩
      · cases n5
theorem xi_rows_of {q : xm_T} {mt : xi_M} (hT : ∀ y, xi_tabB y = true) (hfit : ∀ (x : Nat) (E : String), xi_ex[x]? = some E → Bundle.fit E = true) (hn : xi_numm q mt = true) (hw : ∀ w ∈ xi_needm q mt, w ∈ xi_gw) (hwN : ∀ w ∈ xi_needmN q mt, w ∈ xi_nw) : ∀ pc r, mt.1[pc]? = some (some r) → xi_okr q mt.1 pc r := fun pc r hr => by
  have hl := (List.getElem?_eq_some_iff.mp hr).1
  have hm : pc ∈ List.range mt.1.length := List.mem_range.mpr hl
  unfold xi_numm at hn
  obtain ⟨hn, -⟩ := Bool.and_eq_true_iff.mp hn
  obtain ⟨hn, -⟩ := Bool.and_eq_true_iff.mp hn
  have hn := List.all_eq_true.mp hn pc hm
  rw [hr] at hn
  exact xi_okr_of hT hfit hn (fun w h => hw w (List.mem_append_left _ (List.mem_flatMap.mpr ⟨pc, hm, by rw [hr]; exact h⟩))) (fun w h => hwN w (List.mem_append_left _ (List.mem_flatMap.mpr ⟨pc, hm, by rw [hr]; exact h⟩)))
def xi_okM (q : xm_T) (mt : xi_M) : Prop := (∀ pc r, mt.1[pc]? = some (some r) → xi_okr q mt.1 pc r) ∧ (match q.2.2.2.2.1 with
    | none => mt.2.1 = []
    | some hh => xi_okh q.1.cls hh mt.2.1) ∧ ((q.2.2.2.1 = none ∧ mt.2.2 = 0) ∨ (q.2.2.2.1 = some .int ∧ mt.2.2 = 1) ∨ (q.2.2.2.1 = some .boolean ∧ mt.2.2 = 2))
set_option maxRecDepth 100000 in
theorem xi_tab_all : (List.range xm_tab.length).all xi_tabB = true := by decide +kernel
theorem xi_tabT (y : Nat) : xi_tabB y = true := by
  by_cases h : y < xm_tab.length
  · exact List.all_eq_true.mp xi_tab_all y (List.mem_range.mpr h)
  · unfold xi_tabB
    rw [List.getElem?_eq_none (by omega)]
theorem xi_fitT : ∀ (x : Nat) (E : String), xi_ex[x]? = some E → Bundle.fit E = true := fun x E h => List.all_eq_true.mp (show xi_ex.all Bundle.fit = true by decide +kernel) E (List.mem_of_getElem? h)
theorem xi_okM_of {q : xm_T} {mt : xi_M} {ps ns : List Nat} (hn : xi_numm q mt = true) (hw : xi_lk ps = xi_needm q mt) (hp : ps.all (fun i => decide (i < xi_lwn)) = true) (hg : (xi_lk ps).all goodWord = true) (hwN : xi_lkn ns = xi_needmN q mt) (hpN : ns.all (fun i => decide (i < xi_nw.length)) = true) : xi_okM q mt := by
  have hw : ∀ w ∈ xi_needm q mt, w ∈ xi_gw := xi_lk_in hw hp hg
  have hwN : ∀ w ∈ xi_needmN q mt, w ∈ xi_nw := xi_lkn_in hwN hpN
  refine ⟨xi_rows_of xi_tabT xi_fitT hn hw hwN, ?_, ?_⟩
  · unfold xi_numm at hn
    obtain ⟨hn, -⟩ := Bool.and_eq_true_iff.mp hn
    obtain ⟨-, hn⟩ := Bool.and_eq_true_iff.mp hn
    unfold xi_needm at hw
    unfold xi_needmN at hwN
    cases hh : q.2.2.2.2.1 with
    | none => rw [hh] at hn; exact List.isEmpty_iff.mp hn
    | some h9 =>
      rw [hh] at hn hw
      exact xi_okh_of hn (fun w h => hw w (List.mem_append_right _ h)) (fun w h => hwN w (List.mem_append_right _ h))
  · unfold xi_numm at hn
    obtain ⟨-, hn⟩ := Bool.and_eq_true_iff.mp hn
    split at hn
    · rename_i h9; exact Or.inl ⟨h9, by simpa using hn⟩
    · rename_i h9; exact Or.inr (Or.inl ⟨h9, by simpa using hn⟩)
    · rename_i h9; exact Or.inr (Or.inr ⟨h9, by simpa using hn⟩)
    · cases hn
def xi_F : List xm_T → List xi_M → Prop
  | [], [] => True
  | q :: l, m :: k => xi_okM q m ∧ xi_F l k
  | _, _ => False
theorem xi_F_at : ∀ {l : List xm_T} {k : List xi_M} {y : Nat} {q : xm_T} {m : xi_M}, xi_F l k → l[y]? = some q → k[y]? = some m → xi_okM q m := by
  intro l
  induction l with
  | nil => intro k y q m _ h _; cases h
  | cons a l ih =>
    intro k y q m hF h1 h2
    cases k with
    | nil => cases h2
    | cons b k =>
      obtain ⟨h3, h4⟩ := hF
      cases y with
      | zero => cases h1; cases h2; exact h3
      | succ y => exact ih h4 h1 h2
-- a long method, stretch by stretch
def xi_numr (q : xm_T) (mt : xi_M) (lo n : Nat) : Bool := (List.range' lo n).all (fun pc => match mt.1[pc]? with
    | some (some r) => xi_num q mt.1 pc r
    | _ => true)
def xi_needr (q : xm_T) (mt : xi_M) (lo n : Nat) : List Cond := (List.range' lo n).flatMap (fun pc => match mt.1[pc]? with
    | some (some r) => xi_need q mt.1 pc r
    | _ => [])
def xi_needrN (q : xm_T) (mt : xi_M) (lo n : Nat) : List Cond := (List.range' lo n).flatMap (fun pc => match mt.1[pc]? with
    | some (some r) => xi_needN q mt.1 pc r
    | _ => [])
def xi_segOk (q : xm_T) (mt : xi_M) (lo n : Nat) : Prop := ∀ pc r, lo ≤ pc → pc < lo + n → mt.1[pc]? = some (some r) → xi_okr q mt.1 pc r
theorem xi_segOk_of {q : xm_T} {mt : xi_M} {lo n : Nat} {ps ns : List Nat} (hn : xi_numr q mt lo n = true) (hw : xi_lk ps = xi_needr q mt lo n) (hp : ps.all (fun i => decide (i < xi_lwn)) = true) (hg : (xi_lk ps).all goodWord = true) (hwN : xi_lkn ns = xi_needrN q mt lo n) (hpN : ns.all (fun i => decide (i < xi_nw.length)) = true) : xi_segOk q mt lo n := fun pc r h1 h2 hr => by
  have hw : ∀ w ∈ xi_needr q mt lo n, w ∈ xi_gw := xi_lk_in hw hp hg
  have hwN : ∀ w ∈ xi_needrN q mt lo n, w ∈ xi_nw := xi_lkn_in hwN hpN
  have hm : pc ∈ List.range' lo n := List.mem_range'_1.mpr ⟨h1, h2⟩
  have hn := List.all_eq_true.mp hn pc hm
  rw [hr] at hn
  exact xi_okr_of xi_tabT xi_fitT hn (fun w h => hw w (List.mem_flatMap.mpr ⟨pc, hm, by rw [hr]; exact h⟩)) (fun w h => hwN w (List.mem_flatMap.mpr ⟨pc, hm, by rw [hr]; exact h⟩))
def xi_segs (q : xm_T) (mt : xi_M) : List (Nat × Nat) → Prop
  | [] => True
  | s :: l => xi_segOk q mt s.1 s.2 ∧ xi_segs q mt l
theorem xi_segs_at {q : xm_T} {mt : xi_M} : ∀ {l : List (Nat × Nat)}, xi_segs q mt l → ∀ s ∈ l, xi_segOk q mt s.1 s.2 := by
  intro l
  induction l with
  | nil => intro _ s hs; cases hs
  | cons a l ih =>
    intro h s hs
    rcases List.mem_cons.mp hs with e | e
    · rw [e]; exact h.1
    · exact ih h.2 s e
theorem xi_rows_seg {q : xm_T} {mt : xi_M} {segs : List (Nat × Nat)} {len : Nat} (hlen : mt.1.length = len) (hcov : (List.range len).all (fun pc => segs.any (fun s => decide (s.1 ≤ pc) && decide (pc < s.1 + s.2))) = true) (hs : xi_segs q mt segs) : ∀ pc r, mt.1[pc]? = some (some r) → xi_okr q mt.1 pc r := fun pc r hr => by
  have hl := (List.getElem?_eq_some_iff.mp hr).1
  obtain ⟨s, hs1, hs2⟩ := List.any_eq_true.mp (List.all_eq_true.mp hcov pc (List.mem_range.mpr (by omega)))
  obtain ⟨c1, c2⟩ := Bool.and_eq_true_iff.mp hs2
  exact xi_segs_at hs s hs1 pc r (of_decide_eq_true c1) (of_decide_eq_true c2) hr
end
section
/-! PRINTED by gen.py: the kernel checks the tables, 0 -/
-- 0: NoisyCodes.<init>()V
theorem xk_n0 : xi_numm xm_0 xt_0 = true := by decide +kernel
def xk_p0 : List Nat := [49, 50, 51, 52, 54, 55, 26, 56, 166, 166, 167, 104, 106, 107, 28, 108, 168, 78, 169, 78, 170, 78, 171, 164, 78, 172, 173, 174]
def xk_q0 : List Nat := [4]
theorem xk_w0 : xi_lk xk_p0 = xi_needm xm_0 xt_0 := by decide +kernel
theorem xk_v0 : xi_lkn xk_q0 = xi_needmN xm_0 xt_0 := by decide +kernel
theorem xk_0 : xi_okM xm_0 xt_0 := xi_okM_of xk_n0 xk_w0 (by decide +kernel) (by decide +kernel) xk_v0 (by decide +kernel)
-- 1: NoisyCodes$BlockCode.<init>()V
theorem xk_n1 : xi_numm xm_1 xt_1 = true := by decide +kernel
def xk_p1 : List Nat := [57, 50, 51, 58, 60, 61, 27, 62, 79, 78, 82, 83, 86, 88, 89]
def xk_q1 : List Nat := []
theorem xk_w1 : xi_lk xk_p1 = xi_needm xm_1 xt_1 := by decide +kernel
theorem xk_v1 : xi_lkn xk_q1 = xi_needmN xm_1 xt_1 := by decide +kernel
theorem xk_1 : xi_okM xm_1 xt_1 := xi_okM_of xk_n1 xk_w1 (by decide +kernel) (by decide +kernel) xk_v1 (by decide +kernel)
-- 2: NoisyCodes$Field.<init>()V
theorem xk_n2 : xi_numm xm_2 xt_2 = true := by decide +kernel
def xk_p2 : List Nat := [63, 50, 51, 78, 64, 78, 65, 67]
def xk_q2 : List Nat := []
theorem xk_w2 : xi_lk xk_p2 = xi_needm xm_2 xt_2 := by decide +kernel
theorem xk_v2 : xi_lkn xk_q2 = xi_needmN xm_2 xt_2 := by decide +kernel
theorem xk_2 : xi_okM xm_2 xt_2 := xi_okM_of xk_n2 xk_w2 (by decide +kernel) (by decide +kernel) xk_v2 (by decide +kernel)
-- 3: NoisyCodes$Mender.<init>()V
theorem xk_n3 : xi_numm xm_3 xt_3 = true := by decide +kernel
def xk_p3 : List Nat := [109, 50, 51, 110, 154, 154, 112, 115, 30, 116, 154, 122, 124, 125, 31, 126, 154, 135, 137, 138, 32, 139, 78, 155, 78, 156]
def xk_q3 : List Nat := [10]
theorem xk_w3 : xi_lk xk_p3 = xi_needm xm_3 xt_3 := by decide +kernel
theorem xk_v3 : xi_lkn xk_q3 = xi_needmN xm_3 xt_3 := by decide +kernel
theorem xk_3 : xi_okM xm_3 xt_3 := xi_okM_of xk_n3 xk_w3 (by decide +kernel) (by decide +kernel) xk_v3 (by decide +kernel)
-- 4: NoisyCodes$Formulas.<init>()V
theorem xk_n4 : xi_numm xm_4 xt_4 = true := by decide +kernel
def xk_p4 : List Nat := [118, 29, 119]
def xk_q4 : List Nat := [11]
theorem xk_w4 : xi_lk xk_p4 = xi_needm xm_4 xt_4 := by decide +kernel
theorem xk_v4 : xi_lkn xk_q4 = xi_needmN xm_4 xt_4 := by decide +kernel
theorem xk_4 : xi_okM xm_4 xt_4 := xi_okM_of xk_n4 xk_w4 (by decide +kernel) (by decide +kernel) xk_v4 (by decide +kernel)
-- 5: NoisyCodes$Way.<init>()V
theorem xk_n5 : xi_numm xm_5 xt_5 = true := by decide +kernel
def xk_p5 : List Nat := [120, 50, 51]
def xk_q5 : List Nat := []
theorem xk_w5 : xi_lk xk_p5 = xi_needm xm_5 xt_5 := by decide +kernel
theorem xk_v5 : xi_lkn xk_q5 = xi_needmN xm_5 xt_5 := by decide +kernel
theorem xk_5 : xi_okM xm_5 xt_5 := xi_okM_of xk_n5 xk_w5 (by decide +kernel) (by decide +kernel) xk_v5 (by decide +kernel)
-- 6: NoisyCodes$ShiftRegister.<init>()V
theorem xk_n6 : xi_numm xm_6 xt_6 = true := by decide +kernel
def xk_p6 : List Nat := [118, 29, 119, 78, 128, 78, 129]
def xk_q6 : List Nat := [12]
theorem xk_w6 : xi_lk xk_p6 = xi_needm xm_6 xt_6 := by decide +kernel
theorem xk_v6 : xi_lkn xk_q6 = xi_needmN xm_6 xt_6 := by decide +kernel
theorem xk_6 : xi_okM xm_6 xt_6 := xi_okM_of xk_n6 xk_w6 (by decide +kernel) (by decide +kernel) xk_v6 (by decide +kernel)
-- 7: NoisyCodes$Division.<init>()V
theorem xk_n7 : xi_numm xm_7 xt_7 = true := by decide +kernel
def xk_p7 : List Nat := [118, 29, 119, 78, 141, 78, 142, 78, 143, 78, 144]
def xk_q7 : List Nat := [13]
theorem xk_w7 : xi_lk xk_p7 = xi_needm xm_7 xt_7 := by decide +kernel
theorem xk_v7 : xi_lkn xk_q7 = xi_needmN xm_7 xt_7 := by decide +kernel
theorem xk_7 : xi_okM xm_7 xt_7 := xi_okM_of xk_n7 xk_w7 (by decide +kernel) (by decide +kernel) xk_v7 (by decide +kernel)
-- 8: NoisyCodes.begin(III)I
theorem xk_n8 : xi_numm xm_8 xt_8 = true := by decide +kernel
def xk_p8 : List Nat := [203, 204, 27, 205, 206, 37, 34, 228, 237, 242, 245, 247, 229, 230, 50, 51, 231, 236, 243, 259, 218, 260, 220, 261, 222, 232, 234, 224, 249, 250, 251, 252, 252, 253, 254, 255, 255, 256, 257, 229, 248, 207, 215, 216, 217, 219, 221, 223, 227, 226, 225, 270, 271, 27, 272, 279, 38, 34, 228, 237, 242, 245, 247, 229, 230, 50, 51, 231, 236, 243, 259, 218, 260, 220, 261, 222, 232, 234, 224, 289, 290, 291, 252, 252, 253, 254, 255, 255, 256, 257, 229, 288, 280, 282, 239, 283, 284, 285, 286, 227, 226, 287, 167, 294, 295, 27, 297, 296, 166, 298, 299, 26, 301, 300, 173, 331, 333, 25, 334, 4, 174, 166]
def xk_q8 : List Nat := [14, 16, 18, 21, 14, 16, 18, 22, 9]
theorem xk_w8 : xi_lk xk_p8 = xi_needm xm_8 xt_8 := by decide +kernel
theorem xk_v8 : xi_lkn xk_q8 = xi_needmN xm_8 xt_8 := by decide +kernel
theorem xk_8 : xi_okM xm_8 xt_8 := xi_okM_of xk_n8 xk_w8 (by decide +kernel) (by decide +kernel) xk_v8 (by decide +kernel)
-- 9: NoisyCodes$Field.hasRightDegree(I)Z
theorem xk_n9 : xi_numm xm_9 xt_9 = true := by decide +kernel
def xk_p9 : List Nat := []
def xk_q9 : List Nat := []
theorem xk_w9 : xi_lk xk_p9 = xi_needm xm_9 xt_9 := by decide +kernel
theorem xk_v9 : xi_lkn xk_q9 = xi_needmN xm_9 xt_9 := by decide +kernel
theorem xk_9 : xi_okM xm_9 xt_9 := xi_okM_of xk_n9 xk_w9 (by decide +kernel) (by decide +kernel) xk_v9 (by decide +kernel)
-- 10: NoisyCodes$Field.isPrimitive(I)Z
theorem xk_n10 : xi_numm xm_10 xt_10 = true := by decide +kernel
def xk_p10 : List Nat := [273, 274, 27, 275, 276, 277, 27, 278, 276, 277, 27, 278]
def xk_q10 : List Nat := []
theorem xk_w10 : xi_lk xk_p10 = xi_needm xm_10 xt_10 := by decide +kernel
theorem xk_v10 : xi_lkn xk_q10 = xi_needmN xm_10 xt_10 := by decide +kernel
theorem xk_10 : xi_okM xm_10 xt_10 := xi_okM_of xk_n10 xk_w10 (by decide +kernel) (by decide +kernel) xk_v10 (by decide +kernel)
-- 11: NoisyCodes$Field.orderFor(I)I
theorem xk_n11 : xi_numm xm_11 xt_11 = true := by decide +kernel
def xk_p11 : List Nat := []
def xk_q11 : List Nat := []
theorem xk_w11 : xi_lk xk_p11 = xi_needm xm_11 xt_11 := by decide +kernel
theorem xk_v11 : xi_lkn xk_q11 = xi_needmN xm_11 xt_11 := by decide +kernel
theorem xk_11 : xi_okM xm_11 xt_11 := xi_okM_of xk_n11 xk_w11 (by decide +kernel) (by decide +kernel) xk_v11 (by decide +kernel)
-- 12: NoisyCodes$Field.timesX(II)I
theorem xk_n12 : xi_numm xm_12 xt_12 = true := by decide +kernel
def xk_p12 : List Nat := [273, 274, 27, 275]
def xk_q12 : List Nat := []
theorem xk_w12 : xi_lk xk_p12 = xi_needm xm_12 xt_12 := by decide +kernel
theorem xk_v12 : xi_lkn xk_q12 = xi_needmN xm_12 xt_12 := by decide +kernel
theorem xk_12 : xi_okM xm_12 xt_12 := xi_okM_of xk_n12 xk_w12 (by decide +kernel) (by decide +kernel) xk_v12 (by decide +kernel)
-- 13: NoisyCodes$Field.makeFrom(I)V
theorem xk_n13 : xi_numm xm_13 xt_13 = true := by decide +kernel
def xk_p13 : List Nat := [273, 274, 27, 275, 67, 67, 64, 65, 276, 277, 27, 278]
def xk_q13 : List Nat := []
theorem xk_w13 : xi_lk xk_p13 = xi_needm xm_13 xt_13 := by decide +kernel
theorem xk_v13 : xi_lkn xk_q13 = xi_needmN xm_13 xt_13 := by decide +kernel
theorem xk_13 : xi_okM xm_13 xt_13 := xi_okM_of xk_n13 xk_w13 (by decide +kernel) (by decide +kernel) xk_v13 (by decide +kernel)
-- 14: NoisyCodes$BlockCode.makeFor(I)V
theorem xk_n14 : xi_numm xm_14 xt_14 = true := by decide +kernel
def xk_p14 : List Nat := [302, 304, 26, 305, 1, 83, 306, 308, 26, 309, 2, 86, 325, 326, 40, 327, 88, 79, 88, 89]
def xk_q14 : List Nat := [1]
theorem xk_w14 : xi_lk xk_p14 = xi_needm xm_14 xt_14 := by decide +kernel
theorem xk_v14 : xi_lkn xk_q14 = xi_needmN xm_14 xt_14 := by decide +kernel
theorem xk_14 : xi_okM xm_14 xt_14 := xi_okM_of xk_n14 xk_w14 (by decide +kernel) (by decide +kernel) xk_v14 (by decide +kernel)
-- 15: NoisyCodes$BlockCode.rootsFor(I)I
theorem xk_n15 : xi_numm xm_15 xt_15 = true := by decide +kernel
def xk_p15 : List Nat := [79]
def xk_q15 : List Nat := [1]
theorem xk_w15 : xi_lk xk_p15 = xi_needm xm_15 xt_15 := by decide +kernel
theorem xk_v15 : xi_lkn xk_q15 = xi_needmN xm_15 xt_15 := by decide +kernel
theorem xk_15 : xi_okM xm_15 xt_15 := xi_okM_of xk_n15 xk_w15 (by decide +kernel) (by decide +kernel) xk_v15 (by decide +kernel)
-- 16: NoisyCodes$BlockCode.polynomialOf(I)I
theorem xk_n16 : xi_numm xm_16 xt_16 = true := by decide +kernel
def xk_p16 : List Nat := [82, 310, 311, 39, 312, 82, 79, 79, 313, 314, 27, 316, 315, 317, 319, 26, 320, 3, 82, 82]
def xk_q16 : List Nat := [1]
theorem xk_w16 : xi_lk xk_p16 = xi_needm xm_16 xt_16 := by decide +kernel
theorem xk_v16 : xi_lkn xk_q16 = xi_needmN xm_16 xt_16 := by decide +kernel
theorem xk_16 : xi_okM xm_16 xt_16 := xi_okM_of xk_n16 xk_w16 (by decide +kernel) (by decide +kernel) xk_v16 (by decide +kernel)
-- 17: java/util/Arrays.fill([II)V
theorem xk_n17 : xi_numm xm_17 xt_17 = true := by decide +kernel
def xk_p17 : List Nat := []
def xk_q17 : List Nat := []
theorem xk_w17 : xi_lk xk_p17 = xi_needm xm_17 xt_17 := by decide +kernel
theorem xk_v17 : xi_lkn xk_q17 = xi_needmN xm_17 xt_17 := by decide +kernel
theorem xk_17 : xi_okM xm_17 xt_17 := xi_okM_of xk_n17 xk_w17 (by decide +kernel) (by decide +kernel) xk_v17 (by decide +kernel)
-- 18: NoisyCodes$Field.raised(I)I
theorem xk_n18 : xi_numm xm_18 xt_18 = true := by decide +kernel
def xk_p18 : List Nat := [64, 67]
def xk_q18 : List Nat := []
theorem xk_w18 : xi_lk xk_p18 = xi_needm xm_18 xt_18 := by decide +kernel
theorem xk_v18 : xi_lkn xk_q18 = xi_needmN xm_18 xt_18 := by decide +kernel
theorem xk_18 : xi_okM xm_18 xt_18 := xi_okM_of xk_n18 xk_w18 (by decide +kernel) (by decide +kernel) xk_v18 (by decide +kernel)
-- 19: NoisyCodes$BlockCode.multiplyByRoot(I)V
theorem xk_n19 : xi_numm xm_19 xt_19 = true := by decide +kernel
def xk_p19 : List Nat := [82, 82, 82, 79, 82, 321, 322, 27, 324, 323, 82, 79, 82, 321, 322, 27, 324, 323]
def xk_q19 : List Nat := []
theorem xk_w19 : xi_lk xk_p19 = xi_needm xm_19 xt_19 := by decide +kernel
theorem xk_v19 : xi_lkn xk_q19 = xi_needmN xm_19 xt_19 := by decide +kernel
theorem xk_19 : xi_okM xm_19 xt_19 := xi_okM_of xk_n19 xk_w19 (by decide +kernel) (by decide +kernel) xk_v19 (by decide +kernel)
-- 20: NoisyCodes$Field.product(II)I
theorem xk_n20 : xi_numm xm_20 xt_20 = true := by decide +kernel
def xk_p20 : List Nat := [64, 65, 65, 67]
def xk_q20 : List Nat := []
theorem xk_w20 : xi_lk xk_p20 = xi_needm xm_20 xt_20 := by decide +kernel
theorem xk_v20 : xi_lkn xk_q20 = xi_needmN xm_20 xt_20 := by decide +kernel
theorem xk_20 : xi_okM xm_20 xt_20 := xi_okM_of xk_n20 xk_w20 (by decide +kernel) (by decide +kernel) xk_v20 (by decide +kernel)
-- 21: java/lang/Integer.bitCount(I)I
theorem xk_n21 : xi_numm xm_21 xt_21 = true := by decide +kernel
def xk_p21 : List Nat := [328, 329, 329, 330]
def xk_q21 : List Nat := []
theorem xk_w21 : xi_lk xk_p21 = xi_needm xm_21 xt_21 := by decide +kernel
theorem xk_v21 : xi_lkn xk_q21 = xi_needmN xm_21 xt_21 := by decide +kernel
theorem xk_21 : xi_okM xm_21 xt_21 := xi_okM_of xk_n21 xk_w21 (by decide +kernel) (by decide +kernel) xk_v21 (by decide +kernel)
-- 22: NoisyCodes.clearWords()V
theorem xk_n22 : xi_numm xm_22 xt_22 = true := by decide +kernel
def xk_p22 : List Nat := [169, 335, 311, 39, 312, 170, 335, 311, 39, 312, 171, 335, 311, 39, 312, 172, 335, 311, 39, 312]
def xk_q22 : List Nat := []
theorem xk_w22 : xi_lk xk_p22 = xi_needm xm_22 xt_22 := by decide +kernel
theorem xk_v22 : xi_lkn xk_q22 = xi_needmN xm_22 xt_22 := by decide +kernel
theorem xk_22 : xi_okM xm_22 xt_22 := xi_okM_of xk_n22 xk_w22 (by decide +kernel) (by decide +kernel) xk_v22 (by decide +kernel)
-- 23: NoisyCodes.length()I
theorem xk_n23 : xi_numm xm_23 xt_23 = true := by decide +kernel
def xk_p23 : List Nat := [344, 346, 25, 347, 5, 167]
def xk_q23 : List Nat := [3]
theorem xk_w23 : xi_lk xk_p23 = xi_needm xm_23 xt_23 := by decide +kernel
theorem xk_v23 : xi_lkn xk_q23 = xi_needmN xm_23 xt_23 := by decide +kernel
theorem xk_23 : xi_okM xm_23 xt_23 := xi_okM_of xk_n23 xk_w23 (by decide +kernel) (by decide +kernel) xk_v23 (by decide +kernel)
-- 24: NoisyCodes.requireCode()V
theorem xk_n24 : xi_numm xm_24 xt_24 = true := by decide +kernel
def xk_p24 : List Nat := [174, 348, 41, 34, 228, 237, 242, 245, 247, 229, 230, 50, 51, 231, 236, 243, 259, 218, 260, 220, 261, 222, 232, 234, 224, 358, 359, 360, 252, 252, 253, 254, 255, 255, 256, 257, 229, 357, 349, 351, 240, 352, 353, 354, 355, 227, 226, 356]
def xk_q24 : List Nat := [14, 16, 18, 23]
theorem xk_w24 : xi_lk xk_p24 = xi_needm xm_24 xt_24 := by decide +kernel
theorem xk_v24 : xi_lkn xk_q24 = xi_needmN xm_24 xt_24 := by decide +kernel
theorem xk_24 : xi_okM xm_24 xt_24 := xi_okM_of xk_n24 xk_w24 (by decide +kernel) (by decide +kernel) xk_v24 (by decide +kernel)
-- 25: NoisyCodes.generator()I
theorem xk_n25 : xi_numm xm_25 xt_25 = true := by decide +kernel
def xk_p25 : List Nat := [344, 346, 25, 347, 5, 166]
def xk_q25 : List Nat := [8]
theorem xk_w25 : xi_lk xk_p25 = xi_needm xm_25 xt_25 := by decide +kernel
theorem xk_v25 : xi_lkn xk_q25 = xi_needmN xm_25 xt_25 := by decide +kernel
theorem xk_25 : xi_okM xm_25 xt_25 := xi_okM_of xk_n25 xk_w25 (by decide +kernel) (by decide +kernel) xk_v25 (by decide +kernel)
-- 26: NoisyCodes.power(I)I
theorem xk_n26 : xi_numm xm_26 xt_26 = true := by decide +kernel
def xk_p26 : List Nat := [344, 346, 25, 347, 5, 206, 37, 34, 228, 237, 242, 245, 247, 229, 230, 50, 51, 231, 236, 243, 259, 218, 260, 220, 261, 222, 232, 234, 224, 249, 250, 251, 252, 252, 253, 254, 255, 255, 256, 257, 229, 248, 207, 215, 216, 217, 219, 221, 223, 227, 226, 225, 167, 377, 314, 27, 316, 315]
def xk_q26 : List Nat := [14, 16, 18, 21]
theorem xk_w26 : xi_lk xk_p26 = xi_needm xm_26 xt_26 := by decide +kernel
theorem xk_v26 : xi_lkn xk_q26 = xi_needmN xm_26 xt_26 := by decide +kernel
theorem xk_26 : xi_okM xm_26 xt_26 := xi_okM_of xk_n26 xk_w26 (by decide +kernel) (by decide +kernel) xk_v26 (by decide +kernel)
-- 27: NoisyCodes.log(I)I
theorem xk_n27 : xi_numm xm_27 xt_27 = true := by decide +kernel
def xk_p27 : List Nat := [344, 346, 25, 347, 5, 167, 385, 386, 27, 388, 387, 206, 37, 34, 228, 237, 242, 245, 247, 229, 230, 50, 51, 231, 236, 243, 259, 218, 260, 220, 261, 222, 232, 234, 224, 249, 250, 251, 252, 252, 253, 254, 255, 255, 256, 257, 229, 248, 207, 215, 216, 217, 219, 221, 223, 227, 226, 225, 167]
def xk_q27 : List Nat := [14, 16, 18, 21, 0]
theorem xk_w27 : xi_lk xk_p27 = xi_needm xm_27 xt_27 := by decide +kernel
theorem xk_v27 : xi_lkn xk_q27 = xi_needmN xm_27 xt_27 := by decide +kernel
theorem xk_27 : xi_okM xm_27 xt_27 := xi_okM_of xk_n27 xk_w27 (by decide +kernel) (by decide +kernel) xk_v27 (by decide +kernel)
-- 28: NoisyCodes$Field.holds(I)Z
theorem xk_n28 : xi_numm xm_28 xt_28 = true := by decide +kernel
def xk_p28 : List Nat := [67]
def xk_q28 : List Nat := []
theorem xk_w28 : xi_lk xk_p28 = xi_needm xm_28 xt_28 := by decide +kernel
theorem xk_v28 : xi_lkn xk_q28 = xi_needmN xm_28 xt_28 := by decide +kernel
theorem xk_28 : xi_okM xm_28 xt_28 := xi_okM_of xk_n28 xk_w28 (by decide +kernel) (by decide +kernel) xk_v28 (by decide +kernel)
-- 29: NoisyCodes.times(II)I
theorem xk_n29 : xi_numm xm_29 xt_29 = true := by decide +kernel
def xk_p29 : List Nat := [344, 346, 25, 347, 5, 167, 385, 386, 27, 388, 387, 167, 385, 386, 27, 388, 387, 206, 37, 34, 228, 237, 242, 245, 247, 229, 230, 50, 51, 231, 236, 243, 259, 218, 260, 220, 261, 222, 232, 234, 224, 249, 250, 251, 252, 252, 253, 254, 255, 255, 256, 257, 229, 248, 207, 215, 216, 217, 219, 221, 223, 227, 226, 225, 167, 396, 322, 27, 324, 323]
def xk_q29 : List Nat := [14, 16, 18, 21]
theorem xk_w29 : xi_lk xk_p29 = xi_needm xm_29 xt_29 := by decide +kernel
theorem xk_v29 : xi_lkn xk_q29 = xi_needmN xm_29 xt_29 := by decide +kernel
theorem xk_29 : xi_okM xm_29 xt_29 := xi_okM_of xk_n29 xk_w29 (by decide +kernel) (by decide +kernel) xk_v29 (by decide +kernel)
-- 30: NoisyCodes.put(II)V
theorem xk_n30 : xi_numm xm_30 xt_30 = true := by decide +kernel
def xk_p30 : List Nat := [344, 346, 25, 347, 5, 173, 166, 405, 406, 25, 407, 206, 37, 34, 228, 237, 242, 245, 247, 229, 230, 50, 51, 231, 236, 243, 259, 218, 260, 220, 261, 222, 232, 234, 224, 249, 250, 251, 252, 252, 253, 254, 255, 255, 256, 257, 229, 248, 207, 215, 216, 217, 219, 221, 223, 227, 226, 225, 166, 166, 169, 169]
def xk_q30 : List Nat := [9, 14, 16, 18, 21, 9, 9]
theorem xk_w30 : xi_lk xk_p30 = xi_needm xm_30 xt_30 := by decide +kernel
theorem xk_v30 : xi_lkn xk_q30 = xi_needmN xm_30 xt_30 := by decide +kernel
theorem xk_30 : xi_okM xm_30 xt_30 := xi_okM_of xk_n30 xk_w30 (by decide +kernel) (by decide +kernel) xk_v30 (by decide +kernel)
end
section
/-! PRINTED by gen.py: the kernel checks the tables, 1 -/
-- 31: NoisyCodes.requireIndex(II)V
theorem xk_n31 : xi_numm xm_31 xt_31 = true := by decide +kernel
def xk_p31 : List Nat := [408, 42, 34, 228, 237, 242, 245, 247, 229, 230, 50, 51, 231, 236, 243, 259, 218, 260, 220, 261, 222, 232, 234, 224, 418, 419, 420, 252, 252, 253, 254, 255, 255, 256, 257, 229, 417, 409, 411, 241, 412, 413, 414, 415, 227, 226, 416]
def xk_q31 : List Nat := [14, 16, 18, 24]
theorem xk_w31 : xi_lk xk_p31 = xi_needm xm_31 xt_31 := by decide +kernel
theorem xk_v31 : xi_lkn xk_q31 = xi_needmN xm_31 xt_31 := by decide +kernel
theorem xk_31 : xi_okM xm_31 xt_31 := xi_okM_of xk_n31 xk_w31 (by decide +kernel) (by decide +kernel) xk_v31 (by decide +kernel)
-- 32: NoisyCodes.get(I)I
theorem xk_n32 : xi_numm xm_32 xt_32 = true := by decide +kernel
def xk_p32 : List Nat := [344, 346, 25, 347, 5, 173, 166, 405, 406, 25, 407, 169, 166, 166]
def xk_q32 : List Nat := [9, 9, 9]
theorem xk_w32 : xi_lk xk_p32 = xi_needm xm_32 xt_32 := by decide +kernel
theorem xk_v32 : xi_lkn xk_q32 = xi_needmN xm_32 xt_32 := by decide +kernel
theorem xk_32 : xi_okM xm_32 xt_32 := xi_okM_of xk_n32 xk_w32 (by decide +kernel) (by decide +kernel) xk_v32 (by decide +kernel)
-- 33: NoisyCodes.encode()I
theorem xk_n33 : xi_numm xm_33 xt_33 = true := by decide +kernel
def xk_p33 : List Nat := [344, 346, 25, 347, 5, 173, 170, 166, 169, 437, 438, 26, 440, 439, 170, 445, 326, 40, 327]
def xk_q33 : List Nat := []
theorem xk_w33 : xi_lk xk_p33 = xi_needm xm_33 xt_33 := by decide +kernel
theorem xk_v33 : xi_lkn xk_q33 = xi_needmN xm_33 xt_33 := by decide +kernel
theorem xk_33 : xi_okM xm_33 xt_33 := xi_okM_of xk_n33 xk_w33 (by decide +kernel) (by decide +kernel) xk_v33 (by decide +kernel)
-- 34: NoisyCodes$BlockCode.codewordOf(I)I
theorem xk_n34 : xi_numm xm_34 xt_34 = true := by decide +kernel
def xk_p34 : List Nat := [88, 441, 443, 26, 444, 6]
def xk_q34 : List Nat := []
theorem xk_w34 : xi_lk xk_p34 = xi_needm xm_34 xt_34 := by decide +kernel
theorem xk_v34 : xi_lkn xk_q34 = xi_needmN xm_34 xt_34 := by decide +kernel
theorem xk_34 : xi_okM xm_34 xt_34 := xi_okM_of xk_n34 xk_w34 (by decide +kernel) (by decide +kernel) xk_v34 (by decide +kernel)
-- 35: NoisyCodes$BlockCode.remainderOf(I)I
theorem xk_n35 : xi_numm xm_35 xt_35 = true := by decide +kernel
def xk_p35 : List Nat := [79, 88, 86, 88]
def xk_q35 : List Nat := [1]
theorem xk_w35 : xi_lk xk_p35 = xi_needm xm_35 xt_35 := by decide +kernel
theorem xk_v35 : xi_lkn xk_q35 = xi_needmN xm_35 xt_35 := by decide +kernel
theorem xk_35 : xi_okM xm_35 xt_35 := xi_okM_of xk_n35 xk_w35 (by decide +kernel) (by decide +kernel) xk_v35 (by decide +kernel)
-- 36: NoisyCodes.bit(I)I
theorem xk_n36 : xi_numm xm_36 xt_36 = true := by decide +kernel
def xk_p36 : List Nat := [344, 346, 25, 347, 5, 453, 455, 25, 456, 7, 405, 406, 25, 407, 170, 173, 173]
def xk_q36 : List Nat := []
theorem xk_w36 : xi_lk xk_p36 = xi_needm xm_36 xt_36 := by decide +kernel
theorem xk_v36 : xi_lkn xk_q36 = xi_needmN xm_36 xt_36 := by decide +kernel
theorem xk_36 : xi_okM xm_36 xt_36 := xi_okM_of xk_n36 xk_w36 (by decide +kernel) (by decide +kernel) xk_v36 (by decide +kernel)
-- 37: NoisyCodes.channelBits()I
theorem xk_n37 : xi_numm xm_37 xt_37 = true := by decide +kernel
def xk_p37 : List Nat := [173, 167]
def xk_q37 : List Nat := [3]
theorem xk_w37 : xi_lk xk_p37 = xi_needm xm_37 xt_37 := by decide +kernel
theorem xk_v37 : xi_lkn xk_q37 = xi_needmN xm_37 xt_37 := by decide +kernel
theorem xk_37 : xi_okM xm_37 xt_37 := xi_okM_of xk_n37 xk_w37 (by decide +kernel) (by decide +kernel) xk_v37 (by decide +kernel)
-- 38: NoisyCodes.burst(II)V
theorem xk_n38 : xi_numm xm_38 xt_38 = true := by decide +kernel
def xk_p38 : List Nat := [344, 346, 25, 347, 5, 453, 455, 25, 456, 7, 405, 406, 25, 407, 408, 42, 34, 228, 237, 242, 245, 247, 229, 230, 50, 51, 231, 236, 243, 259, 218, 260, 220, 261, 222, 232, 234, 224, 418, 419, 420, 252, 252, 253, 254, 255, 255, 256, 257, 229, 417, 409, 411, 241, 412, 413, 414, 415, 227, 226, 416, 206, 37, 34, 228, 237, 242, 245, 247, 229, 230, 50, 51, 231, 236, 243, 259, 218, 260, 220, 261, 222, 232, 234, 224, 249, 250, 251, 252, 252, 253, 254, 255, 255, 256, 257, 229, 248, 207, 215, 216, 217, 219, 221, 223, 227, 226, 225, 464, 466, 25, 467, 8]
def xk_q38 : List Nat := [14, 16, 18, 24, 14, 16, 18, 21]
theorem xk_w38 : xi_lk xk_p38 = xi_needm xm_38 xt_38 := by decide +kernel
theorem xk_v38 : xi_lkn xk_q38 = xi_needmN xm_38 xt_38 := by decide +kernel
theorem xk_38 : xi_okM xm_38 xt_38 := xi_okM_of xk_n38 xk_w38 (by decide +kernel) (by decide +kernel) xk_v38 (by decide +kernel)
-- 39: NoisyCodes.flip(I)V
theorem xk_n39 : xi_numm xm_39 xt_39 = true := by decide +kernel
def xk_p39 : List Nat := [170, 173, 173]
def xk_q39 : List Nat := []
theorem xk_w39 : xi_lk xk_p39 = xi_needm xm_39 xt_39 := by decide +kernel
theorem xk_v39 : xi_lkn xk_q39 = xi_needmN xm_39 xt_39 := by decide +kernel
theorem xk_39 : xi_okM xm_39 xt_39 := xi_okM_of xk_n39 xk_w39 (by decide +kernel) (by decide +kernel) xk_v39 (by decide +kernel)
-- 40: NoisyCodes.noise(II)I
theorem xk_n40 : xi_numm xm_40 xt_40 = true := by decide +kernel
def xk_p40 : List Nat := [344, 346, 25, 347, 5, 206, 37, 34, 228, 237, 242, 245, 247, 229, 230, 50, 51, 231, 236, 243, 259, 218, 260, 220, 261, 222, 232, 234, 224, 249, 250, 251, 252, 252, 253, 254, 255, 255, 256, 257, 229, 248, 207, 215, 216, 217, 219, 221, 223, 227, 226, 225, 453, 455, 25, 456, 7, 475, 464, 466, 25, 467, 8]
def xk_q40 : List Nat := [14, 16, 18, 21]
theorem xk_w40 : xi_lk xk_p40 = xi_needm xm_40 xt_40 := by decide +kernel
theorem xk_v40 : xi_lkn xk_q40 = xi_needmN xm_40 xt_40 := by decide +kernel
theorem xk_40 : xi_okM xm_40 xt_40 := xi_okM_of xk_n40 xk_w40 (by decide +kernel) (by decide +kernel) xk_v40 (by decide +kernel)
-- 41: NoisyCodes.syndrome(II)I
theorem xk_n41 : xi_numm xm_41 xt_41 = true := by decide +kernel
def xk_p41 : List Nat := [344, 346, 25, 347, 5, 173, 405, 406, 25, 407, 166, 408, 42, 34, 228, 237, 242, 245, 247, 229, 230, 50, 51, 231, 236, 243, 259, 218, 260, 220, 261, 222, 232, 234, 224, 418, 419, 420, 252, 252, 253, 254, 255, 255, 256, 257, 229, 417, 409, 411, 241, 412, 413, 414, 415, 227, 226, 416, 166, 170, 483, 484, 26, 486, 485]
def xk_q41 : List Nat := [7, 14, 16, 18, 24]
theorem xk_w41 : xi_lk xk_p41 = xi_needm xm_41 xt_41 := by decide +kernel
theorem xk_v41 : xi_lkn xk_q41 = xi_needmN xm_41 xt_41 := by decide +kernel
theorem xk_41 : xi_okM xm_41 xt_41 := xi_okM_of xk_n41 xk_w41 (by decide +kernel) (by decide +kernel) xk_v41 (by decide +kernel)
-- 42: NoisyCodes$BlockCode.valueAtPower(II)I
theorem xk_n42 : xi_numm xm_42 xt_42 = true := by decide +kernel
def xk_p42 : List Nat := [79, 79, 313, 314, 27, 316, 315]
def xk_q42 : List Nat := [1]
theorem xk_w42 : xi_lk xk_p42 = xi_needm xm_42 xt_42 := by decide +kernel
theorem xk_v42 : xi_lkn xk_q42 = xi_needmN xm_42 xt_42 := by decide +kernel
theorem xk_42 : xi_okM xm_42 xt_42 := xi_okM_of xk_n42 xk_w42 (by decide +kernel) (by decide +kernel) xk_v42 (by decide +kernel)
-- 43: NoisyCodes.decode(I)I
theorem xk_n43 : xi_numm xm_43 xt_43 = true := by decide +kernel
def xk_p43 : List Nat := [344, 346, 25, 347, 5, 206, 37, 34, 228, 237, 242, 245, 247, 229, 230, 50, 51, 231, 236, 243, 259, 218, 260, 220, 261, 222, 232, 234, 224, 249, 250, 251, 252, 252, 253, 254, 255, 255, 256, 257, 229, 248, 207, 215, 216, 217, 219, 221, 223, 227, 226, 225, 170, 494, 496, 25, 497, 9, 279, 38, 34, 228, 237, 242, 245, 247, 229, 230, 50, 51, 231, 236, 243, 259, 218, 260, 220, 261, 222, 232, 234, 224, 289, 290, 291, 252, 252, 253, 254, 255, 255, 256, 257, 229, 288, 280, 282, 239, 283, 284, 285, 286, 227, 226, 287, 566, 568, 25, 569, 13]
def xk_q43 : List Nat := [14, 16, 18, 21, 14, 16, 18, 22]
theorem xk_w43 : xi_lk xk_p43 = xi_needm xm_43 xt_43 := by decide +kernel
theorem xk_v43 : xi_lkn xk_q43 = xi_needmN xm_43 xt_43 := by decide +kernel
theorem xk_43 : xi_okM xm_43 xt_43 := xi_okM_of xk_n43 xk_w43 (by decide +kernel) (by decide +kernel) xk_v43 (by decide +kernel)
-- 44: NoisyCodes.mend([II)I
theorem xk_n44 : xi_numm xm_44 xt_44 = true := by decide +kernel
def xk_p44 : List Nat := [173, 168, 166, 498, 499, 28, 501, 500, 171, 445, 326, 40, 327]
def xk_q44 : List Nat := []
theorem xk_w44 : xi_lk xk_p44 = xi_needm xm_44 xt_44 := by decide +kernel
theorem xk_v44 : xi_lkn xk_q44 = xi_needmN xm_44 xt_44 := by decide +kernel
theorem xk_44 : xi_okM xm_44 xt_44 := xi_okM_of xk_n44 xk_w44 (by decide +kernel) (by decide +kernel) xk_v44 (by decide +kernel)
-- 45: NoisyCodes$Mender.nearestCodeword(LNoisyCodes$BlockCode;II)I
theorem xk_n45 : xi_numm xm_45 xt_45 = true := by decide +kernel
def xk_p45 : List Nat := [502, 503, 26, 505, 504, 155, 506, 484, 26, 486, 485, 156, 507, 311, 39, 312, 154, 155, 156, 508, 510, 539, 30, 540, 538, 544, 31, 545, 543, 512, 32, 513, 511, 555, 557, 28, 558, 11, 565, 326, 40, 327, 502, 503, 26, 505, 504]
def xk_q45 : List Nat := [6, 5, 6, 20, 5, 6]
theorem xk_w45 : xi_lk xk_p45 = xi_needm xm_45 xt_45 := by decide +kernel
theorem xk_v45 : xi_lkn xk_q45 = xi_needmN xm_45 xt_45 := by decide +kernel
theorem xk_45 : xi_okM xm_45 xt_45 := xi_okM_of xk_n45 xk_w45 (by decide +kernel) (by decide +kernel) xk_v45 (by decide +kernel)
-- 46: NoisyCodes$BlockCode.isCodeword(I)Z
theorem xk_n46 : xi_numm xm_46 xt_46 = true := by decide +kernel
def xk_p46 : List Nat := [441, 443, 26, 444, 6]
def xk_q46 : List Nat := []
theorem xk_w46 : xi_lk xk_p46 = xi_needm xm_46 xt_46 := by decide +kernel
theorem xk_v46 : xi_lkn xk_q46 = xi_needmN xm_46 xt_46 := by decide +kernel
theorem xk_46 : xi_okM xm_46 xt_46 := xi_okM_of xk_n46 xk_w46 (by decide +kernel) (by decide +kernel) xk_v46 (by decide +kernel)
-- 47: NoisyCodes$Division.locate(LNoisyCodes$Field;[II[I)V
theorem xk_n47 : xi_numm xm_47 xt_47 = true := by decide +kernel
def xk_p47 : List Nat := [514, 516, 32, 517, 10, 141, 142, 143, 144, 522, 523, 32, 524, 525, 526, 32, 527, 528, 529, 27, 531, 530]
def xk_q47 : List Nat := []
theorem xk_w47 : xi_lk xk_p47 = xi_needm xm_47 xt_47 := by decide +kernel
theorem xk_v47 : xi_lkn xk_q47 = xi_needmN xm_47 xt_47 := by decide +kernel
theorem xk_47 : xi_okM xm_47 xt_47 := xi_okM_of xk_n47 xk_w47 (by decide +kernel) (by decide +kernel) xk_v47 (by decide +kernel)
-- 48: NoisyCodes$Division.fillRows([II)V
theorem xk_n48 : xi_numm xm_48 xt_48 = true := by decide +kernel
def xk_p48 : List Nat := [141, 518, 311, 39, 312, 142, 518, 311, 39, 312, 143, 518, 311, 39, 312, 144, 518, 311, 39, 312, 141, 142, 519, 521, 520, 43, 144]
def xk_q48 : List Nat := []
theorem xk_w48 : xi_lk xk_p48 = xi_needm xm_48 xt_48 := by decide +kernel
theorem xk_v48 : xi_lkn xk_q48 = xi_needmN xm_48 xt_48 := by decide +kernel
theorem xk_48 : xi_okM xm_48 xt_48 := xi_okM_of xk_n48 xk_w48 (by decide +kernel) (by decide +kernel) xk_v48 (by decide +kernel)
-- 49: NoisyCodes$Division.degreeOf([I)I
theorem xk_n49 : xi_numm xm_49 xt_49 = true := by decide +kernel
def xk_p49 : List Nat := []
def xk_q49 : List Nat := []
theorem xk_w49 : xi_lk xk_p49 = xi_needm xm_49 xt_49 := by decide +kernel
theorem xk_v49 : xi_lkn xk_q49 = xi_needmN xm_49 xt_49 := by decide +kernel
theorem xk_49 : xi_okM xm_49 xt_49 := xi_okM_of xk_n49 xk_w49 (by decide +kernel) (by decide +kernel) xk_v49 (by decide +kernel)
-- 50: NoisyCodes$Division.divide(LNoisyCodes$Field;[I[I[I[I)V
theorem xk_n50 : xi_numm xm_50 xt_50 = true := by decide +kernel
def xk_p50 : List Nat := [522, 523, 32, 524, 528, 529, 27, 531, 530, 532, 533, 535, 29, 536, 532, 533, 535, 29, 536]
def xk_q50 : List Nat := []
theorem xk_w50 : xi_lk xk_p50 = xi_needm xm_50 xt_50 := by decide +kernel
theorem xk_v50 : xi_lkn xk_q50 = xi_needmN xm_50 xt_50 := by decide +kernel
theorem xk_50 : xi_okM xm_50 xt_50 := xi_okM_of xk_n50 xk_w50 (by decide +kernel) (by decide +kernel) xk_v50 (by decide +kernel)
-- 51: NoisyCodes$Field.quotient(II)I
theorem xk_n51 : xi_numm xm_51 xt_51 = true := by decide +kernel
def xk_p51 : List Nat := [64, 65, 67, 65, 67]
def xk_q51 : List Nat := []
theorem xk_w51 : xi_lk xk_p51 = xi_needm xm_51 xt_51 := by decide +kernel
theorem xk_v51 : xi_lkn xk_q51 = xi_needmN xm_51 xt_51 := by decide +kernel
theorem xk_51 : xi_okM xm_51 xt_51 := xi_okM_of xk_n51 xk_w51 (by decide +kernel) (by decide +kernel) xk_v51 (by decide +kernel)
-- 52: NoisyCodes$Way.addShifted(LNoisyCodes$Field;[I[III)V
theorem xk_n52 : xi_numm xm_52 xt_52 = true := by decide +kernel
def xk_p52 : List Nat := [537, 322, 27, 324, 323]
def xk_q52 : List Nat := []
theorem xk_w52 : xi_lk xk_p52 = xi_needm xm_52 xt_52 := by decide +kernel
theorem xk_v52 : xi_lkn xk_q52 = xi_needmN xm_52 xt_52 := by decide +kernel
theorem xk_52 : xi_okM xm_52 xt_52 := xi_okM_of xk_n52 xk_w52 (by decide +kernel) (by decide +kernel) xk_v52 (by decide +kernel)
-- 53: NoisyCodes$Formulas.locate(LNoisyCodes$Field;[II[I)V
theorem xk_n53 : xi_numm xm_53 xt_53 = true := by decide +kernel
def xk_p53 : List Nat := [541, 322, 27, 324, 323, 541, 322, 27, 324, 323, 542, 529, 27, 531, 530, 541, 322, 27, 324, 323, 542, 529, 27, 531, 530, 541, 322, 27, 324, 323]
def xk_q53 : List Nat := []
theorem xk_w53 : xi_lk xk_p53 = xi_needm xm_53 xt_53 := by decide +kernel
theorem xk_v53 : xi_lkn xk_q53 = xi_needmN xm_53 xt_53 := by decide +kernel
theorem xk_53 : xi_okM xm_53 xt_53 := xi_okM_of xk_n53 xk_w53 (by decide +kernel) (by decide +kernel) xk_v53 (by decide +kernel)
end
section
/-! PRINTED by gen.py: the kernel checks the tables, 2 -/
-- 54: NoisyCodes$ShiftRegister.locate(LNoisyCodes$Field;[II[I)V
theorem xk_n54 : xi_numm xm_54 xt_54 = true := by decide +kernel
def xk_p54 : List Nat := [128, 546, 311, 39, 312, 128, 547, 548, 31, 549, 129, 551, 521, 520, 43, 128, 552, 529, 27, 531, 530, 553, 554, 535, 29, 536, 129, 128, 551, 521, 520, 43]
def xk_q54 : List Nat := []
theorem xk_w54 : xi_lk xk_p54 = xi_needm xm_54 xt_54 := by decide +kernel
theorem xk_v54 : xi_lkn xk_q54 = xi_needmN xm_54 xt_54 := by decide +kernel
theorem xk_54 : xi_okM xm_54 xt_54 := xi_okM_of xk_n54 xk_w54 (by decide +kernel) (by decide +kernel) xk_v54 (by decide +kernel)
-- 55: NoisyCodes$ShiftRegister.gapAt(LNoisyCodes$Field;II[I[I)I
theorem xk_n55 : xi_numm xm_55 xt_55 = true := by decide +kernel
def xk_p55 : List Nat := [550, 322, 27, 324, 323]
def xk_q55 : List Nat := []
theorem xk_w55 : xi_lk xk_p55 = xi_needm xm_55 xt_55 := by decide +kernel
theorem xk_v55 : xi_lkn xk_q55 = xi_needmN xm_55 xt_55 := by decide +kernel
theorem xk_55 : xi_okM xm_55 xt_55 := xi_okM_of xk_n55 xk_w55 (by decide +kernel) (by decide +kernel) xk_v55 (by decide +kernel)
-- 56: NoisyCodes$Mender.placesOfErrors(LNoisyCodes$Field;)I
theorem xk_n56 : xi_numm xm_56 xt_56 = true := by decide +kernel
def xk_p56 : List Nat := [559, 561, 28, 562, 12]
def xk_q56 : List Nat := [2, 2]
theorem xk_w56 : xi_lk xk_p56 = xi_needm xm_56 xt_56 := by decide +kernel
theorem xk_v56 : xi_lkn xk_q56 = xi_needmN xm_56 xt_56 := by decide +kernel
theorem xk_56 : xi_okM xm_56 xt_56 := xi_okM_of xk_n56 xk_w56 (by decide +kernel) (by decide +kernel) xk_v56 (by decide +kernel)
-- 57: NoisyCodes$Mender.locatorAtPower(LNoisyCodes$Field;I)I
theorem xk_n57 : xi_numm xm_57 xt_57 = true := by decide +kernel
def xk_p57 : List Nat := [156, 563, 314, 27, 316, 315, 564, 322, 27, 324, 323]
def xk_q57 : List Nat := []
theorem xk_w57 : xi_lk xk_p57 = xi_needm xm_57 xt_57 := by decide +kernel
theorem xk_v57 : xi_lkn xk_q57 = xi_needmN xm_57 xt_57 := by decide +kernel
theorem xk_57 : xi_okM xm_57 xt_57 := xi_okM_of xk_n57 xk_w57 (by decide +kernel) (by decide +kernel) xk_v57 (by decide +kernel)
-- 58: NoisyCodes.takeMended()V
theorem xk_n58 : xi_numm xm_58 xt_58 = true := by decide +kernel
def xk_p58 : List Nat := [173, 170, 171, 169, 166, 171, 570, 571, 26, 573, 572]
def xk_q58 : List Nat := []
theorem xk_w58 : xi_lk xk_p58 = xi_needm xm_58 xt_58 := by decide +kernel
theorem xk_v58 : xi_lkn xk_q58 = xi_needmN xm_58 xt_58 := by decide +kernel
theorem xk_58 : xi_okM xm_58 xt_58 := xi_okM_of xk_n58 xk_w58 (by decide +kernel) (by decide +kernel) xk_v58 (by decide +kernel)
-- 59: NoisyCodes$BlockCode.messageOf(I)I
theorem xk_n59 : xi_numm xm_59 xt_59 = true := by decide +kernel
def xk_p59 : List Nat := [88]
def xk_q59 : List Nat := []
theorem xk_w59 : xi_lk xk_p59 = xi_needm xm_59 xt_59 := by decide +kernel
theorem xk_v59 : xi_lkn xk_q59 = xi_needmN xm_59 xt_59 := by decide +kernel
theorem xk_59 : xi_okM xm_59 xt_59 := xi_okM_of xk_n59 xk_w59 (by decide +kernel) (by decide +kernel) xk_v59 (by decide +kernel)
-- 60: NoisyCodes.save(I)V
theorem xk_n60 : xi_numm xm_60 xt_60 = true := by decide +kernel
def xk_p60 : List Nat := [344, 346, 25, 347, 5, 405, 406, 25, 407, 170, 172, 581, 521, 520, 43]
def xk_q60 : List Nat := []
theorem xk_w60 : xi_lk xk_p60 = xi_needm xm_60 xt_60 := by decide +kernel
theorem xk_v60 : xi_lkn xk_q60 = xi_needmN xm_60 xt_60 := by decide +kernel
theorem xk_60 : xi_okM xm_60 xt_60 := xi_okM_of xk_n60 xk_w60 (by decide +kernel) (by decide +kernel) xk_v60 (by decide +kernel)
-- 61: NoisyCodes.load(I)I
theorem xk_n61 : xi_numm xm_61 xt_61 = true := by decide +kernel
def xk_p61 : List Nat := [344, 346, 25, 347, 5, 405, 406, 25, 407, 172, 494, 496, 25, 497, 9, 279, 38, 34, 228, 237, 242, 245, 247, 229, 230, 50, 51, 231, 236, 243, 259, 218, 260, 220, 261, 222, 232, 234, 224, 289, 290, 291, 252, 252, 253, 254, 255, 255, 256, 257, 229, 288, 280, 282, 239, 283, 284, 285, 286, 227, 226, 287, 566, 568, 25, 569, 13, 171, 172, 581, 521, 520, 43]
def xk_q61 : List Nat := [14, 16, 18, 22]
theorem xk_w61 : xi_lk xk_p61 = xi_needm xm_61 xt_61 := by decide +kernel
theorem xk_v61 : xi_lkn xk_q61 = xi_needmN xm_61 xt_61 := by decide +kernel
theorem xk_61 : xi_okM xm_61 xt_61 := xi_okM_of xk_n61 xk_w61 (by decide +kernel) (by decide +kernel) xk_v61 (by decide +kernel)
-- 62: NoisyCodesModel.<init>()V
theorem xk_n62 : xi_numm xm_62 xt_62 = true := by decide +kernel
def xk_p62 : List Nat := [594, 50, 51, 78, 604, 78, 605, 78, 606, 78, 607, 78, 608, 78, 609]
def xk_q62 : List Nat := []
theorem xk_w62 : xi_lk xk_p62 = xi_needm xm_62 xt_62 := by decide +kernel
theorem xk_v62 : xi_lkn xk_q62 = xi_needmN xm_62 xt_62 := by decide +kernel
theorem xk_62 : xi_okM xm_62 xt_62 := xi_okM_of xk_n62 xk_w62 (by decide +kernel) (by decide +kernel) xk_v62 (by decide +kernel)
-- 63: NoisyCodesModel.thrown()I
theorem xk_n63 : xi_numm xm_63 xt_63 = true := by decide +kernel
def xk_p63 : List Nat := [595]
def xk_q63 : List Nat := []
theorem xk_w63 : xi_lk xk_p63 = xi_needm xm_63 xt_63 := by decide +kernel
theorem xk_v63 : xi_lkn xk_q63 = xi_needmN xm_63 xt_63 := by decide +kernel
theorem xk_63 : xi_okM xm_63 xt_63 := xi_okM_of xk_n63 xk_w63 (by decide +kernel) (by decide +kernel) xk_v63 (by decide +kernel)
-- 64: NoisyCodesModel.begin(III)I
theorem xk_n64 : xi_numm xm_64 xt_64 = true := by decide +kernel
def xk_p64 : List Nat := [649, 650, 33, 651, 649, 650, 33, 651, 649, 650, 33, 651, 652, 653, 33, 654, 595, 595, 596, 597, 598, 599, 600, 601, 658, 660, 33, 661, 14, 606, 604, 605, 599, 603]
def xk_q64 : List Nat := []
theorem xk_w64 : xi_lk xk_p64 = xi_needm xm_64 xt_64 := by decide +kernel
theorem xk_v64 : xi_lkn xk_q64 = xi_needmN xm_64 xt_64 := by decide +kernel
theorem xk_64 : xi_okM xm_64 xt_64 := xi_okM_of xk_n64 xk_w64 (by decide +kernel) (by decide +kernel) xk_v64 (by decide +kernel)
-- 65: NoisyCodesModel.within(III)Z
theorem xk_n65 : xi_numm xm_65 xt_65 = true := by decide +kernel
def xk_p65 : List Nat := []
def xk_q65 : List Nat := []
theorem xk_w65 : xi_lk xk_p65 = xi_needm xm_65 xt_65 := by decide +kernel
theorem xk_v65 : xi_lkn xk_q65 = xi_needmN xm_65 xt_65 := by decide +kernel
theorem xk_65 : xi_okM xm_65 xt_65 := xi_okM_of xk_n65 xk_w65 (by decide +kernel) (by decide +kernel) xk_v65 (by decide +kernel)
-- 66: NoisyCodesModel.isPrimitive(II)Z
theorem xk_n66 : xi_numm xm_66 xt_66 = true := by decide +kernel
def xk_p66 : List Nat := [655, 656, 33, 657]
def xk_q66 : List Nat := []
theorem xk_w66 : xi_lk xk_p66 = xi_needm xm_66 xt_66 := by decide +kernel
theorem xk_v66 : xi_lkn xk_q66 = xi_needmN xm_66 xt_66 := by decide +kernel
theorem xk_66 : xi_okM xm_66 xt_66 := xi_okM_of xk_n66 xk_w66 (by decide +kernel) (by decide +kernel) xk_v66 (by decide +kernel)
-- 67: NoisyCodesModel.product(IIII)I
theorem xk_n67 : xi_numm xm_67 xt_67 = true := by decide +kernel
def xk_p67 : List Nat := []
def xk_q67 : List Nat := []
theorem xk_w67 : xi_lk xk_p67 = xi_needm xm_67 xt_67 := by decide +kernel
theorem xk_v67 : xi_lkn xk_q67 = xi_needmN xm_67 xt_67 := by decide +kernel
theorem xk_67 : xi_okM xm_67 xt_67 := xi_okM_of xk_n67 xk_w67 (by decide +kernel) (by decide +kernel) xk_v67 (by decide +kernel)
-- 68: NoisyCodesModel.makeGenerator()V
theorem xk_n68 : xi_numm xm_68 xt_68 = true := by decide +kernel
def xk_p68 : List Nat := [609, 603, 599, 599, 599, 662, 664, 33, 665, 15, 666, 668, 33, 669, 16, 603, 603, 603, 609, 609, 609, 597, 598, 655, 656, 33, 657, 602, 603, 602, 609, 602, 599, 603, 602, 608]
def xk_q68 : List Nat := []
theorem xk_w68 : xi_lk xk_p68 = xi_needm xm_68 xt_68 := by decide +kernel
theorem xk_v68 : xi_lkn xk_q68 = xi_needmN xm_68 xt_68 := by decide +kernel
theorem xk_68 : xi_okM xm_68 xt_68 := xi_okM_of xk_n68 xk_w68 (by decide +kernel) (by decide +kernel) xk_v68 (by decide +kernel)
-- 69: NoisyCodesModel.isZero(I)Z
theorem xk_n69 : xi_numm xm_69 xt_69 = true := by decide +kernel
def xk_p69 : List Nat := [598, 600, 649, 650, 33, 651, 599]
def xk_q69 : List Nat := []
theorem xk_w69 : xi_lk xk_p69 = xi_needm xm_69 xt_69 := by decide +kernel
theorem xk_v69 : xi_lkn xk_q69 = xi_needmN xm_69 xt_69 := by decide +kernel
theorem xk_69 : xi_okM xm_69 xt_69 := xi_okM_of xk_n69 xk_w69 (by decide +kernel) (by decide +kernel) xk_v69 (by decide +kernel)
-- 70: NoisyCodesModel.powerOf(I)I
theorem xk_n70 : xi_numm xm_70 xt_70 = true := by decide +kernel
def xk_p70 : List Nat := [599, 597, 598, 655, 656, 33, 657]
def xk_q70 : List Nat := []
theorem xk_w70 : xi_lk xk_p70 = xi_needm xm_70 xt_70 := by decide +kernel
theorem xk_v70 : xi_lkn xk_q70 = xi_needmN xm_70 xt_70 := by decide +kernel
theorem xk_70 : xi_okM xm_70 xt_70 := xi_okM_of xk_n70 xk_w70 (by decide +kernel) (by decide +kernel) xk_v70 (by decide +kernel)
-- 71: NoisyCodesModel.length()I
theorem xk_n71 : xi_numm xm_71 xt_71 = true := by decide +kernel
def xk_p71 : List Nat := [596, 595, 596, 599]
def xk_q71 : List Nat := []
theorem xk_w71 : xi_lk xk_p71 = xi_needm xm_71 xt_71 := by decide +kernel
theorem xk_v71 : xi_lkn xk_q71 = xi_needmN xm_71 xt_71 := by decide +kernel
theorem xk_71 : xi_okM xm_71 xt_71 := xi_okM_of xk_n71 xk_w71 (by decide +kernel) (by decide +kernel) xk_v71 (by decide +kernel)
-- 72: NoisyCodesModel.generator()I
theorem xk_n72 : xi_numm xm_72 xt_72 = true := by decide +kernel
def xk_p72 : List Nat := [596, 595, 596, 602]
def xk_q72 : List Nat := []
theorem xk_w72 : xi_lk xk_p72 = xi_needm xm_72 xt_72 := by decide +kernel
theorem xk_v72 : xi_lkn xk_q72 = xi_needmN xm_72 xt_72 := by decide +kernel
theorem xk_72 : xi_okM xm_72 xt_72 := xi_okM_of xk_n72 xk_w72 (by decide +kernel) (by decide +kernel) xk_v72 (by decide +kernel)
end
section
/-! PRINTED by gen.py: the kernel checks the tables, 3 -/
-- 73: NoisyCodesModel.power(I)I
theorem xk_n73 : xi_numm xm_73 xt_73 = true := by decide +kernel
def xk_p73 : List Nat := [596, 595, 595, 666, 668, 33, 669, 16]
def xk_q73 : List Nat := []
theorem xk_w73 : xi_lk xk_p73 = xi_needm xm_73 xt_73 := by decide +kernel
theorem xk_v73 : xi_lkn xk_q73 = xi_needmN xm_73 xt_73 := by decide +kernel
theorem xk_73 : xi_okM xm_73 xt_73 := xi_okM_of xk_n73 xk_w73 (by decide +kernel) (by decide +kernel) xk_v73 (by decide +kernel)
-- 74: NoisyCodesModel.log(I)I
theorem xk_n74 : xi_numm xm_74 xt_74 = true := by decide +kernel
def xk_p74 : List Nat := [596, 599, 649, 650, 33, 651, 595, 595, 666, 668, 33, 669, 16]
def xk_q74 : List Nat := []
theorem xk_w74 : xi_lk xk_p74 = xi_needm xm_74 xt_74 := by decide +kernel
theorem xk_v74 : xi_lkn xk_q74 = xi_needmN xm_74 xt_74 := by decide +kernel
theorem xk_74 : xi_okM xm_74 xt_74 := xi_okM_of xk_n74 xk_w74 (by decide +kernel) (by decide +kernel) xk_v74 (by decide +kernel)
-- 75: NoisyCodesModel.times(II)I
theorem xk_n75 : xi_numm xm_75 xt_75 = true := by decide +kernel
def xk_p75 : List Nat := [596, 599, 649, 650, 33, 651, 599, 649, 650, 33, 651, 595, 595, 597, 598, 655, 656, 33, 657]
def xk_q75 : List Nat := []
theorem xk_w75 : xi_lk xk_p75 = xi_needm xm_75 xt_75 := by decide +kernel
theorem xk_v75 : xi_lkn xk_q75 = xi_needmN xm_75 xt_75 := by decide +kernel
theorem xk_75 : xi_okM xm_75 xt_75 := xi_okM_of xk_n75 xk_w75 (by decide +kernel) (by decide +kernel) xk_v75 (by decide +kernel)
-- 76: NoisyCodesModel.put(II)V
theorem xk_n76 : xi_numm xm_76 xt_76 = true := by decide +kernel
def xk_p76 : List Nat := [596, 694, 696, 33, 697, 17, 649, 650, 33, 651, 649, 650, 33, 651, 595, 595, 599, 603, 599, 603, 604, 604, 604]
def xk_q76 : List Nat := []
theorem xk_w76 : xi_lk xk_p76 = xi_needm xm_76 xt_76 := by decide +kernel
theorem xk_v76 : xi_lkn xk_q76 = xi_needmN xm_76 xt_76 := by decide +kernel
theorem xk_76 : xi_okM xm_76 xt_76 := xi_okM_of xk_n76 xk_w76 (by decide +kernel) (by decide +kernel) xk_v76 (by decide +kernel)
-- 77: NoisyCodesModel.messageBits()I
theorem xk_n77 : xi_numm xm_77 xt_77 = true := by decide +kernel
def xk_p77 : List Nat := [596, 601, 599, 603]
def xk_q77 : List Nat := []
theorem xk_w77 : xi_lk xk_p77 = xi_needm xm_77 xt_77 := by decide +kernel
theorem xk_v77 : xi_lkn xk_q77 = xi_needmN xm_77 xt_77 := by decide +kernel
theorem xk_77 : xi_okM xm_77 xt_77 := xi_okM_of xk_n77 xk_w77 (by decide +kernel) (by decide +kernel) xk_v77 (by decide +kernel)
-- 78: NoisyCodesModel.get(I)I
theorem xk_n78 : xi_numm xm_78 xt_78 = true := by decide +kernel
def xk_p78 : List Nat := [596, 694, 696, 33, 697, 17, 649, 650, 33, 651, 595, 595, 604, 599, 603, 599, 603]
def xk_q78 : List Nat := []
theorem xk_w78 : xi_lk xk_p78 = xi_needm xm_78 xt_78 := by decide +kernel
theorem xk_v78 : xi_lkn xk_q78 = xi_needmN xm_78 xt_78 := by decide +kernel
theorem xk_78 : xi_okM xm_78 xt_78 := xi_okM_of xk_n78 xk_w78 (by decide +kernel) (by decide +kernel) xk_v78 (by decide +kernel)
-- 79: NoisyCodesModel.encode()I
theorem xk_n79 : xi_numm xm_79 xt_79 = true := by decide +kernel
def xk_p79 : List Nat := [596, 595, 601, 596, 604, 603, 605, 706, 708, 33, 709, 18, 605, 710, 711, 33, 712]
def xk_q79 : List Nat := []
theorem xk_w79 : xi_lk xk_p79 = xi_needm xm_79 xt_79 := by decide +kernel
theorem xk_v79 : xi_lkn xk_q79 = xi_needmN xm_79 xt_79 := by decide +kernel
theorem xk_79 : xi_okM xm_79 xt_79 := xi_okM_of xk_n79 xk_w79 (by decide +kernel) (by decide +kernel) xk_v79 (by decide +kernel)
-- 80: NoisyCodesModel.remainder(I)I
theorem xk_n80 : xi_numm xm_80 xt_80 = true := by decide +kernel
def xk_p80 : List Nat := [599, 608]
def xk_q80 : List Nat := []
theorem xk_w80 : xi_lk xk_p80 = xi_needm xm_80 xt_80 := by decide +kernel
theorem xk_v80 : xi_lkn xk_q80 = xi_needmN xm_80 xt_80 := by decide +kernel
theorem xk_80 : xi_okM xm_80 xt_80 := xi_okM_of xk_n80 xk_w80 (by decide +kernel) (by decide +kernel) xk_v80 (by decide +kernel)
-- 81: NoisyCodesModel.ones(I)I
theorem xk_n81 : xi_numm xm_81 xt_81 = true := by decide +kernel
def xk_p81 : List Nat := []
def xk_q81 : List Nat := []
theorem xk_w81 : xi_lk xk_p81 = xi_needm xm_81 xt_81 := by decide +kernel
theorem xk_v81 : xi_lkn xk_q81 = xi_needmN xm_81 xt_81 := by decide +kernel
theorem xk_81 : xi_okM xm_81 xt_81 := xi_okM_of xk_n81 xk_w81 (by decide +kernel) (by decide +kernel) xk_v81 (by decide +kernel)
-- 82: NoisyCodesModel.bit(I)I
theorem xk_n82 : xi_numm xm_82 xt_82 = true := by decide +kernel
def xk_p82 : List Nat := [596, 717, 719, 33, 720, 19, 649, 650, 33, 651, 595, 595, 605, 601, 601]
def xk_q82 : List Nat := []
theorem xk_w82 : xi_lk xk_p82 = xi_needm xm_82 xt_82 := by decide +kernel
theorem xk_v82 : xi_lkn xk_q82 = xi_needmN xm_82 xt_82 := by decide +kernel
theorem xk_82 : xi_okM xm_82 xt_82 := xi_okM_of xk_n82 xk_w82 (by decide +kernel) (by decide +kernel) xk_v82 (by decide +kernel)
-- 83: NoisyCodesModel.channelBits()I
theorem xk_n83 : xi_numm xm_83 xt_83 = true := by decide +kernel
def xk_p83 : List Nat := [596, 601, 599]
def xk_q83 : List Nat := []
theorem xk_w83 : xi_lk xk_p83 = xi_needm xm_83 xt_83 := by decide +kernel
theorem xk_v83 : xi_lkn xk_q83 = xi_needmN xm_83 xt_83 := by decide +kernel
theorem xk_83 : xi_okM xm_83 xt_83 := xi_okM_of xk_n83 xk_w83 (by decide +kernel) (by decide +kernel) xk_v83 (by decide +kernel)
-- 84: NoisyCodesModel.burst(II)V
theorem xk_n84 : xi_numm xm_84 xt_84 = true := by decide +kernel
def xk_p84 : List Nat := [717, 719, 33, 720, 19, 649, 650, 33, 651, 717, 719, 33, 720, 19, 596, 649, 650, 33, 651, 595, 595, 725, 727, 33, 728, 20]
def xk_q84 : List Nat := []
theorem xk_w84 : xi_lk xk_p84 = xi_needm xm_84 xt_84 := by decide +kernel
theorem xk_v84 : xi_lkn xk_q84 = xi_needmN xm_84 xt_84 := by decide +kernel
theorem xk_84 : xi_okM xm_84 xt_84 := xi_okM_of xk_n84 xk_w84 (by decide +kernel) (by decide +kernel) xk_v84 (by decide +kernel)
-- 85: NoisyCodesModel.flip(I)V
theorem xk_n85 : xi_numm xm_85 xt_85 = true := by decide +kernel
def xk_p85 : List Nat := [605, 601, 605, 601, 601]
def xk_q85 : List Nat := []
theorem xk_w85 : xi_lk xk_p85 = xi_needm xm_85 xt_85 := by decide +kernel
theorem xk_v85 : xi_lkn xk_q85 = xi_needmN xm_85 xt_85 := by decide +kernel
theorem xk_85 : xi_okM xm_85 xt_85 := xi_okM_of xk_n85 xk_w85 (by decide +kernel) (by decide +kernel) xk_v85 (by decide +kernel)
-- 86: NoisyCodesModel.noise(II)I
theorem xk_n86 : xi_numm xm_86 xt_86 = true := by decide +kernel
def xk_p86 : List Nat := [596, 649, 650, 33, 651, 595, 717, 719, 33, 720, 19, 595, 733, 725, 727, 33, 728, 20]
def xk_q86 : List Nat := []
theorem xk_w86 : xi_lk xk_p86 = xi_needm xm_86 xt_86 := by decide +kernel
theorem xk_v86 : xi_lkn xk_q86 = xi_needmN xm_86 xt_86 := by decide +kernel
theorem xk_86 : xi_okM xm_86 xt_86 := xi_okM_of xk_n86 xk_w86 (by decide +kernel) (by decide +kernel) xk_v86 (by decide +kernel)
-- 87: NoisyCodesModel.syndrome(II)I
theorem xk_n87 : xi_numm xm_87 xt_87 = true := by decide +kernel
def xk_p87 : List Nat := [596, 601, 649, 650, 33, 651, 600, 649, 650, 33, 651, 595, 599, 595, 605, 666, 668, 33, 669, 16]
def xk_q87 : List Nat := []
theorem xk_w87 : xi_lk xk_p87 = xi_needm xm_87 xt_87 := by decide +kernel
theorem xk_v87 : xi_lkn xk_q87 = xi_needmN xm_87 xt_87 := by decide +kernel
theorem xk_87 : xi_okM xm_87 xt_87 := xi_okM_of xk_n87 xk_w87 (by decide +kernel) (by decide +kernel) xk_v87 (by decide +kernel)
-- 88: NoisyCodesModel.decode(I)I
theorem xk_n88 : xi_numm xm_88 xt_88 = true := by decide +kernel
def xk_p88 : List Nat := [596, 649, 650, 33, 651, 595, 595, 742, 744, 33, 745, 21, 595, 595, 595, 750, 752, 33, 753, 23]
def xk_q88 : List Nat := []
theorem xk_w88 : xi_lk xk_p88 = xi_needm xm_88 xt_88 := by decide +kernel
theorem xk_v88 : xi_lkn xk_q88 = xi_needmN xm_88 xt_88 := by decide +kernel
theorem xk_88 : xi_okM xm_88 xt_88 := xi_okM_of xk_n88 xk_w88 (by decide +kernel) (by decide +kernel) xk_v88 (by decide +kernel)
-- 89: NoisyCodesModel.mend(I)I
theorem xk_n89 : xi_numm xm_89 xt_89 = true := by decide +kernel
def xk_p89 : List Nat := [601, 605, 606, 746, 748, 33, 749, 22, 607, 710, 711, 33, 712]
def xk_q89 : List Nat := []
theorem xk_w89 : xi_lk xk_p89 = xi_needm xm_89 xt_89 := by decide +kernel
theorem xk_v89 : xi_lkn xk_q89 = xi_needmN xm_89 xt_89 := by decide +kernel
theorem xk_89 : xi_okM xm_89 xt_89 := xi_okM_of xk_n89 xk_w89 (by decide +kernel) (by decide +kernel) xk_v89 (by decide +kernel)
-- 90: NoisyCodesModel.errorsOf(I)I
theorem xk_n90 : xi_numm xm_90 xt_90 = true := by decide +kernel
def xk_p90 : List Nat := [706, 708, 33, 709, 18, 599, 608, 599, 600, 608, 608, 599, 600, 608, 608, 608]
def xk_q90 : List Nat := []
theorem xk_w90 : xi_lk xk_p90 = xi_needm xm_90 xt_90 := by decide +kernel
theorem xk_v90 : xi_lkn xk_q90 = xi_needmN xm_90 xt_90 := by decide +kernel
theorem xk_90 : xi_okM xm_90 xt_90 := xi_okM_of xk_n90 xk_w90 (by decide +kernel) (by decide +kernel) xk_v90 (by decide +kernel)
end
section
/-! PRINTED by gen.py: the kernel checks the tables, 4 -/
-- 110: NoisyCodesLaw.law([I)Z, stretch 0
theorem xk_n110_0 : xi_numr xm_110 xt_110 0 134 = true := by decide +kernel
def xk_p110_0 : List Nat := [44, 46, 47, 25, 48, 589, 591, 592, 33, 593, 762]
def xk_q110_0 : List Nat := []
theorem xk_w110_0 : xi_lk xk_p110_0 = xi_needr xm_110 xt_110 0 134 := by decide +kernel
theorem xk_v110_0 : xi_lkn xk_q110_0 = xi_needrN xm_110 xt_110 0 134 := by decide +kernel
theorem xk_s110_0 : xi_segOk xm_110 xt_110 0 134 := xi_segOk_of xk_n110_0 xk_w110_0 (by decide +kernel) (by decide +kernel) xk_v110_0 (by decide +kernel)
end
section
/-! PRINTED by gen.py: the kernel checks the tables, 5 -/
-- 110: NoisyCodesLaw.law([I)Z, stretch 1
theorem xk_n110_1 : xi_numr xm_110 xt_110 134 62 = true := by decide +kernel
def xk_p110_1 : List Nat := [194, 195, 24, 196, 645, 646, 33, 648, 647, 641, 642, 33, 644, 643]
def xk_q110_1 : List Nat := []
theorem xk_w110_1 : xi_lk xk_p110_1 = xi_needr xm_110 xt_110 134 62 := by decide +kernel
theorem xk_v110_1 : xi_lkn xk_q110_1 = xi_needrN xm_110 xt_110 134 62 := by decide +kernel
theorem xk_s110_1 : xi_segOk xm_110 xt_110 134 62 := xi_segOk_of xk_n110_1 xk_w110_1 (by decide +kernel) (by decide +kernel) xk_v110_1 (by decide +kernel)
end
section
/-! PRINTED by gen.py: the kernel checks the tables, 6 -/
-- 110: NoisyCodesLaw.law([I)Z, stretch 2
theorem xk_n110_2 : xi_numr xm_110 xt_110 196 73 = true := by decide +kernel
def xk_p110_2 : List Nat := [336, 337, 24, 338, 670, 671, 33, 673, 672, 641, 642, 33, 644, 643, 363, 364, 24, 365, 674, 675, 33, 677, 676, 641, 642, 33, 644, 643]
def xk_q110_2 : List Nat := []
theorem xk_w110_2 : xi_lk xk_p110_2 = xi_needr xm_110 xt_110 196 73 := by decide +kernel
theorem xk_v110_2 : xi_lkn xk_q110_2 = xi_needrN xm_110 xt_110 196 73 := by decide +kernel
theorem xk_s110_2 : xi_segOk xm_110 xt_110 196 73 := xi_segOk_of xk_n110_2 xk_w110_2 (by decide +kernel) (by decide +kernel) xk_v110_2 (by decide +kernel)
end
section
/-! PRINTED by gen.py: the kernel checks the tables, 7 -/
-- 110: NoisyCodesLaw.law([I)Z, stretch 3
theorem xk_n110_3 : xi_numr xm_110 xt_110 269 62 = true := by decide +kernel
def xk_p110_3 : List Nat := [370, 371, 24, 372, 678, 679, 33, 681, 680, 641, 642, 33, 644, 643]
def xk_q110_3 : List Nat := []
theorem xk_w110_3 : xi_lk xk_p110_3 = xi_needr xm_110 xt_110 269 62 := by decide +kernel
theorem xk_v110_3 : xi_lkn xk_q110_3 = xi_needrN xm_110 xt_110 269 62 := by decide +kernel
theorem xk_s110_3 : xi_segOk xm_110 xt_110 269 62 := xi_segOk_of xk_n110_3 xk_w110_3 (by decide +kernel) (by decide +kernel) xk_v110_3 (by decide +kernel)
end
section
/-! PRINTED by gen.py: the kernel checks the tables, 8 -/
-- 110: NoisyCodesLaw.law([I)Z, stretch 4
theorem xk_n110_4 : xi_numr xm_110 xt_110 331 65 = true := by decide +kernel
def xk_p110_4 : List Nat := [378, 379, 24, 380, 682, 683, 33, 685, 684, 641, 642, 33, 644, 643]
def xk_q110_4 : List Nat := []
theorem xk_w110_4 : xi_lk xk_p110_4 = xi_needr xm_110 xt_110 331 65 := by decide +kernel
theorem xk_v110_4 : xi_lkn xk_q110_4 = xi_needrN xm_110 xt_110 331 65 := by decide +kernel
theorem xk_s110_4 : xi_segOk xm_110 xt_110 331 65 := xi_segOk_of xk_n110_4 xk_w110_4 (by decide +kernel) (by decide +kernel) xk_v110_4 (by decide +kernel)
end
section
/-! PRINTED by gen.py: the kernel checks the tables, 9 -/
-- 110: NoisyCodesLaw.law([I)Z, stretch 5
theorem xk_n110_5 : xi_numr xm_110 xt_110 396 59 = true := by decide +kernel
def xk_p110_5 : List Nat := [389, 390, 24, 391, 686, 687, 33, 689, 688, 641, 642, 33, 644, 643]
def xk_q110_5 : List Nat := []
theorem xk_w110_5 : xi_lk xk_p110_5 = xi_needr xm_110 xt_110 396 59 := by decide +kernel
theorem xk_v110_5 : xi_lkn xk_q110_5 = xi_needrN xm_110 xt_110 396 59 := by decide +kernel
theorem xk_s110_5 : xi_segOk xm_110 xt_110 396 59 := xi_segOk_of xk_n110_5 xk_w110_5 (by decide +kernel) (by decide +kernel) xk_v110_5 (by decide +kernel)
end
section
/-! PRINTED by gen.py: the kernel checks the tables, 10 -/
-- 110: NoisyCodesLaw.law([I)Z, stretch 6
theorem xk_n110_6 : xi_numr xm_110 xt_110 455 61 = true := by decide +kernel
def xk_p110_6 : List Nat := [397, 398, 24, 399, 690, 691, 33, 693, 692, 641, 642, 33, 644, 643]
def xk_q110_6 : List Nat := []
theorem xk_w110_6 : xi_lk xk_p110_6 = xi_needr xm_110 xt_110 455 61 := by decide +kernel
theorem xk_v110_6 : xi_lkn xk_q110_6 = xi_needrN xm_110 xt_110 455 61 := by decide +kernel
theorem xk_s110_6 : xi_segOk xm_110 xt_110 455 61 := xi_segOk_of xk_n110_6 xk_w110_6 (by decide +kernel) (by decide +kernel) xk_v110_6 (by decide +kernel)
end
section
/-! PRINTED by gen.py: the kernel checks the tables, 11 -/
-- 110: NoisyCodesLaw.law([I)Z, stretch 7
theorem xk_n110_7 : xi_numr xm_110 xt_110 516 66 = true := by decide +kernel
def xk_p110_7 : List Nat := [423, 424, 24, 425, 698, 699, 33, 701, 700, 641, 642, 33, 644, 643, 430, 431, 24, 432, 702, 703, 33, 705, 704]
def xk_q110_7 : List Nat := []
theorem xk_w110_7 : xi_lk xk_p110_7 = xi_needr xm_110 xt_110 516 66 := by decide +kernel
theorem xk_v110_7 : xi_lkn xk_q110_7 = xi_needrN xm_110 xt_110 516 66 := by decide +kernel
theorem xk_s110_7 : xi_segOk xm_110 xt_110 516 66 := xi_segOk_of xk_n110_7 xk_w110_7 (by decide +kernel) (by decide +kernel) xk_v110_7 (by decide +kernel)
end
section
/-! PRINTED by gen.py: the kernel checks the tables, 12 -/
-- 110: NoisyCodesLaw.law([I)Z, stretch 8
theorem xk_n110_8 : xi_numr xm_110 xt_110 582 66 = true := by decide +kernel
def xk_p110_8 : List Nat := [641, 642, 33, 644, 643, 446, 447, 24, 448, 713, 714, 33, 716, 715, 641, 642, 33, 644, 643]
def xk_q110_8 : List Nat := []
theorem xk_w110_8 : xi_lk xk_p110_8 = xi_needr xm_110 xt_110 582 66 := by decide +kernel
theorem xk_v110_8 : xi_lkn xk_q110_8 = xi_needrN xm_110 xt_110 582 66 := by decide +kernel
theorem xk_s110_8 : xi_segOk xm_110 xt_110 582 66 := xi_segOk_of xk_n110_8 xk_w110_8 (by decide +kernel) (by decide +kernel) xk_v110_8 (by decide +kernel)
end
section
/-! PRINTED by gen.py: the kernel checks the tables, 13 -/
-- 110: NoisyCodesLaw.law([I)Z, stretch 9
theorem xk_n110_9 : xi_numr xm_110 xt_110 648 60 = true := by decide +kernel
def xk_p110_9 : List Nat := [457, 458, 24, 459, 721, 722, 33, 724, 723, 641, 642, 33, 644, 643]
def xk_q110_9 : List Nat := []
theorem xk_w110_9 : xi_lk xk_p110_9 = xi_needr xm_110 xt_110 648 60 := by decide +kernel
theorem xk_v110_9 : xi_lkn xk_q110_9 = xi_needrN xm_110 xt_110 648 60 := by decide +kernel
theorem xk_s110_9 : xi_segOk xm_110 xt_110 648 60 := xi_segOk_of xk_n110_9 xk_w110_9 (by decide +kernel) (by decide +kernel) xk_v110_9 (by decide +kernel)
end
section
/-! PRINTED by gen.py: the kernel checks the tables, 14 -/
-- 110: NoisyCodesLaw.law([I)Z, stretch 10
theorem xk_n110_10 : xi_numr xm_110 xt_110 708 62 = true := by decide +kernel
def xk_p110_10 : List Nat := [468, 469, 24, 470, 729, 730, 33, 732, 731, 641, 642, 33, 644, 643]
def xk_q110_10 : List Nat := []
theorem xk_w110_10 : xi_lk xk_p110_10 = xi_needr xm_110 xt_110 708 62 := by decide +kernel
theorem xk_v110_10 : xi_lkn xk_q110_10 = xi_needrN xm_110 xt_110 708 62 := by decide +kernel
theorem xk_s110_10 : xi_segOk xm_110 xt_110 708 62 := xi_segOk_of xk_n110_10 xk_w110_10 (by decide +kernel) (by decide +kernel) xk_v110_10 (by decide +kernel)
end
section
/-! PRINTED by gen.py: the kernel checks the tables, 15 -/
-- 110: NoisyCodesLaw.law([I)Z, stretch 11
theorem xk_n110_11 : xi_numr xm_110 xt_110 770 60 = true := by decide +kernel
def xk_p110_11 : List Nat := [476, 477, 24, 478, 734, 735, 33, 737, 736, 641, 642, 33, 644, 643]
def xk_q110_11 : List Nat := []
theorem xk_w110_11 : xi_lk xk_p110_11 = xi_needr xm_110 xt_110 770 60 := by decide +kernel
theorem xk_v110_11 : xi_lkn xk_q110_11 = xi_needrN xm_110 xt_110 770 60 := by decide +kernel
theorem xk_s110_11 : xi_segOk xm_110 xt_110 770 60 := xi_segOk_of xk_n110_11 xk_w110_11 (by decide +kernel) (by decide +kernel) xk_v110_11 (by decide +kernel)
end
section
/-! PRINTED by gen.py: the kernel checks the tables, 16 -/
-- 110: NoisyCodesLaw.law([I)Z, stretch 12
theorem xk_n110_12 : xi_numr xm_110 xt_110 830 64 = true := by decide +kernel
def xk_p110_12 : List Nat := [487, 488, 24, 489, 738, 739, 33, 741, 740, 641, 642, 33, 644, 643]
def xk_q110_12 : List Nat := []
theorem xk_w110_12 : xi_lk xk_p110_12 = xi_needr xm_110 xt_110 830 64 := by decide +kernel
theorem xk_v110_12 : xi_lkn xk_q110_12 = xi_needrN xm_110 xt_110 830 64 := by decide +kernel
theorem xk_s110_12 : xi_segOk xm_110 xt_110 830 64 := xi_segOk_of xk_n110_12 xk_w110_12 (by decide +kernel) (by decide +kernel) xk_v110_12 (by decide +kernel)
end
section
/-! PRINTED by gen.py: the kernel checks the tables, 17 -/
-- 110: NoisyCodesLaw.law([I)Z, stretch 13
theorem xk_n110_13 : xi_numr xm_110 xt_110 894 63 = true := by decide +kernel
def xk_p110_13 : List Nat := [574, 575, 24, 576, 754, 755, 33, 757, 756, 641, 642, 33, 644, 643, 582, 583, 24, 584]
def xk_q110_13 : List Nat := []
theorem xk_w110_13 : xi_lk xk_p110_13 = xi_needr xm_110 xt_110 894 63 := by decide +kernel
theorem xk_v110_13 : xi_lkn xk_q110_13 = xi_needrN xm_110 xt_110 894 63 := by decide +kernel
theorem xk_s110_13 : xi_segOk xm_110 xt_110 894 63 := xi_segOk_of xk_n110_13 xk_w110_13 (by decide +kernel) (by decide +kernel) xk_v110_13 (by decide +kernel)
end
section
/-! PRINTED by gen.py: the kernel checks the tables, 18 -/
-- 110: NoisyCodesLaw.law([I)Z, stretch 14
theorem xk_n110_14 : xi_numr xm_110 xt_110 957 51 = true := by decide +kernel
def xk_p110_14 : List Nat := [758, 759, 33, 761, 760, 641, 642, 33, 644, 643]
def xk_q110_14 : List Nat := []
theorem xk_w110_14 : xi_lk xk_p110_14 = xi_needr xm_110 xt_110 957 51 := by decide +kernel
theorem xk_v110_14 : xi_lkn xk_q110_14 = xi_needrN xm_110 xt_110 957 51 := by decide +kernel
theorem xk_s110_14 : xi_segOk xm_110 xt_110 957 51 := xi_segOk_of xk_n110_14 xk_w110_14 (by decide +kernel) (by decide +kernel) xk_v110_14 (by decide +kernel)
def xk_g110 : List (Nat × Nat) := [(0, 134), (134, 62), (196, 73), (269, 62), (331, 65), (396, 59), (455, 61), (516, 66), (582, 66), (648, 60), (708, 62), (770, 60), (830, 64), (894, 63), (957, 51)]
theorem xk_110 : xi_okM xm_110 xt_110 := ⟨xi_rows_seg (segs := xk_g110) (len := 1008) (by decide +kernel) (by decide +kernel) ⟨xk_s110_0, xk_s110_1, xk_s110_2, xk_s110_3, xk_s110_4, xk_s110_5, xk_s110_6, xk_s110_7, xk_s110_8, xk_s110_9, xk_s110_10, xk_s110_11, xk_s110_12, xk_s110_13, xk_s110_14, trivial⟩, rfl, Or.inr (Or.inr ⟨rfl, rfl⟩)⟩
end
section
/-! PRINTED by gen.py: the kernel checks the tables, 19 -/
-- 91: NoisyCodesModel.take()V
theorem xk_n91 : xi_numm xm_91 xt_91 = true := by decide +kernel
def xk_p91 : List Nat := [601, 605, 607, 604, 607, 603]
def xk_q91 : List Nat := []
theorem xk_w91 : xi_lk xk_p91 = xi_needm xm_91 xt_91 := by decide +kernel
theorem xk_v91 : xi_lkn xk_q91 = xi_needmN xm_91 xt_91 := by decide +kernel
theorem xk_91 : xi_okM xm_91 xt_91 := xi_okM_of xk_n91 xk_w91 (by decide +kernel) (by decide +kernel) xk_v91 (by decide +kernel)
-- 92: NoisyCodesModel.save(I)V
theorem xk_n92 : xi_numm xm_92 xt_92 = true := by decide +kernel
def xk_p92 : List Nat := [596, 649, 650, 33, 651, 595, 601, 595, 606, 605]
def xk_q92 : List Nat := []
theorem xk_w92 : xi_lk xk_p92 = xi_needm xm_92 xt_92 := by decide +kernel
theorem xk_v92 : xi_lkn xk_q92 = xi_needmN xm_92 xt_92 := by decide +kernel
theorem xk_92 : xi_okM xm_92 xt_92 := xi_okM_of xk_n92 xk_w92 (by decide +kernel) (by decide +kernel) xk_v92 (by decide +kernel)
-- 93: NoisyCodesModel.load(I)I
theorem xk_n93 : xi_numm xm_93 xt_93 = true := by decide +kernel
def xk_p93 : List Nat := [596, 649, 650, 33, 651, 595, 595, 742, 744, 33, 745, 21, 595, 595, 595, 750, 752, 33, 753, 23, 601, 606, 605]
def xk_q93 : List Nat := []
theorem xk_w93 : xi_lk xk_p93 = xi_needm xm_93 xt_93 := by decide +kernel
theorem xk_v93 : xi_lkn xk_q93 = xi_needmN xm_93 xt_93 := by decide +kernel
theorem xk_93 : xi_okM xm_93 xt_93 := xi_okM_of xk_n93 xk_w93 (by decide +kernel) (by decide +kernel) xk_v93 (by decide +kernel)
-- 94: NoisyCodesLaw.begin(LNoisyCodes;III[J)I
theorem xk_n94 : xi_numm xm_94 xt_94 = true := by decide +kernel
def xk_p94 : List Nat := [199, 200, 25, 202, 201, 197, 198]
def xk_q94 : List Nat := [21, 22]
theorem xk_w94 : xi_lk xk_p94 = xi_needm xm_94 xt_94 := by decide +kernel
theorem xk_v94 : xi_lkn xk_q94 = xi_needmN xm_94 xt_94 := by decide +kernel
theorem xk_94 : xi_okM xm_94 xt_94 := xi_okM_of xk_n94 xk_w94 (by decide +kernel) (by decide +kernel) xk_v94 (by decide +kernel)
-- 95: NoisyCodesLaw.length(LNoisyCodes;[J)I
theorem xk_n95 : xi_numm xm_95 xt_95 = true := by decide +kernel
def xk_p95 : List Nat := [340, 341, 25, 343, 342, 339]
def xk_q95 : List Nat := [23]
theorem xk_w95 : xi_lk xk_p95 = xi_needm xm_95 xt_95 := by decide +kernel
theorem xk_v95 : xi_lkn xk_q95 = xi_needmN xm_95 xt_95 := by decide +kernel
theorem xk_95 : xi_okM xm_95 xt_95 := xi_okM_of xk_n95 xk_w95 (by decide +kernel) (by decide +kernel) xk_v95 (by decide +kernel)
-- 96: NoisyCodesLaw.generator(LNoisyCodes;[J)I
theorem xk_n96 : xi_numm xm_96 xt_96 = true := by decide +kernel
def xk_p96 : List Nat := [366, 367, 25, 369, 368, 339]
def xk_q96 : List Nat := [23]
theorem xk_w96 : xi_lk xk_p96 = xi_needm xm_96 xt_96 := by decide +kernel
theorem xk_v96 : xi_lkn xk_q96 = xi_needmN xm_96 xt_96 := by decide +kernel
theorem xk_96 : xi_okM xm_96 xt_96 := xi_okM_of xk_n96 xk_w96 (by decide +kernel) (by decide +kernel) xk_v96 (by decide +kernel)
-- 97: NoisyCodesLaw.power(LNoisyCodes;I[J)I
theorem xk_n97 : xi_numm xm_97 xt_97 = true := by decide +kernel
def xk_p97 : List Nat := [373, 374, 25, 376, 375, 339, 197]
def xk_q97 : List Nat := [23, 21]
theorem xk_w97 : xi_lk xk_p97 = xi_needm xm_97 xt_97 := by decide +kernel
theorem xk_v97 : xi_lkn xk_q97 = xi_needmN xm_97 xt_97 := by decide +kernel
theorem xk_97 : xi_okM xm_97 xt_97 := xi_okM_of xk_n97 xk_w97 (by decide +kernel) (by decide +kernel) xk_v97 (by decide +kernel)
-- 98: NoisyCodesLaw.log(LNoisyCodes;I[J)I
theorem xk_n98 : xi_numm xm_98 xt_98 = true := by decide +kernel
def xk_p98 : List Nat := [381, 382, 25, 384, 383, 339, 197]
def xk_q98 : List Nat := [23, 21]
theorem xk_w98 : xi_lk xk_p98 = xi_needm xm_98 xt_98 := by decide +kernel
theorem xk_v98 : xi_lkn xk_q98 = xi_needmN xm_98 xt_98 := by decide +kernel
theorem xk_98 : xi_okM xm_98 xt_98 := xi_okM_of xk_n98 xk_w98 (by decide +kernel) (by decide +kernel) xk_v98 (by decide +kernel)
-- 99: NoisyCodesLaw.times(LNoisyCodes;II[J)I
theorem xk_n99 : xi_numm xm_99 xt_99 = true := by decide +kernel
def xk_p99 : List Nat := [392, 393, 25, 395, 394, 339, 197]
def xk_q99 : List Nat := [23, 21]
theorem xk_w99 : xi_lk xk_p99 = xi_needm xm_99 xt_99 := by decide +kernel
theorem xk_v99 : xi_lkn xk_q99 = xi_needmN xm_99 xt_99 := by decide +kernel
theorem xk_99 : xi_okM xm_99 xt_99 := xi_okM_of xk_n99 xk_w99 (by decide +kernel) (by decide +kernel) xk_v99 (by decide +kernel)
-- 100: NoisyCodesLaw.put(LNoisyCodes;II)I
theorem xk_n100 : xi_numm xm_100 xt_100 = true := by decide +kernel
def xk_p100 : List Nat := [401, 402, 25, 404, 403, 339, 400, 197]
def xk_q100 : List Nat := [23, 24, 21]
theorem xk_w100 : xi_lk xk_p100 = xi_needm xm_100 xt_100 := by decide +kernel
theorem xk_v100 : xi_lkn xk_q100 = xi_needmN xm_100 xt_100 := by decide +kernel
theorem xk_100 : xi_okM xm_100 xt_100 := xi_okM_of xk_n100 xk_w100 (by decide +kernel) (by decide +kernel) xk_v100 (by decide +kernel)
-- 101: NoisyCodesLaw.get(LNoisyCodes;I[J)I
theorem xk_n101 : xi_numm xm_101 xt_101 = true := by decide +kernel
def xk_p101 : List Nat := [426, 427, 25, 429, 428, 339, 400]
def xk_q101 : List Nat := [23, 24]
theorem xk_w101 : xi_lk xk_p101 = xi_needm xm_101 xt_101 := by decide +kernel
theorem xk_v101 : xi_lkn xk_q101 = xi_needmN xm_101 xt_101 := by decide +kernel
theorem xk_101 : xi_okM xm_101 xt_101 := xi_okM_of xk_n101 xk_w101 (by decide +kernel) (by decide +kernel) xk_v101 (by decide +kernel)
-- 102: NoisyCodesLaw.encode(LNoisyCodes;[J)I
theorem xk_n102 : xi_numm xm_102 xt_102 = true := by decide +kernel
def xk_p102 : List Nat := [433, 434, 25, 436, 435, 339]
def xk_q102 : List Nat := [23]
theorem xk_w102 : xi_lk xk_p102 = xi_needm xm_102 xt_102 := by decide +kernel
theorem xk_v102 : xi_lkn xk_q102 = xi_needmN xm_102 xt_102 := by decide +kernel
theorem xk_102 : xi_okM xm_102 xt_102 := xi_okM_of xk_n102 xk_w102 (by decide +kernel) (by decide +kernel) xk_v102 (by decide +kernel)
-- 103: NoisyCodesLaw.bit(LNoisyCodes;I[J)I
theorem xk_n103 : xi_numm xm_103 xt_103 = true := by decide +kernel
def xk_p103 : List Nat := [449, 450, 25, 452, 451, 339, 400]
def xk_q103 : List Nat := [23, 24]
theorem xk_w103 : xi_lk xk_p103 = xi_needm xm_103 xt_103 := by decide +kernel
theorem xk_v103 : xi_lkn xk_q103 = xi_needmN xm_103 xt_103 := by decide +kernel
theorem xk_103 : xi_okM xm_103 xt_103 := xi_okM_of xk_n103 xk_w103 (by decide +kernel) (by decide +kernel) xk_v103 (by decide +kernel)
-- 104: NoisyCodesLaw.burst(LNoisyCodes;II)I
theorem xk_n104 : xi_numm xm_104 xt_104 = true := by decide +kernel
def xk_p104 : List Nat := [460, 461, 25, 463, 462, 339, 400, 197]
def xk_q104 : List Nat := [23, 24, 21]
theorem xk_w104 : xi_lk xk_p104 = xi_needm xm_104 xt_104 := by decide +kernel
theorem xk_v104 : xi_lkn xk_q104 = xi_needmN xm_104 xt_104 := by decide +kernel
theorem xk_104 : xi_okM xm_104 xt_104 := xi_okM_of xk_n104 xk_w104 (by decide +kernel) (by decide +kernel) xk_v104 (by decide +kernel)
-- 105: NoisyCodesLaw.noise(LNoisyCodes;II[J)I
theorem xk_n105 : xi_numm xm_105 xt_105 = true := by decide +kernel
def xk_p105 : List Nat := [471, 472, 25, 474, 473, 339, 197]
def xk_q105 : List Nat := [23, 21]
theorem xk_w105 : xi_lk xk_p105 = xi_needm xm_105 xt_105 := by decide +kernel
theorem xk_v105 : xi_lkn xk_q105 = xi_needmN xm_105 xt_105 := by decide +kernel
theorem xk_105 : xi_okM xm_105 xt_105 := xi_okM_of xk_n105 xk_w105 (by decide +kernel) (by decide +kernel) xk_v105 (by decide +kernel)
-- 106: NoisyCodesLaw.syndrome(LNoisyCodes;II[J)I
theorem xk_n106 : xi_numm xm_106 xt_106 = true := by decide +kernel
def xk_p106 : List Nat := [479, 480, 25, 482, 481, 339, 400]
def xk_q106 : List Nat := [23, 24]
theorem xk_w106 : xi_lk xk_p106 = xi_needm xm_106 xt_106 := by decide +kernel
theorem xk_v106 : xi_lkn xk_q106 = xi_needmN xm_106 xt_106 := by decide +kernel
theorem xk_106 : xi_okM xm_106 xt_106 := xi_okM_of xk_n106 xk_w106 (by decide +kernel) (by decide +kernel) xk_v106 (by decide +kernel)
-- 107: NoisyCodesLaw.decode(LNoisyCodes;I[J)I
theorem xk_n107 : xi_numm xm_107 xt_107 = true := by decide +kernel
def xk_p107 : List Nat := [490, 491, 25, 493, 492, 339, 197, 198]
def xk_q107 : List Nat := [23, 21, 22]
theorem xk_w107 : xi_lk xk_p107 = xi_needm xm_107 xt_107 := by decide +kernel
theorem xk_v107 : xi_lkn xk_q107 = xi_needmN xm_107 xt_107 := by decide +kernel
theorem xk_107 : xi_okM xm_107 xt_107 := xi_okM_of xk_n107 xk_w107 (by decide +kernel) (by decide +kernel) xk_v107 (by decide +kernel)
-- 108: NoisyCodesLaw.save(LNoisyCodes;I)I
theorem xk_n108 : xi_numm xm_108 xt_108 = true := by decide +kernel
def xk_p108 : List Nat := [577, 578, 25, 580, 579, 339, 400]
def xk_q108 : List Nat := [23, 24]
theorem xk_w108 : xi_lk xk_p108 = xi_needm xm_108 xt_108 := by decide +kernel
theorem xk_v108 : xi_lkn xk_q108 = xi_needmN xm_108 xt_108 := by decide +kernel
theorem xk_108 : xi_okM xm_108 xt_108 := xi_okM_of xk_n108 xk_w108 (by decide +kernel) (by decide +kernel) xk_v108 (by decide +kernel)
-- 109: NoisyCodesLaw.load(LNoisyCodes;I[J)I
theorem xk_n109 : xi_numm xm_109 xt_109 = true := by decide +kernel
def xk_p109 : List Nat := [585, 586, 25, 588, 587, 339, 400, 198]
def xk_q109 : List Nat := [23, 24, 22]
theorem xk_w109 : xi_lk xk_p109 = xi_needm xm_109 xt_109 := by decide +kernel
theorem xk_v109 : xi_lkn xk_q109 = xi_needmN xm_109 xt_109 := by decide +kernel
theorem xk_109 : xi_okM xm_109 xt_109 := xi_okM_of xk_n109 xk_w109 (by decide +kernel) (by decide +kernel) xk_v109 (by decide +kernel)
end
section
/-! PRINTED by gen.py: all tables are checked -/
theorem xk_F : xi_F xm_tab xt_tab := ⟨xk_0, xk_1, xk_2, xk_3, xk_4, xk_5, xk_6, xk_7, xk_8, xk_9, xk_10, xk_11, xk_12, xk_13, xk_14, xk_15, xk_16, xk_17, xk_18, xk_19, xk_20, xk_21, xk_22, xk_23, xk_24, xk_25, xk_26, xk_27, xk_28, xk_29, xk_30, xk_31, xk_32, xk_33, xk_34, xk_35, xk_36, xk_37, xk_38, xk_39, xk_40, xk_41, xk_42, xk_43, xk_44, xk_45, xk_46, xk_47, xk_48, xk_49, xk_50, xk_51, xk_52, xk_53, xk_54, xk_55, xk_56, xk_57, xk_58, xk_59, xk_60, xk_61, xk_62, xk_63, xk_64, xk_65, xk_66, xk_67, xk_68, xk_69, xk_70, xk_71, xk_72, xk_73, xk_74, xk_75, xk_76, xk_77, xk_78, xk_79, xk_80, xk_81, xk_82, xk_83, xk_84, xk_85, xk_86, xk_87, xk_88, xk_89, xk_90, xk_91, xk_92, xk_93, xk_94, xk_95, xk_96, xk_97, xk_98, xk_99, xk_100, xk_101, xk_102, xk_103, xk_104, xk_105, xk_106, xk_107, xk_108, xk_109, xk_110, trivial⟩
end
section
/-! The induction. DRAFT until it has compiled once. -/
-- the handlers beside the machine's table
theorem xi_hdl_some {own : String} {pc x w : Nat} : ∀ {hh : List (Nat × Nat × Nat × Nat)} {hk : List (Nat × Nat × Nat × List Nat)}, xi_okh own hh hk → xi_hdl hk pc x = some w →
    ∃ (pre : List ExceptionTableEntry) (z : ExceptionTableEntry) (suf : List ExceptionTableEntry) (E : String), tableOf hh = pre ++ z :: suf ∧ z.handlerPc = w ∧ covers z pc = true ∧ z.catchType ≠ 0 ∧ xi_ex[x]? = some E ∧ (.classLink own z.catchType E : Cond) ∈ xi_gw ∧ Cond.castable E E ∈ xi_nw ∧
      ∀ u ∈ pre, covers u pc = false ∨ (u.catchType ≠ 0 ∧ ∃ x' E', x' ≠ x ∧ xi_ex[x']? = some E' ∧ (.classLink own u.catchType E' : Cond) ∈ xi_gw) := by
  intro hh
  induction hh with
  | nil =>
    intro hk ho h
    cases hk with
    | nil => cases h
    | cons q hk => cases ho
  | cons a hh ih =>
    intro hk ho h
    cases hk with
    | nil => cases ho
    | cons q hk =>
      obtain ⟨o1, o2, o3, o4, ⟨x', E', hx', hE', o7, o8⟩, o6⟩ := ho
      · · unfold xi_hdl at h
          rw [hx'] at h
          cases hc : (decide (q.1 ≤ pc) && decide (pc < q.2.1) && [x'].contains x) with
          | true =>
            rw [hc] at h
            have h : some q.2.2.1 = some w := h
            cases h
            obtain ⟨c1, c2⟩ := Bool.and_eq_true_iff.mp hc
            have c2 : x = x' := by simpa using c2
            subst c2
            exact ⟨[], ⟨a.1, a.2.1, a.2.2.1, a.2.2.2⟩, tableOf hh, E', rfl, o3, by show (decide (a.1 ≤ pc) && decide (pc < a.2.1)) = true; rw [o1, o2]; exact c1, o4, hE', o7, o8, fun u hu => by cases hu⟩
          | false =>
            rw [hc] at h
            have h : xi_hdl hk pc x = some w := h
            obtain ⟨pre, z, suf, E, g1, g2, g3, g4, g5, g6, g7, g8⟩ := ih o6 h
            refine ⟨⟨a.1, a.2.1, a.2.2.1, a.2.2.2⟩ :: pre, z, suf, E, by show _ :: tableOf hh = _; rw [g1]; rfl, g2, g3, g4, g5, g6, g7, fun u hu => ?_⟩
            rcases List.mem_cons.mp hu with rfl | hu
            · rcases Bool.and_eq_false_iff.mp hc with c1 | c1
              · exact Or.inl (by show (decide (a.1 ≤ pc) && decide (pc < a.2.1)) = false; rw [o1, o2]; exact c1)
              · exact Or.inr ⟨o4, x', E', by simpa [eq_comm] using c1, hE', o7⟩
            · exact g8 u hu
theorem xi_hdl_none {own : String} {pc x : Nat} : ∀ {hh : List (Nat × Nat × Nat × Nat)} {hk : List (Nat × Nat × Nat × List Nat)}, xi_okh own hh hk → xi_hdl hk pc x = none →
    ∀ u ∈ tableOf hh, covers u pc = false ∨ (u.catchType ≠ 0 ∧ ∃ x' E', x' ≠ x ∧ xi_ex[x']? = some E' ∧ (.classLink own u.catchType E' : Cond) ∈ xi_gw) := by
  intro hh
  induction hh with
  | nil => intro hk ho h u hu; cases hu
  | cons a hh ih =>
    intro hk ho h
    cases hk with
    | nil => cases ho
    | cons q hk =>
      obtain ⟨o1, o2, o3, o4, ⟨x', E', hx', hE', o7, o8⟩, o6⟩ := ho
      · · unfold xi_hdl at h
          rw [hx'] at h
          cases hc : (decide (q.1 ≤ pc) && decide (pc < q.2.1) && [x'].contains x) with
          | true => rw [hc] at h; cases h
          | false =>
            rw [hc] at h
            have h : xi_hdl hk pc x = none := h
            intro u hu
            rcases List.mem_cons.mp (show u ∈ (⟨a.1, a.2.1, a.2.2.1, a.2.2.2⟩ : ExceptionTableEntry) :: tableOf hh from hu) with rfl | hu
            · rcases Bool.and_eq_false_iff.mp hc with c1 | c1
              · exact Or.inl (by show (decide (a.1 ≤ pc) && decide (pc < a.2.1)) = false; rw [o1, o2]; exact c1)
              · exact Or.inr ⟨o4, x', E', by simpa [eq_comm] using c1, hE', o7⟩
            · exact ih o6 h u hu
-- kinds that differ: the classes are not castable
theorem xi_nc_of {x x' : Nat} {E E' : String} (hx : xi_ex[x]? = some E) (hx' : xi_ex[x']? = some E') (hne : x' ≠ x) : (E, E') ∈ xi_nc := by
  have h1 := (List.getElem?_eq_some_iff.mp hx).1
  have h2 := (List.getElem?_eq_some_iff.mp hx').1
  have h1 : x < 4 := h1
  have h2 : x' < 4 := h2
  rcases (show x = 0 ∨ x = 1 ∨ x = 2 ∨ x = 3 by omega) with rfl | rfl | rfl | rfl <;> rcases (show x' = 0 ∨ x' = 1 ∨ x' = 2 ∨ x' = 3 by omega) with rfl | rfl | rfl | rfl <;> first | exact absurd rfl hne | (cases hx; cases hx'; decide +kernel)
-- the two hand-made rows of the machine: to be proved
-- xi_siteU: a static method called by the name of a subclass;  xi_mna_ok: new int[4][4]
-- behind a call nothing that is well formed has changed its address
theorem xi_stab {as z : List Nat} {h h' : List xi_C} {lv : xi_L} {rest : List Value} (h1 : as.length = h.length) (h2 : (as ++ z).length = h'.length) (hw : h.length = h'.length ∨ xi_wf lv rest h = true) : rest.map (xi_em (as ++ z)) = rest.map (xi_em as) ∧ xi_el (as ++ z) lv = xi_el as lv := by
  rcases hw with hw | hw
  · have hz : z = [] := by
      rw [List.length_append] at h2
      exact List.eq_nil_of_length_eq_zero (by omega)
    subst hz
    rw [List.append_nil]
    exact ⟨rfl, rfl⟩
  · unfold xi_wf at hw
    obtain ⟨hw, -⟩ := Bool.and_eq_true_iff.mp hw
    obtain ⟨w1, w2⟩ := Bool.and_eq_true_iff.mp hw
    exact ⟨xi_em_apps (by rw [h1]; exact w2), xi_el_app (by rw [h1]; exact w1)⟩
section XM
variable {p : Program} {l : Launch} {e : Env} {s : State} {m : MethodId} {args : Array Value} {below : List Frame} {meth : Method} {c : Code}
variable {D : va_G} {cs : Nat → ClassId} {b base : Nat} {X : List Int32} {h2 : List xi_C} {o2 : xi_O} {K0 N0 y0 : Nat} {qc : xm_T} {mt : xi_M} {C : xi_Rel} {as0 : List Nat}
set_option maxHeartbeats 16000000 in
set_option maxRecDepth 100000 in
theorem xi_go_ok (hl : l.stackTraces = false) (IH : ∀ y av h o h2 K N, C y av h o h2 K N → xi_Con l D cs b base X y av h o h2 K N)
    (hrows : ∀ pc r, mt.1[pc]? = some (some r) → xi_okr qc mt.1 pc r) (hhand : match qc.2.2.2.2.1 with
      | none => mt.2.1 = [] ∧ ∀ x ∈ c.exceptionTable.toList, False
      | some hh => xi_okh qc.1.cls hh mt.2.1 ∧ c.exceptionTable.toList = tableOf hh)
    (hret : meth.sig.returnType = qc.2.2.2.1) (hrk : (qc.2.2.2.1 = none ∧ mt.2.2 = 0) ∨ (qc.2.2.2.1 = some .int ∧ mt.2.2 = 1) ∨ (qc.2.2.2.1 = some .boolean ∧ mt.2.2 = 2))
    (C0 : xi_Cx p s m args c qc.2.1 qc.1.cls D cs b X (xi_A as0 s.heap.size)) (hTb : xi_Tb D cs b base X s) (hAb : ∀ q, xi_A as0 s.heap.size q → base ≤ q) (hml : c.maxLocals = qc.2.2.1) (hlk : meth.locks = false) (hnm : meth.name = qc.1.name) :
    ∀ (f k n pc : Nat) (lv : xi_L) (st : List Value) (h : List xi_C) (z : List Nat) (H : Heap) (locs : List Loc) (ls : Array Slot), xi_go xi_ks xi_vt mt C K0 N0 (fun o1 h1 => o1 = o2 ∧ h1 = h2) f k n (pc, lv, st, h) → lv_has ls qc.2.2.1 (xi_el (as0 ++ z) lv) →
      xi_Wd D cs b base X (xi_A as0 s.heap.size) (as0 ++ z) h H → va_S (xi_A as0 s.heap.size) s.heap H locs → k ≤ K0 → n ≤ N0 →
      W p l e (xi_rm qc K0 N0) s m args below meth c H locs k n (vx_MQ below (xi_Qc D cs b base X as0 s.heap.size o2 h2) (xi_XC D cs b base X as0 s.heap.size o2 h2) args s K0 N0 (xi_A as0 s.heap.size)) (F0 m pc ls (st.map (xi_em (as0 ++ z)))) := by
  obtain ⟨hx, hb, hown, hts, hnw, hK, hX, hbl, hbA, hA⟩ := id C0
  intro f
  induction f with
  | zero => intro k n pc lv st h z H locs ls hg; exact hg.elim
  | succ f ih =>
    intro k n pc lv st h z H locs ls hg hl1 hJ hS hkK hnN
    obtain ⟨r, hr, hg⟩ := hg
    have hok := hrows pc r hr
    obtain ⟨ok1, ok2, ok3, ok4⟩ := hok
    obtain ⟨len, hd, hlen⟩ := xi_dec_ok ok1
    have hls : ls.size = c.maxLocals := hl1.1.trans hml.symm
    obtain ⟨i, a1, b1, v1⟩ := r
    dsimp only at ok1 ok2 ok3 ok4 hd hlen
    rcases hg with ⟨t, dk, dn, hp, hk1, hn1, hg⟩ | ⟨v, hv, hvo, hk1, hn1, hq⟩ | ⟨x, hx9, h0, hw, hk1, hn1, hq⟩ | ⟨y, av, rest, o, h', dk, dn, hi, hw, hc, hk1, hn1, hwf, hmx, hg⟩
    -- a pure step
    · unfold xi_pure at hp
      dsimp only at hp
      split at hp
      · rename_i w hw
        cases hp
        have hsw : len = xi_len i := hlen (fun d lo hi o e9 => by subst e9; cases hw)
        rw [hsw] at hd
        exact xi_lod_ok hx hb hd hown (fun k9 hk9 => by rcases hk9 with rfl | rfl <;> exact hts _ ok4) hl1 hw (ih k n _ lv (w :: st) h z H locs ls hg hl1 hJ hS hkK hnN)
      · split at hp
        · rename_i q9 hw
          obtain ⟨pc', st'⟩ := q9
          cases hp
          exact xi_brn_ok hx hb hd (fun hbr => hlen (fun d lo hi o e9 => by subst e9; cases hbr)) (fun hbr => by
            unfold xi_isbr at hbr
            split at hbr
            · exact ok4
            · exact ok4
            · exact ok4
            · cases hbr) hw (ih k n pc' lv st' h z H locs ls hg hl1 hJ hS hkK hnN)
        · split at hp
          · rename_i st' hw
            cases hp
            have hsw : len = xi_len i := hlen (fun d lo hi o e9 => by subst e9; cases hw)
            rw [hsw] at hd
            exact xi_rd_ok C0 hJ hS hd (fun k9 e9 => by subst e9; exact ok4) hw (ih k n _ lv st' h z H locs ls hg hl1 hJ hS hkK hnN)
          · split at hp
            · rename_i q9 hw
              obtain ⟨lv', st'⟩ := q9
              cases hp
              have hsw : len = xi_len i := hlen (fun d lo hi o e9 => by subst e9; cases hw)
              rw [hsw] at hd
              have hsix : xi_six i < qc.2.2.1 := by
                unfold xi_str at hw
                split at hw
                · exact ok4
                · exact ok4
                · exact ok4
                · exact ok4
                · exact ok4
                · cases hw
              exact xi_str_ok hx hb hd hsix hl1 hw (fun ls' hl' => ih k n _ lv' st' h z H locs ls' hg hl' hJ hS hkK hnN)
            · split at hp
              · rename_i q9 hw
                obtain ⟨st', h'⟩ := q9
                cases hp
                have hsw : len = xi_len i := hlen (fun d lo hi o e9 => by subst e9; cases hw)
                rw [hsw] at hd
                have hR9 : xi_okR i a1 (xi_rm qc K0 N0) := by
                  unfold xi_wr at hw
                  split at hw
                  · trivial
                  · trivial
                  · trivial
                  · trivial
                  · exact ok4
                  · exact ok4
                  · cases hw
                exact xi_wr_ok C0 hJ hS hnm hls hd (fun k9 e9 => by subst e9; exact ok4) ok3 hR9 hw (fun H1 locs1 hJ1 hS1 => ih k n _ lv st' h' z H1 locs1 ls hg hl1 hJ1 hS1 hkK hnN)
              · split at hp
                · rename_i st' hw
                  cases hp
                  have hsw : len = xi_len i := hlen (fun d lo hi o e9 => by
                    subst e9
                    have h9 : xi_stk (.tableswitch d lo hi o) st = none := by
                      unfold xi_stk
                      dsimp only
                      split <;> rfl
                    rw [h9] at hw
                    cases hw)
                  rw [hsw] at hd
                  exact xi_stk_ok hx hb hd hw (ih k n _ lv st' h z H locs ls hg hl1 hJ hS hkK hnN)
                · cases hwf : xi_wf lv st h with
                  | false => rw [hwf] at hp; cases hp
                  | true =>
                    rw [hwf] at hp
                    simp only [cond_true] at hp
                    split at hp
                    · rename_i q9 hw
                      obtain ⟨st', h', dk', dn'⟩ := q9
                      cases hp
                      have hsw : len = xi_len i := hlen (fun d lo hi o e9 => by subst e9; cases hw)
                      rw [hsw] at hd
                      have hkn : xi_okn qc.1.cls i a1 b1 := by
                        unfold xi_new at hw
                        split at hw
                        · exact ok4.2
                        · exact ok4
                        · exact ok4
                        · exact ok4
                        · exact ok4
                        · cases hw
                      by_cases hmi : ∃ k9 j9, i = .multianewarray k9 j9
                      · obtain ⟨k9, j9, rfl⟩ := hmi
                        obtain ⟨m1, m2, m3⟩ := hkn
                        subst m1
                        unfold xi_new at hw
                        dsimp only at hw
                        split at hw
                        · cases hw
                          refine xi_mna_ok C0 hTb.2.2.2.2.2.2.2.1 hAb hJ hS hd m2 m3 hwf hk1 hn1 hl1 (fun z9 H1 hJ1 hS1 hl9 => ?_)
                          have := ih (k + 5) (n + 20) (pc + 4) lv _ _ (z ++ z9) H1 locs ls hg (by rw [← List.append_assoc]; exact hl9) (by rw [← List.append_assoc]; exact hJ1) hS1 hk1 hn1
                          rw [← List.append_assoc] at this
                          exact this
                        · cases hw
                      · refine xi_new_ok C0 hTb.2.2.2.2.2.2.1 hAb hJ hS hd (fun k9 j9 e9 => hmi ⟨k9, j9, e9⟩) hkn hwf hw hk1 hn1 hl1 (fun z9 H1 hJ1 hS1 hl9 => ?_)
                        have := ih (k + dk) (n + dn) (pc + xi_len i) lv st' h' (z ++ z9) H1 locs ls hg (by rw [← List.append_assoc]; exact hl9) (by rw [← List.append_assoc]; exact hJ1) hS1 hk1 hn1
                        rw [← List.append_assoc] at this
                        exact this
                    · cases hp
    -- a return
    · obtain ⟨hq1, hq2⟩ := hq
      have hq2 : h = h2 := hq2
      subst hq2
      have hsw : len = xi_len i := hlen (fun d lo hi o e9 => by subst e9; cases hv)
      rw [hsw] at hd
      replace hv : xi_ret i st = some v := hv
      unfold xi_ret at hv
      split at hv
      · split at hv
        · cases hv
          rcases hrk with ⟨g1, g2⟩ | ⟨g1, g2⟩ | ⟨g1, g2⟩
          · exact W.widen hkK hnN (vx_ret (W.vret hx hb (hret.trans g1) (fun t ht hW => ⟨⟨none, z, hq1.symm, rfl, by rw [ht]; exact hJ⟩, hS.F ht⟩) hS.2.2 hd hlk))
          · rw [g2] at hvo; cases hvo
          · rw [g2] at hvo; cases hvo
        · cases hv
      · split at hv
        · rename_i x
          cases hv
          rcases hrk with ⟨g1, g2⟩ | ⟨g1, g2⟩ | ⟨g1, g2⟩
          · rw [g2] at hvo; cases hvo
          · exact W.widen hkK hnN (vx_ret (W.iret (v := x) hx hb (hret.trans g1) (fun t ht hW => ⟨⟨some (.int x), z, hq1.symm, rfl, by rw [ht]; exact hJ⟩, hS.F ht⟩) hS.2.2 hd hlk))
          · rw [g2] at hvo
            have hx01 : narrow .boolean (.int x) = .int x := by
              rcases Bool.or_eq_true_iff.mp (show (decide (x = 0) || decide (x = 1)) = true from hvo) with g | g
              · rw [of_decide_eq_true g]; rfl
              · rw [of_decide_eq_true g]; rfl
            exact W.widen hkK hnN (vx_ret (W.zret (v := x) hx hb (hret.trans g1) hx01 (fun t ht hW => ⟨⟨some (.int x), z, hq1.symm, rfl, by rw [ht]; exact hJ⟩, hS.F ht⟩) hS.2.2 hd hlk))
        · cases hv
      · cases hv
    -- a throw
    · have hw : (st.map fun v => v.category).sum ≤ 8 := hw
      obtain ⟨hq1, hq2⟩ := hq
      have hq2 : h = h2 := hq2
      subst hq2
      unfold xi_thr at hx9
      split at hx9
      · rename_i ik x9 v9 e9
        cases e9
        split at hx9
        · rename_i w3 ic w4 w7 hr3 hr4 hr7
          cases hx9
          have hsw : len = xi_len (.new ik) := hlen (fun d lo hi o e9 => by cases e9)
          rw [hsw] at hd
          have hdx : ∀ {pc9 : Nat} {i9 : Instr} {w9 : Nat × Nat × Int32}, mt.1[pc9]? = some (some (i9, w9)) → (∀ d lo hi o, i9 ≠ .tableswitch d lo hi o) → decode qc.2.1 pc9 = .ok (i9, xi_len i9) := fun {pc9 i9 w9} h9 hs9 => by
            have hok9 := hrows pc9 (i9, w9) h9
            obtain ⟨n9, g1, g2⟩ := xi_dec_ok hok9.1
            rw [← g2 hs9]
            exact g1
          have d3 := hdx hr3 (fun _ _ _ _ e9 => by cases e9)
          have d4 := hdx hr4 (fun _ _ _ _ e9 => by cases e9)
          have d7 := hdx hr7 (fun _ _ _ _ e9 => by cases e9)
          obtain ⟨⟨E, hE, o1, o2, o3, o4, o5⟩, of6, ol⟩ := ok4.1 rfl _ _ hr4
          · have hout : ∀ x9 ∈ c.exceptionTable.toList, covers x9 (pc + 7) = false := fun x9 hx9 => by
              cases hh9 : qc.2.2.2.2.1 with
              | none => rw [hh9] at hhand; exact (hhand.2 x9 hx9).elim
              | some hh =>
                rw [hh9] at hhand
                obtain ⟨g1, g2⟩ := hhand
                rw [h0] at g1
                cases hh with
                | nil => rw [g2] at hx9; cases hx9
                | cons a9 hh => cases g1
            exact vx_throw0 (names := xi_nm) hx hb hl hown o1 (by decide +kernel) (hts _ o2) (hts _ o3) (fun w9 hw9 => by
                rcases o4 w9 hw9 with g | g
                · exact hts _ g
                · exact va_Nw.use (by have g9 := xi_nw_all w9 g; unfold xi_nwk at g9; split at g9 <;> first | rfl | cases g9) (hnw w9 g))
              (fun w9 hw9 => List.all_eq_true.mp o5 w9 hw9) (hTb.2.2.2.2.2.2.2.2.1.narrow hAb) (hTb.2.2.2.2.2.2.2.2.2.narrow hAb) hS hls hd d3 d4 d7 hout of6 (by rw [xi_em_sum]; have := ol; show _ + (13 * 3 + 42) ≤ qc.2.2.2.2.2.2; omega) hk1 hn1 hlk
              (fun t hal hsz hsame => ⟨⟨_, z, hq1.symm, hE, by
                obtain ⟨g1, g2, g3, g4, g5, g6⟩ := hJ
                exact ⟨g1, g2, g3, g4, g5.kept (fun k9 q9 hk9 => hsame q9.1 (g5 k9 q9 hk9).lt), g6⟩⟩, Nat.le_trans hS.1 hsz, fun q9 g1 g2 => (hsame q9 (Nat.lt_of_lt_of_le g1 hS.1)).trans (hS.2.1 q9 g1 g2)⟩)
              hS.2.2 hk1 hn1
        · cases hx9
      · cases hx9
    -- a call
    · have hrun : vx_Run p l e (xi_rm qc K0 N0) s m args below meth c H locs k n dk dn (F0 m pc ls (st.map (xi_em (as0 ++ z)))) (rest.map (xi_em (as0 ++ z))) (xi_Qc D cs b base X (as0 ++ z) H.size o h' (av.map (xi_em (as0 ++ z))).toArray) (xi_XC D cs b base X (as0 ++ z) H.size o h') (xi_A (as0 ++ z) H.size) := by
        have hcon := IH _ _ _ _ _ _ _ hc
        unfold xi_inv at hi
        dsimp only at hi
        split at hi
        · rename_i k9
          have hd : decode qc.2.1 pc = .ok (.invokestatic k9, 3) := by rw [hlen (fun _ _ _ _ e9 => by cases e9)] at hd; exact hd
          cases hcnd : (decide (a1 < 900) && decide (b1 ≤ st.length)) with
          | false => rw [hcnd] at hi; cases hi
          | true =>
            rw [hcnd] at hi
            cases hi
            obtain ⟨c1, c2⟩ := Bool.and_eq_true_iff.mp hcnd
            have c1 := of_decide_eq_true c1
            have c2 := of_decide_eq_true c2
            have hst : st = ((st.take b1).reverse).reverse ++ st.drop b1 := by rw [List.reverse_reverse, List.take_append_drop]
            have hn9 : ((st.take b1).reverse).length = b1 := by rw [List.length_reverse, List.length_take]; omega
            obtain ⟨q, hq, u0, u0', u1, u2, u3, u4, u5, u6⟩ := ok2 c1
            by_cases hup : a1 = xi_up
            · obtain ⟨v1, v2, v3⟩ := u0 hup
              rcases hmx with g | ⟨v, rfl⟩
              · exact absurd g (by unfold xi_mayx; simp [hup])
              · exact xi_siteU C0 hTb hAb hJ hS hls hq v3 hd v1 v2 u1 u2 u3 u4 u5 u6 hn9 hcon hst hw hk1 hn1
            · exact xi_siteS C0 hTb hAb hJ hS hls hq hd (u0' hup) u1 u2 u3 u4 u5 u6 hn9 hcon hst hw hk1 hn1
        · rename_i k9
          have hd : decode qc.2.1 pc = .ok (.invokespecial k9, 3) := by rw [hlen (fun _ _ _ _ e9 => by cases e9)] at hd; exact hd
          split at hi
          · rename_i qo rest9 hdrop
            cases hcnd : decide (a1 < 900) with
            | false => rw [hcnd] at hi; cases hi
            | true =>
              rw [hcnd] at hi
              cases hi
              have c1 := of_decide_eq_true hcnd
              have hst : st = ((st.take (b1 - 1)).reverse).reverse ++ .ref (qo + 1) :: rest := by rw [List.reverse_reverse, ← hdrop, List.take_append_drop]
              have hn9 : ((st.take (b1 - 1)).reverse).length = b1 - 1 := by
                have h8 := congrArg List.length hdrop
                rw [List.length_drop, List.length_cons] at h8
                rw [List.length_reverse, List.length_take]
                omega
              obtain ⟨q, hq, u0, u1, u2, u3, u4, u5, u6, u7, u8, u9⟩ := ok2 c1
              rcases hmx with g | ⟨v, rfl⟩
              · cases g
              · exact xi_siteI C0 hTb hAb hJ hS hls hq u0 u1 u2 hd u3 u4 u5 u6 u7 u8 u9 hn9 hcon hst hw hk1 hn1
          · cases hi
        · rename_i k9
          have hd : decode qc.2.1 pc = .ok (.invokevirtual k9, 3) := by rw [hlen (fun _ _ _ _ e9 => by cases e9)] at hd; exact hd
          split at hi
          · rename_i qo rest9 hdrop
            split at hi
            · rename_i ci fs hqo
              split at hi
              · rename_i y9 hvt
                cases hi
                have hst : st = ((st.take (b1 - 1)).reverse).reverse ++ .ref (qo + 1) :: rest := by rw [List.reverse_reverse, ← hdrop, List.take_append_drop]
                have hn9 : ((st.take (b1 - 1)).reverse).length = b1 - 1 := by
                  have h8 := congrArg List.length hdrop
                  rw [List.length_drop, List.length_cons] at h8
                  rw [List.length_reverse, List.length_take]
                  omega
                by_cases h9 : a1 = 900
                · subst h9
                  obtain ⟨rr, q, hr9, hq, u0, u1, u2, u3, u4, u5, u6, u7, u8, u9⟩ := ok2.1 rfl ci _ hvt
                  rcases hmx with g | ⟨v, rfl⟩
                  · cases g
                  · exact xi_siteA C0 hTb hAb hJ hS hls hq u0 (x := xi_loc) rfl hd u1 u2 u3 u4 hr9 u5 u6 u7 hqo u8 u9 hn9 hcon hst hw hk1 hn1
                · obtain ⟨e1, e2⟩ := xi_vtn h9 hvt
                  have e1 : y = a1 := e1
                  subst e1
                  obtain ⟨rr, q, hr9, hq, v0, u0, u1, u2, u3, u4, u5, u6, u7, u8⟩ := ok2.2 h9
                  rw [e2] at hr9
                  exact xi_siteV C0 hTb hAb hJ hS hls hq u0 hd u1 u2 u3 u4 u5 hr9 v0 hqo u6 u7 u8 hn9 hcon hst hw hk1 hn1
              · cases hi
            · cases hi
          · cases hi
        · cases hi
      refine xi_ofRun hrun hJ hS hA (fun v z' H1 locs1 ho hJ1 hS1 => ?_) (fun x z' E ce q9 H1 locs1 ho hE hJ1 hS1 hce hcv hcl => ?_)
      · subst ho
        obtain ⟨st1, st2⟩ := xi_stab hJ.1 hJ1.1 hwf
        rw [List.append_assoc] at hJ1 st1 st2
        have := ih (k + dk) (n + dn) (pc + 3) lv (v.toList ++ rest) h' (z ++ z') H1 locs1 ls hg (by rw [st2]; exact hl1) hJ1 hS1 hk1 hn1
        rw [List.map_append, st1] at this
        rw [List.append_assoc]
        cases v with
        | none => exact this
        | some w => exact this
      · subst ho
        obtain ⟨st1, st2⟩ := xi_stab hJ.1 hJ1.1 hwf
        rw [List.append_assoc] at hJ1 st1 st2
        dsimp only at hg
        split at hg
        · rename_i hn9
          obtain ⟨hq1, hq2⟩ := hg
          subst hq2
          refine vx_outP hown hlk (fun u hu => ?_) hce hcv hcl (fun t ht hal => ⟨⟨x, z ++ z', hq1.symm, hE, by rw [ht]; exact hJ1⟩, hS1.F ht⟩) hS1.2.2 hk1 hn1
          cases hh9 : qc.2.2.2.2.1 with
          | none => rw [hh9] at hhand; exact (hhand.2 u hu).elim
          | some hh =>
            rw [hh9] at hhand
            rw [hhand.2] at hu
            rcases xi_hdl_none hhand.1 hn9 u hu with g | ⟨g1, x', E', g2, g3, g4⟩
            · exact Or.inl g
            · exact Or.inr ⟨g1, E', hts _ g4, hTb.2.2.2.2.2.1 _ (xi_nc_of hE g3 g2)⟩
        · rename_i w hw9
          obtain ⟨pc', lv', hcat, hg⟩ := hg
          cases hh9 : qc.2.2.2.2.1 with
          | none => rw [hh9] at hhand; rw [hhand.1] at hw9; cases hw9
          | some hh =>
            rw [hh9] at hhand
            obtain ⟨pre, z9, suf, E9, g1, g2, g3, g4, g5, g6, g7, g8⟩ := xi_hdl_some hhand.1 hw9
            cases hE.symm.trans g5
            refine vx_catch hown pre z9 suf (hhand.2.trans g1) (fun u hu => ?_) g3 g4 (hts _ g6) (va_Nw.use rfl (hnw _ g7)) hce hcv hcl ?_
            · rcases g8 u hu with g | ⟨f1, x', E', f2, f3, f4⟩
              · exact Or.inl g
              · exact Or.inr ⟨f1, E', hts _ f4, hTb.2.2.2.2.2.1 _ (xi_nc_of hE f3 f2)⟩
            · rw [g2]
              have hdx : ∀ {pc9 : Nat} {i9 : Instr} {w9 : Nat × Nat × Int32}, mt.1[pc9]? = some (some (i9, w9)) → (∀ d lo hi o, i9 ≠ .tableswitch d lo hi o) → decode qc.2.1 pc9 = .ok (i9, xi_len i9) := fun {pc9 i9 w9} h9 hs9 => by
                have hok9 := hrows pc9 (i9, w9) h9
                obtain ⟨n9, g1, g2⟩ := xi_dec_ok hok9.1
                rw [← g2 hs9]
                exact g1
              unfold xi_cat at hcat
              split at hcat
              · rename_i k9 w9 hr9
                cases hcat
                have hok9 := hrows w (.astore_n k9, w9) hr9
                have hn9 : k9.val < qc.2.2.1 := hok9.2.2.2
                refine lv_astore_n hx hb (hdx hr9 (fun _ _ _ _ e9 => by cases e9)) rfl hl1 hn9 rfl (fun ls' hl' => ?_)
                have hl'' : lv_has ls' qc.2.2.1 (xi_el (as0 ++ (z ++ z')) (lv.filter (xi_keep k9.val))) := by
                  rw [xi_el_filter, st2]
                  exact ⟨hl'.1, hl'.2.1, fun q hq => hl'.2.2 q (List.mem_cons_of_mem _ hq)⟩
                exact ih (k + dk) (n + dn) (w + 1) _ [] h' (z ++ z') H1 locs1 ls' hg hl'' hJ1 hS1 hk1 hn1
              · rename_i k9 w9 hr9
                cases hcat
                have hok9 := hrows w (.astore k9, w9) hr9
                have hn9 : k9 < qc.2.2.1 := hok9.2.2.2
                refine lv_astore hx hb (hdx hr9 (fun _ _ _ _ e9 => by cases e9)) hl1 hn9 rfl (fun ls' hl' => ?_)
                have hl'' : lv_has ls' qc.2.2.1 (xi_el (as0 ++ (z ++ z')) (lv.filter (xi_keep k9))) := by
                  rw [xi_el_filter, st2]
                  exact ⟨hl'.1, hl'.2.1, fun q hq => hl'.2.2 q (List.mem_cons_of_mem _ hq)⟩
                exact ih (k + dk) (n + dn) (w + 2) _ [] h' (z ++ z') H1 locs1 ls' hg hl'' hJ1 hS1 hk1 hn1
              · cases hcat
end XM
end
section
/-! Contracts for every depth, out of the induction. Behind the checks of the tables (xk_F). DRAFT until it has compiled once. -/
theorem xi_args_em (as : List Nat) : ∀ (av : List Value) (i : Nat), lv_args i (av.map (xi_em as)) = xi_el as (lv_args i av) := by
  intro av
  induction av with
  | nil => intro i; rfl
  | cons v av ih =>
    intro i
    show (i, xi_em as v) :: lv_args (if (xi_em as v).category = 2 then i + 2 else i + 1) (av.map (xi_em as)) = (i, xi_em as v) :: xi_el as (lv_args (if v.category = 2 then i + 2 else i + 1) av)
    rw [xi_em_cat, ih]
theorem xi_sl_len : ∀ vs : List Value, (lg_sl vs).length = (vs.map fun v => v.category).sum := by
  intro vs
  induction vs with
  | nil => rfl
  | cons v vs ih =>
    show ((if v.category = 2 then [Slot.val v, .second] else [.val v]) ++ lg_sl vs).length = v.category + (vs.map fun v => v.category).sum
    rw [List.length_append, ih]
    cases v <;> rfl
theorem xi_ws_mem {cs : Nat → ClassId} {as : List Nat} {h : List xi_C} {k : Nat} {q : Nat × va_E} (hk : (xi_ws cs as h)[k]? = some q) : q.1 ∈ as.drop 1 := by
  rw [xi_ws_get] at hk
  split at hk
  · rename_i a c ha hc
    cases hk
    exact List.mem_of_getElem? (i := k) (by rw [List.getElem?_drop, Nat.add_comm]; exact ha)
  · cases hk
section XQ
variable {l : Launch} {D : va_G} {cs : Nat → ClassId} {b base : Nat} {X : List Int32}
set_option maxHeartbeats 4000000 in
theorem xi_body (hl : l.stackTraces = false) {q : xm_T} {mt : xi_M} (hM : xi_okM q mt) {C : xi_Rel} (IH : ∀ y av h o h2 K N, C y av h o h2 K N → xi_Con l D cs b base X y av h o h2 K N)
    {S : Spec} {p : Program} {e : Env} {s : State} {m : MethodId} {args : Array Value} {below : List Frame} {meth : Method} {c : Code} {s₁ : State} (B : BodyLoose p l q.1 S q.2.1 q.2.2.1 q.2.2.2.1 e s m args below meth c s₁) (hml : c.maxLocals = q.2.2.1)
    (htb : match q.2.2.2.2.1 with
      | none => ∀ x ∈ c.exceptionTable.toList, False
      | some hh => c.exceptionTable.toList = tableOf hh) (hts : ∀ w ∈ xi_gw, w.before args s = true) {K N : Nat} (hS : S.room = xi_rm q K N) {av : List Value} {h h2 : List xi_C} {o : xi_O} {as : List Nat} {sz f : Nat} (hP : va_Pc (av.map (xi_em as)) (xi_In D cs b base X as h sz) args s)
    (hle : (av.map fun v => v.category).sum ≤ q.2.2.1) (hgo : xi_go xi_ks xi_vt mt C K N (fun o1 h1 => o1 = o ∧ h1 = h2) f 0 0 (0, lv_args 0 av, [], h)) :
    W p l e S.room s m args below meth c s.heap [] 0 0 (vx_MQ below (xi_Qc D cs b base X as sz o h2) (xi_XC D cs b base X as sz o h2) args s K N (xi_A as sz)) (entryFrame m args q.2.2.1) := by
  obtain ⟨ha, hsz, hJ, hTb⟩ := hP
  subst ha
  subst hsz
  rw [lg_entry_eq, hS]
  have hAb : ∀ q, xi_A as s.heap.size q → base ≤ q := fun q hq => hq.elim (hJ.2.2.2.1 q) (fun z => Nat.le_trans hTb.2.2.2.1 z)
  have C0 : xi_Cx p s m (av.map (xi_em as)).toArray c q.2.1 q.1.cls D cs b X (xi_A as s.heap.size) := ⟨B.exec, B.bytes, findClass_of_methodNamed B.named, hts, hTb.2.2.2.2.1, hTb.1, hTb.2.1, Nat.lt_of_lt_of_le hTb.2.2.1 hTb.2.2.2.1, fun hA => by have h1 := hAb b hA; have h2 := hTb.2.2.1; omega, fun q hq => Or.inr hq⟩
  have hJ1 : xi_Wd D cs b base X (xi_A as s.heap.size) as h s.heap := by
    obtain ⟨g1, g2, g3, g4, g5, g6⟩ := hJ
    exact ⟨g1, g2, g3, g4, g5, ⟨g6.1, fun k q hk => Or.inl (xi_ws_mem hk)⟩⟩
  have hlv : lv_has ((lg_sl (av.map (xi_em as)) ++ List.replicate (q.2.2.1 - (lg_sl (av.map (xi_em as))).length) Slot.unset).toArray) q.2.2.1 (xi_el (as ++ []) (lv_args 0 av)) := by
    rw [List.append_nil, ← xi_args_em]
    exact lv_entry _ (by rw [xi_sl_len, xi_em_sum]; exact hle)
  have hhand : match q.2.2.2.2.1 with
      | none => mt.2.1 = [] ∧ ∀ x ∈ c.exceptionTable.toList, False
      | some hh => xi_okh q.1.cls hh mt.2.1 ∧ c.exceptionTable.toList = tableOf hh := by
    have h1 := hM.2.1
    cases hh : q.2.2.2.2.1 with
    | none => rw [hh] at h1 htb; exact ⟨h1, htb⟩
    | some h9 => rw [hh] at h1 htb; exact ⟨h1, htb⟩
  have hk := xi_go_ok (e := e) (below := below) hl IH hM.1 hhand B.returns hM.2.2 C0 hTb hAb hml B.notSynchronized (name_of_methodNamed B.named B.method).1 f 0 0 0 (lv_args 0 av) [] h [] s.heap [] _ hgo hlv (by rw [List.append_nil]; exact hJ1) va_S.rf (Nat.zero_le _) (Nat.zero_le _)
  exact hk
theorem xi_con (hl : l.stackTraces = false) : ∀ (d y : Nat) (av : List Value) (h : List xi_C) (o : xi_O) (h2 : List xi_C) (K N : Nat), xi_at d y av h o h2 K N → xi_Con l D cs b base X y av h o h2 K N := by
  intro d
  induction d with
  | zero => intro y av h o h2 K N e; exact e.elim
  | succ d ih =>
    intro y av h o h2 K N e q hq as sz
    obtain ⟨mt, hmt, hle, f, e⟩ := e
    have hM := xi_F_at xk_F hq hmt
    have ht := xi_tabT y
    unfold xi_tabB at ht
    rw [hq] at ht
    simp only [Bool.and_eq_true] at ht
    obtain ⟨⟨⟨⟨t1, t2⟩, t3⟩, t4⟩, t5⟩ := ht
    have hle : (av.map fun v => v.category).sum ≤ q.2.2.1 := by rw [show q.2.2.1 = xl_tab.getD y 0 by simpa using t5]; exact hle
    cases hh : q.2.2.2.2.1 with
    | none =>
      have hcw : xi_wl q = Cond.code q.1 q.2.1 q.2.2.1 q.2.2.2.1 :: xi_gw := by unfold xi_wl xi_cw; rw [hh]
      exact vx_ofW t3 hcw (fun p e9 s m args below meth c s₁ B hml ht9 hP => xi_body hl hM ih B hml (by rw [hh]; exact ht9) (fun w hw => atoms_spec (ws := xi_wl q) B.pre w (List.mem_cons_of_mem _ hw)) rfl hP hle e)
    | some hh9 =>
      have hcw : xi_wl q = Cond.codeWith q.1 q.2.1 q.2.2.1 q.2.2.2.1 hh9 :: xi_gw := by unfold xi_wl xi_cw; rw [hh]
      exact vx_ofWH t3 hcw (fun p e9 s m args below meth c s₁ B hml hP => xi_body hl hM ih B hml (by rw [hh]; exact vx_table (x := q.1) B (atoms_spec (ws := xi_wl q) B.pre _ (by rw [hcw]; exact List.mem_cons_self))) (fun w hw => atoms_spec (ws := xi_wl q) B.pre w (List.mem_cons_of_mem _ hw)) rfl hP hle e)
end XQ
end
section
/-! The law's start: from the tables' words to what the contracts ask. DRAFT until it has compiled once. -/
section XZ
variable {s : State} {args : Array Value}
theorem xi_known (hts : ∀ w ∈ xi_gw, w.before args s = true) : ∃ D : va_G, ∀ (c : Nat) (q : vw_C), xi_cl[c]? = some q → u_Kn s q.1 q.2.1 q.2.2 (D.1 c) (D.2 c) := by
  have h : ∀ c : Nat, ∃ z : ClassId × (Nat → Nat), ∀ q : vw_C, xi_cl[c]? = some q → u_Kn s q.1 q.2.1 q.2.2 z.1 z.2 := by
    intro c
    cases hc : xi_cl[c]? with
    | none => exact ⟨(0, fun _ => 0), fun q h => by cases h⟩
    | some q =>
      obtain ⟨h1, -, -, -, h5, -⟩ := xi_clOk c q hc
      obtain ⟨cC, iS, hk⟩ := u_known hts h1 (hts _ h5)
      exact ⟨(cC, iS), fun q' h => by cases h; exact hk⟩
  exact ⟨(fun c => (Classical.choose (h c)).1, fun c => (Classical.choose (h c)).2), fun c q hq => Classical.choose_spec (h c) q hq⟩
theorem xi_arrs (h0 : (Cond.arrayClass .int).before args s = true) (h1 : (Cond.arrayClass .long).before args s = true) (h2 : (Cond.arrayOver (.object "NoisyCodes$Way")).before args s = true) (h3 : (Cond.arrayOver (.array .int)).before args s = true) :
    ∃ cs : Nat → ClassId, ∀ (k : Nat) (q : ClassId × FieldType), (xi_ty cs)[k]? = some q → ArrOfT s q.1 q.2 ∧ va_RA s q.1 q.2 := by
  obtain ⟨c0, k0, p0, a1, a2, a3⟩ := Cond.arrayClass_spec h0
  obtain ⟨c1, k1, p1, b1, b2, b3⟩ := Cond.arrayClass_spec h1
  obtain ⟨p2, c2, k2, d1, d2, d3, d4, d5⟩ := Cond.arrayOver_spec h2
  obtain ⟨p3, c3, k3, e1, e2, e3, e4, e5⟩ := arrayOverA_spec h3
  refine ⟨fun i => if i = 0 then c0 else if i = 1 then c1 else if i = 2 then c2 else c3, fun k q hq => ?_⟩
  have hk : k < 4 := (List.getElem?_eq_some_iff.mp hq).1
  rcases (show k = 0 ∨ k = 1 ∨ k = 2 ∨ k = 3 by omega) with rfl | rfl | rfl | rfl
  · cases hq
    exact ⟨fun N z => ⟨fun q hq => (by cases hq), k0, a2, p0, a3⟩, a1⟩
  · cases hq
    exact ⟨fun N z => ⟨fun q hq => (by cases hq), k1, b2, p1, b3⟩, b1⟩
  · cases hq
    exact ⟨fun N z => ⟨fun q hq => (by cases hq), k2, d3, p2, d4⟩, k2, p2, d3, d4, d1, d5⟩
  · cases hq
    exact ⟨fun N z => ⟨fun q hq => (by cases hq), k3, e3, p3, e4⟩, e5⟩
end XZ
theorem xi_nw_in : ∀ w ∈ xi_nw, w ∈ lw_tbl := by decide +kernel
theorem xi_nc_in : ∀ q ∈ xi_nc, Cond.not (.castable q.1 q.2) ∈ flatC (Jvm.Cond.and given_1 narrow_1) := by decide +kernel
set_option maxHeartbeats 4000000 in
theorem xi_startTb {s : State} {b : Addr} {X : List Int32} (hts : ∀ w ∈ lw_tbl, w.before #[Value.ref b] s = true) (hgv : (Jvm.Cond.and given_1 narrow_1).before #[Value.ref b] s = true) (hX : va_X b X.length (fun j => X.getD j 0) s s.heap) (hb : b < s.heap.size) : ∃ (D : va_G) (cs : Nat → ClassId), xi_Tb D cs b s.heap.size X s := by
  have hgw : ∀ w ∈ xi_gw, w.before #[Value.ref b] s = true := fun w hw => hts w (List.mem_filter.mp hw).1
  obtain ⟨D, hD⟩ := xi_known hgw
  have hfl := flat_of_before _ hgv
  have hAO : (Cond.arrayOver (.object "NoisyCodes$Way")).before #[Value.ref b] s = true := hts _ (by decide +kernel)
  have hAA : (Cond.arrayOver (.array .int)).before #[Value.ref b] s = true := hts _ (by decide +kernel)
  obtain ⟨cs, hcs⟩ := xi_arrs (hts _ (by decide +kernel)) (hts _ (by decide +kernel)) hAO hAA
  refine ⟨D, cs, ⟨hD, hcs⟩, hX, hb, Nat.le_refl _, fun w hw => ?_, fun q hq => ?_, va_AO.of hAO, hAA, ?_, ?_⟩
  · exact va_Nw.of (by have h9 := xi_nw_all w hw; unfold xi_nwk at h9; split at h9 <;> first | rfl | cases h9) (hts w (xi_nw_in w hw))
  · exact va_Nc.of (hfl _ (xi_nc_in q hq))
  · exact vx_Zqof (hts _ (by decide +kernel)) (hts _ (by decide +kernel)) (hfl _ (by decide +kernel)) (fun a ha h => by omega)
  · exact vx_Zqof (hts _ (by decide +kernel)) (hts _ (by decide +kernel)) (hfl _ (by decide +kernel)) (fun a ha h => by omega)
-- the script alone
theorem xi_startWd {s : State} {b : Addr} {X : List Int32} (D : va_G) (cs : Nat → ClassId) : xi_Wd D cs b s.heap.size X (fun _ => True) [b] [.inl X] s.heap :=
  ⟨rfl, rfl, rfl, fun a ha => (by cases ha), fun k q hk => (by cases hk), ⟨fun i j p q hi => (by cases hi), fun k q hk => (by cases hk)⟩⟩
end
section
/-! Leaves of the class: Field.product. Blocks printed by sym.py. DRAFT until it has compiled once. -/
theorem xb_20_0 (c0 c1 c2 : xi_C) (n a b : Int32) (P L : List Int32) (tl : List xi_C) : xi_runc xr_20 2 (0, [(0, .ref 3), (1, .int a), (2, .int b)], [], c0 :: c1 :: c2 :: .inr (.inr (.inr (2, [.ref 4, .ref 5, .int n]))) :: .inl P :: .inl L :: tl) = some ([], (bif xi_cmp .eq a 0 then 8 else 4, [(0, .ref 3), (1, .int a), (2, .int b)], [], c0 :: c1 :: c2 :: .inr (.inr (.inr (2, [.ref 4, .ref 5, .int n]))) :: .inl P :: .inl L :: tl)) := by rfl
theorem xb_20_4 (c0 c1 c2 : xi_C) (n a b : Int32) (P L : List Int32) (tl : List xi_C) : xi_runc xr_20 2 (4, [(0, .ref 3), (1, .int a), (2, .int b)], [], c0 :: c1 :: c2 :: .inr (.inr (.inr (2, [.ref 4, .ref 5, .int n]))) :: .inl P :: .inl L :: tl) = some ([], (bif xi_cmp .ne b 0 then 12 else 8, [(0, .ref 3), (1, .int a), (2, .int b)], [], c0 :: c1 :: c2 :: .inr (.inr (.inr (2, [.ref 4, .ref 5, .int n]))) :: .inl P :: .inl L :: tl)) := by rfl
theorem xb_20_8 (c0 c1 c2 : xi_C) (n a b : Int32) (P L : List Int32) (tl : List xi_C) : xi_runc xr_20 2 (8, [(0, .ref 3), (1, .int a), (2, .int b)], [], c0 :: c1 :: c2 :: .inr (.inr (.inr (2, [.ref 4, .ref 5, .int n]))) :: .inl P :: .inl L :: tl) = some ([], (35, [(0, .ref 3), (1, .int a), (2, .int b)], [.int 0], c0 :: c1 :: c2 :: .inr (.inr (.inr (2, [.ref 4, .ref 5, .int n]))) :: .inl P :: .inl L :: tl)) := by rfl
theorem xb_20_12 (c0 c1 c2 : xi_C) (n a b : Int32) (P L : List Int32) (tl : List xi_C) : xi_runc xr_20 15 (12, [(0, .ref 3), (1, .int a), (2, .int b)], [], c0 :: c1 :: c2 :: .inr (.inr (.inr (2, [.ref 4, .ref 5, .int n]))) :: .inl P :: .inl L :: tl) = some ([xi_in a (L).length, xi_in b (L).length, !decide (n = 0), xi_in ((((L).getD (a).toNatClampNeg 0) + ((L).getD (b).toNatClampNeg 0)) - (((L).getD (a).toNatClampNeg 0) + ((L).getD (b).toNatClampNeg 0)) / n * n) (P).length], (35, [(0, .ref 3), (1, .int a), (2, .int b)], [.int ((P).getD (((((L).getD (a).toNatClampNeg 0) + ((L).getD (b).toNatClampNeg 0)) - (((L).getD (a).toNatClampNeg 0) + ((L).getD (b).toNatClampNeg 0)) / n * n)).toNatClampNeg 0)], c0 :: c1 :: c2 :: .inr (.inr (.inr (2, [.ref 4, .ref 5, .int n]))) :: .inl P :: .inl L :: tl)) := by rfl
-- the field's cells, and what lies around them
abbrev xh_F (c0 c1 c2 : xi_C) (n : Int32) (P L : List Int32) (tl : List xi_C) : List xi_C := c0 :: c1 :: c2 :: .inr (.inr (.inr (2, [.ref 4, .ref 5, .int n]))) :: .inl P :: .inl L :: tl
def xp_rem (x n : Int32) : Int32 := x - x / n * n
def xp_prod (P L : List Int32) (n a b : Int32) : Int32 := bif xi_cmp .eq a 0 then 0 else bif xi_cmp .ne b 0 then P.getD (xp_rem (L.getD a.toNatClampNeg 0 + L.getD b.toNatClampNeg 0) n).toNatClampNeg 0 else 0
theorem xs_product (d : Nat) (c0 c1 c2 : xi_C) (n a b : Int32) (P L : List Int32) (tl : List xi_C) (ha : xi_in a L.length = true) (hb : xi_in b L.length = true) (hn : ¬ n = 0) (hi : xi_in (xp_rem (L.getD a.toNatClampNeg 0 + L.getD b.toNatClampNeg 0) n) P.length = true) :
    xi_at (d + 1) 20 [.ref 3, .int a, .int b] (xh_F c0 c1 c2 n P L tl) (.inl (some (.int (xp_prod P L n a b)))) (xh_F c0 c1 c2 n P L tl) 0 0 := by
  refine xi_at.of (mt := xt_20) rfl rfl ?_
  refine xi_E.runc (Nat.le_refl _) (Nat.le_refl _) 2 (xb_20_0 c0 c1 c2 n a b P L tl) rfl ?_
  have hz : xi_cmp .eq a 0 = true → xi_E xi_ks xi_vt xt_20 (xi_at d) 0 0 (fun o1 h1 => o1 = .inl (some (.int (xp_prod P L n a b))) ∧ h1 = xh_F c0 c1 c2 n P L tl) 0 0 (8, [(0, .ref 3), (1, .int a), (2, .int b)], [], xh_F c0 c1 c2 n P L tl) := fun h1 => by
    refine xi_E.runc (Nat.le_refl _) (Nat.le_refl _) 2 (xb_20_8 c0 c1 c2 n a b P L tl) rfl ?_
    exact xi_E.ret (Nat.le_refl _) (Nat.le_refl _) (r := (.ireturn, 0, 0, 0)) rfl rfl rfl ⟨by unfold xp_prod; rw [h1]; rfl, rfl⟩
  refine xi_E.bif hz (fun h1 => ?_)
  refine xi_E.runc (Nat.le_refl _) (Nat.le_refl _) 2 (xb_20_4 c0 c1 c2 n a b P L tl) rfl ?_
  refine xi_E.bif (fun h2 => ?_) (fun h2 => ?_)
  · refine xi_E.runc (Nat.le_refl _) (Nat.le_refl _) 15 (xb_20_12 c0 c1 c2 n a b P L tl) (by
      have hn' : (!decide (n = 0)) = true := by simpa using hn
      unfold xp_rem at hi
      simp only [List.all_cons, List.all_nil, id, ha, hb, hn', hi, Bool.and_self]) ?_
    exact xi_E.ret (Nat.le_refl _) (Nat.le_refl _) (r := (.ireturn, 0, 0, 0)) rfl rfl rfl ⟨by unfold xp_prod xp_rem; rw [h1, h2]; rfl, rfl⟩
  · refine xi_E.runc (Nat.le_refl _) (Nat.le_refl _) 2 (xb_20_8 c0 c1 c2 n a b P L tl) rfl ?_
    exact xi_E.ret (Nat.le_refl _) (Nat.le_refl _) (r := (.ireturn, 0, 0, 0)) rfl rfl rfl ⟨by unfold xp_prod; rw [h1, h2]; rfl, rfl⟩
end
