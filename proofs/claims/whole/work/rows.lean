section
-- ===== PART A: goes FIRST, ahead of the names: the tables' words, and 'selects' of the private methods out of them =====
/-- a private method of a class that the tables say can be made, by its rows of tables_1 -/
def lw_okq (q : MethodName × Nat) : Prop := (q.1.cls ≠ "java/lang/invoke/MethodHandle" ∧ q.1.cls ≠ "java/lang/invoke/VarHandle") ∧ Cond.instantiable q.1.cls q.2 ∈ tables_1 ∧ Cond.privateMethod q.1 ∈ tables_1 ∧ Cond.instanceMethod q.1 ∈ tables_1
theorem lw_p0 : lw_okq (⟨"java/lang/Throwable", "fillInStackTrace", "(I)Ljava/lang/Throwable;"⟩, 6) := ⟨⟨by decide +kernel, by decide +kernel⟩, List.mem_of_getElem? (i := 248) (by decide +kernel), List.mem_of_getElem? (i := 246) (by decide +kernel), List.mem_of_getElem? (i := 247) (by decide +kernel)⟩
theorem lw_p1 : lw_okq (⟨"HostBridge", "isValue", "(IJ)Z"⟩, 6) := ⟨⟨by decide +kernel, by decide +kernel⟩, List.mem_of_getElem? (i := 19) (by decide +kernel), List.mem_of_getElem? (i := 357) (by decide +kernel), List.mem_of_getElem? (i := 358) (by decide +kernel)⟩
theorem lw_p2 : lw_okq (⟨"HostBridge$Choice", "gatherFrom", "(III)V"⟩, 6) := ⟨⟨by decide +kernel, by decide +kernel⟩, List.mem_of_getElem? (i := 103) (by decide +kernel), List.mem_of_getElem? (i := 436) (by decide +kernel), List.mem_of_getElem? (i := 437) (by decide +kernel)⟩
theorem lw_p3 : lw_okq (⟨"HostBridge$Choice", "isHidden", "(I)Z"⟩, 6) := ⟨⟨by decide +kernel, by decide +kernel⟩, List.mem_of_getElem? (i := 103) (by decide +kernel), List.mem_of_getElem? (i := 447) (by decide +kernel), List.mem_of_getElem? (i := 448) (by decide +kernel)⟩
theorem lw_p4 : lw_okq (⟨"HostBridge$Choice", "lowestWeight", "(II)I"⟩, 6) := ⟨⟨by decide +kernel, by decide +kernel⟩, List.mem_of_getElem? (i := 103) (by decide +kernel), List.mem_of_getElem? (i := 471) (by decide +kernel), List.mem_of_getElem? (i := 472) (by decide +kernel)⟩
theorem lw_p5 : lw_okq (⟨"HostBridge$Choice", "weightIn", "(III)I"⟩, 6) := ⟨⟨by decide +kernel, by decide +kernel⟩, List.mem_of_getElem? (i := 103) (by decide +kernel), List.mem_of_getElem? (i := 475) (by decide +kernel), List.mem_of_getElem? (i := 476) (by decide +kernel)⟩
theorem lw_p6 : lw_okq (⟨"HostBridge$Choice", "isLowest", "(II)Z"⟩, 6) := ⟨⟨by decide +kernel, by decide +kernel⟩, List.mem_of_getElem? (i := 103) (by decide +kernel), List.mem_of_getElem? (i := 484) (by decide +kernel), List.mem_of_getElem? (i := 485) (by decide +kernel)⟩
theorem lw_p7 : lw_okq (⟨"HostBridge", "writeDown", "(II)V"⟩, 6) := ⟨⟨by decide +kernel, by decide +kernel⟩, List.mem_of_getElem? (i := 19) (by decide +kernel), List.mem_of_getElem? (i := 489) (by decide +kernel), List.mem_of_getElem? (i := 490) (by decide +kernel)⟩
theorem lw_p8 : lw_okq (⟨"HostBridgeModel", "throwing", "(ZZZ)Z"⟩, 23) := ⟨⟨by decide +kernel, by decide +kernel⟩, List.mem_of_getElem? (i := 616) (by decide +kernel), List.mem_of_getElem? (i := 704) (by decide +kernel), List.mem_of_getElem? (i := 705) (by decide +kernel)⟩
theorem lw_p9 : lw_okq (⟨"HostBridgeModel", "asks", "(II)Z"⟩, 23) := ⟨⟨by decide +kernel, by decide +kernel⟩, List.mem_of_getElem? (i := 616) (by decide +kernel), List.mem_of_getElem? (i := 712) (by decide +kernel), List.mem_of_getElem? (i := 713) (by decide +kernel)⟩
theorem lw_p10 : lw_okq (⟨"HostBridgeModel", "methodOf", "(III)I"⟩, 23) := ⟨⟨by decide +kernel, by decide +kernel⟩, List.mem_of_getElem? (i := 616) (by decide +kernel), List.mem_of_getElem? (i := 716) (by decide +kernel), List.mem_of_getElem? (i := 717) (by decide +kernel)⟩
theorem lw_p11 : lw_okq (⟨"HostBridgeModel", "weightOf", "(II)I"⟩, 23) := ⟨⟨by decide +kernel, by decide +kernel⟩, List.mem_of_getElem? (i := 616) (by decide +kernel), List.mem_of_getElem? (i := 732) (by decide +kernel), List.mem_of_getElem? (i := 733) (by decide +kernel)⟩
theorem lw_p12 : lw_okq (⟨"HostBridgeModel", "far", "(II)I"⟩, 23) := ⟨⟨by decide +kernel, by decide +kernel⟩, List.mem_of_getElem? (i := 616) (by decide +kernel), List.mem_of_getElem? (i := 758) (by decide +kernel), List.mem_of_getElem? (i := 759) (by decide +kernel)⟩
theorem lw_p13 : lw_okq (⟨"HostBridgeModel", "fits", "(I)Z"⟩, 23) := ⟨⟨by decide +kernel, by decide +kernel⟩, List.mem_of_getElem? (i := 616) (by decide +kernel), List.mem_of_getElem? (i := 762) (by decide +kernel), List.mem_of_getElem? (i := 763) (by decide +kernel)⟩
theorem lw_p14 : lw_okq (⟨"HostBridgeModel", "isHidden", "(II)Z"⟩, 23) := ⟨⟨by decide +kernel, by decide +kernel⟩, List.mem_of_getElem? (i := 616) (by decide +kernel), List.mem_of_getElem? (i := 766) (by decide +kernel), List.mem_of_getElem? (i := 767) (by decide +kernel)⟩
theorem lw_p15 : lw_okq (⟨"HostBridgeModel", "isBest", "(I)Z"⟩, 23) := ⟨⟨by decide +kernel, by decide +kernel⟩, List.mem_of_getElem? (i := 616) (by decide +kernel), List.mem_of_getElem? (i := 770) (by decide +kernel), List.mem_of_getElem? (i := 771) (by decide +kernel)⟩
def lw_privs_1 : List (MethodName × Nat) := [(⟨"java/lang/Throwable", "fillInStackTrace", "(I)Ljava/lang/Throwable;"⟩, 6), (⟨"HostBridge", "isValue", "(IJ)Z"⟩, 6), (⟨"HostBridge$Choice", "gatherFrom", "(III)V"⟩, 6), (⟨"HostBridge$Choice", "isHidden", "(I)Z"⟩, 6), (⟨"HostBridge$Choice", "lowestWeight", "(II)I"⟩, 6), (⟨"HostBridge$Choice", "weightIn", "(III)I"⟩, 6), (⟨"HostBridge$Choice", "isLowest", "(II)Z"⟩, 6), (⟨"HostBridge", "writeDown", "(II)V"⟩, 6), (⟨"HostBridgeModel", "throwing", "(ZZZ)Z"⟩, 23), (⟨"HostBridgeModel", "asks", "(II)Z"⟩, 23), (⟨"HostBridgeModel", "methodOf", "(III)I"⟩, 23), (⟨"HostBridgeModel", "weightOf", "(II)I"⟩, 23), (⟨"HostBridgeModel", "far", "(II)I"⟩, 23), (⟨"HostBridgeModel", "fits", "(I)Z"⟩, 23), (⟨"HostBridgeModel", "isHidden", "(II)Z"⟩, 23), (⟨"HostBridgeModel", "isBest", "(I)Z"⟩, 23)]
theorem lw_r1 : ∀ q ∈ lw_privs_1, lw_okq q := List.forall_mem_cons.mpr ⟨lw_p0, List.forall_mem_cons.mpr ⟨lw_p1, List.forall_mem_cons.mpr ⟨lw_p2, List.forall_mem_cons.mpr ⟨lw_p3, List.forall_mem_cons.mpr ⟨lw_p4, List.forall_mem_cons.mpr ⟨lw_p5, List.forall_mem_cons.mpr ⟨lw_p6, List.forall_mem_cons.mpr ⟨lw_p7, List.forall_mem_cons.mpr ⟨lw_p8, List.forall_mem_cons.mpr ⟨lw_p9, List.forall_mem_cons.mpr ⟨lw_p10, List.forall_mem_cons.mpr ⟨lw_p11, List.forall_mem_cons.mpr ⟨lw_p12, List.forall_mem_cons.mpr ⟨lw_p13, List.forall_mem_cons.mpr ⟨lw_p14, List.forall_mem_cons.mpr ⟨lw_p15, fun _ h => absurd h List.not_mem_nil⟩⟩⟩⟩⟩⟩⟩⟩⟩⟩⟩⟩⟩⟩⟩⟩
theorem lw_p16 : lw_okq (⟨"HostBridgeModel", "make", "(II)I"⟩, 23) := ⟨⟨by decide +kernel, by decide +kernel⟩, List.mem_of_getElem? (i := 616) (by decide +kernel), List.mem_of_getElem? (i := 774) (by decide +kernel), List.mem_of_getElem? (i := 775) (by decide +kernel)⟩
theorem lw_p17 : lw_okq (⟨"HostBridgeModel", "turned", "(II)J"⟩, 23) := ⟨⟨by decide +kernel, by decide +kernel⟩, List.mem_of_getElem? (i := 616) (by decide +kernel), List.mem_of_getElem? (i := 778) (by decide +kernel), List.mem_of_getElem? (i := 779) (by decide +kernel)⟩
theorem lw_p18 : lw_okq (⟨"HostBridgeModel", "isGone", "(I)Z"⟩, 23) := ⟨⟨by decide +kernel, by decide +kernel⟩, List.mem_of_getElem? (i := 616) (by decide +kernel), List.mem_of_getElem? (i := 808) (by decide +kernel), List.mem_of_getElem? (i := 809) (by decide +kernel)⟩
def lw_privs_2 : List (MethodName × Nat) := [(⟨"HostBridgeModel", "make", "(II)I"⟩, 23), (⟨"HostBridgeModel", "turned", "(II)J"⟩, 23), (⟨"HostBridgeModel", "isGone", "(I)Z"⟩, 23)]
theorem lw_r2 : ∀ q ∈ lw_privs_2, lw_okq q := List.forall_mem_cons.mpr ⟨lw_p16, List.forall_mem_cons.mpr ⟨lw_p17, List.forall_mem_cons.mpr ⟨lw_p18, fun _ h => absurd h List.not_mem_nil⟩⟩⟩
def lw_privs : List (MethodName × Nat) := lw_privs_1 ++ (lw_privs_2)
def lw_tbl : List Cond := k2_sels lw_privs ++ tables_1
theorem lw_privs_ok : ∀ q ∈ lw_privs, lw_okq q := by
  show ∀ q ∈ lw_privs_1 ++ (lw_privs_2), lw_okq q
  exact List.forall_mem_append.mpr ⟨lw_r1, lw_r2⟩
end
section
/-! ===== BEGIN words of one list among another's, by their places ===== -/
theorem goodIn_r {big : List Cond} (ws : List Cond) (ps : List Nat) (hp : ws = ps.filterMap (fun i => big[i]?)) (h : ws.all goodWord = true) : GoodIn big ws := by
  intro w hw
  have h1 := List.all_eq_true.mp h w hw
  rw [hp] at hw
  obtain ⟨i, -, hi⟩ := List.mem_filterMap.mp hw
  have hm : w ∈ big := by first | exact List.mem_of_getElem? hi | exact List.getElem?_mem hi
  exact ⟨hm, good_of_word h1⟩
theorem goodIn_app {big a b : List Cond} (ha : GoodIn big a) (hb : GoodIn big b) : GoodIn big (a ++ b) := fun w h => (List.mem_append.mp h).elim (ha w) (hb w)
theorem goodIn_ca {big a b : List Cond} {c : Cond} (ha : GoodIn big (c :: a)) (hb : GoodIn big b) : GoodIn big (c :: (a ++ b)) := fun w h => (List.mem_cons.mp h).elim (fun e => ha w (List.mem_cons.mpr (Or.inl e))) (fun h => (List.mem_append.mp h).elim (fun h => ha w (List.mem_cons.mpr (Or.inr h))) (hb w))
theorem goodIn_sub {big ws : List Cond} (hm : ∀ w ∈ ws, w ∈ big) (h : ws.all goodWord = true) : GoodIn big ws := fun w hw => ⟨hm w hw, good_of_word (List.all_eq_true.mp h w hw)⟩
/-! ===== END ===== -/

/-! ===== BEGIN exceptions that leave a method, and their catching by the caller (launches without stack traces) ===== -/
section VXA
/-! The laws vx_back, vx_callV, vx_callS, vx_callSW, vx_throw0, vx_throwS follow proofs of the library, with one case more: JvmDerived/Free/Laws.lean (Back.of_free), Shelf42/LK1.lean (callV, callS), Shelf/KitTraced.lean (throwNew0V, throwNewS). -/
/-- where a method has thrown q: the class by its name, the cell, what was written, the world -/
def vx_T (XC : String → State → State → Prop) (st : State) (q : Addr) (t : State) (mc ms : Nat) (free : Addr → Prop) : Prop :=
  ∃ (E : String) (ce : Cell) (L : List Loc), XC E st t ∧ t.heap[q]? = some ce ∧ ce.vm = .none ∧ st.vm.findClass E = some ce.cls ∧ st.WarmedH t.vm ∧ st.sameButNew ({ t with vm := st.vm } : State) L mc ms ∧ ∀ z ∈ L, free z.base
def vx_Q (Qc : Array Value → State → Outcome → State → Prop) (XC : String → State → State → Prop) (mc ms : Nat) (free : Addr → Prop) : Array Value → State → Outcome → State → Prop := fun a st o t =>
  (Qc a st o t ∧ ∃ L, FrameEnd st o t L mc ms ∧ ∀ q ∈ L, free q.base) ∨ ∃ q, o = .threw q ∧ vx_T XC st q t mc ms free
/-- a callee that returns or throws -/
def vx_Met (l : Launch) (y : MethodName) (ws : List Cond) (rm : Room) (Pc : Array Value → State → Prop) (Qc : Array Value → State → Outcome → State → Prop) (XC : String → State → State → Prop) (mc ms : Nat) (free : Addr → Prop) : Prop :=
  MetFree l y (headSpec ws rm) Pc (fun _ _ _ _ _ => True) (vx_Q Qc XC mc ms free)
def vx_Post (XC : String → State → State → Prop) (mc ms : Nat) (free : Addr → Prop) : Pt → Array Value → Addr → Pt → Prop := fun A a q B =>
  ∃ (g : JFrame) (mk : MethodId) (t : State) (L : List Loc) (E : String) (ce : Cell), B.U.heap = t.heap ∧ B.U.vm = t.vm ∧ XC E (A.U.calling g mk a) t ∧ t.heap[q]? = some ce ∧ ce.vm = .none ∧ A.U.vm.findClass E = some ce.cls ∧ B.locs = A.locs ++ L ∧ (∀ z ∈ L, free z.base) ∧ B.cells = A.cells + mc ∧ B.slots = A.slots + ms
def vx_Back (l : Launch) (R : Room) (p : Program) (e : Env) (below : List Frame) (s : State) (sargs : Array Value) (y : MethodName) (len W9 : Nat)
    (Pre : Pt → Array Value → Prop) (Post : Pt → Array Value → Option Value → Pt → Prop) (PostX : Pt → Array Value → Addr → Pt → Prop) : Prop :=
  ∀ (m : MethodId) (meth : Method) (c : Code) (A : Pt) (g : JFrame) (ig : Instr) (mk : MethodId) (a : Array Value),
    Stand p l e R s m sargs below meth c A.U A.locs A.cells A.slots → g.method = m → g.locals.size = c.maxLocals → decode c.code g.pc = .ok (ig, len) →
    2 * g.monitorRoom + (g.stack.map fun v => v.category).sum ≤ W9 → A.U.methodNamed? y = some mk → Pre A a →
    (∃ (v : Option Value) (B : Pt), Stand p l e R s m sargs below meth c B.U B.locs B.cells B.slots ∧ Post A a v B ∧
      Steps p.tables e below (doInvoke e (A.U.setTop g) [] mk a).1 (B.U.setTop { g with pc := g.pc + len, stack := v.toList ++ g.stack })) ∨
    (∃ (q : Addr) (B : Pt), Stand p l e R s m sargs below meth c B.U B.locs B.cells B.slots ∧ PostX A a q B ∧
      Steps p.tables e below (doInvoke e (A.U.setTop g) [] mk a).1 ((B.U.setTop g).pushFrame (.throwing q)))
section Payer
variable {l : Launch} {R : Room} {p : Program} {e : Env} {below : List Frame} {s : State} {sargs : Array Value} {y : MethodName} {len W9 : Nat}
theorem vx_back {ws : List Cond} {rm : Room} {Pc : Array Value → State → Prop} {Qc : Array Value → State → Outcome → State → Prop} {XC : String → State → State → Prop} {mc ms : Nat} {free : Addr → Prop} {bytes : ByteArray} {maxL : Nat} {ret : Option FieldType}
    (hM : vx_Met l y ws rm Pc Qc XC mc ms free) (hblind : FrameBlind Pc) (hrc : rm.cells = mc) (hrs : rm.slots = ms)
    (hframes : rm.frames + 1 ≤ R.frames) (hlocals : W9 + (maxL + 11) + rm.locals ≤ R.locals)
    (hws : ∀ w ∈ ws, ∀ a' U, s.WarmedH U.vm → w.before a' U = true) (hcode : Cond.code y bytes maxL ret ∈ ws) (hinit : ∀ a' U, s.WarmedH U.vm → (Cond.initialized y.cls).before a' U = true) :
    vx_Back l R p e below s sargs y len W9 (PreOf R mc ms Pc) (PostOf Qc mc ms free) (vx_Post XC mc ms free) := by
  intro m meth c A g ig mk a X hg hsize hdg hW hn hp
  have h1 : (headSpec ws rm).pre.before a A.U = true := atoms_intro fun w hw => hws w hw _ _ X.warmed
  have h2 : (Cond.code y bytes maxL ret).before a A.U = true := hws _ hcode _ _ X.warmed
  have h3 : (Cond.initialized y.cls).before a A.U = true := hinit _ _ X.warmed
  have h4 : A.cells + (headSpec ws rm).room.cells ≤ R.cells := by rw [show (headSpec ws rm).room.cells = mc from hrc]; exact hp.1
  have h5 : A.slots + (headSpec ws rm).room.slots ≤ R.slots := by rw [show (headSpec ws rm).room.slots = ms from hrs]; exact hp.2.1
  have hPc : Pc a (A.U.calling g mk a) := hblind _ _ _ _ hp.2.2
  obtain ⟨U, Ls, c0, s0⟩ := A
  dsimp only [Pt.U, Pt.locs, Pt.cells, Pt.slots] at h1 h2 h3 h4 h5 X hn hPc ⊢
  obtain ⟨methY, cY, hmY, hcY, -, hlY, -, -, -, -⟩ := Cond.code_spec hn h2
  obtain ⟨kY, hkY, -⟩ := className_of_methodNamed hn
  have hinitY : kY.init = .initialized := Cond.initialized_spec (findClass_of_methodNamed hn) hkY h3
  have h : At U g.method c below := by rw [hg]; exact X.here
  have hlocals9 : W9 + (maxL + 11) + (headSpec ws rm).room.locals ≤ R.locals := hlocals
  have happ : (headSpec ws rm).appliesLoose y e.platform (U.calling g mk a) = true :=
    Spec.appliesLoose_calling (g := g) h hdg hn hkY hinitY
      (X.room_calling (g := g) (R' := (headSpec ws rm).room) hsize hmY hcY hframes (by rw [hlY]; omega) h4 h5) h1
  obtain ⟨mid, hmid⟩ := h.above
  have hfr : (U.setTop g).frames = (.java g :: mid) ++ below := by rw [State.frames_setTop' g h.top, hmid]; rfl
  obtain ⟨o, s₂, hsteps, -, hend, hq⟩ := Steps.callFree hM p X.admits X.cas X.clock (acts := []) hfr happ hPc trivial
  have hq' : vx_Q Qc XC mc ms free a (U.calling g mk a) o s₂ := hq
  rw [State.frames_setTop' g h.top] at hend
  obtain ⟨g₀, hg0⟩ := Option.isSome_iff_exists.mp h.top
  obtain ⟨r, hr⟩ := State.topJava?_eq_some.mp hg0
  have hr' : (({ U with heap := s₂.heap, slotsUsed := s₂.slotsUsed } : State).setVm s₂.vm).frames = .java g₀ :: r := hr
  rcases hq' with ⟨hqc, L, hfe, hL⟩ | ⟨q, rfl, E, ce, L, hx, hce, hcv, hcl, hW₂, hsm, hL⟩
  · obtain ⟨⟨v, rfl⟩, hW₂, e2, q2, q3, q4, q5, q6⟩ := id hfe
    have e3 : s₂ = ({ (U.calling g mk a).setFrames s₂.frames with heap := s₂.heap, slotsUsed := s₂.slotsUsed } : State).setVm s₂.vm := by
      have : s₂ = ({ s₂ with vm := (U.calling g mk a).vm } : State).setVm s₂.vm := rfl
      rw [e2] at this
      exact this
    obtain ⟨c₂, i₂, len₂, hc₂, hd₂, hf₂⟩ := hend
    have hW' : U.WarmedH s₂.vm := hW₂
    have hcc : c₂ = c := by
      have h1 : s₂.code? g.method = U.code? g.method := by
        rw [State.code?_eq, State.code?_eq, hW'.alike.method?]
      exact Option.some.inj (hc₂.symm.trans (h1.trans h.code))
    subst hcc
    have hlen : len₂ = len := by rw [hdg] at hd₂; cases hd₂; rfl
    subst hlen
    have hs₂ : s₂ = (({ U with heap := s₂.heap, slotsUsed := s₂.slotsUsed } : State).setVm s₂.vm).setTop { g with pc := g.pc + len₂, stack := v.toList ++ g.stack } := by
      refine e3.trans ?_
      rw [hf₂, State.calling_eq h.top, State.setFrames_setFrames, State.setTop_of_frames _ hr', hr]
      rfl
    have hsame : U.sameButNew ({ U with heap := s₂.heap, slotsUsed := s₂.slotsUsed } : State) L mc ms := by
      refine ⟨?_, q2, q3, q4, q5, q6⟩
      obtain ⟨t, ht, -⟩ := State.frames_cons hr
      show ({ U with heap := s₂.heap, slotsUsed := s₂.slotsUsed } : State) = { U.setFrames U.frames with heap := s₂.heap, slotsUsed := s₂.slotsUsed }
      rw [State.setFrames_self ht]
    subst hg
    refine Or.inl ⟨v, ⟨(({ U with heap := s₂.heap, slotsUsed := s₂.slotsUsed } : State).setVm s₂.vm), Ls ++ L, c0 + mc, s0 + ms⟩,
      ⟨X.admits, X.cas, X.clock, X.frames, X.room, X.hears, X.method, X.code, (X.here.setHeapUsed s₂.heap s₂.slotsUsed).setVm hW'.alike, X.tail, State.WarmedH.trans X.warmed hW', X.limits, X.bytes, X.same.trans (hsame.setVm s.vm)⟩,
      ⟨g, mk, s₂, L, rfl, rfl, hqc, rfl, hL, rfl, rfl⟩, ?_⟩
    show Steps p.tables e below _ ((({ U with heap := s₂.heap, slotsUsed := s₂.slotsUsed } : State).setVm s₂.vm).setTop { g with pc := g.pc + len₂, stack := v.toList ++ g.stack })
    rw [← hs₂]
    exact hsteps
  · obtain ⟨e2, q2, q3, q4, q5, q6⟩ := id hsm
    have e3 : s₂ = ({ (U.calling g mk a).setFrames s₂.frames with heap := s₂.heap, slotsUsed := s₂.slotsUsed } : State).setVm s₂.vm := by
      have : s₂ = ({ s₂ with vm := (U.calling g mk a).vm } : State).setVm s₂.vm := rfl
      rw [e2] at this
      exact this
    have hf₂ : s₂.frames = .throwing q :: .java g :: U.frames.tail := hend
    have hW' : U.WarmedH s₂.vm := hW₂
    have hs₂ : s₂ = ((({ U with heap := s₂.heap, slotsUsed := s₂.slotsUsed } : State).setVm s₂.vm).setTop g).pushFrame (.throwing q) := by
      refine e3.trans ?_
      rw [hf₂, State.calling_eq h.top, State.setFrames_setFrames, State.pushFrame, State.frames_setTop _ hr', State.setTop_of_frames _ hr', State.setFrames_setFrames, hr]
      rfl
    have hsame : U.sameButNew ({ U with heap := s₂.heap, slotsUsed := s₂.slotsUsed } : State) L mc ms := by
      refine ⟨?_, q2, q3, q4, q5, q6⟩
      obtain ⟨t, ht, -⟩ := State.frames_cons hr
      show ({ U with heap := s₂.heap, slotsUsed := s₂.slotsUsed } : State) = { U.setFrames U.frames with heap := s₂.heap, slotsUsed := s₂.slotsUsed }
      rw [State.setFrames_self ht]
    subst hg
    refine Or.inr ⟨q, ⟨(({ U with heap := s₂.heap, slotsUsed := s₂.slotsUsed } : State).setVm s₂.vm), Ls ++ L, c0 + mc, s0 + ms⟩,
      ⟨X.admits, X.cas, X.clock, X.frames, X.room, X.hears, X.method, X.code, (X.here.setHeapUsed s₂.heap s₂.slotsUsed).setVm hW'.alike, X.tail, State.WarmedH.trans X.warmed hW', X.limits, X.bytes, X.same.trans (hsame.setVm s.vm)⟩,
      ⟨g, mk, s₂, L, E, ce, rfl, rfl, hx, hce, hcv, hcl, rfl, hL, rfl, rfl⟩, ?_⟩
    show Steps p.tables e below _ (((({ U with heap := s₂.heap, slotsUsed := s₂.slotsUsed } : State).setVm s₂.vm).setTop g).pushFrame (.throwing q))
    rw [← hs₂]
    exact hsteps
end Payer
section Calls
variable {p : Program} {l : Launch} {e : Env} {R : Room} {s : State} {m : MethodId} {args : Array Value} {below : List Frame} {meth : Method} {c : Code} {T : State} {locs : List Loc} {cells slots : Nat}
theorem vx_callV (X : Stand p l e R s m args below meth c T locs cells slots) (hexec : p.tables.exec = Jvm.exec) {own C : String} {index : Nat} {y : MethodName} {bytes : ByteArray} {maxL : Nat} {ret : Option FieldType}
    (hown : s.vm.findClass own = some m.cls) (hlink : (Cond.methodLink own index y).before args s = true) (hinst : (Cond.instanceMethod y).before args s = true) (hsel : (Cond.selects C y y).before args s = true)
    (hcode : (Cond.code y bytes maxL ret).before args s = true) (hy : y.cls ≠ "java/lang/invoke/MethodHandle" ∧ y.cls ≠ "java/lang/invoke/VarHandle")
    {W9 : Nat} {Pre : Pt → Array Value → Prop} {Post : Pt → Array Value → Option Value → Pt → Prop} {PostX : Pt → Array Value → Addr → Pt → Prop} (hK : vx_Back l R p e below s args y 3 W9 Pre Post PostX)
    {b : Addr} {cellB : Cell} (hcell : T.heap[b]? = some cellB) (hobj : cellB.vm.isStatics = false) (hcls : s.vm.findClass C = some cellB.cls)
    {g : JFrame} (hg : g.method = m) (hsize : g.locals.size = c.maxLocals) {argsL rest : List Value} (hlen : ∀ sig, parseMethodDescriptor y.desc = some sig → argsL.length = sig.parameters.length)
    (hstack : g.stack = argsL.reverse ++ .ref b :: rest) (hW : 2 * g.monitorRoom + (rest.map fun v => v.category).sum ≤ W9) (hdg : decode c.code g.pc = .ok (.invokevirtual index, 3))
    (hpre : ∀ vm₁, s.WarmedH vm₁ → Pre ⟨T.setVm vm₁, locs, cells, slots⟩ (Value.ref b :: argsL).toArray) :
    (∃ (v : Option Value) (vm₁ : Vm) (B : Pt), s.WarmedH vm₁ ∧ Stand p l e R s m args below meth c B.U B.locs B.cells B.slots ∧ Post ⟨T.setVm vm₁, locs, cells, slots⟩ (Value.ref b :: argsL).toArray v B ∧
      ∀ target, Steps p.tables e below (B.U.setTop { g with pc := g.pc + 3, stack := v.toList ++ rest }) target → Steps p.tables e below (T.setTop g) target) ∨
    (∃ (q : Addr) (vm₁ : Vm) (B : Pt), s.WarmedH vm₁ ∧ Stand p l e R s m args below meth c B.U B.locs B.cells B.slots ∧ PostX ⟨T.setVm vm₁, locs, cells, slots⟩ (Value.ref b :: argsL).toArray q B ∧
      Steps p.tables e below (T.setTop g) ((B.U.setTop { g with stack := rest }).pushFrame (.throwing q))) := by
  obtain ⟨mk, methM, hnamed, hmethM, hstM, habM⟩ := Cond.instanceMethod_spec hinst
  obtain ⟨methM', cM, hmethM', -, -, -, -, -, -, hsigM⟩ := Cond.code_spec hnamed hcode
  cases hmethM.symm.trans hmethM'
  obtain ⟨c2, r2, m2, q1, q2, q3, q4, kP, hkP, hkPi⟩ := Cond.selects_spec hsel
  cases hcls.symm.trans q1
  cases (State.methodFound?_of_named hnamed hy).symm.trans q2
  cases hnamed.symm.trans q3
  have hselP : selectMethod e.platform s.vm cellB.cls mk = .method mk := by rw [Launch.admits_selectMethod X.admits]; exact q4
  obtain ⟨vm₁, X₁, hstep₁⟩ := X.invokevirtual hexec hown hlink hnamed hmethM hstM hkP hkPi hy (a := b) (cell := cellB) hcell
    (fun z h => by rw [h] at hobj; cases hobj) hselP hmethM habM hkP hkPi (g := g) hg (argsL := argsL) (rest := rest) (hlen _ hsigM) hstack hdg
  rcases hK m meth c ⟨T.setVm vm₁, locs, cells, slots⟩ { g with stack := rest } (.invokevirtual index) mk (Value.ref b :: argsL).toArray X₁ hg hsize hdg hW (X₁.named hnamed) (hpre vm₁ X₁.warmed) with ⟨v, B, X', hpost, hsteps⟩ | ⟨q, B, X', hpost, hsteps⟩
  · exact Or.inl ⟨v, vm₁, B, X₁.warmed, X', hpost, fun target h => hstep₁ _ fun acts => by rw [doInvoke_state]; exact hsteps.trans h⟩
  · exact Or.inr ⟨q, vm₁, B, X₁.warmed, X', hpost, hstep₁ _ fun acts => by rw [doInvoke_state]; exact hsteps⟩
theorem vx_callS (X : Stand p l e R s m args below meth c T locs cells slots) (hexec : p.tables.exec = Jvm.exec) {own : String} {index : Nat} {y : MethodName} {bytes : ByteArray} {maxL : Nat} {ret : Option FieldType}
    (hown : s.vm.findClass own = some m.cls) (hlink : (Cond.methodLink own index y).before args s = true) (hstat : (Cond.static y).before args s = true) (hinit : (Cond.initialized y.cls).before args s = true)
    (hcode : (Cond.code y bytes maxL ret).before args s = true) (hy : y.cls ≠ "java/lang/invoke/MethodHandle" ∧ y.cls ≠ "java/lang/invoke/VarHandle")
    {W9 : Nat} {Pre : Pt → Array Value → Prop} {Post : Pt → Array Value → Option Value → Pt → Prop} {PostX : Pt → Array Value → Addr → Pt → Prop} (hK : vx_Back l R p e below s args y 3 W9 Pre Post PostX)
    {g : JFrame} (hg : g.method = m) (hsize : g.locals.size = c.maxLocals) {argsL rest : List Value} (hlen : ∀ sig, parseMethodDescriptor y.desc = some sig → argsL.length = sig.parameters.length)
    (hstack : g.stack = argsL.reverse ++ rest) (hW : 2 * g.monitorRoom + (rest.map fun v => v.category).sum ≤ W9) (hdg : decode c.code g.pc = .ok (.invokestatic index, 3))
    (hpre : ∀ vm₁, s.WarmedH vm₁ → Pre ⟨T.setVm vm₁, locs, cells, slots⟩ argsL.toArray) :
    (∃ (v : Option Value) (vm₁ : Vm) (B : Pt), s.WarmedH vm₁ ∧ Stand p l e R s m args below meth c B.U B.locs B.cells B.slots ∧ Post ⟨T.setVm vm₁, locs, cells, slots⟩ argsL.toArray v B ∧
      ∀ target, Steps p.tables e below (B.U.setTop { g with pc := g.pc + 3, stack := v.toList ++ rest }) target → Steps p.tables e below (T.setTop g) target) ∨
    (∃ (q : Addr) (vm₁ : Vm) (B : Pt), s.WarmedH vm₁ ∧ Stand p l e R s m args below meth c B.U B.locs B.cells B.slots ∧ PostX ⟨T.setVm vm₁, locs, cells, slots⟩ argsL.toArray q B ∧
      Steps p.tables e below (T.setTop g) ((B.U.setTop { g with stack := rest }).pushFrame (.throwing q))) := by
  obtain ⟨mk, hnamed⟩ := Cond.code_named hcode
  obtain ⟨methM, cM, hmethM, -, -, -, -, -, -, hsigM⟩ := Cond.code_spec hnamed hcode
  have hstatic : methM.isStatic = true := Cond.static_spec hnamed hmethM hstat
  obtain ⟨kP, hkP, -⟩ := className_of_methodNamed hnamed
  have hinitP : kP.init = .initialized := Cond.initialized_spec (findClass_of_methodNamed hnamed) hkP hinit
  obtain ⟨vm₁, X₁, hstep₁⟩ := X.invokestatic hexec hown hlink hnamed hmethM hstatic hkP hinitP hy (g := g) hg (argsL := argsL) (rest := rest) (hlen _ hsigM) hstack hdg
  rcases hK m meth c ⟨T.setVm vm₁, locs, cells, slots⟩ { g with stack := rest } (.invokestatic index) mk argsL.toArray X₁ hg hsize hdg hW (X₁.named hnamed) (hpre vm₁ X₁.warmed) with ⟨v, B, X', hpost, hsteps⟩ | ⟨q, B, X', hpost, hsteps⟩
  · exact Or.inl ⟨v, vm₁, B, X₁.warmed, X', hpost, fun target h => hstep₁ _ fun acts => by rw [doInvoke_state]; exact hsteps.trans h⟩
  · exact Or.inr ⟨q, vm₁, B, X₁.warmed, X', hpost, hstep₁ _ fun acts => by rw [doInvoke_state]; exact hsteps⟩
end Calls
theorem vx_cls {s : State} {T : State} {vm₁ : Vm} {E : String} {k : ClassId} (hW : s.WarmedH vm₁) (h : (T.setVm vm₁).vm.findClass E = some k) : s.vm.findClass E = some k := by
  have h1 : vm₁.findClass E = some k := h
  rw [hW.alike.findClass] at h1
  exact h1
/-- the method's frame g, with q thrown over it -/
def vx_W (p : Program) (l : Launch) (e : Env) (R : Room) (s : State) (m : MethodId) (args : Array Value) (below : List Frame) (meth : Method) (c : Code) (H : Heap) (locs : List Loc) (cells slots : Nat) (Q : State → Prop) (g : JFrame) (q : Addr) : Prop :=
  ∀ T : State, T.heap = H → Stand p l e R s m args below meth c T locs cells slots → ∃ t, Steps p.tables e below ((T.setTop g).pushFrame (.throwing q)) t ∧ Q t
def vx_Run (p : Program) (l : Launch) (e : Env) (R : Room) (s : State) (m : MethodId) (args : Array Value) (below : List Frame) (meth : Method) (c : Code) (H : Heap) (locs : List Loc) (cells slots mc ms : Nat) (g : JFrame) (rest : List Value) (Qa : State → Outcome → State → Prop) (XC : String → State → State → Prop) (free : Addr → Prop) : Prop :=
  ∀ T : State, T.heap = H → Stand p l e R s m args below meth c T locs cells slots →
    (∃ (v : Option Value) (st₀ t T' : State) (L : List Loc), st₀.heap = H ∧ Stand p l e R s m args below meth c T' (locs ++ L) (cells + mc) (slots + ms) ∧ (∀ q ∈ L, free q.base) ∧ T'.heap = t.heap ∧ T'.vm = t.vm ∧ Qa st₀ (.returned v) t ∧
      Goes p e below T g T' { g with pc := g.pc + 3, stack := v.toList ++ rest }) ∨
    (∃ (q : Addr) (st₀ t T' : State) (L : List Loc) (E : String) (ce : Cell), st₀.heap = H ∧ Stand p l e R s m args below meth c T' (locs ++ L) (cells + mc) (slots + ms) ∧ (∀ z ∈ L, free z.base) ∧ T'.heap = t.heap ∧ T'.vm = t.vm ∧ XC E st₀ t ∧ t.heap[q]? = some ce ∧ ce.vm = .none ∧ s.vm.findClass E = some ce.cls ∧
      Steps p.tables e below (T.setTop g) ((T'.setTop { g with stack := rest }).pushFrame (.throwing q)))
def vx_X {S : Type} (px : S → Prop) (B : String → S → State → Prop) (A : Nat → Prop) : String → State → State → Prop := fun E st t => ∃ u : S, px u ∧ B E u t ∧ va_F A st t
section Runs
variable {p : Program} {l : Launch} {e : Env} {R : Room} {s : State} {m : MethodId} {args : Array Value} {below : List Frame} {meth : Method} {c : Code} {H : Heap} {locs : List Loc} {cells slots : Nat}
variable {y : MethodName} {bytes cc : ByteArray} {maxL nL mc ms n index : Nat} {ret : Option FieldType} {ws : List Cond} {rm : Room} {Pc : Array Value → State → Prop} {Qc : Array Value → State → Outcome → State → Prop} {XC : String → State → State → Prop} {free : Addr → Prop} {Ts : List Cond} {own C : String} {b : Addr} {As rest : List Value} {g : JFrame}
theorem vx_callBack (cb : CallB R s args own index y bytes maxL ret ws rm mc ms n) (hM : vx_Met l y ws rm Pc Qc XC mc ms free) (hbl : FrameBlind Pc) : vx_Back l R p e below s args y 3 8 (PreOf R mc ms Pc) (PostOf Qc mc ms free) (vx_Post XC mc ms free) := by
  obtain ⟨hrc, hrs, hfr, hlo, hws, hcw, -, hini, -⟩ := cb
  exact vx_back (bytes := bytes) (maxL := maxL) (ret := ret) hM hbl hrc hrs hfr hlo hws hcw (fun a' U hW => word_at hW (Or.inl (by first | rfl | simp [Cond.onTables, Cond.keeps, Cond.steady])) hini)
theorem vx_runV (S : CallFix p m c cc nL s args Ts own) (hM : vx_Met l y ws rm Pc Qc XC mc ms free) (cw : CallW R s args own C index y bytes maxL ret ws rm mc ms n) (hp : PreV s H C b Pc As)
    (hg : g.method = m) (hn : As.length = n) (hsize : g.locals.size = nL) (hstack : g.stack = As.reverse ++ .ref b :: rest) (hW : 2 * g.monitorRoom + (rest.map fun v => v.category).sum ≤ 8) (hdg : decode cc g.pc = .ok (.invokevirtual index, 3)) (hf : cells + mc ≤ R.cells ∧ slots + ms ≤ R.slots) :
    vx_Run p l e R s m args below meth c H locs cells slots mc ms g rest (Qc (Value.ref b :: As).toArray) XC free := by
  have hK : vx_Back l R p e below s args y 3 8 (PreOf R mc ms Pc) (PostOf Qc mc ms free) (vx_Post XC mc ms free) := vx_callBack cw.1 hM hp.1
  obtain ⟨⟨-, -, -, -, -, -, hcode, -, hy, hlen, hl⟩, hin, hse⟩ := cw
  obtain ⟨hx, hb, hml, ho, -⟩ := S
  obtain ⟨-, ⟨cellB, hcB, hoB, hclB⟩, hPc⟩ := hp
  intro T hT X
  rcases vx_callV X hx (C := C) (bytes := bytes) (maxL := maxL) (ret := ret) ho hl hin hse hcode hy hK (by rw [hT]; exact hcB) hoB hclB hg (hsize.trans hml.symm) (argsL := As) (rest := rest) (fun sig h => hn.trans (hlen sig h)) hstack hW (by rw [hb]; exact hdg)
    (fun vm₁ hW₁ => ⟨hf.1, hf.2, hPc (T.setVm vm₁) hT hW₁⟩) with ⟨v, vm₁, ⟨U', l2, c2, s2⟩, hW₁, X', ⟨g', mk, t, L, e1, e2, hq, h1, hL, h2, h3⟩, st⟩ | ⟨q, vm₁, ⟨U', l2, c2, s2⟩, hW₁, X', ⟨g', mk, t, L, E, ce, e1, e2, hq, hce, hcv, hcl, h1, hL, h2, h3⟩, st⟩
  · dsimp only [Pt.U, Pt.locs, Pt.cells, Pt.slots] at X' e1 e2 h1 h2 h3 st
    subst h1; subst h2; subst h3
    exact Or.inl ⟨v, (T.setVm vm₁).calling g' mk (Value.ref b :: As).toArray, t, U', L, hT, X', hL, e1, e2, hq, st⟩
  · dsimp only [Pt.U, Pt.locs, Pt.cells, Pt.slots] at X' e1 e2 h1 h2 h3 st hcl
    subst h1; subst h2; subst h3
    exact Or.inr ⟨q, (T.setVm vm₁).calling g' mk (Value.ref b :: As).toArray, t, U', L, E, ce, hT, X', hL, e1, e2, hq, hce, hcv, vx_cls hW₁ hcl, st⟩
theorem vx_runS (S : CallFix p m c cc nL s args Ts own) (hM : vx_Met l y ws rm Pc Qc XC mc ms free) (cw : CallB R s args own index y bytes maxL ret ws rm mc ms n ∧ (Cond.static y).before args s = true) (hp : PreS s H Pc As)
    (hg : g.method = m) (hn : As.length = n) (hsize : g.locals.size = nL) (hstack : g.stack = As.reverse ++ rest) (hW : 2 * g.monitorRoom + (rest.map fun v => v.category).sum ≤ 8) (hdg : decode cc g.pc = .ok (.invokestatic index, 3)) (hf : cells + mc ≤ R.cells ∧ slots + ms ≤ R.slots) :
    vx_Run p l e R s m args below meth c H locs cells slots mc ms g rest (Qc As.toArray) XC free := by
  have hK : vx_Back l R p e below s args y 3 8 (PreOf R mc ms Pc) (PostOf Qc mc ms free) (vx_Post XC mc ms free) := vx_callBack cw.1 hM hp.1
  obtain ⟨⟨-, -, -, -, -, -, hcode, hini, hy, hlen, hl⟩, hstt⟩ := cw
  obtain ⟨hx, hb, hml, ho, -⟩ := S
  intro T hT X
  rcases vx_callS X hx (bytes := bytes) (maxL := maxL) (ret := ret) ho hl hstt hini hcode hy hK hg (hsize.trans hml.symm) (argsL := As) (rest := rest) (fun sig h => hn.trans (hlen sig h)) hstack hW (by rw [hb]; exact hdg)
    (fun vm₁ hW₁ => ⟨hf.1, hf.2, hp.2 (T.setVm vm₁) hT hW₁⟩) with ⟨v, vm₁, ⟨U', l2, c2, s2⟩, hW₁, X', ⟨g', mk, t, L, e1, e2, hq, h1, hL, h2, h3⟩, st⟩ | ⟨q, vm₁, ⟨U', l2, c2, s2⟩, hW₁, X', ⟨g', mk, t, L, E, ce, e1, e2, hq, hce, hcv, hcl, h1, hL, h2, h3⟩, st⟩
  · dsimp only [Pt.U, Pt.locs, Pt.cells, Pt.slots] at X' e1 e2 h1 h2 h3 st
    subst h1; subst h2; subst h3
    exact Or.inl ⟨v, (T.setVm vm₁).calling g' mk As.toArray, t, U', L, hT, X', hL, e1, e2, hq, st⟩
  · dsimp only [Pt.U, Pt.locs, Pt.cells, Pt.slots] at X' e1 e2 h1 h2 h3 st hcl
    subst h1; subst h2; subst h3
    exact Or.inr ⟨q, (T.setVm vm₁).calling g' mk As.toArray, t, U', L, E, ce, hT, X', hL, e1, e2, hq, hce, hcv, vx_cls hW₁ hcl, st⟩
end Runs
section Rows
variable {p : Program} {l : Launch} {e : Env} {R : Room} {s : State} {m : MethodId} {args : Array Value} {below : List Frame} {meth : Method} {c : Code} {H : Heap} {locs : List Loc} {cells slots : Nat} {Q : State → Prop}
variable {mc ms : Nat} {free : Addr → Prop} {A0 A1 : Nat → Prop} {H0 : Heap} {a : Array Value} {pc : Nat} {ls : Array Slot} {st0 rest : List Value}
theorem vx_keep {st₀ t T' : State} {L : List Loc} (h0 : st₀.heap = H) (e1 : T'.heap = t.heap) (hS : va_S A0 H0 H locs) (hA : ∀ q, q < H.size → A1 q → A0 q) (hf : ∀ q, free q → A0 q) (hL : ∀ q ∈ L, free q.base) (hF : va_F A1 st₀ t) :
    H.size ≤ T'.heap.size ∧ (∀ q : Nat, q < H.size → ¬ A1 q → T'.heap[q]? = H[q]?) ∧ va_S A0 H0 T'.heap (locs ++ L) := by
  obtain ⟨hz, hk⟩ := hF
  rw [h0] at hz hk
  exact ⟨by rw [e1]; exact hz, fun q h1 h2 => by rw [e1]; exact hk q h1 h2,
    ⟨Nat.le_trans hS.1 (by rw [e1]; exact hz), fun q h1 h2 => by rw [e1, hk q (Nat.lt_of_lt_of_le h1 hS.1) (fun z => h2 (hA q (Nat.lt_of_lt_of_le h1 hS.1) z))]; exact hS.2.1 q h1 h2, fun q hq => by
      rcases List.mem_append.mp hq with h | h
      · exact hS.2.2 q h
      · exact hf _ (hL q h)⟩⟩
theorem vx_calli {S SX : Type} {post : Int32 → S → Prop} {px : SX → Prop} {B : S → State → Prop} {BX : String → SX → State → Prop} {AX : Nat → Prop} (hr : vx_Run p l e R s m args below meth c H locs cells slots mc ms (F0 m pc ls st0) rest (va_Qi post B A1 a) (vx_X px BX AX) free) (hS : va_S A0 H0 H locs) (hA : ∀ q, q < H.size → A1 q → A0 q) (hf : ∀ q, free q → A0 q) (hAX : ∀ q, q < H.size → AX q → A0 q)
    (kx : ∀ (E : String) (ce : Cell) (q9 : Addr) (u : SX) (t : State) (H1 : Heap) (locs1 : List Loc), t.heap = H1 → s.vm.Alike t.vm → px u → BX E u t → H.size ≤ H1.size → (∀ q : Nat, q < H.size → ¬ AX q → H1[q]? = H[q]?) → va_S A0 H0 H1 locs1 → H1[q9]? = some ce → ce.vm = .none → s.vm.findClass E = some ce.cls → vx_W p l e R s m args below meth c H1 locs1 (cells + mc) (slots + ms) Q (F0 m pc ls rest) q9)
    (kk : ∀ (r : Int32) (u : S) (t : State) (H1 : Heap) (locs1 : List Loc), t.heap = H1 → s.vm.Alike t.vm → post r u → B u t → H.size ≤ H1.size → (∀ q : Nat, q < H.size → ¬ A1 q → H1[q]? = H[q]?) → va_S A0 H0 H1 locs1 → W p l e R s m args below meth c H1 locs1 (cells + mc) (slots + ms) Q (F0 m (pc + 3) ls (.int r :: rest))) : W p l e R s m args below meth c H locs cells slots Q (F0 m pc ls st0) := by
  intro T hT X
  rcases hr T hT X with ⟨v, st₀, t, T', L, h0, X', hL, e1, e2, ⟨⟨r, u, hv, hp, hb⟩, hF⟩, st⟩ | ⟨q, st₀, t, T', L, E, ce, h0, X', hL, e1, e2, ⟨u, hp, hb, hF⟩, hce, hcv, hcl, st⟩
  · cases hv
    obtain ⟨k1, k2, k3⟩ := vx_keep h0 e1 hS hA hf hL hF
    obtain ⟨t2, a1, b1⟩ := kk r u t T'.heap (locs ++ L) e1.symm (by rw [← e2]; exact X'.warmed.alike) hp hb k1 k2 k3 T' rfl X'
    exact ⟨t2, st t2 a1, b1⟩
  · obtain ⟨k1, k2, k3⟩ := vx_keep h0 e1 hS hAX hf hL hF
    obtain ⟨t2, a1, b1⟩ := kx E ce q u t T'.heap (locs ++ L) e1.symm (by rw [← e2]; exact X'.warmed.alike) hp hb k1 k2 k3 (by rw [e1]; exact hce) hcv hcl T' rfl X'
    exact ⟨t2, st.trans a1, b1⟩
theorem vx_calll {S SX : Type} {post : Int64 → S → Prop} {px : SX → Prop} {B : S → State → Prop} {BX : String → SX → State → Prop} {AX : Nat → Prop} (hr : vx_Run p l e R s m args below meth c H locs cells slots mc ms (F0 m pc ls st0) rest (va_Ql post B A1 a) (vx_X px BX AX) free) (hS : va_S A0 H0 H locs) (hA : ∀ q, q < H.size → A1 q → A0 q) (hf : ∀ q, free q → A0 q) (hAX : ∀ q, q < H.size → AX q → A0 q)
    (kx : ∀ (E : String) (ce : Cell) (q9 : Addr) (u : SX) (t : State) (H1 : Heap) (locs1 : List Loc), t.heap = H1 → s.vm.Alike t.vm → px u → BX E u t → H.size ≤ H1.size → (∀ q : Nat, q < H.size → ¬ AX q → H1[q]? = H[q]?) → va_S A0 H0 H1 locs1 → H1[q9]? = some ce → ce.vm = .none → s.vm.findClass E = some ce.cls → vx_W p l e R s m args below meth c H1 locs1 (cells + mc) (slots + ms) Q (F0 m pc ls rest) q9)
    (kk : ∀ (r : Int64) (u : S) (t : State) (H1 : Heap) (locs1 : List Loc), t.heap = H1 → s.vm.Alike t.vm → post r u → B u t → H.size ≤ H1.size → (∀ q : Nat, q < H.size → ¬ A1 q → H1[q]? = H[q]?) → va_S A0 H0 H1 locs1 → W p l e R s m args below meth c H1 locs1 (cells + mc) (slots + ms) Q (F0 m (pc + 3) ls (.long r :: rest))) : W p l e R s m args below meth c H locs cells slots Q (F0 m pc ls st0) := by
  intro T hT X
  rcases hr T hT X with ⟨v, st₀, t, T', L, h0, X', hL, e1, e2, ⟨⟨r, u, hv, hp, hb⟩, hF⟩, st⟩ | ⟨q, st₀, t, T', L, E, ce, h0, X', hL, e1, e2, ⟨u, hp, hb, hF⟩, hce, hcv, hcl, st⟩
  · cases hv
    obtain ⟨k1, k2, k3⟩ := vx_keep h0 e1 hS hA hf hL hF
    obtain ⟨t2, a1, b1⟩ := kk r u t T'.heap (locs ++ L) e1.symm (by rw [← e2]; exact X'.warmed.alike) hp hb k1 k2 k3 T' rfl X'
    exact ⟨t2, st t2 a1, b1⟩
  · obtain ⟨k1, k2, k3⟩ := vx_keep h0 e1 hS hAX hf hL hF
    obtain ⟨t2, a1, b1⟩ := kx E ce q u t T'.heap (locs ++ L) e1.symm (by rw [← e2]; exact X'.warmed.alike) hp hb k1 k2 k3 (by rw [e1]; exact hce) hcv hcl T' rfl X'
    exact ⟨t2, st.trans a1, b1⟩
theorem vx_callf {S SX : Type} {post : UInt32 → S → Prop} {px : SX → Prop} {B : S → State → Prop} {BX : String → SX → State → Prop} {AX : Nat → Prop} (hr : vx_Run p l e R s m args below meth c H locs cells slots mc ms (F0 m pc ls st0) rest (va_Qf post B A1 a) (vx_X px BX AX) free) (hS : va_S A0 H0 H locs) (hA : ∀ q, q < H.size → A1 q → A0 q) (hf : ∀ q, free q → A0 q) (hAX : ∀ q, q < H.size → AX q → A0 q)
    (kx : ∀ (E : String) (ce : Cell) (q9 : Addr) (u : SX) (t : State) (H1 : Heap) (locs1 : List Loc), t.heap = H1 → s.vm.Alike t.vm → px u → BX E u t → H.size ≤ H1.size → (∀ q : Nat, q < H.size → ¬ AX q → H1[q]? = H[q]?) → va_S A0 H0 H1 locs1 → H1[q9]? = some ce → ce.vm = .none → s.vm.findClass E = some ce.cls → vx_W p l e R s m args below meth c H1 locs1 (cells + mc) (slots + ms) Q (F0 m pc ls rest) q9)
    (kk : ∀ (r : UInt32) (u : S) (t : State) (H1 : Heap) (locs1 : List Loc), t.heap = H1 → s.vm.Alike t.vm → post r u → B u t → H.size ≤ H1.size → (∀ q : Nat, q < H.size → ¬ A1 q → H1[q]? = H[q]?) → va_S A0 H0 H1 locs1 → W p l e R s m args below meth c H1 locs1 (cells + mc) (slots + ms) Q (F0 m (pc + 3) ls (.float r :: rest))) : W p l e R s m args below meth c H locs cells slots Q (F0 m pc ls st0) := by
  intro T hT X
  rcases hr T hT X with ⟨v, st₀, t, T', L, h0, X', hL, e1, e2, ⟨⟨r, u, hv, hp, hb⟩, hF⟩, st⟩ | ⟨q, st₀, t, T', L, E, ce, h0, X', hL, e1, e2, ⟨u, hp, hb, hF⟩, hce, hcv, hcl, st⟩
  · cases hv
    obtain ⟨k1, k2, k3⟩ := vx_keep h0 e1 hS hA hf hL hF
    obtain ⟨t2, a1, b1⟩ := kk r u t T'.heap (locs ++ L) e1.symm (by rw [← e2]; exact X'.warmed.alike) hp hb k1 k2 k3 T' rfl X'
    exact ⟨t2, st t2 a1, b1⟩
  · obtain ⟨k1, k2, k3⟩ := vx_keep h0 e1 hS hAX hf hL hF
    obtain ⟨t2, a1, b1⟩ := kx E ce q u t T'.heap (locs ++ L) e1.symm (by rw [← e2]; exact X'.warmed.alike) hp hb k1 k2 k3 (by rw [e1]; exact hce) hcv hcl T' rfl X'
    exact ⟨t2, st.trans a1, b1⟩
theorem vx_calld {S SX : Type} {post : UInt64 → S → Prop} {px : SX → Prop} {B : S → State → Prop} {BX : String → SX → State → Prop} {AX : Nat → Prop} (hr : vx_Run p l e R s m args below meth c H locs cells slots mc ms (F0 m pc ls st0) rest (va_Qd post B A1 a) (vx_X px BX AX) free) (hS : va_S A0 H0 H locs) (hA : ∀ q, q < H.size → A1 q → A0 q) (hf : ∀ q, free q → A0 q) (hAX : ∀ q, q < H.size → AX q → A0 q)
    (kx : ∀ (E : String) (ce : Cell) (q9 : Addr) (u : SX) (t : State) (H1 : Heap) (locs1 : List Loc), t.heap = H1 → s.vm.Alike t.vm → px u → BX E u t → H.size ≤ H1.size → (∀ q : Nat, q < H.size → ¬ AX q → H1[q]? = H[q]?) → va_S A0 H0 H1 locs1 → H1[q9]? = some ce → ce.vm = .none → s.vm.findClass E = some ce.cls → vx_W p l e R s m args below meth c H1 locs1 (cells + mc) (slots + ms) Q (F0 m pc ls rest) q9)
    (kk : ∀ (r : UInt64) (u : S) (t : State) (H1 : Heap) (locs1 : List Loc), t.heap = H1 → s.vm.Alike t.vm → post r u → B u t → H.size ≤ H1.size → (∀ q : Nat, q < H.size → ¬ A1 q → H1[q]? = H[q]?) → va_S A0 H0 H1 locs1 → W p l e R s m args below meth c H1 locs1 (cells + mc) (slots + ms) Q (F0 m (pc + 3) ls (.double r :: rest))) : W p l e R s m args below meth c H locs cells slots Q (F0 m pc ls st0) := by
  intro T hT X
  rcases hr T hT X with ⟨v, st₀, t, T', L, h0, X', hL, e1, e2, ⟨⟨r, u, hv, hp, hb⟩, hF⟩, st⟩ | ⟨q, st₀, t, T', L, E, ce, h0, X', hL, e1, e2, ⟨u, hp, hb, hF⟩, hce, hcv, hcl, st⟩
  · cases hv
    obtain ⟨k1, k2, k3⟩ := vx_keep h0 e1 hS hA hf hL hF
    obtain ⟨t2, a1, b1⟩ := kk r u t T'.heap (locs ++ L) e1.symm (by rw [← e2]; exact X'.warmed.alike) hp hb k1 k2 k3 T' rfl X'
    exact ⟨t2, st t2 a1, b1⟩
  · obtain ⟨k1, k2, k3⟩ := vx_keep h0 e1 hS hAX hf hL hF
    obtain ⟨t2, a1, b1⟩ := kx E ce q u t T'.heap (locs ++ L) e1.symm (by rw [← e2]; exact X'.warmed.alike) hp hb k1 k2 k3 (by rw [e1]; exact hce) hcv hcl T' rfl X'
    exact ⟨t2, st.trans a1, b1⟩
theorem vx_callv {S SX : Type} {post : S → Prop} {px : SX → Prop} {B : S → State → Prop} {BX : String → SX → State → Prop} {AX : Nat → Prop} (hr : vx_Run p l e R s m args below meth c H locs cells slots mc ms (F0 m pc ls st0) rest (va_Qv post B A1 a) (vx_X px BX AX) free) (hS : va_S A0 H0 H locs) (hA : ∀ q, q < H.size → A1 q → A0 q) (hf : ∀ q, free q → A0 q) (hAX : ∀ q, q < H.size → AX q → A0 q)
    (kx : ∀ (E : String) (ce : Cell) (q9 : Addr) (u : SX) (t : State) (H1 : Heap) (locs1 : List Loc), t.heap = H1 → s.vm.Alike t.vm → px u → BX E u t → H.size ≤ H1.size → (∀ q : Nat, q < H.size → ¬ AX q → H1[q]? = H[q]?) → va_S A0 H0 H1 locs1 → H1[q9]? = some ce → ce.vm = .none → s.vm.findClass E = some ce.cls → vx_W p l e R s m args below meth c H1 locs1 (cells + mc) (slots + ms) Q (F0 m pc ls rest) q9)
    (kk : ∀ (u : S) (t : State) (H1 : Heap) (locs1 : List Loc), t.heap = H1 → s.vm.Alike t.vm → post u → B u t → H.size ≤ H1.size → (∀ q : Nat, q < H.size → ¬ A1 q → H1[q]? = H[q]?) → va_S A0 H0 H1 locs1 → W p l e R s m args below meth c H1 locs1 (cells + mc) (slots + ms) Q (F0 m (pc + 3) ls (rest))) : W p l e R s m args below meth c H locs cells slots Q (F0 m pc ls st0) := by
  intro T hT X
  rcases hr T hT X with ⟨v, st₀, t, T', L, h0, X', hL, e1, e2, ⟨⟨u, hv, hp, hb⟩, hF⟩, st⟩ | ⟨q, st₀, t, T', L, E, ce, h0, X', hL, e1, e2, ⟨u, hp, hb, hF⟩, hce, hcv, hcl, st⟩
  · cases hv
    obtain ⟨k1, k2, k3⟩ := vx_keep h0 e1 hS hA hf hL hF
    obtain ⟨t2, a1, b1⟩ := kk u t T'.heap (locs ++ L) e1.symm (by rw [← e2]; exact X'.warmed.alike) hp hb k1 k2 k3 T' rfl X'
    exact ⟨t2, st t2 a1, b1⟩
  · obtain ⟨k1, k2, k3⟩ := vx_keep h0 e1 hS hAX hf hL hF
    obtain ⟨t2, a1, b1⟩ := kx E ce q u t T'.heap (locs ++ L) e1.symm (by rw [← e2]; exact X'.warmed.alike) hp hb k1 k2 k3 (by rw [e1]; exact hce) hcv hcl T' rfl X'
    exact ⟨t2, st.trans a1, b1⟩
/-- caught by the row x of this method's table; the rows ahead don't take it -/
theorem vx_catch {own name : String} {E : String} {ce : Cell} {q : Addr} (hown : s.vm.findClass own = some m.cls) (pre : List ExceptionTableEntry) (x : ExceptionTableEntry) (suf : List ExceptionTableEntry) (hsplit : c.exceptionTable.toList = pre ++ x :: suf)
    (hpass : ∀ z ∈ pre, covers z pc = false ∨ (z.catchType ≠ 0 ∧ ∃ nm : String, (Cond.classLink own z.catchType nm).before args s = true ∧ va_Nc E nm s)) (hx : covers x pc = true) (h0 : x.catchType ≠ 0)
    (hlink : (Cond.classLink own x.catchType name).before args s = true) (hcast : (Cond.castable E name).before args s = true) (hcell : H[q]? = some ce) (hv : ce.vm = .none) (hcl : s.vm.findClass E = some ce.cls)
    (kk : W p l e R s m args below meth c H locs cells slots Q (F0 m x.handlerPc ls [.ref q])) : vx_W p l e R s m args below meth c H locs cells slots Q (F0 m pc ls rest) q := by
  intro T hT X
  have hpl : e.platform.magicAccessors = ({} : Platform).magicAccessors := by rw [X.admits.platform]
  obtain ⟨c3, c4, hc3, hc4, hasg⟩ := Cond.castable_spec hcast
  cases Option.some.inj (hc3.symm.trans hcl)
  obtain ⟨c5, hc5, hcl5⟩ := Cond.classLink_spec hown hlink e.platform hpl
  cases Option.some.inj (hc4.symm.trans hc5)
  obtain ⟨vm', X', st⟩ := X.thenCaughtThrough q (g := F0 m pc ls rest) rfl (Steps.refl _) (by rw [hT]; exact hcell) (by rw [hv]; rfl) (by obtain ⟨k9, h9, -⟩ := Vm.findClass_spec hcl; exact ⟨k9, h9⟩) pre x suf hsplit
    (fun z hz => by
      rcases hpass z hz with h | ⟨hz0, nm, hl1, hn1⟩
      · exact Or.inl h
      · obtain ⟨c6, hc6, hcl6⟩ := Cond.classLink_spec hown hl1 e.platform hpl
        obtain ⟨a8, b8, h1, h2, h3⟩ := hn1
        cases Option.some.inj (h1.symm.trans hcl)
        cases Option.some.inj (h2.symm.trans hc6)
        exact Or.inr ⟨hz0, _, hcl6, h3⟩) hx (Or.inr ⟨h0, c4, hcl5, hasg⟩)
  obtain ⟨t, a1, b1⟩ := kk (T.setVm vm') hT X'
  exact ⟨t, st.trans a1, b1⟩
end Rows
section Ends
variable {p : Program} {l : Launch} {e : Env} {R : Room} {s : State} {m : MethodId} {args : Array Value} {below : List Frame} {meth : Method} {c : Code} {H : Heap} {locs : List Loc} {cells slots : Nat} {Q : State → Prop}
variable {mc ms : Nat} {free : Addr → Prop} {A0 A1 : Nat → Prop} {H0 : Heap} {a : Array Value} {ls : Array Slot} {st0 rest : List Value}
variable {Qc : Array Value → State → Outcome → State → Prop} {XC : String → State → State → Prop}
/-- what a body that may throw owes at its end -/
def vx_MQ (below : List Frame) (Qc : Array Value → State → Outcome → State → Prop) (XC : String → State → State → Prop) (a : Array Value) (s : State) (mc ms : Nat) (free : Addr → Prop) : State → Prop := fun t =>
  ∃ o, t.status = .running ∧ Ended t below o ∧ vx_Q Qc XC mc ms free a s o t
theorem vx_ret {g : JFrame} {mc ms : Nat} (k : W p l e R s m args below meth c H locs cells slots (MQ below Qc args s mc ms free) g) : W p l e R s m args below meth c H locs cells slots (vx_MQ below Qc XC args s mc ms free) g := by
  intro T hT X
  obtain ⟨t, a1, o, b1, b2, b3, b4⟩ := k T hT X
  exact ⟨t, a1, o, b1, b2, Or.inl ⟨b3, b4⟩⟩
/-- not caught here: it goes on to the caller -/
theorem vx_widen {g : JFrame} {q : Addr} {k n : Nat} (h1 : cells ≤ k) (h2 : slots ≤ n) (kk : vx_W p l e R s m args below meth c H locs k n Q g q) : vx_W p l e R s m args below meth c H locs cells slots Q g q := fun T hT X => kk T hT (stand_widen X h1 h2)
theorem vx_out {pc : Nat} {E : String} {ce : Cell} {q : Addr} {mc ms : Nat} (hout : ∀ x ∈ c.exceptionTable.toList, covers x pc = false) (hlocks : meth.locks = false) (hcell : H[q]? = some ce) (hv : ce.vm = .none) (hcl : s.vm.findClass E = some ce.cls)
    (hx : ∀ t : State, t.heap = H → s.vm.Alike t.vm → XC E s t) (hf : ∀ z ∈ locs, free z.base) (hc : cells ≤ mc) (hs : slots ≤ ms) :
    vx_W p l e R s m args below meth c H locs cells slots (vx_MQ below Qc XC args s mc ms free) (F0 m pc ls rest) q := by
  intro T hT X
  obtain ⟨st1, hrun, hend, hW, hsm⟩ := X.leaveThrown q (g := F0 m pc ls rest) rfl rfl rfl hout hlocks
  have hcell9 : (T.setFrames (.throwing q :: below)).heap[q]? = some ce := by
    show T.heap[q]? = some ce
    rw [hT]; exact hcell
  exact ⟨_, st1, .threw q, hrun, hend, Or.inr ⟨q, rfl, E, ce, locs, hx _ hT hW.alike, hcell9, hv, hcl, hW, hsm.mono hc hs, hf⟩⟩
theorem vx_frame {U : State} {k n : Nat} (h : s.sameButNew ({ U with vm := s.vm } : State) locs k n) : s.heap.size ≤ U.heap.size ∧ ∀ q : Nat, q < s.heap.size → (∀ z ∈ locs, z.base ≠ q) → U.heap[q]? = s.heap[q]? := by
  obtain ⟨-, h2, -, -, -, h6⟩ := h
  refine ⟨h2, fun q hq hz => ?_⟩
  obtain ⟨c9, e1, e2, e3, e4⟩ := h6 q _ (Array.getElem?_eq_getElem hq)
  have hs : c9.slots = (s.heap[q]).slots := Array.ext_getElem? fun i => e4 i fun hm => hz _ hm rfl
  have h9 : c9 = s.heap[q] := by
    rw [hs] at e2
    exact e2
  have e5 : U.heap[q]? = some c9 := e1
  rw [e5, h9, Array.getElem?_eq_getElem hq]
/-- the words of a throw but the four that speak of the heap -/
def vx_no (w : Cond) : Bool := decide (w ≠ .isRef (.static Bundle.tN "UNASSIGNED_STACK" Bundle.steD)) && decide (w ≠ .isRef (.static Bundle.tN "SUPPRESSED_SENTINEL" Bundle.listD)) && decide (w ≠ .laysStatic Bundle.tN "UNASSIGNED_STACK" Bundle.steD) && decide (w ≠ .laysStatic Bundle.tN "SUPPRESSED_SENTINEL" Bundle.listD)
def vx_at0 (own : String) (ic : Nat) (X : String) (names : List String) : List Cond := (Bundle.ownAtoms0 own ic X names).filter vx_no
def vx_atS (own : String) (ic : Nat) (X : String) (names : List String) : List Cond := (Bundle.ownAtoms own ic X names).filter vx_no
/-- a word that the tables alone decide, or a good one -/
def vx_ot (w : Cond) : Bool := w.onTables || goodWord w
theorem vx_ot_at {args a' : Array Value} {s U : State} {w : Cond} (hW : s.WarmedH U.vm) (hvm : s.vm = U.vm) (hg : vx_ot w = true) (h : w.before args s = true) : w.before a' U = true := by
  simp only [vx_ot, Bool.or_eq_true] at hg
  rcases hg with hg | hg
  · exact va_tabs hg hvm h
  · exact word_at hW (good_of_word hg) h
/-- a list's words: the good ones out of the method's own list, the others by premises of their own -/
theorem vx_hat {args : Array Value} {s : State} {L B : List Cond} (h1 : ∀ w ∈ L.filter goodWord, w.before args s = true) (h2 : ∀ w ∈ L.filter (fun w => !goodWord w), w ∈ B) (h3 : ∀ w ∈ B, w.before args s = true) : ∀ w ∈ L, w.before args s = true := by
  intro w hw
  by_cases g : goodWord w = true
  · exact h1 w (List.mem_filter.mpr ⟨hw, g⟩)
  · refine h3 w (h2 w (List.mem_filter.mpr ⟨hw, ?_⟩))
    show (!goodWord w) = true
    cases hgw : goodWord w
    · rfl
    · exact absurd hgw g
theorem vx_c {args : Array Value} {s : State} {w : Cond} {B : List Cond} (h : w.before args s = true) (t : ∀ w ∈ B, w.before args s = true) : ∀ w' ∈ w :: B, w'.before args s = true := fun w' h' => (List.mem_cons.mp h').elim (fun e => by rw [e]; exact h) (t w')
theorem vx_n {args : Array Value} {s : State} : ∀ w ∈ ([] : List Cond), w.before args s = true := fun _ h => nomatch h
theorem vx_own {args : Array Value} {s : State} {L : List Cond} (h1 : ∀ w ∈ L.filter vx_no, w.before args s = true)
    (hU : (Cond.isRef (.static Bundle.tN "UNASSIGNED_STACK" Bundle.steD)).before args s = true) (hN : (Cond.isRef (.static Bundle.tN "SUPPRESSED_SENTINEL" Bundle.listD)).before args s = true)
    (lU : (Cond.laysStatic Bundle.tN "UNASSIGNED_STACK" Bundle.steD).before args s = true) (lN : (Cond.laysStatic Bundle.tN "SUPPRESSED_SENTINEL" Bundle.listD).before args s = true) : ∀ w ∈ L, w.before args s = true := by
  intro w hw
  by_cases e1 : w = .isRef (.static Bundle.tN "UNASSIGNED_STACK" Bundle.steD)
  · rw [e1]; exact hU
  · by_cases e2 : w = .isRef (.static Bundle.tN "SUPPRESSED_SENTINEL" Bundle.listD)
    · rw [e2]; exact hN
    · by_cases e3 : w = .laysStatic Bundle.tN "UNASSIGNED_STACK" Bundle.steD
      · rw [e3]; exact lU
      · by_cases e4 : w = .laysStatic Bundle.tN "SUPPRESSED_SENTINEL" Bundle.listD
        · rw [e4]; exact lN
        · exact h1 w (List.mem_filter.mpr ⟨hw, by unfold vx_no; rw [decide_eq_true e1, decide_eq_true e2, decide_eq_true e3, decide_eq_true e4]; rfl⟩)
/-- where a static field lies, its class's statics cell in H -/
def vx_L (C n d : String) (A : Nat → Prop) (U : State) (H : Heap) : Prop := ∃ (c : ClassId) (k : Class) (i : Nat) (f : Field) (a : Nat) (cell : Cell), U.vm.findClass C = some c ∧ U.fieldFound? C n d = some (c, k, i, f) ∧ f.isStatic = true ∧ k.statics = some a ∧ H[a]? = some cell ∧ cell.vm.isStatics = true ∧ cell.cls = c ∧ f.slot < cell.slots.size ∧ k.staticTypes[f.slot]? = some f.type ∧ ¬ A a
theorem vx_L.moved {C n d : String} {A : Nat → Prop} {u U : State} {H : Heap} (hvm : u.vm.Alike U.vm) (h : vx_L C n d A u H) : vx_L C n d A U H := by
  obtain ⟨c, k, i, f, a, cell, h1, h2, h3, h4, h5, h6, h7, h8, h9, h10⟩ := h
  obtain ⟨k', hi', he⟩ := State.fieldFound?_setVm hvm h2
  exact ⟨c, k', i, f, a, cell, by rw [hvm.findClass]; exact h1, hi', h3, by rw [he]; exact h4, h5, h6, h7, h8, by rw [he]; exact h9, h10⟩
theorem vx_L.kept {C n d : String} {A : Nat → Prop} {U : State} {H H1 : Heap} (h : vx_L C n d A U H) (hq : ∀ a : Nat, a < H.size → ¬ A a → H1[a]? = H[a]?) : vx_L C n d A U H1 := by
  obtain ⟨c, k, i, f, a, cell, h1, h2, h3, h4, h5, h6, h7, h8, h9, h10⟩ := h
  exact ⟨c, k, i, f, a, cell, h1, h2, h3, h4, by rw [hq a (Array.getElem?_eq_some_iff.mp h5).1 h10]; exact h5, h6, h7, h8, h9, h10⟩
theorem vx_L.narrow {C n d : String} {A B : Nat → Prop} {U : State} {H : Heap} (h : vx_L C n d A U H) (hAB : ∀ q, B q → A q) : vx_L C n d B U H := by
  obtain ⟨c, k, i, f, a, cell, h1, h2, h3, h4, h5, h6, h7, h8, h9, h10⟩ := h
  exact ⟨c, k, i, f, a, cell, h1, h2, h3, h4, h5, h6, h7, h8, h9, fun z => h10 (hAB _ z)⟩
theorem vx_L.word {C n d : String} {A : Nat → Prop} {s : State} {args : Array Value} (h : vx_L C n d A s s.heap) : (Cond.laysStatic C n d).before args s = true := by
  obtain ⟨c, k, i, f, a, cell, h1, h2, h3, h4, h5, h6, h7, h8, h9, -⟩ := h
  show (Cond.laysStatic C n d).holds args s none s [] = true
  exact Cond.laysStatic_of h1 h2 h3 h4 h5 h6 h7 h8 h9
/-- .. and what it holds: null or some reference -/
def vx_Zq (C n d : String) (A : Nat → Prop) (U : State) (H : Heap) : Prop := va_Zq C n d A U H ∧ vx_L C n d A U H
theorem vx_Zq.moved {C n d : String} {A : Nat → Prop} {u U : State} {H : Heap} (hvm : u.vm.Alike U.vm) (h : vx_Zq C n d A u H) : vx_Zq C n d A U H := ⟨va_Zq.moved hvm h.1, vx_L.moved hvm h.2⟩
theorem vx_Zq.kept {C n d : String} {A : Nat → Prop} {U : State} {H H1 : Heap} (h : vx_Zq C n d A U H) (hq : ∀ a : Nat, a < H.size → ¬ A a → H1[a]? = H[a]?) : vx_Zq C n d A U H1 := ⟨va_Zq.kept h.1 hq, vx_L.kept h.2 hq⟩
theorem vx_Zq.narrow {C n d : String} {A B : Nat → Prop} {U : State} {H : Heap} (h : vx_Zq C n d A U H) (hAB : ∀ q, B q → A q) : vx_Zq C n d B U H := ⟨va_Zq.narrow h.1 hAB, vx_L.narrow h.2 hAB⟩
theorem vx_Zqof {args : Array Value} {s : State} {C n d : String} {A : Nat → Prop} (hl : (Cond.laysStatic C n d).before args s = true) (hini : (Cond.initialized C).before args s = true) (h : (Cond.isRef (.static C n d)).before args s = true) (hA : ∀ a : Nat, a < s.heap.size → ¬ A a) : vx_Zq C n d A s s.heap := by
  refine ⟨va_Zqof hl hini h hA, ?_⟩
  obtain ⟨c, k, i, f, a, cell, h1, h2, h3, h4, h5, h6, h7, h8, h9⟩ := Cond.laysStatic_spec hl
  exact ⟨c, k, i, f, a, cell, h1, h2, h3, h4, h5, h6, h7, h8, h9, hA a (Array.getElem?_eq_some_iff.mp h5).1⟩
theorem vx_isRef {C n d : String} {v : Value} {A : Nat → Prop} {s : State} {args : Array Value} (h : va_Z C n d v A s s.heap) (hv : v.isRef = true) : (Cond.isRef (.static C n d)).before args s = true := by
  obtain ⟨cf, kf, fi, f, a, cell, h1, h2, h3, h4, h5, h6, h7, -⟩ := h
  have he : (Term.static C n d).eval args s none [] s = some v := by
    simp [Term.eval, State.fieldNamed?, h1, h2, h4, h5, h6, h7]
  simp only [Cond.before, Cond.holds, Cond.value, he]
  cases v <;> simp_all [Value.isRef]
theorem vx_isRefq {C n d : String} {A : Nat → Prop} {s : State} {args : Array Value} (h : va_Zq C n d A s s.heap) : (Cond.isRef (.static C n d)).before args s = true := by
  rcases h with h | ⟨t, h⟩
  · exact vx_isRef h rfl
  · exact vx_isRef h rfl
/-- the same frame, seen from here: as if the method were called anew in this heap -/
theorem vx_rebase {T : State} (X : Stand p l e R s m args below meth c T locs cells slots) {R' : Room} (hf : R'.frames ≤ R.frames) (hl : R'.locals ≤ R.locals) (hc : cells + R'.cells ≤ R.cells) (hs : slots + R'.slots ≤ R.slots) :
    Stand p l e R' ((T.setVm s.vm).setFrames (.invoking m args :: below)) m args below meth c T [] 0 0 := by
  have htop : (T.setVm s.vm).topJava?.isSome := X.here.top
  have hF : ((T.setVm s.vm).setFrames (.invoking m args :: below)).frames = .invoking m args :: below := State.frames_setFrames _ (State.cur_lt_of_top htop)
  obtain ⟨g₀, hg0⟩ := Option.isSome_iff_exists.mp htop
  obtain ⟨r, hr⟩ := State.topJava?_eq_some.mp hg0
  have hl9 : e.platform.stackLimits (T.setVm s.vm).me = e.platform.stackLimits s.me := X.limits
  have hb9 : (T.setVm s.vm).me.stackBytes = s.me.stackBytes := X.bytes
  refine ⟨X.admits, X.cas, X.clock, hF, ?_, X.hears, X.method, X.code, X.here, X.tail, X.warmed, ?_, ?_, ?_⟩
  · have h := X.room
    have hU : ((T.setVm s.vm).setFrames (.invoking m args :: below)).localsInUse = s.localsInUse := by
      rw [State.localsInUse_invoking hF (meth := meth) (c := c) X.method X.code, State.localsInUse_invoking X.frames X.method X.code]
    simp only [State.hasRoom, Bool.and_eq_true, decide_eq_true_eq] at h ⊢
    obtain ⟨⟨⟨⟨h1, h2, h3, h4, h5, h6⟩, h7⟩, h8⟩, h9⟩ := h
    rw [X.frames, List.length_cons] at h2 h3
    have q1 := X.heapSize
    have q2 := X.used
    simp only [hF, hU, List.length_cons, State.stackLimits_setFrames, State.stackBytes_setFrames, hl9, hb9]
    refine ⟨⟨⟨⟨by omega, by omega, by omega, by omega, by omega, h6⟩, ?_⟩, ?_⟩, X.book⟩
    · show T.heap.size + R'.cells ≤ e.platform.maxCells
      omega
    · show T.slotsUsed + R'.slots ≤ e.platform.maxSlots
      omega
  · rw [State.stackLimits_setFrames]; rfl
  · rw [State.stackBytes_setFrames]; rfl
  · refine ⟨?_, Nat.le_refl _, Nat.le_refl _, ?_, ?_, fun a c9 h9 => ⟨c9, h9, rfl, rfl, fun _ _ => rfl⟩⟩
    · obtain ⟨t, ht, -⟩ := State.frames_cons hr
      show T.setVm s.vm = { ((T.setVm s.vm).setFrames (.invoking m args :: below)).setFrames (T.setVm s.vm).frames with heap := T.heap, slotsUsed := T.slotsUsed }
      rw [State.setFrames_setFrames, State.setFrames_self ht]
      rfl
    · show T.slotsUsed = T.slotsUsed + ((T.heap.toList.drop T.heap.size).map (·.slots.size)).sum
      rw [List.drop_eq_nil_of_le (Nat.le_of_eq Array.length_toList)]
      rfl
    · show ((T.heap.toList.drop T.heap.size).map (·.slots.size)).sum ≤ 0
      rw [List.drop_eq_nil_of_le (Nat.le_of_eq Array.length_toList)]
      exact Nat.le_refl _
/-- 'throw new E()': new; dup; invokespecial; athrow -/
theorem vx_throw0 {cc : ByteArray} {pc : Nat} (hexec : p.tables.exec = Jvm.exec) (hb : c.code = cc) (hl : l.stackTraces = false) {own cls : String} {names : List String} {ik ic mc ms : Nat} {A : Nat → Prop}
    (hown : s.vm.findClass own = some m.cls) (hcls : Bundle.fit cls = true) (hnames : ∀ n ∈ names, Bundle.fit n = true)
    (hk : (Cond.classLink own ik cls).before args s = true) (hini : (Cond.initialized cls).before args s = true) (hat : ∀ w ∈ vx_at0 own ic cls names, w.before args s = true)
    (hgood : ∀ w ∈ Cond.classLink own ik cls :: Cond.initialized cls :: vx_at0 own ic cls names, vx_ot w = true)
    (hU : vx_Zq Bundle.tN "UNASSIGNED_STACK" Bundle.steD A s s.heap) (hN : vx_Zq Bundle.tN "SUPPRESSED_SENTINEL" Bundle.listD A s s.heap) (hS : va_S A s.heap H locs) (hsize : ls.size = c.maxLocals)
    (d0 : decode cc pc = .ok (.new ik, 3)) (d3 : decode cc (pc + 3) = .ok (.dup, 1)) (d4 : decode cc (pc + 4) = .ok (.invokespecial ic, 3)) (d7 : decode cc (pc + 7) = .ok (.athrow, 1))
    (hout : ∀ x ∈ c.exceptionTable.toList, covers x (pc + 7) = false)
    (hRframes : names.length + 3 < R.frames) (hRlocals : (rest.map fun v => v.category).sum + (13 * (names.length + 1) + 42) ≤ R.locals) (hRcells : cells + 1 ≤ R.cells) (hRslots : slots + 6 ≤ R.slots) (hlocks : meth.locks = false)
    (hx : ∀ t : State, s.vm.Alike t.vm → H.size ≤ t.heap.size → (∀ q : Nat, q < H.size → t.heap[q]? = H[q]?) → XC cls s t)
    (hf : ∀ z ∈ locs, free z.base) (hc : cells + 1 ≤ mc) (hs : slots + 6 ≤ ms) :
    W p l e R s m args below meth c H locs cells slots (vx_MQ below Qc XC args s mc ms free) (F0 m pc ls rest) := by
  intro T hT X
  have htr : e.platform.stackTraces = false := (show e.platform.stackTraces = l.stackTraces by rw [X.admits.platform]).trans hl
  have Y := vx_rebase X (R' := { frames := R.frames, locals := R.locals, cells := 1, slots := 6 }) (Nat.le_refl _) (Nat.le_refl _) hRcells hRslots
  obtain ⟨s', hA⟩ : ∃ z, z = (T.setVm s.vm).setFrames (.invoking m args :: below) := ⟨_, rfl⟩
  rw [← hA] at Y
  have hvm : s'.vm = s.vm := by rw [hA]; rfl
  have hhp : s'.heap = H := by rw [hA]; exact hT
  have hW0 : s.WarmedH s'.vm := by rw [hvm]; exact State.WarmedH.refl s
  have hat' : ∀ w ∈ vx_at0 own ic cls names, w.before args s' = true := fun w hw => vx_ot_at hW0 hvm.symm (hgood w (List.mem_cons_of_mem _ (List.mem_cons_of_mem _ hw))) (hat w hw)
  have hk' : (Cond.classLink own ik cls).before args s' = true := vx_ot_at hW0 hvm.symm (hgood _ List.mem_cons_self) hk
  have hini' : (Cond.initialized cls).before args s' = true := vx_ot_at hW0 hvm.symm (hgood _ (List.mem_cons_of_mem _ List.mem_cons_self)) hini
  have hU' : vx_Zq Bundle.tN "UNASSIGNED_STACK" Bundle.steD A s' s'.heap := by rw [hhp]; exact vx_Zq.moved hW0.alike (hU.kept hS.2.1)
  have hN' : vx_Zq Bundle.tN "SUPPRESSED_SENTINEL" Bundle.listD A s' s'.heap := by rw [hhp]; exact vx_Zq.moved hW0.alike (hN.kept hS.2.1)
  have h : ∀ w ∈ Bundle.ownAtoms0 own ic cls names, w.before args s' = true := vx_own hat' (vx_isRefq hU'.1) (vx_isRefq hN'.1) hU'.2.word hN'.2.word
  have hown' : s'.vm.findClass own = some m.cls := by rw [hvm]; exact hown
  have hins : (Cond.instantiable cls 6).before args s' = true := h _ (by simp [Bundle.ownAtoms0])
  obtain ⟨vm₁, cX, kX, hfX, hkX, -, -, X₁, st1⟩ := Y.newCold hexec (own := own) (C := cls) (index := ik) (n := 6) hown' hk' hins hini'
    (g := F0 m pc ls rest) rfl (by rw [hb]; exact d0) (Nat.le_refl _) (Nat.le_refl _)
  generalize hT1 : (T.setVm vm₁).pushCell { cls := cX, slots := kX.instanceTypes.map defaultValue, vm := .none } = T1 at X₁ st1
  have hcat : (Value.ref T.heap.size).category = 1 := rfl
  have hcellA : T1.heap[T.heap.size]? = some (freshCell cX kX) := by rw [← hT1]; exact State.heap_pushCell_size _ _
  have d3' : decode c.code (pc + 3) = .ok (.dup, 1) := by rw [hb]; exact d3
  obtain ⟨U, hsteps, hrun, hend, hW, hsame, ce, hce, hO⟩ := X₁.ctorThrow0 hexec htr (own := own) (cls := cls) (names := names) (ic := ic) hown' hcls hnames h (fun x hx => nomatch hx) hfX hkX hcellA (by rw [hhp, hT]; exact Nat.le_refl _)
    (g := { method := m, pc := pc + 4, locals := ls, stack := .ref T.heap.size :: .ref T.heap.size :: rest, locked := none }) rfl hsize rfl rfl (rest := rest) rfl
    (by rw [hb]; exact d4) (by rw [hb]; exact d7) hout hRframes (by simp only [List.map_cons, List.sum_cons, hcat]; omega) hlocks
  obtain ⟨f1, f2⟩ := vx_frame hsame
  rw [hhp] at f1 f2
  have hWs : s.WarmedH U.vm := State.WarmedH.trans hW0 hW
  have hcl : s.vm.findClass cls = some ce.cls := by
    have h9 := hO.cls
    rw [hvm] at h9
    exact h9
  have hall : s.sameButNew ({ U with vm := s.vm } : State) locs mc ms := by
    subst hA
    obtain ⟨e1, e2⟩ := hsame
    rw [State.setFrames_setFrames] at e1
    have h2 : (T.setVm s.vm).sameButNew ({ U with vm := s.vm } : State) [] (0 + 1) (0 + 6) := ⟨e1, e2⟩
    have h3 := X.same.trans h2
    rw [List.append_nil] at h3
    exact h3.mono hc hs
  refine ⟨U, ?_, .threw T.heap.size, hrun, hend, Or.inr ⟨T.heap.size, rfl, cls, ce, locs, hx U hWs.alike f1 (fun q hq => f2 q hq (fun z hz => nomatch hz)), hce, hO.vm, hcl, hWs, hall, hf⟩⟩
  refine st1 _ ?_
  show Steps p.tables e below (T1.setTop { method := m, pc := pc + 3, locals := ls, stack := .ref T.heap.size :: rest, locked := none }) _
  jvm_step X₁.here [X₁.here.top, hexec, d3', Value.category]
  exact hsteps
/-- 'throw new E("text")': new; dup; ldc; invokespecial; athrow -/
theorem vx_throwS {cc : ByteArray} {pc : Nat} (hexec : p.tables.exec = Jvm.exec) (hb : c.code = cc) (hl : l.stackTraces = false) {own cls text : String} {names : List String} {ik is ic mc ms sa : Nat} {A : Nat → Prop}
    (hown : s.vm.findClass own = some m.cls) (hcls : Bundle.fit cls = true) (hnames : ∀ n ∈ names, Bundle.fit n = true)
    (hk : (Cond.classLink own ik cls).before args s = true) (hini : (Cond.initialized cls).before args s = true) (hstr : vk_R own is text sa s) (hat : ∀ w ∈ vx_atS own ic cls names, w.before args s = true)
    (hgood : ∀ w ∈ Cond.classLink own ik cls :: Cond.initialized cls :: vx_atS own ic cls names, vx_ot w = true)
    (hU : vx_Zq Bundle.tN "UNASSIGNED_STACK" Bundle.steD A s s.heap) (hN : vx_Zq Bundle.tN "SUPPRESSED_SENTINEL" Bundle.listD A s s.heap) (hS : va_S A s.heap H locs) (hsize : ls.size = c.maxLocals)
    (d0 : decode cc pc = .ok (.new ik, 3)) (d3 : decode cc (pc + 3) = .ok (.dup, 1)) (d4 : decode cc (pc + 4) = .ok (.ldc is, 2)) (d6 : decode cc (pc + 6) = .ok (.invokespecial ic, 3)) (d9 : decode cc (pc + 9) = .ok (.athrow, 1))
    (hout : ∀ x ∈ c.exceptionTable.toList, covers x (pc + 9) = false)
    (hRframes : names.length + 3 < R.frames) (hRlocals : (rest.map fun v => v.category).sum + (13 * (names.length + 1) + 43) ≤ R.locals) (hRcells : cells + 1 ≤ R.cells) (hRslots : slots + 6 ≤ R.slots) (hlocks : meth.locks = false)
    (hx : ∀ t : State, s.vm.Alike t.vm → H.size ≤ t.heap.size → (∀ q : Nat, q < H.size → t.heap[q]? = H[q]?) → XC cls s t)
    (hf : ∀ z ∈ locs, free z.base) (hc : cells + 1 ≤ mc) (hs : slots + 6 ≤ ms) :
    W p l e R s m args below meth c H locs cells slots (vx_MQ below Qc XC args s mc ms free) (F0 m pc ls rest) := by
  intro T hT X
  have htr : e.platform.stackTraces = false := (show e.platform.stackTraces = l.stackTraces by rw [X.admits.platform]).trans hl
  have Y := vx_rebase X (R' := { frames := R.frames, locals := R.locals, cells := 1, slots := 6 }) (Nat.le_refl _) (Nat.le_refl _) hRcells hRslots
  obtain ⟨s', hA⟩ : ∃ z, z = (T.setVm s.vm).setFrames (.invoking m args :: below) := ⟨_, rfl⟩
  rw [← hA] at Y
  have hvm : s'.vm = s.vm := by rw [hA]; rfl
  have hhp : s'.heap = H := by rw [hA]; exact hT
  have hW0 : s.WarmedH s'.vm := by rw [hvm]; exact State.WarmedH.refl s
  have hat' : ∀ w ∈ vx_atS own ic cls names, w.before args s' = true := fun w hw => vx_ot_at hW0 hvm.symm (hgood w (List.mem_cons_of_mem _ (List.mem_cons_of_mem _ hw))) (hat w hw)
  have hk' : (Cond.classLink own ik cls).before args s' = true := vx_ot_at hW0 hvm.symm (hgood _ List.mem_cons_self) hk
  have hini' : (Cond.initialized cls).before args s' = true := vx_ot_at hW0 hvm.symm (hgood _ (List.mem_cons_of_mem _ List.mem_cons_self)) hini
  have hU' : vx_Zq Bundle.tN "UNASSIGNED_STACK" Bundle.steD A s' s'.heap := by rw [hhp]; exact vx_Zq.moved hW0.alike (hU.kept hS.2.1)
  have hN' : vx_Zq Bundle.tN "SUPPRESSED_SENTINEL" Bundle.listD A s' s'.heap := by rw [hhp]; exact vx_Zq.moved hW0.alike (hN.kept hS.2.1)
  have h : ∀ w ∈ Bundle.ownAtoms own ic cls names, w.before args s' = true := vx_own hat' (vx_isRefq hU'.1) (vx_isRefq hN'.1) hU'.2.word hN'.2.word
  have hown' : s'.vm.findClass own = some m.cls := by rw [hvm]; exact hown
  have hins : (Cond.instantiable cls 6).before args s' = true := h _ (by simp [Bundle.ownAtoms])
  obtain ⟨vm₁, cX, kX, hfX, hkX, -, -, X₁, st1⟩ := Y.newCold hexec (own := own) (C := cls) (index := ik) (n := 6) hown' hk' hins hini'
    (g := F0 m pc ls rest) rfl (by rw [hb]; exact d0) (Nat.le_refl _) (Nat.le_refl _)
  generalize hT1 : (T.setVm vm₁).pushCell { cls := cX, slots := kX.instanceTypes.map defaultValue, vm := .none } = T1 at X₁ st1
  have hcat : (Value.ref T.heap.size).category = 1 := rfl
  have hcellA : T1.heap[T.heap.size]? = some (freshCell cX kX) := by rw [← hT1]; exact State.heap_pushCell_size _ _
  have d3' : decode c.code (pc + 3) = .ok (.dup, 1) := by rw [hb]; exact d3
  have d4' : decode c.code (pc + 4) = .ok (.ldc is, 2) := by rw [hb]; exact d4
  have hstr' : vk_R own is text sa s' := vk_R.warm hW0 hstr
  obtain ⟨U, hsteps, hrun, hend, hW, hsame, ce, hce, hO⟩ := X₁.ctorThrowS hexec htr (own := own) (cls := cls) (names := names) (ic := ic) hown' hcls hnames h (fun x hx => nomatch hx) hfX hkX hcellA (by rw [hhp, hT]; exact Nat.le_refl _) (msg := .ref sa) rfl
    (g := { method := m, pc := pc + 6, locals := ls, stack := .ref sa :: .ref T.heap.size :: .ref T.heap.size :: rest, locked := none }) rfl hsize rfl rfl (rest := rest) rfl
    (by rw [hb]; exact d6) (by rw [hb]; exact d9) hout hRframes (by simp only [List.map_cons, List.sum_cons, hcat]; omega) hlocks
  obtain ⟨f1, f2⟩ := vx_frame hsame
  rw [hhp] at f1 f2
  have hWs : s.WarmedH U.vm := State.WarmedH.trans hW0 hW
  have hcl : s.vm.findClass cls = some ce.cls := by
    have h9 := hO.cls
    rw [hvm] at h9
    exact h9
  have hall : s.sameButNew ({ U with vm := s.vm } : State) locs mc ms := by
    subst hA
    obtain ⟨e1, e2⟩ := hsame
    rw [State.setFrames_setFrames] at e1
    have h2 : (T.setVm s.vm).sameButNew ({ U with vm := s.vm } : State) [] (0 + 1) (0 + 6) := ⟨e1, e2⟩
    have h3 := X.same.trans h2
    rw [List.append_nil] at h3
    exact h3.mono hc hs
  refine ⟨U, ?_, .threw T.heap.size, hrun, hend, Or.inr ⟨T.heap.size, rfl, cls, ce, locs, hx U hWs.alike f1 (fun q hq => f2 q hq (fun z hz => nomatch hz)), hce, hO.vm, hcl, hWs, hall, hf⟩⟩
  refine st1 _ ?_
  show Steps p.tables e below (T1.setTop { method := m, pc := pc + 3, locals := ls, stack := .ref T.heap.size :: rest, locked := none }) _
  jvm_step X₁.here [X₁.here.top, hexec, d3', Value.category]
  exact X₁.ldcString hexec (own := own) (text := text) (index := is) (a := sa) hown' hstr'.1 hstr'.2
    (g := { method := m, pc := pc + 4, locals := ls, stack := .ref T.heap.size :: .ref T.heap.size :: rest, locked := none }) rfl d4' _ hsteps
/-- 'throw new E("text")', the text by a wide index -/
theorem vx_throwSW {cc : ByteArray} {pc : Nat} (hexec : p.tables.exec = Jvm.exec) (hb : c.code = cc) (hl : l.stackTraces = false) {own cls text : String} {names : List String} {ik is ic mc ms sa : Nat} {A : Nat → Prop}
    (hown : s.vm.findClass own = some m.cls) (hcls : Bundle.fit cls = true) (hnames : ∀ n ∈ names, Bundle.fit n = true)
    (hk : (Cond.classLink own ik cls).before args s = true) (hini : (Cond.initialized cls).before args s = true) (hstr : vk_R own is text sa s) (hat : ∀ w ∈ vx_atS own ic cls names, w.before args s = true)
    (hgood : ∀ w ∈ Cond.classLink own ik cls :: Cond.initialized cls :: vx_atS own ic cls names, vx_ot w = true)
    (hU : vx_Zq Bundle.tN "UNASSIGNED_STACK" Bundle.steD A s s.heap) (hN : vx_Zq Bundle.tN "SUPPRESSED_SENTINEL" Bundle.listD A s s.heap) (hS : va_S A s.heap H locs) (hsize : ls.size = c.maxLocals)
    (d0 : decode cc pc = .ok (.new ik, 3)) (d3 : decode cc (pc + 3) = .ok (.dup, 1)) (d4 : decode cc (pc + 4) = .ok (.ldc_w is, 3)) (d7 : decode cc (pc + 7) = .ok (.invokespecial ic, 3)) (d10 : decode cc (pc + 10) = .ok (.athrow, 1))
    (hout : ∀ x ∈ c.exceptionTable.toList, covers x (pc + 10) = false)
    (hRframes : names.length + 3 < R.frames) (hRlocals : (rest.map fun v => v.category).sum + (13 * (names.length + 1) + 43) ≤ R.locals) (hRcells : cells + 1 ≤ R.cells) (hRslots : slots + 6 ≤ R.slots) (hlocks : meth.locks = false)
    (hx : ∀ t : State, s.vm.Alike t.vm → H.size ≤ t.heap.size → (∀ q : Nat, q < H.size → t.heap[q]? = H[q]?) → XC cls s t)
    (hf : ∀ z ∈ locs, free z.base) (hc : cells + 1 ≤ mc) (hs : slots + 6 ≤ ms) :
    W p l e R s m args below meth c H locs cells slots (vx_MQ below Qc XC args s mc ms free) (F0 m pc ls rest) := by
  intro T hT X
  have htr : e.platform.stackTraces = false := (show e.platform.stackTraces = l.stackTraces by rw [X.admits.platform]).trans hl
  have Y := vx_rebase X (R' := { frames := R.frames, locals := R.locals, cells := 1, slots := 6 }) (Nat.le_refl _) (Nat.le_refl _) hRcells hRslots
  obtain ⟨s', hA⟩ : ∃ z, z = (T.setVm s.vm).setFrames (.invoking m args :: below) := ⟨_, rfl⟩
  rw [← hA] at Y
  have hvm : s'.vm = s.vm := by rw [hA]; rfl
  have hhp : s'.heap = H := by rw [hA]; exact hT
  have hW0 : s.WarmedH s'.vm := by rw [hvm]; exact State.WarmedH.refl s
  have hat' : ∀ w ∈ vx_atS own ic cls names, w.before args s' = true := fun w hw => vx_ot_at hW0 hvm.symm (hgood w (List.mem_cons_of_mem _ (List.mem_cons_of_mem _ hw))) (hat w hw)
  have hk' : (Cond.classLink own ik cls).before args s' = true := vx_ot_at hW0 hvm.symm (hgood _ List.mem_cons_self) hk
  have hini' : (Cond.initialized cls).before args s' = true := vx_ot_at hW0 hvm.symm (hgood _ (List.mem_cons_of_mem _ List.mem_cons_self)) hini
  have hU' : vx_Zq Bundle.tN "UNASSIGNED_STACK" Bundle.steD A s' s'.heap := by rw [hhp]; exact vx_Zq.moved hW0.alike (hU.kept hS.2.1)
  have hN' : vx_Zq Bundle.tN "SUPPRESSED_SENTINEL" Bundle.listD A s' s'.heap := by rw [hhp]; exact vx_Zq.moved hW0.alike (hN.kept hS.2.1)
  have h : ∀ w ∈ Bundle.ownAtoms own ic cls names, w.before args s' = true := vx_own hat' (vx_isRefq hU'.1) (vx_isRefq hN'.1) hU'.2.word hN'.2.word
  have hown' : s'.vm.findClass own = some m.cls := by rw [hvm]; exact hown
  have hins : (Cond.instantiable cls 6).before args s' = true := h _ (by simp [Bundle.ownAtoms])
  obtain ⟨vm₁, cX, kX, hfX, hkX, -, -, X₁, st1⟩ := Y.newCold hexec (own := own) (C := cls) (index := ik) (n := 6) hown' hk' hins hini'
    (g := F0 m pc ls rest) rfl (by rw [hb]; exact d0) (Nat.le_refl _) (Nat.le_refl _)
  generalize hT1 : (T.setVm vm₁).pushCell { cls := cX, slots := kX.instanceTypes.map defaultValue, vm := .none } = T1 at X₁ st1
  have hcat : (Value.ref T.heap.size).category = 1 := rfl
  have hcellA : T1.heap[T.heap.size]? = some (freshCell cX kX) := by rw [← hT1]; exact State.heap_pushCell_size _ _
  have d3' : decode c.code (pc + 3) = .ok (.dup, 1) := by rw [hb]; exact d3
  have d4' : decode c.code (pc + 4) = .ok (.ldc_w is, 3) := by rw [hb]; exact d4
  have hstr' : vk_R own is text sa s' := vk_R.warm hW0 hstr
  obtain ⟨U, hsteps, hrun, hend, hW, hsame, ce, hce, hO⟩ := X₁.ctorThrowS hexec htr (own := own) (cls := cls) (names := names) (ic := ic) hown' hcls hnames h (fun x hx => nomatch hx) hfX hkX hcellA (by rw [hhp, hT]; exact Nat.le_refl _) (msg := .ref sa) rfl
    (g := { method := m, pc := pc + 7, locals := ls, stack := .ref sa :: .ref T.heap.size :: .ref T.heap.size :: rest, locked := none }) rfl hsize rfl rfl (rest := rest) rfl
    (by rw [hb]; exact d7) (by rw [hb]; exact d10) hout hRframes (by simp only [List.map_cons, List.sum_cons, hcat]; omega) hlocks
  obtain ⟨f1, f2⟩ := vx_frame hsame
  rw [hhp] at f1 f2
  have hWs : s.WarmedH U.vm := State.WarmedH.trans hW0 hW
  have hcl : s.vm.findClass cls = some ce.cls := by
    have h9 := hO.cls
    rw [hvm] at h9
    exact h9
  have hall : s.sameButNew ({ U with vm := s.vm } : State) locs mc ms := by
    subst hA
    obtain ⟨e1, e2⟩ := hsame
    rw [State.setFrames_setFrames] at e1
    have h2 : (T.setVm s.vm).sameButNew ({ U with vm := s.vm } : State) [] (0 + 1) (0 + 6) := ⟨e1, e2⟩
    have h3 := X.same.trans h2
    rw [List.append_nil] at h3
    exact h3.mono hc hs
  refine ⟨U, ?_, .threw T.heap.size, hrun, hend, Or.inr ⟨T.heap.size, rfl, cls, ce, locs, hx U hWs.alike f1 (fun q hq => f2 q hq (fun z hz => nomatch hz)), hce, hO.vm, hcl, hWs, hall, hf⟩⟩
  refine st1 _ ?_
  show Steps p.tables e below (T1.setTop { method := m, pc := pc + 3, locals := ls, stack := .ref T.heap.size :: rest, locked := none }) _
  jvm_step X₁.here [X₁.here.top, hexec, d3', Value.category]
  exact X₁.ldcStringW hexec (own := own) (text := text) (index := is) (a := sa) hown' hstr'.1 hstr'.2
    (g := { method := m, pc := pc + 4, locals := ls, stack := .ref T.heap.size :: .ref T.heap.size :: rest, locked := none }) rfl d4' _ hsteps
end Ends
section Bodies
variable {l : Launch}
theorem vx_ofW {y : MethodName} {ws ws' : List Cond} {rm : Room} {Pc : Array Value → State → Prop} {Qc : Array Value → State → Outcome → State → Prop} {XC : String → State → State → Prop} {mc ms : Nat} {free : Addr → Prop} {cc : ByteArray} {maxL : Nat} {ret : Option FieldType}
    (hy : plainName y.cls = true) (hw : ws = Cond.code y cc maxL ret :: ws')
    (body : ∀ p e s m args below meth c s₁, BodyLoose p l y (headSpec ws rm) cc maxL ret e s m args below meth c s₁ → c.maxLocals = maxL → (∀ x ∈ c.exceptionTable.toList, False) → Pc args s →
      W p l e (headSpec ws rm).room s m args below meth c s.heap [] 0 0 (vx_MQ below Qc XC args s mc ms free) (entryFrame m args maxL)) : vx_Met l y ws rm Pc Qc XC mc ms free := by
  refine MetFree.of_bodyS (code := cc) (maxLocals := maxL) (ret := ret) hy ?_ ?_
  · intro args s m h hn
    obtain ⟨meth, c, h1, h2, h3, h4, h5, h6, -, -⟩ := Cond.code_spec hn (atoms_spec (ws := ws) h _ (by rw [hw]; exact List.mem_cons_self))
    exact ⟨meth, c, h1, h2, h3, h4, h5, h6⟩
  · intro p e s m args below meth c s₁ B hml hP _
    have hh0 : s₁.heap = s.heap := by rw [B.state]; rfl
    have ht : ∀ x ∈ c.exceptionTable.toList, False := by
      obtain ⟨meth9, c9, h1, h2, -, -, -, -, h7, -⟩ := Cond.code_spec B.named (atoms_spec (ws := ws) B.pre _ (by rw [hw]; exact List.mem_cons_self))
      cases Option.some.inj (h1.symm.trans B.method)
      cases Option.some.inj (h2.symm.trans (Stand.of_body B).code)
      intro x hx
      rw [Array.isEmpty_iff.mp h7] at hx
      cases hx
    obtain ⟨t, a1, o, b1, b2, b3⟩ := body p e s m args below meth c s₁ B hml ht hP s₁ hh0 (Stand.of_body B)
    exact ⟨t, o, a1, b1, b2, b3⟩
/-- the table of a body with handlers -/
theorem vx_table {p : Program} {x y : MethodName} {S : Spec} {cc bytes : ByteArray} {maxL maxL' : Nat} {ret ret' : Option FieldType} {e : Env} {s s₁ : State} {m : MethodId} {args : Array Value} {below : List Frame} {meth : Method} {c : Code} {hh : List (Nat × Nat × Nat × Nat)}
    (B : BodyLoose p l y S cc maxL ret e s m args below meth c s₁) (h : (Cond.codeWith y bytes maxL' ret' hh).before args s = true) : c.exceptionTable.toList = tableOf hh := by
  obtain ⟨m9, meth9, c9, hn9, h1, h2, -, -, h6, -⟩ := Cond.codeWith_spec h
  cases Option.some.inj (hn9.symm.trans B.named)
  cases Option.some.inj (h1.symm.trans B.method)
  cases Option.some.inj (h2.symm.trans (Stand.of_body B).code)
  rw [← h6, table_eq]
end Bodies
end VXA
/-! ===== END ===== -/
/-! ===== BEGIN a static call of a method with an exception table ===== -/
section VXS
variable {p : Program} {l : Launch} {e : Env} {R : Room} {s : State} {m : MethodId} {args : Array Value} {below : List Frame} {meth : Method} {c : Code} {T : State} {H : Heap} {locs : List Loc} {cells slots : Nat}
abbrev vx_CSW (R : Room) (s : State) (args : Array Value) (own : String) (index : Nat) (y : MethodName) (bytes : ByteArray) (maxL : Nat) (ret : Option FieldType) (hh : List (Nat × Nat × Nat × Nat)) (ws : List Cond) (rm : Room) (mc ms n : Nat) : Prop :=
  (rm.cells = mc ∧ rm.slots = ms ∧ rm.frames + 1 ≤ R.frames ∧ 8 + (maxL + 11) + rm.locals ≤ R.locals ∧ (∀ w ∈ ws, ∀ (a' : Array Value) (U : State), s.WarmedH U.vm → w.before a' U = true) ∧ Cond.codeWith y bytes maxL ret hh ∈ ws) ∧
  (Cond.codeWith y bytes maxL ret hh).before args s = true ∧ (Cond.initialized y.cls).before args s = true ∧ (y.cls ≠ "java/lang/invoke/MethodHandle" ∧ y.cls ≠ "java/lang/invoke/VarHandle") ∧
  (∀ sig, parseMethodDescriptor y.desc = some sig → n = sig.parameters.length) ∧ (Cond.methodLink own index y).before args s = true ∧ (Cond.static y).before args s = true
theorem vx_cwSW {own : String} {index maxL mc ms : Nat} {y : MethodName} {bytes : ByteArray} {ret : Option FieldType} {hh : List (Nat × Nat × Nat × Nat)} {Ts ws ws' : List Cond} {rm : Room} (n : Nat) (ht : ∀ w ∈ Ts, w.before args s = true) (hT : GoodIn Ts (va_wsS own index y ws)) (hw : ws = Cond.codeWith y bytes maxL ret hh :: ws') (hrc : rm.cells = mc) (hrs : rm.slots = ms)
    (hd : y.cls ≠ "java/lang/invoke/MethodHandle" ∧ y.cls ≠ "java/lang/invoke/VarHandle" ∧ (parseMethodDescriptor y.desc).map (fun d => d.parameters.length) = some n) (hR : rm.frames + 1 ≤ R.frames ∧ 8 + (maxL + 11) + rm.locals ≤ R.locals) :
    vx_CSW R s args own index y bytes maxL ret hh ws rm mc ms n := by
  have ok : ∀ w ∈ va_wsS own index y ws, w.before args s = true := fun w h => ht w (hT w h).1
  have hG : GoodIn Ts ws := fun w h => hT w (by unfold va_wsS; exact List.mem_append_right _ h)
  have hc : Cond.codeWith y bytes maxL ret hh ∈ ws := by rw [hw]; exact List.mem_cons_self
  refine ⟨⟨hrc, hrs, hR.1, hR.2, pay_in ht hG, hc⟩, ht _ (hG _ hc).1, ok _ (by simp [va_wsS]), ⟨hd.1, hd.2.1⟩, fun sig h => ?_, ok _ (by simp [va_wsS]), ok _ (by simp [va_wsS])⟩
  have h2 := hd.2.2
  rw [h] at h2
  exact (Option.some.inj h2).symm
theorem vx_callSW (X : Stand p l e R s m args below meth c T locs cells slots) (hexec : p.tables.exec = Jvm.exec) {own : String} {index : Nat} {y : MethodName} {bytes : ByteArray} {maxL : Nat} {ret : Option FieldType} {hh : List (Nat × Nat × Nat × Nat)}
    (hown : s.vm.findClass own = some m.cls) (hlink : (Cond.methodLink own index y).before args s = true) (hstat : (Cond.static y).before args s = true) (hinit : (Cond.initialized y.cls).before args s = true)
    (hcode : (Cond.codeWith y bytes maxL ret hh).before args s = true) (hy : y.cls ≠ "java/lang/invoke/MethodHandle" ∧ y.cls ≠ "java/lang/invoke/VarHandle")
    {W9 : Nat} {Pre : Pt → Array Value → Prop} {Post : Pt → Array Value → Option Value → Pt → Prop} (hK : Back l R p e below s args y 3 W9 Pre Post)
    {g : JFrame} (hg : g.method = m) (hsize : g.locals.size = c.maxLocals) {argsL rest : List Value} (hlen : ∀ sig, parseMethodDescriptor y.desc = some sig → argsL.length = sig.parameters.length)
    (hstack : g.stack = argsL.reverse ++ rest) (hW : 2 * g.monitorRoom + (rest.map fun v => v.category).sum ≤ W9) (hdg : decode c.code g.pc = .ok (.invokestatic index, 3))
    (hpre : ∀ vm₁, s.WarmedH vm₁ → Pre ⟨T.setVm vm₁, locs, cells, slots⟩ argsL.toArray) :
    ∃ (v : Option Value) (vm₁ : Vm) (B : Pt), s.WarmedH vm₁ ∧ Stand p l e R s m args below meth c B.U B.locs B.cells B.slots ∧ Post ⟨T.setVm vm₁, locs, cells, slots⟩ argsL.toArray v B ∧
      ∀ target, Steps p.tables e below (B.U.setTop { g with pc := g.pc + 3, stack := v.toList ++ rest }) target → Steps p.tables e below (T.setTop g) target := by
  obtain ⟨mk, methM, cM, hnamed, hmethM, -, -, -, -, -, -, hsigM⟩ := Cond.codeWith_spec hcode
  have hstatic : methM.isStatic = true := Cond.static_spec hnamed hmethM hstat
  obtain ⟨kP, hkP, -⟩ := className_of_methodNamed hnamed
  have hinitP : kP.init = .initialized := Cond.initialized_spec (findClass_of_methodNamed hnamed) hkP hinit
  obtain ⟨vm₁, X₁, hstep₁⟩ := X.invokestatic hexec hown hlink hnamed hmethM hstatic hkP hinitP hy (g := g) hg (argsL := argsL) (rest := rest) (hlen _ hsigM) hstack hdg
  obtain ⟨v, B, X', hpost, hsteps⟩ := hK m meth c ⟨T.setVm vm₁, locs, cells, slots⟩ { g with stack := rest } (.invokestatic index) mk argsL.toArray X₁ hg hsize hdg hW (X₁.named hnamed) (hpre vm₁ X₁.warmed)
  exact ⟨v, vm₁, B, X₁.warmed, X', hpost, fun target h => hstep₁ _ fun acts => by rw [doInvoke_state]; exact hsteps.trans h⟩
theorem vx_runSW {y : MethodName} {bytes cc : ByteArray} {maxL nL mc ms n index : Nat} {ret : Option FieldType} {hh : List (Nat × Nat × Nat × Nat)} {ws : List Cond} {rm : Room} {Pc : Array Value → State → Prop} {Qc : Array Value → State → Outcome → State → Prop} {free : Addr → Prop} {Ts : List Cond} {own : String} {As rest : List Value} {g : JFrame}
    (S : CallFix p m c cc nL s args Ts own) (hM : Met l y ws rm Pc Qc mc ms free) (cw : vx_CSW R s args own index y bytes maxL ret hh ws rm mc ms n) (hp : PreS s H Pc As)
    (hg : g.method = m) (hn : As.length = n) (hsize : g.locals.size = nL) (hstack : g.stack = As.reverse ++ rest) (hW : 2 * g.monitorRoom + (rest.map fun v => v.category).sum ≤ 8) (hdg : decode cc g.pc = .ok (.invokestatic index, 3)) (hf : cells + mc ≤ R.cells ∧ slots + ms ≤ R.slots) :
    va_Run p l e R s m args below meth c H locs cells slots mc ms g rest (Qc As.toArray) (free) := by
  obtain ⟨⟨hrc, hrs, hfr, hlo, hws, hcw⟩, hcode, hini, hy, hlen, hl, hstt⟩ := cw
  have hK : Back l R p e below s args y 3 8 (PreOf R mc ms Pc) (PostOf Qc mc ms free) := va_backW (hh := hh) (bytes := bytes) (maxL := maxL) (ret := ret) hM hp.1 hrc hrs hfr hlo hws hcw (fun a' U hW => word_at hW (Or.inl (by first | rfl | simp [Cond.onTables, Cond.keeps, Cond.steady])) hini)
  obtain ⟨hx, hb, hml, ho, -⟩ := S
  intro T hT X
  obtain ⟨v, vm₁, ⟨U', l2, c2, s2⟩, hW₁, X', ⟨g', mk, t, L, e1, e2, hq, h1, hL, h2, h3⟩, st⟩ := vx_callSW X hx (hh := hh) (bytes := bytes) (maxL := maxL) (ret := ret) ho hl hstt hini hcode hy hK hg (hsize.trans hml.symm) (argsL := As) (rest := rest) (fun sig h => hn.trans (hlen sig h)) hstack hW (by rw [hb]; exact hdg)
    (fun vm₁ hW₁ => ⟨hf.1, hf.2, hp.2 (T.setVm vm₁) hT hW₁⟩)
  dsimp only [Pt.U, Pt.locs, Pt.cells, Pt.slots] at X' e1 e2 h1 h2 h3 st
  subst h1; subst h2; subst h3
  exact ⟨v, (T.setVm vm₁).calling g' mk As.toArray, t, U', L, hT, X', hL, e1, e2, hq, st⟩
/-- not caught here, past rows that name other classes: it goes on to the caller -/
theorem vx_outP {p : Program} {l : Launch} {e : Env} {R : Room} {s : State} {m : MethodId} {args : Array Value} {below : List Frame} {meth : Method} {c : Code} {H : Heap} {locs : List Loc} {cells slots : Nat} {free : Addr → Prop} {ls : Array Slot} {rest : List Value} {Qc : Array Value → State → Outcome → State → Prop} {XC : String → State → State → Prop}
    {pc : Nat} {own E : String} {ce : Cell} {q : Addr} {mc ms : Nat} (hown : s.vm.findClass own = some m.cls) (hlocks : meth.locks = false)
    (hpass : ∀ z ∈ c.exceptionTable.toList, covers z pc = false ∨ (z.catchType ≠ 0 ∧ ∃ nm : String, (Cond.classLink own z.catchType nm).before args s = true ∧ va_Nc E nm s)) (hcell : H[q]? = some ce) (hv : ce.vm = .none) (hcl : s.vm.findClass E = some ce.cls)
    (hx : ∀ t : State, t.heap = H → s.vm.Alike t.vm → XC E s t) (hf : ∀ z ∈ locs, free z.base) (hc : cells ≤ mc) (hs : slots ≤ ms) :
    vx_W p l e R s m args below meth c H locs cells slots (vx_MQ below Qc XC args s mc ms free) (F0 m pc ls rest) q := by
  intro T hT X
  have hpl : e.platform.magicAccessors = ({} : Platform).magicAccessors := by rw [X.admits.platform]
  obtain ⟨vm', hW', X', st⟩ := X.outThrough hlocks q (g := F0 m pc ls rest) rfl rfl rfl (cell := ce) (by rw [hT]; exact hcell) (by rw [hv]; rfl)
    (by obtain ⟨k9, h9, -⟩ := Vm.findClass_spec hcl; exact ⟨k9, h9⟩) (fun z hz => by
      rcases hpass z hz with h | ⟨hz0, nm, hl1, hn1⟩
      · exact Or.inl h
      · obtain ⟨c6, hc6, hcl6⟩ := Cond.classLink_spec hown hl1 e.platform hpl
        obtain ⟨a8, b8, h1, h2, h3⟩ := hn1
        cases Option.some.inj (h1.symm.trans hcl)
        cases Option.some.inj (h2.symm.trans hc6)
        exact Or.inr ⟨hz0, _, hcl6, h3⟩)
  obtain ⟨g₀, hfr⟩ := X'.frames_eq
  have hcell9 : ((T.setVm vm').setFrames (.throwing q :: below)).heap[q]? = some ce := by
    show T.heap[q]? = some ce
    rw [hT]; exact hcell
  have hend : Ended ((T.setVm vm').setFrames (.throwing q :: below)) below (.threw q) := State.frames_setFrames _ (State.cur_lt_of_frames hfr)
  refine ⟨(T.setVm vm').setFrames (.throwing q :: below), ?_, .threw q, X'.here.running, hend, Or.inr ⟨q, rfl, E, ce, locs, hx _ hT (X'.ends _).1.alike, hcell9, hv, hcl, (X'.ends _).1, (X'.ends _).2.mono hc hs, hf⟩⟩
  rw [X.pushThrowing_eq]
  exact st
/-- a thing of a world lies in the heap -/
theorem vx_lt {D : va_G} {cl : List vw_C} {ws : va_W} {H1 : Heap} (h : va_P D cl ws H1) {k : Nat} {q : Nat × va_E} (hk : ws[k]? = some q) : q.1 < H1.size := (h k q hk).lt
end VXS
/-! ===== END ===== -/
/-! ===== BEGIN methods with a table of their own: called by a name, returning or throwing ===== -/
section VXH
/-! vx_backW, vx_callVX, vx_callSX, vx_callVW, vx_runVW, vx_runVX, vx_runSX, vx_ofWH follow the same proofs as their sisters above (Free/Laws.lean, Shelf42/LK1.lean); vx_outP calls Shelf42/NT130.lean (outThrough). -/
section
variable {l : Launch} {R : Room} {p : Program} {e : Env} {below : List Frame} {s : State} {sargs : Array Value} {y : MethodName} {len W9 : Nat}
theorem vx_backW {ws : List Cond} {rm : Room} {Pc : Array Value → State → Prop} {Qc : Array Value → State → Outcome → State → Prop} {XC : String → State → State → Prop} {mc ms : Nat} {free : Addr → Prop} {bytes : ByteArray} {maxL : Nat} {ret : Option FieldType} {hh : List (Nat × Nat × Nat × Nat)}
    (hM : vx_Met l y ws rm Pc Qc XC mc ms free) (hblind : FrameBlind Pc) (hrc : rm.cells = mc) (hrs : rm.slots = ms)
    (hframes : rm.frames + 1 ≤ R.frames) (hlocals : W9 + (maxL + 11) + rm.locals ≤ R.locals)
    (hws : ∀ w ∈ ws, ∀ a' U, s.WarmedH U.vm → w.before a' U = true) (hcode : Cond.codeWith y bytes maxL ret hh ∈ ws) (hinit : ∀ a' U, s.WarmedH U.vm → (Cond.initialized y.cls).before a' U = true) :
    vx_Back l R p e below s sargs y len W9 (PreOf R mc ms Pc) (PostOf Qc mc ms free) (vx_Post XC mc ms free) := by
  intro m meth c A g ig mk a X hg hsize hdg hW hn hp
  have h1 : (headSpec ws rm).pre.before a A.U = true := atoms_intro fun w hw => hws w hw _ _ X.warmed
  have h2 : (Cond.codeWith y bytes maxL ret hh).before a A.U = true := hws _ hcode _ _ X.warmed
  have h3 : (Cond.initialized y.cls).before a A.U = true := hinit _ _ X.warmed
  have h4 : A.cells + (headSpec ws rm).room.cells ≤ R.cells := by rw [show (headSpec ws rm).room.cells = mc from hrc]; exact hp.1
  have h5 : A.slots + (headSpec ws rm).room.slots ≤ R.slots := by rw [show (headSpec ws rm).room.slots = ms from hrs]; exact hp.2.1
  have hPc : Pc a (A.U.calling g mk a) := hblind _ _ _ _ hp.2.2
  obtain ⟨U, Ls, c0, s0⟩ := A
  dsimp only [Pt.U, Pt.locs, Pt.cells, Pt.slots] at h1 h2 h3 h4 h5 X hn hPc ⊢
  obtain ⟨m9, methY, cY, hn9, hmY, hcY, -, hlY, -⟩ := Cond.codeWith_spec h2
  cases Option.some.inj (hn9.symm.trans hn)
  obtain ⟨kY, hkY, -⟩ := className_of_methodNamed hn
  have hinitY : kY.init = .initialized := Cond.initialized_spec (findClass_of_methodNamed hn) hkY h3
  have h : At U g.method c below := by rw [hg]; exact X.here
  have hlocals9 : W9 + (maxL + 11) + (headSpec ws rm).room.locals ≤ R.locals := hlocals
  have happ : (headSpec ws rm).appliesLoose y e.platform (U.calling g mk a) = true :=
    Spec.appliesLoose_calling (g := g) h hdg hn hkY hinitY
      (X.room_calling (g := g) (R' := (headSpec ws rm).room) hsize hmY hcY hframes (by rw [hlY]; omega) h4 h5) h1
  obtain ⟨mid, hmid⟩ := h.above
  have hfr : (U.setTop g).frames = (.java g :: mid) ++ below := by rw [State.frames_setTop' g h.top, hmid]; rfl
  obtain ⟨o, s₂, hsteps, -, hend, hq⟩ := Steps.callFree hM p X.admits X.cas X.clock (acts := []) hfr happ hPc trivial
  have hq' : vx_Q Qc XC mc ms free a (U.calling g mk a) o s₂ := hq
  rw [State.frames_setTop' g h.top] at hend
  obtain ⟨g₀, hg0⟩ := Option.isSome_iff_exists.mp h.top
  obtain ⟨r, hr⟩ := State.topJava?_eq_some.mp hg0
  have hr' : (({ U with heap := s₂.heap, slotsUsed := s₂.slotsUsed } : State).setVm s₂.vm).frames = .java g₀ :: r := hr
  rcases hq' with ⟨hqc, L, hfe, hL⟩ | ⟨q, rfl, E, ce, L, hx, hce, hcv, hcl, hW₂, hsm, hL⟩
  · obtain ⟨⟨v, rfl⟩, hW₂, e2, q2, q3, q4, q5, q6⟩ := id hfe
    have e3 : s₂ = ({ (U.calling g mk a).setFrames s₂.frames with heap := s₂.heap, slotsUsed := s₂.slotsUsed } : State).setVm s₂.vm := by
      have : s₂ = ({ s₂ with vm := (U.calling g mk a).vm } : State).setVm s₂.vm := rfl
      rw [e2] at this
      exact this
    obtain ⟨c₂, i₂, len₂, hc₂, hd₂, hf₂⟩ := hend
    have hW' : U.WarmedH s₂.vm := hW₂
    have hcc : c₂ = c := by
      have h1 : s₂.code? g.method = U.code? g.method := by
        rw [State.code?_eq, State.code?_eq, hW'.alike.method?]
      exact Option.some.inj (hc₂.symm.trans (h1.trans h.code))
    subst hcc
    have hlen : len₂ = len := by rw [hdg] at hd₂; cases hd₂; rfl
    subst hlen
    have hs₂ : s₂ = (({ U with heap := s₂.heap, slotsUsed := s₂.slotsUsed } : State).setVm s₂.vm).setTop { g with pc := g.pc + len₂, stack := v.toList ++ g.stack } := by
      refine e3.trans ?_
      rw [hf₂, State.calling_eq h.top, State.setFrames_setFrames, State.setTop_of_frames _ hr', hr]
      rfl
    have hsame : U.sameButNew ({ U with heap := s₂.heap, slotsUsed := s₂.slotsUsed } : State) L mc ms := by
      refine ⟨?_, q2, q3, q4, q5, q6⟩
      obtain ⟨t, ht, -⟩ := State.frames_cons hr
      show ({ U with heap := s₂.heap, slotsUsed := s₂.slotsUsed } : State) = { U.setFrames U.frames with heap := s₂.heap, slotsUsed := s₂.slotsUsed }
      rw [State.setFrames_self ht]
    subst hg
    refine Or.inl ⟨v, ⟨(({ U with heap := s₂.heap, slotsUsed := s₂.slotsUsed } : State).setVm s₂.vm), Ls ++ L, c0 + mc, s0 + ms⟩,
      ⟨X.admits, X.cas, X.clock, X.frames, X.room, X.hears, X.method, X.code, (X.here.setHeapUsed s₂.heap s₂.slotsUsed).setVm hW'.alike, X.tail, State.WarmedH.trans X.warmed hW', X.limits, X.bytes, X.same.trans (hsame.setVm s.vm)⟩,
      ⟨g, mk, s₂, L, rfl, rfl, hqc, rfl, hL, rfl, rfl⟩, ?_⟩
    show Steps p.tables e below _ ((({ U with heap := s₂.heap, slotsUsed := s₂.slotsUsed } : State).setVm s₂.vm).setTop { g with pc := g.pc + len₂, stack := v.toList ++ g.stack })
    rw [← hs₂]
    exact hsteps
  · obtain ⟨e2, q2, q3, q4, q5, q6⟩ := id hsm
    have e3 : s₂ = ({ (U.calling g mk a).setFrames s₂.frames with heap := s₂.heap, slotsUsed := s₂.slotsUsed } : State).setVm s₂.vm := by
      have : s₂ = ({ s₂ with vm := (U.calling g mk a).vm } : State).setVm s₂.vm := rfl
      rw [e2] at this
      exact this
    have hf₂ : s₂.frames = .throwing q :: .java g :: U.frames.tail := hend
    have hW' : U.WarmedH s₂.vm := hW₂
    have hs₂ : s₂ = ((({ U with heap := s₂.heap, slotsUsed := s₂.slotsUsed } : State).setVm s₂.vm).setTop g).pushFrame (.throwing q) := by
      refine e3.trans ?_
      rw [hf₂, State.calling_eq h.top, State.setFrames_setFrames, State.pushFrame, State.frames_setTop _ hr', State.setTop_of_frames _ hr', State.setFrames_setFrames, hr]
      rfl
    have hsame : U.sameButNew ({ U with heap := s₂.heap, slotsUsed := s₂.slotsUsed } : State) L mc ms := by
      refine ⟨?_, q2, q3, q4, q5, q6⟩
      obtain ⟨t, ht, -⟩ := State.frames_cons hr
      show ({ U with heap := s₂.heap, slotsUsed := s₂.slotsUsed } : State) = { U.setFrames U.frames with heap := s₂.heap, slotsUsed := s₂.slotsUsed }
      rw [State.setFrames_self ht]
    subst hg
    refine Or.inr ⟨q, ⟨(({ U with heap := s₂.heap, slotsUsed := s₂.slotsUsed } : State).setVm s₂.vm), Ls ++ L, c0 + mc, s0 + ms⟩,
      ⟨X.admits, X.cas, X.clock, X.frames, X.room, X.hears, X.method, X.code, (X.here.setHeapUsed s₂.heap s₂.slotsUsed).setVm hW'.alike, X.tail, State.WarmedH.trans X.warmed hW', X.limits, X.bytes, X.same.trans (hsame.setVm s.vm)⟩,
      ⟨g, mk, s₂, L, E, ce, rfl, rfl, hx, hce, hcv, hcl, rfl, hL, rfl, rfl⟩, ?_⟩
    show Steps p.tables e below _ (((({ U with heap := s₂.heap, slotsUsed := s₂.slotsUsed } : State).setVm s₂.vm).setTop g).pushFrame (.throwing q))
    rw [← hs₂]
    exact hsteps
end
variable {p : Program} {l : Launch} {e : Env} {R : Room} {s : State} {m : MethodId} {args : Array Value} {below : List Frame} {meth : Method} {c : Code} {T : State} {H : Heap} {locs : List Loc} {cells slots : Nat}
theorem vx_callVX (X : Stand p l e R s m args below meth c T locs cells slots) (hexec : p.tables.exec = Jvm.exec) {own C : String} {index : Nat} {y : MethodName} {bytes : ByteArray} {maxL : Nat} {ret : Option FieldType} {hh : List (Nat × Nat × Nat × Nat)}
    (hown : s.vm.findClass own = some m.cls) (hlink : (Cond.methodLink own index y).before args s = true) (hinst : (Cond.instanceMethod y).before args s = true) (hsel : (Cond.selects C y y).before args s = true)
    (hcode : (Cond.codeWith y bytes maxL ret hh).before args s = true) (hy : y.cls ≠ "java/lang/invoke/MethodHandle" ∧ y.cls ≠ "java/lang/invoke/VarHandle")
    {W9 : Nat} {Pre : Pt → Array Value → Prop} {Post : Pt → Array Value → Option Value → Pt → Prop} {PostX : Pt → Array Value → Addr → Pt → Prop} (hK : vx_Back l R p e below s args y 3 W9 Pre Post PostX)
    {b : Addr} {cellB : Cell} (hcell : T.heap[b]? = some cellB) (hobj : cellB.vm.isStatics = false) (hcls : s.vm.findClass C = some cellB.cls)
    {g : JFrame} (hg : g.method = m) (hsize : g.locals.size = c.maxLocals) {argsL rest : List Value} (hlen : ∀ sig, parseMethodDescriptor y.desc = some sig → argsL.length = sig.parameters.length)
    (hstack : g.stack = argsL.reverse ++ .ref b :: rest) (hW : 2 * g.monitorRoom + (rest.map fun v => v.category).sum ≤ W9) (hdg : decode c.code g.pc = .ok (.invokevirtual index, 3))
    (hpre : ∀ vm₁, s.WarmedH vm₁ → Pre ⟨T.setVm vm₁, locs, cells, slots⟩ (Value.ref b :: argsL).toArray) :
    (∃ (v : Option Value) (vm₁ : Vm) (B : Pt), s.WarmedH vm₁ ∧ Stand p l e R s m args below meth c B.U B.locs B.cells B.slots ∧ Post ⟨T.setVm vm₁, locs, cells, slots⟩ (Value.ref b :: argsL).toArray v B ∧
      ∀ target, Steps p.tables e below (B.U.setTop { g with pc := g.pc + 3, stack := v.toList ++ rest }) target → Steps p.tables e below (T.setTop g) target) ∨
    (∃ (q : Addr) (vm₁ : Vm) (B : Pt), s.WarmedH vm₁ ∧ Stand p l e R s m args below meth c B.U B.locs B.cells B.slots ∧ PostX ⟨T.setVm vm₁, locs, cells, slots⟩ (Value.ref b :: argsL).toArray q B ∧
      Steps p.tables e below (T.setTop g) ((B.U.setTop { g with stack := rest }).pushFrame (.throwing q))) := by
  obtain ⟨mk, methM, hnamed, hmethM, hstM, habM⟩ := Cond.instanceMethod_spec hinst
  obtain ⟨m8, methM', cM, hn8, hmethM', -, -, -, -, -, -, hsigM⟩ := Cond.codeWith_spec hcode
  cases Option.some.inj (hn8.symm.trans hnamed)
  cases hmethM.symm.trans hmethM'
  obtain ⟨c2, r2, m2, q1, q2, q3, q4, kP, hkP, hkPi⟩ := Cond.selects_spec hsel
  cases hcls.symm.trans q1
  cases (State.methodFound?_of_named hnamed hy).symm.trans q2
  cases hnamed.symm.trans q3
  have hselP : selectMethod e.platform s.vm cellB.cls mk = .method mk := by rw [Launch.admits_selectMethod X.admits]; exact q4
  obtain ⟨vm₁, X₁, hstep₁⟩ := X.invokevirtual hexec hown hlink hnamed hmethM hstM hkP hkPi hy (a := b) (cell := cellB) hcell
    (fun z h => by rw [h] at hobj; cases hobj) hselP hmethM habM hkP hkPi (g := g) hg (argsL := argsL) (rest := rest) (hlen _ hsigM) hstack hdg
  rcases hK m meth c ⟨T.setVm vm₁, locs, cells, slots⟩ { g with stack := rest } (.invokevirtual index) mk (Value.ref b :: argsL).toArray X₁ hg hsize hdg hW (X₁.named hnamed) (hpre vm₁ X₁.warmed) with ⟨v, B, X', hpost, hsteps⟩ | ⟨q, B, X', hpost, hsteps⟩
  · exact Or.inl ⟨v, vm₁, B, X₁.warmed, X', hpost, fun target h => hstep₁ _ fun acts => by rw [doInvoke_state]; exact hsteps.trans h⟩
  · exact Or.inr ⟨q, vm₁, B, X₁.warmed, X', hpost, hstep₁ _ fun acts => by rw [doInvoke_state]; exact hsteps⟩
theorem vx_callSX (X : Stand p l e R s m args below meth c T locs cells slots) (hexec : p.tables.exec = Jvm.exec) {own : String} {index : Nat} {y : MethodName} {bytes : ByteArray} {maxL : Nat} {ret : Option FieldType} {hh : List (Nat × Nat × Nat × Nat)}
    (hown : s.vm.findClass own = some m.cls) (hlink : (Cond.methodLink own index y).before args s = true) (hstat : (Cond.static y).before args s = true) (hinit : (Cond.initialized y.cls).before args s = true)
    (hcode : (Cond.codeWith y bytes maxL ret hh).before args s = true) (hy : y.cls ≠ "java/lang/invoke/MethodHandle" ∧ y.cls ≠ "java/lang/invoke/VarHandle")
    {W9 : Nat} {Pre : Pt → Array Value → Prop} {Post : Pt → Array Value → Option Value → Pt → Prop} {PostX : Pt → Array Value → Addr → Pt → Prop} (hK : vx_Back l R p e below s args y 3 W9 Pre Post PostX)
    {g : JFrame} (hg : g.method = m) (hsize : g.locals.size = c.maxLocals) {argsL rest : List Value} (hlen : ∀ sig, parseMethodDescriptor y.desc = some sig → argsL.length = sig.parameters.length)
    (hstack : g.stack = argsL.reverse ++ rest) (hW : 2 * g.monitorRoom + (rest.map fun v => v.category).sum ≤ W9) (hdg : decode c.code g.pc = .ok (.invokestatic index, 3))
    (hpre : ∀ vm₁, s.WarmedH vm₁ → Pre ⟨T.setVm vm₁, locs, cells, slots⟩ argsL.toArray) :
    (∃ (v : Option Value) (vm₁ : Vm) (B : Pt), s.WarmedH vm₁ ∧ Stand p l e R s m args below meth c B.U B.locs B.cells B.slots ∧ Post ⟨T.setVm vm₁, locs, cells, slots⟩ argsL.toArray v B ∧
      ∀ target, Steps p.tables e below (B.U.setTop { g with pc := g.pc + 3, stack := v.toList ++ rest }) target → Steps p.tables e below (T.setTop g) target) ∨
    (∃ (q : Addr) (vm₁ : Vm) (B : Pt), s.WarmedH vm₁ ∧ Stand p l e R s m args below meth c B.U B.locs B.cells B.slots ∧ PostX ⟨T.setVm vm₁, locs, cells, slots⟩ argsL.toArray q B ∧
      Steps p.tables e below (T.setTop g) ((B.U.setTop { g with stack := rest }).pushFrame (.throwing q))) := by
  obtain ⟨mk, methM, cM, hnamed, hmethM, -, -, -, -, -, -, hsigM⟩ := Cond.codeWith_spec hcode
  have hstatic : methM.isStatic = true := Cond.static_spec hnamed hmethM hstat
  obtain ⟨kP, hkP, -⟩ := className_of_methodNamed hnamed
  have hinitP : kP.init = .initialized := Cond.initialized_spec (findClass_of_methodNamed hnamed) hkP hinit
  obtain ⟨vm₁, X₁, hstep₁⟩ := X.invokestatic hexec hown hlink hnamed hmethM hstatic hkP hinitP hy (g := g) hg (argsL := argsL) (rest := rest) (hlen _ hsigM) hstack hdg
  rcases hK m meth c ⟨T.setVm vm₁, locs, cells, slots⟩ { g with stack := rest } (.invokestatic index) mk argsL.toArray X₁ hg hsize hdg hW (X₁.named hnamed) (hpre vm₁ X₁.warmed) with ⟨v, B, X', hpost, hsteps⟩ | ⟨q, B, X', hpost, hsteps⟩
  · exact Or.inl ⟨v, vm₁, B, X₁.warmed, X', hpost, fun target h => hstep₁ _ fun acts => by rw [doInvoke_state]; exact hsteps.trans h⟩
  · exact Or.inr ⟨q, vm₁, B, X₁.warmed, X', hpost, hstep₁ _ fun acts => by rw [doInvoke_state]; exact hsteps⟩
theorem vx_callVW (X : Stand p l e R s m args below meth c T locs cells slots) (hexec : p.tables.exec = Jvm.exec) {own C : String} {index : Nat} {y : MethodName} {bytes : ByteArray} {maxL : Nat} {ret : Option FieldType} {hh : List (Nat × Nat × Nat × Nat)}
    (hown : s.vm.findClass own = some m.cls) (hlink : (Cond.methodLink own index y).before args s = true) (hinst : (Cond.instanceMethod y).before args s = true) (hsel : (Cond.selects C y y).before args s = true)
    (hcode : (Cond.codeWith y bytes maxL ret hh).before args s = true) (hy : y.cls ≠ "java/lang/invoke/MethodHandle" ∧ y.cls ≠ "java/lang/invoke/VarHandle")
    {W9 : Nat} {Pre : Pt → Array Value → Prop} {Post : Pt → Array Value → Option Value → Pt → Prop} (hK : Back l R p e below s args y 3 W9 Pre Post)
    {b : Addr} {cellB : Cell} (hcell : T.heap[b]? = some cellB) (hobj : cellB.vm.isStatics = false) (hcls : s.vm.findClass C = some cellB.cls)
    {g : JFrame} (hg : g.method = m) (hsize : g.locals.size = c.maxLocals) {argsL rest : List Value} (hlen : ∀ sig, parseMethodDescriptor y.desc = some sig → argsL.length = sig.parameters.length)
    (hstack : g.stack = argsL.reverse ++ .ref b :: rest) (hW : 2 * g.monitorRoom + (rest.map fun v => v.category).sum ≤ W9) (hdg : decode c.code g.pc = .ok (.invokevirtual index, 3))
    (hpre : ∀ vm₁, s.WarmedH vm₁ → Pre ⟨T.setVm vm₁, locs, cells, slots⟩ (Value.ref b :: argsL).toArray) :
    ∃ (v : Option Value) (vm₁ : Vm) (B : Pt), s.WarmedH vm₁ ∧ Stand p l e R s m args below meth c B.U B.locs B.cells B.slots ∧ Post ⟨T.setVm vm₁, locs, cells, slots⟩ (Value.ref b :: argsL).toArray v B ∧
      ∀ target, Steps p.tables e below (B.U.setTop { g with pc := g.pc + 3, stack := v.toList ++ rest }) target → Steps p.tables e below (T.setTop g) target := by
  obtain ⟨mk, methM, hnamed, hmethM, hstM, habM⟩ := Cond.instanceMethod_spec hinst
  obtain ⟨m8, methM', cM, hn8, hmethM', -, -, -, -, -, -, hsigM⟩ := Cond.codeWith_spec hcode
  cases Option.some.inj (hn8.symm.trans hnamed)
  cases hmethM.symm.trans hmethM'
  obtain ⟨c2, r2, m2, q1, q2, q3, q4, kP, hkP, hkPi⟩ := Cond.selects_spec hsel
  cases hcls.symm.trans q1
  cases (State.methodFound?_of_named hnamed hy).symm.trans q2
  cases hnamed.symm.trans q3
  have hselP : selectMethod e.platform s.vm cellB.cls mk = .method mk := by rw [Launch.admits_selectMethod X.admits]; exact q4
  obtain ⟨vm₁, X₁, hstep₁⟩ := X.invokevirtual hexec hown hlink hnamed hmethM hstM hkP hkPi hy (a := b) (cell := cellB) hcell
    (fun z h => by rw [h] at hobj; cases hobj) hselP hmethM habM hkP hkPi (g := g) hg (argsL := argsL) (rest := rest) (hlen _ hsigM) hstack hdg
  obtain ⟨v, B, X', hpost, hsteps⟩ := hK m meth c ⟨T.setVm vm₁, locs, cells, slots⟩ { g with stack := rest } (.invokevirtual index) mk (Value.ref b :: argsL).toArray X₁ hg hsize hdg hW (X₁.named hnamed) (hpre vm₁ X₁.warmed)
  exact ⟨v, vm₁, B, X₁.warmed, X', hpost, fun target h => hstep₁ _ fun acts => by rw [doInvoke_state]; exact hsteps.trans h⟩
abbrev vx_CVW (R : Room) (s : State) (args : Array Value) (own C : String) (index : Nat) (y : MethodName) (bytes : ByteArray) (maxL : Nat) (ret : Option FieldType) (hh : List (Nat × Nat × Nat × Nat)) (ws : List Cond) (rm : Room) (mc ms n : Nat) : Prop :=
  (rm.cells = mc ∧ rm.slots = ms ∧ rm.frames + 1 ≤ R.frames ∧ 8 + (maxL + 11) + rm.locals ≤ R.locals ∧ (∀ w ∈ ws, ∀ (a' : Array Value) (U : State), s.WarmedH U.vm → w.before a' U = true) ∧ Cond.codeWith y bytes maxL ret hh ∈ ws) ∧
  (Cond.codeWith y bytes maxL ret hh).before args s = true ∧ (Cond.initialized y.cls).before args s = true ∧ (y.cls ≠ "java/lang/invoke/MethodHandle" ∧ y.cls ≠ "java/lang/invoke/VarHandle") ∧
  (∀ sig, parseMethodDescriptor y.desc = some sig → n = sig.parameters.length) ∧ (Cond.methodLink own index y).before args s = true ∧ (Cond.instanceMethod y).before args s = true ∧ (Cond.selects C y y).before args s = true
theorem vx_cwVW {own C : String} {index maxL mc ms : Nat} {y : MethodName} {bytes : ByteArray} {ret : Option FieldType} {hh : List (Nat × Nat × Nat × Nat)} {Ts ws ws' : List Cond} {rm : Room} (n : Nat) (ht : ∀ w ∈ Ts, w.before args s = true) (hT : GoodIn Ts (wsV own index C y ws)) (hw : ws = Cond.codeWith y bytes maxL ret hh :: ws') (hrc : rm.cells = mc) (hrs : rm.slots = ms)
    (hd : y.cls = C ∧ y.cls ≠ "java/lang/invoke/MethodHandle" ∧ y.cls ≠ "java/lang/invoke/VarHandle" ∧ (parseMethodDescriptor y.desc).map (fun d => d.parameters.length) = some n) (hR : rm.frames + 1 ≤ R.frames ∧ 8 + (maxL + 11) + rm.locals ≤ R.locals) :
    vx_CVW R s args own C index y bytes maxL ret hh ws rm mc ms n := by
  obtain ⟨hC, hd⟩ := hd
  subst hC
  have ok : ∀ w ∈ wsV own index y.cls y ws, w.before args s = true := fun w h => ht w (hT w h).1
  have hG : GoodIn Ts ws := fun w h => hT w (by unfold wsV; exact List.mem_append_right _ h)
  have hc : Cond.codeWith y bytes maxL ret hh ∈ ws := by rw [hw]; exact List.mem_cons_self
  refine ⟨⟨hrc, hrs, hR.1, hR.2, pay_in ht hG, hc⟩, ht _ (hG _ hc).1, ok _ (by simp [wsV]), ⟨hd.1, hd.2.1⟩, fun sig h => ?_, ok _ (by simp [wsV]), ok _ (by simp [wsV]), ok _ (by simp [wsV])⟩
  have h2 := hd.2.2
  rw [h] at h2
  exact (Option.some.inj h2).symm
theorem vx_runVW {y : MethodName} {bytes cc : ByteArray} {maxL nL mc ms n index : Nat} {ret : Option FieldType} {hh : List (Nat × Nat × Nat × Nat)} {ws : List Cond} {rm : Room} {Pc : Array Value → State → Prop} {Qc : Array Value → State → Outcome → State → Prop} {free : Addr → Prop} {Ts : List Cond} {own C : String} {b : Addr} {As rest : List Value} {g : JFrame}
    (S : CallFix p m c cc nL s args Ts own) (hM : Met l y ws rm Pc Qc mc ms free) (cw : vx_CVW R s args own C index y bytes maxL ret hh ws rm mc ms n) (hp : PreV s H C b Pc As)
    (hg : g.method = m) (hn : As.length = n) (hsize : g.locals.size = nL) (hstack : g.stack = As.reverse ++ .ref b :: rest) (hW : 2 * g.monitorRoom + (rest.map fun v => v.category).sum ≤ 8) (hdg : decode cc g.pc = .ok (.invokevirtual index, 3)) (hf : cells + mc ≤ R.cells ∧ slots + ms ≤ R.slots) :
    va_Run p l e R s m args below meth c H locs cells slots mc ms g rest (Qc (Value.ref b :: As).toArray) free := by
  obtain ⟨⟨hrc, hrs, hfr, hlo, hws, hcw⟩, hcode, hini, hy, hlen, hl, hin, hse⟩ := cw
  have hK : Back l R p e below s args y 3 8 (PreOf R mc ms Pc) (PostOf Qc mc ms free) := va_backW (hh := hh) (bytes := bytes) (maxL := maxL) (ret := ret) hM hp.1 hrc hrs hfr hlo hws hcw (fun a' U hW => word_at hW (Or.inl (by first | rfl | simp [Cond.onTables, Cond.keeps, Cond.steady])) hini)
  obtain ⟨hx, hb, hml, ho, -⟩ := S
  obtain ⟨-, ⟨cellB, hcB, hoB, hclB⟩, hPc⟩ := hp
  intro T hT X
  obtain ⟨v, vm₁, ⟨U', l2, c2, s2⟩, hW₁, X', ⟨g', mk, t, L, e1, e2, hq, h1, hL, h2, h3⟩, st⟩ := vx_callVW X hx (C := C) (hh := hh) (bytes := bytes) (maxL := maxL) (ret := ret) ho hl hin hse hcode hy hK (by rw [hT]; exact hcB) hoB hclB hg (hsize.trans hml.symm) (argsL := As) (rest := rest) (fun sig h => hn.trans (hlen sig h)) hstack hW (by rw [hb]; exact hdg)
    (fun vm₁ hW₁ => ⟨hf.1, hf.2, hPc (T.setVm vm₁) hT hW₁⟩)
  dsimp only [Pt.U, Pt.locs, Pt.cells, Pt.slots] at X' e1 e2 h1 h2 h3 st
  subst h1; subst h2; subst h3
  exact ⟨v, (T.setVm vm₁).calling g' mk (Value.ref b :: As).toArray, t, U', L, hT, X', hL, e1, e2, hq, st⟩
section
variable {y : MethodName} {bytes cc : ByteArray} {maxL nL mc ms n index : Nat} {ret : Option FieldType} {ws : List Cond} {rm : Room} {Pc : Array Value → State → Prop} {Qc : Array Value → State → Outcome → State → Prop} {XC : String → State → State → Prop} {free : Addr → Prop} {Ts : List Cond} {own C : String} {b : Addr} {As rest : List Value} {g : JFrame}
theorem vx_runVX {hh : List (Nat × Nat × Nat × Nat)} (S : CallFix p m c cc nL s args Ts own) (hM : vx_Met l y ws rm Pc Qc XC mc ms free) (cw : vx_CVW R s args own C index y bytes maxL ret hh ws rm mc ms n) (hp : PreV s H C b Pc As)
    (hg : g.method = m) (hn : As.length = n) (hsize : g.locals.size = nL) (hstack : g.stack = As.reverse ++ .ref b :: rest) (hW : 2 * g.monitorRoom + (rest.map fun v => v.category).sum ≤ 8) (hdg : decode cc g.pc = .ok (.invokevirtual index, 3)) (hf : cells + mc ≤ R.cells ∧ slots + ms ≤ R.slots) :
    vx_Run p l e R s m args below meth c H locs cells slots mc ms g rest (Qc (Value.ref b :: As).toArray) XC free := by
  obtain ⟨⟨hrc, hrs, hfr, hlo, hws, hcw⟩, hcode, hini, hy, hlen, hl, hin, hse⟩ := cw
  have hK : vx_Back l R p e below s args y 3 8 (PreOf R mc ms Pc) (PostOf Qc mc ms free) (vx_Post XC mc ms free) := vx_backW (hh := hh) (bytes := bytes) (maxL := maxL) (ret := ret) hM hp.1 hrc hrs hfr hlo hws hcw (fun a' U hW => word_at hW (Or.inl (by first | rfl | simp [Cond.onTables, Cond.keeps, Cond.steady])) hini)
  obtain ⟨hx, hb, hml, ho, -⟩ := S
  obtain ⟨-, ⟨cellB, hcB, hoB, hclB⟩, hPc⟩ := hp
  intro T hT X
  rcases vx_callVX X hx (C := C) (hh := hh) (bytes := bytes) (maxL := maxL) (ret := ret) ho hl hin hse hcode hy hK (by rw [hT]; exact hcB) hoB hclB hg (hsize.trans hml.symm) (argsL := As) (rest := rest) (fun sig h => hn.trans (hlen sig h)) hstack hW (by rw [hb]; exact hdg)
    (fun vm₁ hW₁ => ⟨hf.1, hf.2, hPc (T.setVm vm₁) hT hW₁⟩) with ⟨v, vm₁, ⟨U', l2, c2, s2⟩, hW₁, X', ⟨g', mk, t, L, e1, e2, hq, h1, hL, h2, h3⟩, st⟩ | ⟨q, vm₁, ⟨U', l2, c2, s2⟩, hW₁, X', ⟨g', mk, t, L, E, ce, e1, e2, hq, hce, hcv, hcl, h1, hL, h2, h3⟩, st⟩
  · dsimp only [Pt.U, Pt.locs, Pt.cells, Pt.slots] at X' e1 e2 h1 h2 h3 st
    subst h1; subst h2; subst h3
    exact Or.inl ⟨v, (T.setVm vm₁).calling g' mk (Value.ref b :: As).toArray, t, U', L, hT, X', hL, e1, e2, hq, st⟩
  · dsimp only [Pt.U, Pt.locs, Pt.cells, Pt.slots] at X' e1 e2 h1 h2 h3 st hcl
    subst h1; subst h2; subst h3
    exact Or.inr ⟨q, (T.setVm vm₁).calling g' mk (Value.ref b :: As).toArray, t, U', L, E, ce, hT, X', hL, e1, e2, hq, hce, hcv, vx_cls hW₁ hcl, st⟩
theorem vx_runSX {hh : List (Nat × Nat × Nat × Nat)} (S : CallFix p m c cc nL s args Ts own) (hM : vx_Met l y ws rm Pc Qc XC mc ms free) (cw : vx_CSW R s args own index y bytes maxL ret hh ws rm mc ms n) (hp : PreS s H Pc As)
    (hg : g.method = m) (hn : As.length = n) (hsize : g.locals.size = nL) (hstack : g.stack = As.reverse ++ rest) (hW : 2 * g.monitorRoom + (rest.map fun v => v.category).sum ≤ 8) (hdg : decode cc g.pc = .ok (.invokestatic index, 3)) (hf : cells + mc ≤ R.cells ∧ slots + ms ≤ R.slots) :
    vx_Run p l e R s m args below meth c H locs cells slots mc ms g rest (Qc As.toArray) XC free := by
  obtain ⟨⟨hrc, hrs, hfr, hlo, hws, hcw⟩, hcode, hini, hy, hlen, hl, hstt⟩ := cw
  have hK : vx_Back l R p e below s args y 3 8 (PreOf R mc ms Pc) (PostOf Qc mc ms free) (vx_Post XC mc ms free) := vx_backW (hh := hh) (bytes := bytes) (maxL := maxL) (ret := ret) hM hp.1 hrc hrs hfr hlo hws hcw (fun a' U hW => word_at hW (Or.inl (by first | rfl | simp [Cond.onTables, Cond.keeps, Cond.steady])) hini)
  obtain ⟨hx, hb, hml, ho, -⟩ := S
  intro T hT X
  rcases vx_callSX X hx (hh := hh) (bytes := bytes) (maxL := maxL) (ret := ret) ho hl hstt hini hcode hy hK hg (hsize.trans hml.symm) (argsL := As) (rest := rest) (fun sig h => hn.trans (hlen sig h)) hstack hW (by rw [hb]; exact hdg)
    (fun vm₁ hW₁ => ⟨hf.1, hf.2, hp.2 (T.setVm vm₁) hT hW₁⟩) with ⟨v, vm₁, ⟨U', l2, c2, s2⟩, hW₁, X', ⟨g', mk, t, L, e1, e2, hq, h1, hL, h2, h3⟩, st⟩ | ⟨q, vm₁, ⟨U', l2, c2, s2⟩, hW₁, X', ⟨g', mk, t, L, E, ce, e1, e2, hq, hce, hcv, hcl, h1, hL, h2, h3⟩, st⟩
  · dsimp only [Pt.U, Pt.locs, Pt.cells, Pt.slots] at X' e1 e2 h1 h2 h3 st
    subst h1; subst h2; subst h3
    exact Or.inl ⟨v, (T.setVm vm₁).calling g' mk As.toArray, t, U', L, hT, X', hL, e1, e2, hq, st⟩
  · dsimp only [Pt.U, Pt.locs, Pt.cells, Pt.slots] at X' e1 e2 h1 h2 h3 st hcl
    subst h1; subst h2; subst h3
    exact Or.inr ⟨q, (T.setVm vm₁).calling g' mk As.toArray, t, U', L, E, ce, hT, X', hL, e1, e2, hq, hce, hcv, vx_cls hW₁ hcl, st⟩
end
end VXH
theorem vx_ofWH {l : Launch} {y : MethodName} {ws ws' : List Cond} {rm : Room} {Pc : Array Value → State → Prop} {Qc : Array Value → State → Outcome → State → Prop} {XC : String → State → State → Prop} {mc ms : Nat} {free : Addr → Prop} {cc : ByteArray} {maxL : Nat} {ret : Option FieldType} {hh : List (Nat × Nat × Nat × Nat)}
    (hy : plainName y.cls = true) (hw : ws = Cond.codeWith y cc maxL ret hh :: ws')
    (body : ∀ p e s m args below meth c s₁, BodyLoose p l y (headSpec ws rm) cc maxL ret e s m args below meth c s₁ → c.maxLocals = maxL → Pc args s →
      W p l e (headSpec ws rm).room s m args below meth c s.heap [] 0 0 (vx_MQ below Qc XC args s mc ms free) (entryFrame m args maxL)) : vx_Met l y ws rm Pc Qc XC mc ms free := by
  refine MetFree.of_bodyS (code := cc) (maxLocals := maxL) (ret := ret) hy ?_ ?_
  · intro args s m h hn
    obtain ⟨m9, meth, c, hn9, h1, h2, h3, h4, -, h5, h6, -⟩ := Cond.codeWith_spec (atoms_spec (ws := ws) h _ (by rw [hw]; exact List.mem_cons_self))
    cases hn.symm.trans hn9
    exact ⟨meth, c, h1, h2, h3, h4, h5, h6⟩
  · intro p e s m args below meth c s₁ B hml hP _
    have hh0 : s₁.heap = s.heap := by rw [B.state]; rfl
    obtain ⟨t, a1, o, b1, b2, b3⟩ := body p e s m args below meth c s₁ B hml hP s₁ hh0 (Stand.of_body B)
    exact ⟨t, o, a1, b1, b2, b3⟩
/-! ===== END ===== -/
end
section
/-! CONTEXT AND CALL ROWS: what every method of the class and of the reference may lean on, carried in one predicate; calls of methods that only read; calls of methods that write. -/
/-- words that stay true while the tables grow warm -/
def cx_st : Cond → Bool
  | .arrayClass _ => true
  | .fieldLinkNest .. => true
  | .methodLinkNest .. => true
  | w => w.onTables && w.keepsFace
theorem cx_warm {w : Cond} {A A' : Array Value} {s U : State} (hW : s.WarmedH U.vm) (hw : cx_st w = true) (h : w.before A s = true) : w.before A' U = true := by
  have key : (w.onTables && w.keepsFace) = true → w.before A' U = true := by
    intro hk
    simp only [Bool.and_eq_true] at hk
    have h1 : w.before A (s.setVm U.vm) = true := Cond.before_shiftedFace (State.Shifted.of_warmed hW) w hk.2 h
    exact va_tabs hk.1 (rfl : (s.setVm U.vm).vm = U.vm) h1
  cases w with
  | arrayClass ty => exact word_at hW (Or.inr ⟨ty, rfl⟩) h
  | fieldLinkNest a i b n d hh => exact va_Nw.use rfl (va_Nw.warmF hW (va_Nw.of rfl h))
  | methodLinkNest a i x hh => exact va_Nw.use rfl (va_Nw.warmM hW (va_Nw.of rfl h))
  | _ => exact key hw
def cx_T : List Cond := lw_tbl.filter cx_st
theorem cx_mem {w : Cond} (h : w ∈ lw_tbl) (hs : cx_st w = true) : w ∈ cx_T := List.mem_filter.mpr ⟨h, hs⟩
theorem cx_tab {w : Cond} {i : Nat} (h : tables_1[i]? = some w) (hs : cx_st w = true) : w ∈ cx_T := cx_mem (List.mem_append_right _ (List.mem_of_getElem? h)) hs
def cx_G (U : State) : Prop := ∀ w ∈ cx_T, w.before #[] U = true
theorem cx_G.warm {s U : State} (hW : s.WarmedH U.vm) (h : cx_G s) : cx_G U := fun w hw => cx_warm hW (List.mem_filter.mp hw).2 (h w hw)
theorem cx_G.at {s : State} (h : cx_G s) (A : Array Value) : ∀ w ∈ cx_T, w.before A s = true := fun w hw => cx_warm (State.WarmedH.refl s) (List.mem_filter.mp hw).2 (h w hw)
/-- the classes, their fields -/
def ct_B : u_T := fun k => match k with
  | 0 => ("HostBridge", "world", "LHostBridge$World;", true)
  | 1 => ("HostBridge", "methods", "LHostBridge$Methods;", true)
  | 2 => ("HostBridge", "arguments", "LHostBridge$Arguments;", true)
  | 3 => ("HostBridge", "choice", "LHostBridge$Choice;", true)
  | 4 => ("HostBridge", "diary", "LHostBridge$Diary;", true)
  | _ => ("HostBridge", "answers", "LHostBridge$Answers;", true)
def cy_B : Nat → FieldType := fun k => match k with
  | 0 => .object "HostBridge$World"
  | 1 => .object "HostBridge$Methods"
  | 2 => .object "HostBridge$Arguments"
  | 3 => .object "HostBridge$Choice"
  | 4 => .object "HostBridge$Diary"
  | _ => .object "HostBridge$Answers"
theorem cn_B : ∀ a, a < 6 → ∀ b, b < 6 → a ≠ b → (ct_B a).2.1 ≠ (ct_B b).2.1 := by decide +kernel
theorem cp_B : ∀ k, k < 6 → parseFieldDescriptor (ct_B k).2.2.1 = some (cy_B k) := by decide +kernel
theorem cw_B : ∀ w ∈ u_ws "HostBridge" ct_B 6, w ∈ cx_T := by decide +kernel
def ct_W : u_T := fun k => match k with
  | 0 => ("HostBridge$World", "parents", "[I", true)
  | 1 => ("HostBridge$World", "classOf", "[I", true)
  | 2 => ("HostBridge$World", "classes", "I", false)
  | _ => ("HostBridge$World", "objects", "I", false)
def cy_W : Nat → FieldType := fun k => match k with
  | 0 => .array .int
  | 1 => .array .int
  | 2 => .int
  | _ => .int
theorem cn_W : ∀ a, a < 4 → ∀ b, b < 4 → a ≠ b → (ct_W a).2.1 ≠ (ct_W b).2.1 := by decide +kernel
theorem cp_W : ∀ k, k < 4 → parseFieldDescriptor (ct_W k).2.2.1 = some (cy_W k) := by decide +kernel
theorem cw_W : ∀ w ∈ u_ws "HostBridge$World" ct_W 4, w ∈ cx_T := by decide +kernel
def ct_M : u_T := fun k => match k with
  | 0 => ("HostBridge$Methods", "homes", "[I", true)
  | 1 => ("HostBridge$Methods", "names", "[I", true)
  | 2 => ("HostBridge$Methods", "sizes", "[I", true)
  | 3 => ("HostBridge$Methods", "types", "[I", true)
  | _ => ("HostBridge$Methods", "count", "I", false)
def cy_M : Nat → FieldType := fun k => match k with
  | 0 => .array .int
  | 1 => .array .int
  | 2 => .array .int
  | 3 => .array .int
  | _ => .int
theorem cn_M : ∀ a, a < 5 → ∀ b, b < 5 → a ≠ b → (ct_M a).2.1 ≠ (ct_M b).2.1 := by decide +kernel
theorem cp_M : ∀ k, k < 5 → parseFieldDescriptor (ct_M k).2.2.1 = some (cy_M k) := by decide +kernel
theorem cw_M : ∀ w ∈ u_ws "HostBridge$Methods" ct_M 5, w ∈ cx_T := by decide +kernel
def ct_A : u_T := fun k => match k with
  | 0 => ("HostBridge$Arguments", "world", "LHostBridge$World;", true)
  | 1 => ("HostBridge$Arguments", "kinds", "[I", true)
  | 2 => ("HostBridge$Arguments", "sorts", "[I", true)
  | 3 => ("HostBridge$Arguments", "bits", "[J", true)
  | _ => ("HostBridge$Arguments", "count", "I", false)
def cy_A : Nat → FieldType := fun k => match k with
  | 0 => .object "HostBridge$World"
  | 1 => .array .int
  | 2 => .array .int
  | 3 => .array .long
  | _ => .int
theorem cn_A : ∀ a, a < 5 → ∀ b, b < 5 → a ≠ b → (ct_A a).2.1 ≠ (ct_A b).2.1 := by decide +kernel
theorem cp_A : ∀ k, k < 5 → parseFieldDescriptor (ct_A k).2.2.1 = some (cy_A k) := by decide +kernel
theorem cw_A : ∀ w ∈ u_ws "HostBridge$Arguments" ct_A 5, w ∈ cx_T := by decide +kernel
def ct_C : u_T := fun k => match k with
  | 0 => ("HostBridge$Choice", "world", "LHostBridge$World;", true)
  | 1 => ("HostBridge$Choice", "methods", "LHostBridge$Methods;", true)
  | 2 => ("HostBridge$Choice", "arguments", "LHostBridge$Arguments;", true)
  | 3 => ("HostBridge$Choice", "candidates", "[I", true)
  | 4 => ("HostBridge$Choice", "lowest", "[I", true)
  | _ => ("HostBridge$Choice", "count", "I", false)
def cy_C : Nat → FieldType := fun k => match k with
  | 0 => .object "HostBridge$World"
  | 1 => .object "HostBridge$Methods"
  | 2 => .object "HostBridge$Arguments"
  | 3 => .array .int
  | 4 => .array .int
  | _ => .int
theorem cn_C : ∀ a, a < 6 → ∀ b, b < 6 → a ≠ b → (ct_C a).2.1 ≠ (ct_C b).2.1 := by decide +kernel
theorem cp_C : ∀ k, k < 6 → parseFieldDescriptor (ct_C k).2.2.1 = some (cy_C k) := by decide +kernel
theorem cw_C : ∀ w ∈ u_ws "HostBridge$Choice" ct_C 6, w ∈ cx_T := by decide +kernel
def ct_D : u_T := fun k => match k with
  | 0 => ("HostBridge$Diary", "objects", "[I", true)
  | 1 => ("HostBridge$Diary", "methods", "[I", true)
  | 2 => ("HostBridge$Diary", "sizes", "[I", true)
  | 3 => ("HostBridge$Diary", "values", "[J", true)
  | 4 => ("HostBridge$Diary", "latestGiven", "J", false)
  | _ => ("HostBridge$Diary", "count", "I", false)
def cy_D : Nat → FieldType := fun k => match k with
  | 0 => .array .int
  | 1 => .array .int
  | 2 => .array .int
  | 3 => .array .long
  | 4 => .long
  | _ => .int
theorem cn_D : ∀ a, a < 6 → ∀ b, b < 6 → a ≠ b → (ct_D a).2.1 ≠ (ct_D b).2.1 := by decide +kernel
theorem cp_D : ∀ k, k < 6 → parseFieldDescriptor (ct_D k).2.2.1 = some (cy_D k) := by decide +kernel
theorem cw_D : ∀ w ∈ u_ws "HostBridge$Diary" ct_D 6, w ∈ cx_T := by decide +kernel
def ct_S : u_T := fun k => match k with
  | 0 => ("HostBridge$Answers", "waiting", "[J", true)
  | 1 => ("HostBridge$Answers", "start", "I", false)
  | _ => ("HostBridge$Answers", "count", "I", false)
def cy_S : Nat → FieldType := fun k => match k with
  | 0 => .array .long
  | 1 => .int
  | _ => .int
theorem cn_S : ∀ a, a < 3 → ∀ b, b < 3 → a ≠ b → (ct_S a).2.1 ≠ (ct_S b).2.1 := by decide +kernel
theorem cp_S : ∀ k, k < 3 → parseFieldDescriptor (ct_S k).2.2.1 = some (cy_S k) := by decide +kernel
theorem cw_S : ∀ w ∈ u_ws "HostBridge$Answers" ct_S 3, w ∈ cx_T := by decide +kernel
def ct_R : u_T := fun k => match k with
  | 0 => ("HostBridgeModel", "thrown", "I", false)
  | 1 => ("HostBridgeModel", "classes", "I", false)
  | 2 => ("HostBridgeModel", "parent", "[I", true)
  | 3 => ("HostBridgeModel", "objects", "I", false)
  | 4 => ("HostBridgeModel", "klass", "[I", true)
  | 5 => ("HostBridgeModel", "methods", "I", false)
  | 6 => ("HostBridgeModel", "owner", "[I", true)
  | 7 => ("HostBridgeModel", "names", "[I", true)
  | 8 => ("HostBridgeModel", "counts", "[I", true)
  | 9 => ("HostBridgeModel", "types", "[I", true)
  | 10 => ("HostBridgeModel", "many", "I", false)
  | 11 => ("HostBridgeModel", "kind", "[I", true)
  | 12 => ("HostBridgeModel", "bits", "[J", true)
  | 13 => ("HostBridgeModel", "asked", "[I", true)
  | 14 => ("HostBridgeModel", "candidate", "[Z", true)
  | 15 => ("HostBridgeModel", "calls", "I", false)
  | 16 => ("HostBridgeModel", "calledObject", "[I", true)
  | 17 => ("HostBridgeModel", "calledMethod", "[I", true)
  | 18 => ("HostBridgeModel", "calledMany", "[I", true)
  | 19 => ("HostBridgeModel", "calledWith", "[J", true)
  | 20 => ("HostBridgeModel", "answers", "I", false)
  | 21 => ("HostBridgeModel", "answer", "[J", true)
  | _ => ("HostBridgeModel", "given", "J", false)
def cy_R : Nat → FieldType := fun k => match k with
  | 0 => .int
  | 1 => .int
  | 2 => .array .int
  | 3 => .int
  | 4 => .array .int
  | 5 => .int
  | 6 => .array .int
  | 7 => .array .int
  | 8 => .array .int
  | 9 => .array .int
  | 10 => .int
  | 11 => .array .int
  | 12 => .array .long
  | 13 => .array .int
  | 14 => .array .boolean
  | 15 => .int
  | 16 => .array .int
  | 17 => .array .int
  | 18 => .array .int
  | 19 => .array .long
  | 20 => .int
  | 21 => .array .long
  | _ => .long
theorem cn_R : ∀ a, a < 23 → ∀ b, b < 23 → a ≠ b → (ct_R a).2.1 ≠ (ct_R b).2.1 := by decide +kernel
theorem cp_R : ∀ k, k < 23 → parseFieldDescriptor (ct_R k).2.2.1 = some (cy_R k) := by decide +kernel
theorem cw_R : ∀ w ∈ u_ws "HostBridgeModel" ct_R 23, w ∈ cx_T := by decide +kernel
abbrev cl_all : List vw_C := [("HostBridge", ct_B, 6), ("HostBridge$World", ct_W, 4), ("HostBridge$Methods", ct_M, 5), ("HostBridge$Arguments", ct_A, 5), ("HostBridge$Choice", ct_C, 6), ("HostBridge$Diary", ct_D, 6), ("HostBridge$Answers", ct_S, 3), ("HostBridgeModel", ct_R, 23)]
def cx_strs : List (Nat × String) := [(61, "there is no such parent"), (72, "there are 16 classes"), (79, "there is no such class"), (84, "there is no such name"), (86, "there is no such number of parameters"), (95, "there is no such type"), (101, "the class has this method"), (106, "there are 64 methods"), (114, "there are 64 objects"), (123, "there is no such value"), (126, "there are 4 arguments"), (131, "there is no such argument"), (144, "there is no such object"), (157, "there are no candidates"), (163, "no candidate is the best"), (172, "there is no such method"), (177, "the arguments do not fit"), (180, "there are 64 answers not given yet"), (186, "there was no call"), (192, "there is no such what"), (199, "there is no such call, or it is not kept")]
def wt_l : List Int32 := [-1, -1, -1, -1, 41, 0, -1, -1, -1, -1, -1, 2, 0, 1, 0, -1, -1, -1, 3, 2, -1, 6, -1, -1, 0, 5, 4, -1, -1, -1, -1, -1, 0, 2, -1, -1, -1, -1, -1, 40, 20, -1, -1, -1, -1, -1, 40, 0, -1, 6, 0, 1, 2, 5, 4, -1, 6, -1, 0, 1, 5, 4, -1]
def wt_ (j : Nat) : Int32 := wt_l.getD j 0
section CX
variable {D : va_G} {cI cL cZ : ClassId} {tb : Nat}
abbrev cx_ty (cI cL cZ : ClassId) : List (ClassId × FieldType) := [(cI, .int), (cL, .long), (cZ, .boolean)]
def cx_S (U : State) : Prop := ∀ q ∈ cx_strs, ∃ a, vk_R "HostBridge" q.1 q.2 a U
def cx_Z (tb : Nat) (A : Nat → Prop) (U : State) (H : Heap) : Prop :=
  va_Z "HostBridge$Arguments" "WEIGHTS" "[I" (.ref tb) A U H ∧ va_T .int tb 63 (fun j => .int (wt_ j)) A U H ∧ vx_Zq Bundle.tN "UNASSIGNED_STACK" Bundle.steD A U H ∧ vx_Zq Bundle.tN "SUPPRESSED_SENTINEL" Bundle.listD A U H
def cx (D : va_G) (cI cL cZ : ClassId) (tb : Nat) (A : Nat → Prop) (U : State) (H : Heap) : Prop :=
  cx_G U ∧ va_K D cl_all (cx_ty cI cL cZ) U ∧ cx_S U ∧ cx_Z tb A U H
theorem cx.warm {A : Nat → Prop} {s U : State} {H : Heap} (hW : s.WarmedH U.vm) (h : cx D cI cL cZ tb A s H) : cx D cI cL cZ tb A U H := by
  obtain ⟨h1, h2, h3, h4, h5, h6, h7⟩ := h
  refine ⟨h1.warm hW, va_K.moved hW.alike h2, fun q hq => ?_, va_Z.moved hW.alike h4, va_T.moved hW.alike h5, vx_Zq.moved hW.alike h6, vx_Zq.moved hW.alike h7⟩
  obtain ⟨a, ha⟩ := h3 q hq
  exact ⟨a, vk_R.warm hW ha⟩
theorem cx.kept {A : Nat → Prop} {s : State} {H H1 : Heap} (h : cx D cI cL cZ tb A s H) (hq : ∀ a : Nat, a < H.size → ¬ A a → H1[a]? = H[a]?) : cx D cI cL cZ tb A s H1 :=
  ⟨h.1, h.2.1, h.2.2.1, va_Z.kept h.2.2.2.1 hq, va_T.kept h.2.2.2.2.1 hq, vx_Zq.kept h.2.2.2.2.2.1 hq, vx_Zq.kept h.2.2.2.2.2.2 hq⟩
theorem cx.narrow {A B : Nat → Prop} {s : State} {H : Heap} (h : cx D cI cL cZ tb A s H) (hAB : ∀ q, B q → A q) : cx D cI cL cZ tb B s H :=
  ⟨h.1, h.2.1, h.2.2.1, va_Z.narrow h.2.2.2.1 hAB, va_T.narrow h.2.2.2.2.1 hAB, vx_Zq.narrow h.2.2.2.2.2.1 hAB, vx_Zq.narrow h.2.2.2.2.2.2 hAB⟩
theorem cx.K {A : Nat → Prop} {s : State} {H : Heap} (h : cx D cI cL cZ tb A s H) : va_K D cl_all (cx_ty cI cL cZ) s := h.2.1
theorem cx.ts {A : Nat → Prop} {s : State} {H : Heap} (h : cx D cI cL cZ tb A s H) (a : Array Value) : ∀ w ∈ cx_T, w.before a s = true := h.1.at a
theorem cx.S {A : Nat → Prop} {s : State} {H H1 : Heap} {locs : List Loc} (h : cx D cI cL cZ tb A s H) (hS : va_S A H H1 locs) : cx D cI cL cZ tb A s H1 := h.kept hS.2.1
/-- what a method that only reads starts from -/
def pr_B (D : va_G) (cI cL cZ : ClassId) (tb : Nat) (ws : va_W) (U : State) : Prop := cx D cI cL cZ tb (fun _ => False) U U.heap ∧ va_P D cl_all ws U.heap
abbrev pr_P (D : va_G) (cI cL cZ : ClassId) (tb : Nat) (ws : va_W) (av : List Value) : Array Value → State → Prop := va_Pc av (pr_B D cI cL cZ tb ws)
theorem pr_blind {ws : va_W} {av : List Value} : FrameBlind (pr_P D cI cL cZ tb ws av) := by
  intro a U g mk h
  obtain ⟨h1, h2, h3⟩ := h
  exact ⟨h1, cx.warm (U := U.calling g mk a) (State.WarmedH.refl U) h2, h3⟩
theorem pr_at {A : Nat → Prop} {s U : State} {H : Heap} {ws ws' : va_W} (hC : cx D cI cL cZ tb A s H) (hP : va_P D cl_all ws H) (is : List Nat) (hs : is.filterMap (fun i => ws[i]?) = ws') (hU : U.heap = H) (hW : s.WarmedH U.vm) : pr_B D cI cL cZ tb ws' U := by
  refine ⟨?_, ?_⟩
  · rw [hU]; exact (hC.narrow (fun _ h => h.elim)).warm hW
  · rw [hU]; exact hP.sub is hs
theorem pr_V {A : Nat → Prop} {s : State} {H : Heap} {ws ws' : va_W} {As : List Value} {ci q0 b : Nat} {q : vw_C} {fs : List Value} (hC : cx D cI cL cZ tb A s H) (hP : va_P D cl_all ws H) (is : List Nat) (hs : is.filterMap (fun i => ws[i]?) = ws') (hc : cl_all[ci]? = some q) (he : ws'[q0]? = some (b, .inr (ci, fs))) :
    PreV s H q.1 b (pr_P D cI cL cZ tb ws' (.ref b :: As)) As :=
  ⟨pr_blind, va_recv hC.K (hP.sub is hs) hc he, fun U hU hW => ⟨rfl, pr_at hC hP is hs hU hW⟩⟩
theorem pr_S {A : Nat → Prop} {s : State} {H : Heap} {ws ws' : va_W} {As : List Value} (hC : cx D cI cL cZ tb A s H) (hP : va_P D cl_all ws H) (is : List Nat) (hs : is.filterMap (fun i => ws[i]?) = ws') :
    PreS s H (pr_P D cI cL cZ tb ws' As) As :=
  ⟨pr_blind, fun U hU hW => ⟨rfl, pr_at hC hP is hs hU hW⟩⟩
/-- what a method that writes starts from -/
def pw_B (D : va_G) (cI cL cZ : ClassId) (tb : Nat) (ws : va_W) (sz : Nat) (U : State) : Prop := U.heap.size = sz ∧ cx D cI cL cZ tb (va_A ws sz) U U.heap ∧ va_P D cl_all ws U.heap ∧ va_D (fun _ => True) ws
abbrev pw_P (D : va_G) (cI cL cZ : ClassId) (tb : Nat) (ws : va_W) (sz : Nat) (av : List Value) : Array Value → State → Prop := va_Pc av (pw_B D cI cL cZ tb ws sz)
theorem pw_blind {ws : va_W} {sz : Nat} {av : List Value} : FrameBlind (pw_P D cI cL cZ tb ws sz av) := by
  intro a U g mk h
  obtain ⟨h1, h2, h3, h4, h5⟩ := h
  exact ⟨h1, h2, cx.warm (U := U.calling g mk a) (State.WarmedH.refl U) h3, h4, h5⟩
theorem pw_at {A : Nat → Prop} {s U : State} {H : Heap} {ws ws' : va_W} {locs : List Loc} (hC : cx D cI cL cZ tb A s H) (hP : va_P D cl_all ws H) (hD : va_D A ws) (hS : va_S A s.heap H locs) (hA : ∀ q, s.heap.size ≤ q → A q) (is : List Nat) (hn : va_nd is = true) (hs : is.map (fun i => ws[i]?) = ws'.map some) (hU : U.heap = H) (hW : s.WarmedH U.vm) : pw_B D cI cL cZ tb ws' H.size U := by
  have hf : is.filterMap (fun i => ws[i]?) = ws' := by
    have h1 : is.filterMap (fun i => ws[i]?) = (is.map (fun i => ws[i]?)).filterMap id := by rw [List.filterMap_map]; rfl
    rw [h1, hs, List.filterMap_map]
    simp
  refine ⟨by rw [hU], ?_, ?_, (hD.sub is hn hs).weaken (fun _ _ _ _ => trivial)⟩
  · rw [hU]; exact (hC.narrow (va_free hD hS hA is hs)).warm hW
  · rw [hU]; exact hP.sub is hf
theorem pw_V {A : Nat → Prop} {s : State} {H : Heap} {ws ws' : va_W} {As : List Value} {locs : List Loc} {ci q0 b : Nat} {q : vw_C} {fs : List Value} (hC : cx D cI cL cZ tb A s H) (hP : va_P D cl_all ws H) (hD : va_D A ws) (hS : va_S A s.heap H locs) (hA : ∀ q, s.heap.size ≤ q → A q) (is : List Nat) (hn : va_nd is = true) (hs : is.map (fun i => ws[i]?) = ws'.map some) (hc : cl_all[ci]? = some q) (he : ws'[q0]? = some (b, .inr (ci, fs))) :
    PreV s H q.1 b (pw_P D cI cL cZ tb ws' H.size (.ref b :: As)) As := by
  refine ⟨pw_blind, ?_, fun U hU hW => ⟨rfl, pw_at hC hP hD hS hA is hn hs hU hW⟩⟩
  have hf : is.filterMap (fun i => ws[i]?) = ws' := by
    have h1 : is.filterMap (fun i => ws[i]?) = (is.map (fun i => ws[i]?)).filterMap id := by rw [List.filterMap_map]; rfl
    rw [h1, hs, List.filterMap_map]
    simp
  exact va_recv hC.K (hP.sub is hf) hc he
theorem pw_S {A : Nat → Prop} {s : State} {H : Heap} {ws ws' : va_W} {As : List Value} {locs : List Loc} (hC : cx D cI cL cZ tb A s H) (hP : va_P D cl_all ws H) (hD : va_D A ws) (hS : va_S A s.heap H locs) (hA : ∀ q, s.heap.size ≤ q → A q) (is : List Nat) (hn : va_nd is = true) (hs : is.map (fun i => ws[i]?) = ws'.map some) :
    PreS s H (pw_P D cI cL cZ tb ws' H.size As) As := ⟨pw_blind, fun U hU hW => ⟨rfl, pw_at hC hP hD hS hA is hn hs hU hW⟩⟩
end CX
/-- a world with some of its places put anew -/
def hx_put (ws : va_W) : List Nat → va_W → va_W
  | i :: is, q :: w => hx_put (ws.set i q) is w
  | _, _ => ws
theorem hx_put_at : ∀ (is : List Nat) (w ws : va_W), is.length = w.length → ∀ (k : Nat) (q : Nat × va_E), (hx_put ws is w)[k]? = some q → (∃ j : Nat, is[j]? = some k ∧ w[j]? = some q) ∨ (k ∉ is ∧ ws[k]? = some q)
  | [], [], ws, _, k, q, h => Or.inr ⟨List.not_mem_nil, h⟩
  | [], _ :: _, _, hl, _, _, _ => by simp at hl
  | _ :: _, [], _, hl, _, _, _ => by simp at hl
  | i :: is, q0 :: w, ws, hl, k, q, h => by
    rcases hx_put_at is w (ws.set i q0) (by simpa using hl) k q h with ⟨j, h1, h2⟩ | ⟨h1, h2⟩
    · exact Or.inl ⟨j + 1, by simpa using h1, by simpa using h2⟩
    · by_cases hk : k = i
      · subst hk
        have hlt : k < ws.length := by
          have := (List.getElem?_eq_some_iff.mp h2).1
          simpa using this
        rw [List.getElem?_set_self hlt] at h2
        exact Or.inl ⟨0, rfl, by simpa using h2⟩
      · rw [List.getElem?_set_ne (Ne.symm hk)] at h2
        exact Or.inr ⟨fun hm => (List.mem_cons.mp hm).elim hk h1, h2⟩
theorem hx_join {A0 : Nat → Prop} {D : va_G} {cl : List vw_C} {ws wc w1 : va_W} {H H1 : Heap} (hP : va_P D cl ws H) (hD : va_D A0 ws) (is : List Nat) (hC : is.map (fun i => ws[i]?) = wc.map some) (ha : w1.map (fun q => q.1) = wc.map (fun q => q.1))
    (hk : ∀ q : Nat, q < H.size → ¬ va_A wc H.size q → H1[q]? = H[q]?) (hP1 : va_P D cl w1 H1) : va_P D cl (hx_put ws is w1) H1 ∧ va_D A0 (hx_put ws is w1) := by
  have hl : is.length = w1.length := by
    have h1 := congrArg List.length hC
    have h2 := congrArg List.length ha
    simp only [List.length_map] at h1 h2
    omega
  have atC : ∀ (j i : Nat), is[j]? = some i → ∃ q, wc[j]? = some q ∧ ws[i]? = some q := by
    intro j i hj
    have h1 : (is.map (fun i => ws[i]?))[j]? = some (ws[i]?) := by rw [List.getElem?_map, hj]; rfl
    rw [hC, List.getElem?_map] at h1
    cases hw : wc[j]? with
    | none => rw [hw] at h1; cases h1
    | some q => rw [hw] at h1; exact ⟨q, rfl, (Option.some.inj h1).symm⟩
  have adr : ∀ (j : Nat) (q : Nat × va_E), w1[j]? = some q → ∃ q', wc[j]? = some q' ∧ q'.1 = q.1 := by
    intro j q hj
    have h1 : (w1.map (fun q => q.1))[j]? = some q.1 := by rw [List.getElem?_map, hj]; rfl
    rw [ha, List.getElem?_map] at h1
    cases hw : wc[j]? with
    | none => rw [hw] at h1; cases h1
    | some q' => rw [hw] at h1; exact ⟨q', rfl, Option.some.inj h1⟩
  have same : ∀ (k : Nat) (q : Nat × va_E), (hx_put ws is w1)[k]? = some q → ∃ q', ws[k]? = some q' ∧ q'.1 = q.1 := by
    intro k q h
    rcases hx_put_at is w1 ws hl k q h with ⟨j, h1, h2⟩ | ⟨-, h2⟩
    · obtain ⟨q1, e1, e2⟩ := atC j k h1
      obtain ⟨q2, e3, e4⟩ := adr j q h2
      cases Option.some.inj (e1.symm.trans e3)
      exact ⟨q1, e2, e4⟩
    · exact ⟨q, h2, rfl⟩
  refine ⟨fun k q h => ?_, fun i j x y hi hj hxy => ?_, fun k q h => ?_⟩
  · rcases hx_put_at is w1 ws hl k q h with ⟨j, h1, h2⟩ | ⟨h1, h2⟩
    · exact hP1 j q h2
    · have hlt := (hP k q h2).lt
      refine (hP k q h2).kept (hk q.1 hlt (fun hA => ?_))
      rcases hA with ⟨j, e, he⟩ | hz
      · have hj : j < is.length := by
          have h3 := (List.getElem?_eq_some_iff.mp he).1
          have h2' := congrArg List.length ha
          simp only [List.length_map] at h2'
          omega
        obtain ⟨i, hi⟩ : ∃ i, is[j]? = some i := ⟨_, List.getElem?_eq_getElem hj⟩
        obtain ⟨q1, e1, e2⟩ := atC j i hi
        cases Option.some.inj (e1.symm.trans he)
        have hki := hD.1 k i q _ h2 e2 rfl
        subst hki
        exact h1 (List.mem_of_getElem? hi)
      · omega
  · obtain ⟨x0, h1, h2⟩ := same i x hi
    obtain ⟨y0, h3, h4⟩ := same j y hj
    exact hD.1 i j x0 y0 h1 h3 (h2.trans (hxy.trans h4.symm))
  · obtain ⟨q0, h1, h2⟩ := same k q h
    rw [← h2]
    exact hD.2 k q0 h1
section HX
variable {p : Program} {l : Launch} {e : Env} {R : Room} {s : State} {m : MethodId} {args : Array Value} {below : List Frame} {meth : Method} {c : Code} {H : Heap} {locs : List Loc} {cells slots : Nat} {Q : State → Prop}
variable {pc : Nat} {ls : Array Slot} {rest st0 : List Value} {a : Array Value} {cc : ByteArray}
/-- a method that only reads: what it answers; the heap stays -/
def hx_QR (v : Option Value) : Array Value → State → Outcome → State → Prop := fun _ st o t => o = .returned v ∧ t.heap = st.heap
/-- a method that writes: what it answers, the world behind it -/
def hx_QW (D : va_G) (v : Option Value) (w' : va_W) (A : Nat → Prop) : Array Value → State → Outcome → State → Prop := fun _ st o t => o = .returned v ∧ va_P D cl_all w' t.heap ∧ va_F A st t
theorem hx_callR {v : Option Value} (hr : va_Run p l e R s m args below meth c H locs cells slots 0 0 (F0 m pc ls st0) rest (hx_QR v a) (fun _ => False)) (kk : W p l e R s m args below meth c H locs cells slots Q (F0 m (pc + 3) ls (v.toList ++ rest))) : W p l e R s m args below meth c H locs cells slots Q (F0 m pc ls st0) := by
  intro T hT X
  obtain ⟨v', st₀, t, T', L, h0, X', hL, e1, -, ⟨hv, hh⟩, st⟩ := hr T hT X
  cases hv
  obtain ⟨t2, a1, b1⟩ := kk T' (by rw [e1, hh, h0]) (Stand.forget X' (fun q h => (hL q h).elim))
  exact ⟨t2, st t2 a1, b1⟩
theorem hx_callW {D : va_G} {v : Option Value} {ws wc w1 : va_W} {A0 : Nat → Prop} {mc ms : Nat} (hr : va_Run p l e R s m args below meth c H locs cells slots mc ms (F0 m pc ls st0) rest (hx_QW D v w1 (va_A wc H.size) a) (va_A wc H.size)) (hP : va_P D cl_all ws H) (hD : va_D A0 ws) (hS : va_S A0 s.heap H locs) (hA : ∀ q, s.heap.size ≤ q → A0 q) (is : List Nat) (hC : is.map (fun i => ws[i]?) = wc.map some) (ha : w1.map (fun q => q.1) = wc.map (fun q => q.1))
    (kk : ∀ (H1 : Heap) (locs1 : List Loc), va_P D cl_all (hx_put ws is w1) H1 → va_D A0 (hx_put ws is w1) → va_S A0 s.heap H1 locs1 → (∀ q : Nat, q < H.size → ¬ va_A wc H.size q → H1[q]? = H[q]?) → W p l e R s m args below meth c H1 locs1 (cells + mc) (slots + ms) Q (F0 m (pc + 3) ls (v.toList ++ rest))) : W p l e R s m args below meth c H locs cells slots Q (F0 m pc ls st0) := by
  intro T hT X
  obtain ⟨v', st₀, t, T', L, h0, X', hL, e1, -, ⟨hv, hp, hF⟩, st⟩ := hr T hT X
  cases hv
  have hfr := va_free hD hS hA is hC
  obtain ⟨k1, k2, k3⟩ := vx_keep h0 e1 hS (fun q _ h => hfr q h) hfr hL hF
  obtain ⟨j1, j2⟩ := hx_join hP hD is hC ha k2 (by rw [e1]; exact hp)
  obtain ⟨t2, a1, b1⟩ := kk T'.heap (locs ++ L) j1 j2 k3 k2 T' rfl X'
  exact ⟨t2, st t2 a1, b1⟩
/-- a number on the stack by another name -/
theorem hx_topi {x y : Int32} (h : x = y) (k : W p l e R s m args below meth c H locs cells slots Q (F0 m pc ls (.int y :: rest))) : W p l e R s m args below meth c H locs cells slots Q (F0 m pc ls (.int x :: rest)) := by subst h; exact k
theorem hx_topl {x y : Int64} (h : x = y) (k : W p l e R s m args below meth c H locs cells slots Q (F0 m pc ls (.long y :: rest))) : W p l e R s m args below meth c H locs cells slots Q (F0 m pc ls (.long x :: rest)) := by subst h; exact k
theorem hx_iretR {v r : Int32} (hx : p.tables.exec = Jvm.exec) (hb : c.code = cc) (hr : meth.sig.returnType = some .int) (hlocks : meth.locks = false) (h : v = r) (hdg : decode cc pc = .ok (.ireturn, 1)) : W p l e R s m args below meth c s.heap [] 0 0 (MQ below (hx_QR (some (.int r))) args s 0 0 (fun _ => False)) (F0 m pc ls [.int v]) := by
  subst h
  exact W.iret hx hb hr (fun t ht _ => ⟨rfl, ht⟩) (fun q h => by cases h) hdg hlocks
/-- a truth as the machine has it -/
def b2_ (b : Bool) : Int32 := if b then 1 else 0
theorem b2_nar (b : Bool) : narrow .boolean (.int (b2_ b)) = .int (b2_ b) := by cases b <;> decide
theorem hx_zretR {v : Int32} {r : Bool} (hx : p.tables.exec = Jvm.exec) (hb : c.code = cc) (hr : meth.sig.returnType = some .boolean) (hlocks : meth.locks = false) (h : v = b2_ r) (hdg : decode cc pc = .ok (.ireturn, 1)) : W p l e R s m args below meth c s.heap [] 0 0 (MQ below (hx_QR (some (.int (b2_ r)))) args s 0 0 (fun _ => False)) (F0 m pc ls [.int v]) := by
  subst h
  exact W.zret hx hb hr (b2_nar r) (fun t ht _ => ⟨rfl, ht⟩) (fun q h => by cases h) hdg hlocks
theorem hx_lretR {v r : Int64} (hx : p.tables.exec = Jvm.exec) (hb : c.code = cc) (hr : meth.sig.returnType = some .long) (hlocks : meth.locks = false) (h : v = r) (hdg : decode cc pc = .ok (.lreturn, 1)) : W p l e R s m args below meth c s.heap [] 0 0 (MQ below (hx_QR (some (.long r))) args s 0 0 (fun _ => False)) (F0 m pc ls [.long v]) := by
  subst h
  exact W.lret hx hb hr (fun t ht _ => ⟨rfl, ht⟩) (fun q h => by cases h) hdg hlocks
theorem hx_iretW {D : va_G} {w' : va_W} {A : Nat → Prop} {v r : Int32} (hx : p.tables.exec = Jvm.exec) (hb : c.code = cc) (hr : meth.sig.returnType = some .int) (hlocks : meth.locks = false) (h : v = r) (hP : va_P D cl_all w' H) (hS : va_S A s.heap H locs) (hdg : decode cc pc = .ok (.ireturn, 1)) : W p l e R s m args below meth c H locs cells slots (MQ below (hx_QW D (some (.int r)) w' A) args s cells slots A) (F0 m pc ls [.int v]) := by
  subst h
  exact W.iret hx hb hr (fun t ht _ => ⟨rfl, by rw [ht]; exact hP, hS.F ht⟩) hS.2.2 hdg hlocks
theorem hx_zretW {D : va_G} {w' : va_W} {A : Nat → Prop} {v : Int32} {r : Bool} (hx : p.tables.exec = Jvm.exec) (hb : c.code = cc) (hr : meth.sig.returnType = some .boolean) (hlocks : meth.locks = false) (h : v = b2_ r) (hP : va_P D cl_all w' H) (hS : va_S A s.heap H locs) (hdg : decode cc pc = .ok (.ireturn, 1)) : W p l e R s m args below meth c H locs cells slots (MQ below (hx_QW D (some (.int (b2_ r))) w' A) args s cells slots A) (F0 m pc ls [.int v]) := by
  subst h
  exact W.zret hx hb hr (b2_nar r) (fun t ht _ => ⟨rfl, by rw [ht]; exact hP, hS.F ht⟩) hS.2.2 hdg hlocks
theorem hx_lretW {D : va_G} {w' : va_W} {A : Nat → Prop} {v r : Int64} (hx : p.tables.exec = Jvm.exec) (hb : c.code = cc) (hr : meth.sig.returnType = some .long) (hlocks : meth.locks = false) (h : v = r) (hP : va_P D cl_all w' H) (hS : va_S A s.heap H locs) (hdg : decode cc pc = .ok (.lreturn, 1)) : W p l e R s m args below meth c H locs cells slots (MQ below (hx_QW D (some (.long r)) w' A) args s cells slots A) (F0 m pc ls [.long v]) := by
  subst h
  exact W.lret hx hb hr (fun t ht _ => ⟨rfl, by rw [ht]; exact hP, hS.F ht⟩) hS.2.2 hdg hlocks
theorem hx_vretW {D : va_G} {w' : va_W} {A : Nat → Prop} (hx : p.tables.exec = Jvm.exec) (hb : c.code = cc) (hr : meth.sig.returnType = none) (hlocks : meth.locks = false) (hP : va_P D cl_all w' H) (hS : va_S A s.heap H locs) (hdg : decode cc pc = .ok (.return_, 1)) : W p l e R s m args below meth c H locs cells slots (MQ below (hx_QW D none w' A) args s cells slots A) (F0 m pc ls []) :=
  W.vret hx hb hr (fun t ht _ => ⟨rfl, by rw [ht]; exact hP, hS.F ht⟩) hS.2.2 hdg hlocks
variable {D : va_G} {cI cL cZ : ClassId} {ws : va_W} {A : Nat → Prop}
/-- arrays, the place by its number -/
theorem hx_iald (hexec : p.tables.exec = Jvm.exec) (hb : c.code = cc) (hK : va_K D cl_all (cx_ty cI cL cZ) s) (hP : va_P D cl_all ws H) (q0 : Nat) {b n : Nat} {f : Nat → Int32} (ha : ws[q0]? = some (b, .inl (cI, n, .inl f))) {i : Int32} {j : Nat} (hj : i = nI j) (hlt : j < n) (hn : n < 2 ^ 31) (hdg : decode cc pc = .ok (.iaload, 1))
    (kk : W p l e R s m args below meth c H locs cells slots Q (F0 m (pc + 1) ls (.int (f j) :: rest))) : W p l e R s m args below meth c H locs cells slots Q (F0 m pc ls (.int i :: .ref b :: rest)) := by
  subst hj
  refine va_iald hexec hb hK hP q0 0 ha rfl (vp_in_nI hlt hn) hdg ?_
  rw [nI_clamp (Nat.lt_trans hlt hn)]
  exact kk
theorem hx_lald (hexec : p.tables.exec = Jvm.exec) (hb : c.code = cc) (hK : va_K D cl_all (cx_ty cI cL cZ) s) (hP : va_P D cl_all ws H) (q0 : Nat) {b n : Nat} {f : Nat → Int64} (ha : ws[q0]? = some (b, .inl (cL, n, .inr (.inl f)))) {i : Int32} {j : Nat} (hj : i = nI j) (hlt : j < n) (hn : n < 2 ^ 31) (hdg : decode cc pc = .ok (.laload, 1))
    (kk : W p l e R s m args below meth c H locs cells slots Q (F0 m (pc + 1) ls (.long (f j) :: rest))) : W p l e R s m args below meth c H locs cells slots Q (F0 m pc ls (.int i :: .ref b :: rest)) := by
  subst hj
  refine va_lald hexec hb hK hP q0 1 ha rfl (vp_in_nI hlt hn) hdg ?_
  rw [nI_clamp (Nat.lt_trans hlt hn)]
  exact kk
theorem hx_zald (hexec : p.tables.exec = Jvm.exec) (hb : c.code = cc) (hK : va_K D cl_all (cx_ty cI cL cZ) s) (hP : va_P D cl_all ws H) (q0 : Nat) {b n : Nat} {f : Nat → Int32} (ha : ws[q0]? = some (b, .inl (cZ, n, .inl f))) {i : Int32} {j : Nat} (hj : i = nI j) (hlt : j < n) (hn : n < 2 ^ 31) (hdg : decode cc pc = .ok (.baload, 1))
    (kk : W p l e R s m args below meth c H locs cells slots Q (F0 m (pc + 1) ls (.int (f j) :: rest))) : W p l e R s m args below meth c H locs cells slots Q (F0 m pc ls (.int i :: .ref b :: rest)) := by
  subst hj
  refine va_zald hexec hb hK hP q0 2 ha rfl (vp_in_nI hlt hn) hdg ?_
  rw [nI_clamp (Nat.lt_trans hlt hn)]
  exact kk
theorem hx_iast (hexec : p.tables.exec = Jvm.exec) (hb : c.code = cc) (hK : va_K D cl_all (cx_ty cI cL cZ) s) (hP : va_P D cl_all ws H) (hD : va_D A ws) (hS : va_S A s.heap H locs) (q0 : Nat) {b n : Nat} {f : Nat → Int32} (ha : ws[q0]? = some (b, .inl (cI, n, .inl f))) {i x : Int32} {j : Nat} (hj : i = nI j) (hlt : j < n) (hn : n < 2 ^ 31) (hdg : decode cc pc = .ok (.iastore, 1))
    (kk : ∀ (H1 : Heap) (locs1 : List Loc), va_P D cl_all (ws.set q0 (b, .inl (cI, n, .inl (upd f j x)))) H1 → va_D A (ws.set q0 (b, .inl (cI, n, .inl (upd f j x)))) → va_S A s.heap H1 locs1 → W p l e R s m args below meth c H1 locs1 cells slots Q (F0 m (pc + 1) ls rest)) : W p l e R s m args below meth c H locs cells slots Q (F0 m pc ls (.int x :: .int i :: .ref b :: rest)) := by
  subst hj
  refine va_iast hexec hb hK hP hD hS q0 0 ha rfl (vp_in_nI hlt hn) hdg ?_
  rw [nI_clamp (Nat.lt_trans hlt hn)]
  exact kk
theorem hx_last (hexec : p.tables.exec = Jvm.exec) (hb : c.code = cc) (hK : va_K D cl_all (cx_ty cI cL cZ) s) (hP : va_P D cl_all ws H) (hD : va_D A ws) (hS : va_S A s.heap H locs) (q0 : Nat) {b n : Nat} {f : Nat → Int64} (ha : ws[q0]? = some (b, .inl (cL, n, .inr (.inl f)))) {i : Int32} {x : Int64} {j : Nat} (hj : i = nI j) (hlt : j < n) (hn : n < 2 ^ 31) (hdg : decode cc pc = .ok (.lastore, 1))
    (kk : ∀ (H1 : Heap) (locs1 : List Loc), va_P D cl_all (ws.set q0 (b, .inl (cL, n, .inr (.inl (vp_updL f j x))))) H1 → va_D A (ws.set q0 (b, .inl (cL, n, .inr (.inl (vp_updL f j x))))) → va_S A s.heap H1 locs1 → W p l e R s m args below meth c H1 locs1 cells slots Q (F0 m (pc + 1) ls rest)) : W p l e R s m args below meth c H locs cells slots Q (F0 m pc ls (.long x :: .int i :: .ref b :: rest)) := by
  subst hj
  refine va_last hexec hb hK hP hD hS q0 1 ha rfl (vp_in_nI hlt hn) hdg ?_
  rw [nI_clamp (Nat.lt_trans hlt hn)]
  exact kk
end HX
end
section
/-! NAMES: each method by its class and name: kc_ its code, ky_ its name, kw_ its one word; km_ words of the tables by their places (written by wip/gen/names.py) -/
abbrev kc_B_init : ByteArray := prog_1_method_1_code
abbrev ky_B_init : MethodName := ⟨"HostBridge", "<init>", "()V"⟩
abbrev kw_B_init : List Cond := [.code ky_B_init kc_B_init 1 none]
abbrev kc_W_init : ByteArray := prog_8_method_1_code
abbrev ky_W_init : MethodName := ⟨"HostBridge$World", "<init>", "()V"⟩
abbrev kw_W_init : List Cond := [.code ky_W_init kc_W_init 1 none]
abbrev kc_M_init : ByteArray := prog_6_method_1_code
abbrev ky_M_init : MethodName := ⟨"HostBridge$Methods", "<init>", "()V"⟩
abbrev kw_M_init : List Cond := [.code ky_M_init kc_M_init 1 none]
abbrev kc_A_init : ByteArray := prog_3_method_1_code
abbrev ky_A_init : MethodName := ⟨"HostBridge$Arguments", "<init>", "(LHostBridge$World;)V"⟩
abbrev kw_A_init : List Cond := [.code ky_A_init kc_A_init 2 none]
abbrev kc_C_init : ByteArray := prog_4_method_1_code
abbrev ky_C_init : MethodName := ⟨"HostBridge$Choice", "<init>", "(LHostBridge$World;LHostBridge$Methods;LHostBridge$Arguments;)V"⟩
abbrev kw_C_init : List Cond := [.code ky_C_init kc_C_init 4 none]
abbrev kc_D_init : ByteArray := prog_5_method_1_code
abbrev ky_D_init : MethodName := ⟨"HostBridge$Diary", "<init>", "()V"⟩
abbrev kw_D_init : List Cond := [.code ky_D_init kc_D_init 1 none]
abbrev kc_S_init : ByteArray := prog_2_method_1_code
abbrev ky_S_init : MethodName := ⟨"HostBridge$Answers", "<init>", "()V"⟩
abbrev kw_S_init : List Cond := [.code ky_S_init kc_S_init 1 none]
abbrev kc_B_calls : ByteArray := prog_1_method_11_code
abbrev ky_B_calls : MethodName := ⟨"HostBridge", "calls", "()I"⟩
abbrev kw_B_calls : List Cond := [.code ky_B_calls kc_B_calls 1 (some .int)]
abbrev kc_L_klass : ByteArray := method_3_code
abbrev ky_L_klass : MethodName := ⟨"HostBridgeLaw", "klass", "(LHostBridge;I[J)I"⟩
abbrev kw_L_klass : List Cond := [.codeWith ky_L_klass kc_L_klass 4 (some .int) [(0, 9, 12, 13), (0, 9, 15, 15)]]
abbrev kc_B_klass : ByteArray := prog_1_method_2_code
abbrev ky_B_klass : MethodName := ⟨"HostBridge", "klass", "(I)I"⟩
abbrev kw_B_klass : List Cond := [.code ky_B_klass kc_B_klass 2 (some .int)]
abbrev kc_W_hasClass : ByteArray := prog_8_method_2_code
abbrev ky_W_hasClass : MethodName := ⟨"HostBridge$World", "hasClass", "(I)Z"⟩
abbrev kw_W_hasClass : List Cond := [.code ky_W_hasClass kc_W_hasClass 2 (some .boolean)]
abbrev kc_W_addClass : ByteArray := prog_8_method_6_code
abbrev ky_W_addClass : MethodName := ⟨"HostBridge$World", "addClass", "(I)I"⟩
abbrev kw_W_addClass : List Cond := [.code ky_W_addClass kc_W_addClass 2 (some .int)]
abbrev kc_L_method : ByteArray := method_4_code
abbrev ky_L_method : MethodName := ⟨"HostBridgeLaw", "method", "(LHostBridge;IIIII[J)I"⟩
abbrev kw_L_method : List Cond := [.codeWith ky_L_method kc_L_method 8 (some .int) [(0, 16, 19, 13), (0, 16, 23, 15)]]
abbrev kc_B_method : ByteArray := prog_1_method_3_code
abbrev ky_B_method : MethodName := ⟨"HostBridge", "method", "(IIIII)I"⟩
abbrev kw_B_method : List Cond := [.code ky_B_method kc_B_method 6 (some .int)]
abbrev kc_B_isName : ByteArray := prog_1_method_16_code
abbrev ky_B_isName : MethodName := ⟨"HostBridge", "isName", "(I)Z"⟩
abbrev kw_B_isName : List Cond := [.code ky_B_isName kc_B_isName 1 (some .boolean)]
abbrev kc_W_hasTypes : ByteArray := prog_8_method_5_code
abbrev ky_W_hasTypes : MethodName := ⟨"HostBridge$World", "hasTypes", "(II)Z"⟩
abbrev kw_W_hasTypes : List Cond := [.code ky_W_hasTypes kc_W_hasTypes 4 (some .boolean)]
abbrev kc_B_typeAt : ByteArray := prog_1_method_17_code
abbrev ky_B_typeAt : MethodName := ⟨"HostBridge", "typeAt", "(III)I"⟩
abbrev kw_B_typeAt : List Cond := [.code ky_B_typeAt kc_B_typeAt 3 (some .int)]
abbrev kc_W_hasType : ByteArray := prog_8_method_4_code
abbrev ky_W_hasType : MethodName := ⟨"HostBridge$World", "hasType", "(I)Z"⟩
abbrev kw_W_hasType : List Cond := [.code ky_W_hasType kc_W_hasType 2 (some .boolean)]
abbrev kc_M_find : ByteArray := prog_6_method_4_code
abbrev ky_M_find : MethodName := ⟨"HostBridge$Methods", "find", "(IIII)I"⟩
abbrev kw_M_find : List Cond := [.code ky_M_find kc_M_find 6 (some .int)]
abbrev kc_M_isCalled : ByteArray := prog_6_method_3_code
abbrev ky_M_isCalled : MethodName := ⟨"HostBridge$Methods", "isCalled", "(IIII)Z"⟩
abbrev kw_M_isCalled : List Cond := [.code ky_M_isCalled kc_M_isCalled 5 (some .boolean)]
abbrev kc_M_add : ByteArray := prog_6_method_2_code
abbrev ky_M_add : MethodName := ⟨"HostBridge$Methods", "add", "(IIII)I"⟩
abbrev kw_M_add : List Cond := [.code ky_M_add kc_M_add 5 (some .int)]
abbrev kc_L_object : ByteArray := method_5_code
abbrev ky_L_object : MethodName := ⟨"HostBridgeLaw", "object", "(LHostBridge;I[J)I"⟩
abbrev kw_L_object : List Cond := [.codeWith ky_L_object kc_L_object 4 (some .int) [(0, 9, 12, 13), (0, 9, 15, 15)]]
abbrev kc_B_object : ByteArray := prog_1_method_4_code
abbrev ky_B_object : MethodName := ⟨"HostBridge", "object", "(I)I"⟩
abbrev kw_B_object : List Cond := [.code ky_B_object kc_B_object 2 (some .int)]
abbrev kc_W_addObject : ByteArray := prog_8_method_7_code
abbrev ky_W_addObject : MethodName := ⟨"HostBridge$World", "addObject", "(I)I"⟩
abbrev kw_W_addObject : List Cond := [.code ky_W_addObject kc_W_addObject 2 (some .int)]
abbrev kc_L_argument : ByteArray := method_6_code
abbrev ky_L_argument : MethodName := ⟨"HostBridgeLaw", "argument", "(LHostBridge;IJ[J)I"⟩
abbrev kw_L_argument : List Cond := [.codeWith ky_L_argument kc_L_argument 6 (some .int) [(0, 11, 14, 13), (0, 11, 18, 15)]]
abbrev kc_B_argument : ByteArray := prog_1_method_5_code
abbrev ky_B_argument : MethodName := ⟨"HostBridge", "argument", "(IJ)I"⟩
abbrev kw_B_argument : List Cond := [.code ky_B_argument kc_B_argument 4 (some .int)]
abbrev kc_B_isValue : ByteArray := prog_1_method_14_code
abbrev ky_B_isValue : MethodName := ⟨"HostBridge", "isValue", "(IJ)Z"⟩
abbrev kw_B_isValue : List Cond := [.code ky_B_isValue kc_B_isValue 4 (some .boolean)]
abbrev kc_A_add : ByteArray := prog_3_method_2_code
abbrev ky_A_add : MethodName := ⟨"HostBridge$Arguments", "add", "(IJ)I"⟩
abbrev kw_A_add : List Cond := [.code ky_A_add kc_A_add 4 (some .int)]
abbrev kc_A_sortOf : ByteArray := prog_3_method_3_code
abbrev ky_A_sortOf : MethodName := ⟨"HostBridge$Arguments", "sortOf", "(IJ)I"⟩
abbrev kw_A_sortOf : List Cond := [.code ky_A_sortOf kc_A_sortOf 3 (some .int)]
abbrev kc_N_isInt : ByteArray := prog_7_method_2_code
abbrev ky_N_isInt : MethodName := ⟨"HostBridge$Numbers", "isInt", "(J)Z"⟩
abbrev kw_N_isInt : List Cond := [.code ky_N_isInt kc_N_isInt 4 (some .boolean)]
abbrev kc_N_isLong : ByteArray := prog_7_method_3_code
abbrev ky_N_isLong : MethodName := ⟨"HostBridge$Numbers", "isLong", "(J)Z"⟩
abbrev kw_N_isLong : List Cond := [.code ky_N_isLong kc_N_isLong 5 (some .boolean)]
abbrev kc_N_isZero : ByteArray := prog_7_method_6_code
abbrev ky_N_isZero : MethodName := ⟨"HostBridge$Numbers", "isZero", "(J)Z"⟩
abbrev kw_N_isZero : List Cond := [.code ky_N_isZero kc_N_isZero 2 (some .boolean)]
abbrev kc_N_withoutSign : ByteArray := prog_7_method_8_code
abbrev ky_N_withoutSign : MethodName := ⟨"HostBridge$Numbers", "withoutSign", "(J)J"⟩
abbrev kw_N_withoutSign : List Cond := [.code ky_N_withoutSign kc_N_withoutSign 2 (some .long)]
abbrev kc_N_powerOf : ByteArray := prog_7_method_9_code
abbrev ky_N_powerOf : MethodName := ⟨"HostBridge$Numbers", "powerOf", "(J)I"⟩
abbrev kw_N_powerOf : List Cond := [.code ky_N_powerOf kc_N_powerOf 2 (some .int)]
abbrev kc_N_fractionOf : ByteArray := prog_7_method_10_code
abbrev ky_N_fractionOf : MethodName := ⟨"HostBridge$Numbers", "fractionOf", "(J)J"⟩
abbrev kw_N_fractionOf : List Cond := [.code ky_N_fractionOf kc_N_fractionOf 2 (some .long)]
abbrev kc_N_wholeOf : ByteArray := prog_7_method_4_code
abbrev ky_N_wholeOf : MethodName := ⟨"HostBridge$Numbers", "wholeOf", "(J)J"⟩
abbrev kw_N_wholeOf : List Cond := [.code ky_N_wholeOf kc_N_wholeOf 7 (some .long)]
abbrev kc_L_weight : ByteArray := method_7_code
abbrev ky_L_weight : MethodName := ⟨"HostBridgeLaw", "weight", "(LHostBridge;II[J)I"⟩
abbrev kw_L_weight : List Cond := [.codeWith ky_L_weight kc_L_weight 5 (some .int) [(0, 10, 13, 13)]]
abbrev kc_B_weight : ByteArray := prog_1_method_6_code
abbrev ky_B_weight : MethodName := ⟨"HostBridge", "weight", "(II)I"⟩
abbrev kw_B_weight : List Cond := [.code ky_B_weight kc_B_weight 3 (some .int)]
abbrev kc_A_weightFor : ByteArray := prog_3_method_6_code
abbrev ky_A_weightFor : MethodName := ⟨"HostBridge$Arguments", "weightFor", "(II)I"⟩
abbrev kw_A_weightFor : List Cond := [.code ky_A_weightFor kc_A_weightFor 3 (some .int)]
abbrev kc_W_distance : ByteArray := prog_8_method_8_code
abbrev ky_W_distance : MethodName := ⟨"HostBridge$World", "distance", "(II)I"⟩
abbrev kw_W_distance : List Cond := [.code ky_W_distance kc_W_distance 5 (some .int)]
abbrev kc_L_call : ByteArray := method_8_code
abbrev ky_L_call : MethodName := ⟨"HostBridgeLaw", "call", "(LHostBridge;II[J)I"⟩
abbrev kw_L_call : List Cond := [.codeWith ky_L_call kc_L_call 5 (some .int) [(0, 10, 13, 13), (0, 10, 17, 35), (0, 10, 21, 15)]]
abbrev kc_B_call : ByteArray := prog_1_method_7_code
abbrev ky_B_call : MethodName := ⟨"HostBridge", "call", "(II)I"⟩
abbrev kw_B_call : List Cond := [.code ky_B_call kc_B_call 5 (some .int)]
abbrev kc_A_takeAll : ByteArray := prog_3_method_4_code
abbrev ky_A_takeAll : MethodName := ⟨"HostBridge$Arguments", "takeAll", "()I"⟩
abbrev kw_A_takeAll : List Cond := [.code ky_A_takeAll kc_A_takeAll 2 (some .int)]
abbrev kc_W_hasObject : ByteArray := prog_8_method_3_code
abbrev ky_W_hasObject : MethodName := ⟨"HostBridge$World", "hasObject", "(I)Z"⟩
abbrev kw_W_hasObject : List Cond := [.code ky_W_hasObject kc_W_hasObject 2 (some .boolean)]
abbrev kc_C_gather : ByteArray := prog_4_method_3_code
abbrev ky_C_gather : MethodName := ⟨"HostBridge$Choice", "gather", "(III)V"⟩
abbrev kw_C_gather : List Cond := [.code ky_C_gather kc_C_gather 6 none]
abbrev kc_C_gatherFrom : ByteArray := prog_4_method_4_code
abbrev ky_C_gatherFrom : MethodName := ⟨"HostBridge$Choice", "gatherFrom", "(III)V"⟩
abbrev kw_C_gatherFrom : List Cond := [.code ky_C_gatherFrom kc_C_gatherFrom 5 none]
abbrev kc_A_fit : ByteArray := prog_3_method_5_code
abbrev ky_A_fit : MethodName := ⟨"HostBridge$Arguments", "fit", "(II)Z"⟩
abbrev kw_A_fit : List Cond := [.code ky_A_fit kc_A_fit 4 (some .boolean)]
abbrev kc_C_isHidden : ByteArray := prog_4_method_5_code
abbrev ky_C_isHidden : MethodName := ⟨"HostBridge$Choice", "isHidden", "(I)Z"⟩
abbrev kw_C_isHidden : List Cond := [.code ky_C_isHidden kc_C_isHidden 3 (some .boolean)]
abbrev kc_C_best : ByteArray := prog_4_method_6_code
abbrev ky_C_best : MethodName := ⟨"HostBridge$Choice", "best", "(I)I"⟩
abbrev kw_C_best : List Cond := [.code ky_C_best kc_C_best 4 (some .int)]
abbrev kc_C_lowestWeight : ByteArray := prog_4_method_7_code
abbrev ky_C_lowestWeight : MethodName := ⟨"HostBridge$Choice", "lowestWeight", "(II)I"⟩
abbrev kw_C_lowestWeight : List Cond := [.code ky_C_lowestWeight kc_C_lowestWeight 5 (some .int)]
abbrev kc_C_weightIn : ByteArray := prog_4_method_9_code
abbrev ky_C_weightIn : MethodName := ⟨"HostBridge$Choice", "weightIn", "(III)I"⟩
abbrev kw_C_weightIn : List Cond := [.code ky_C_weightIn kc_C_weightIn 4 (some .int)]
abbrev kc_J_min : ByteArray := prog_15_method_69_code
abbrev ky_J_min : MethodName := ⟨"java/lang/Math", "min", "(II)I"⟩
abbrev kw_J_min : List Cond := [.code ky_J_min kc_J_min 2 (some .int)]
abbrev kc_C_isLowest : ByteArray := prog_4_method_8_code
abbrev ky_C_isLowest : MethodName := ⟨"HostBridge$Choice", "isLowest", "(II)Z"⟩
abbrev kw_C_isLowest : List Cond := [.code ky_C_isLowest kc_C_isLowest 4 (some .boolean)]
abbrev kc_B_writeDown : ByteArray := prog_1_method_15_code
abbrev ky_B_writeDown : MethodName := ⟨"HostBridge", "writeDown", "(II)V"⟩
abbrev kw_B_writeDown : List Cond := [.code ky_B_writeDown kc_B_writeDown 6 none]
abbrev kc_D_open : ByteArray := prog_5_method_2_code
abbrev ky_D_open : MethodName := ⟨"HostBridge$Diary", "open", "(III)V"⟩
abbrev kw_D_open : List Cond := [.code ky_D_open kc_D_open 5 none]
abbrev kc_D_rowOf : ByteArray := prog_5_method_10_code
abbrev ky_D_rowOf : MethodName := ⟨"HostBridge$Diary", "rowOf", "(I)I"⟩
abbrev kw_D_rowOf : List Cond := [.code ky_D_rowOf kc_D_rowOf 1 (some .int)]
abbrev kc_J_floorMod : ByteArray := prog_15_method_50_code
abbrev ky_J_floorMod : MethodName := ⟨"java/lang/Math", "floorMod", "(II)I"⟩
abbrev kw_J_floorMod : List Cond := [.code ky_J_floorMod kc_J_floorMod 3 (some .int)]
abbrev kc_A_convert : ByteArray := prog_3_method_7_code
abbrev ky_A_convert : MethodName := ⟨"HostBridge$Arguments", "convert", "(II)J"⟩
abbrev kw_A_convert : List Cond := [.code ky_A_convert kc_A_convert 3 (some .long)]
abbrev kc_N_truthOf : ByteArray := prog_7_method_5_code
abbrev ky_N_truthOf : MethodName := ⟨"HostBridge$Numbers", "truthOf", "(J)J"⟩
abbrev kw_N_truthOf : List Cond := [.code ky_N_truthOf kc_N_truthOf 2 (some .long)]
abbrev kc_N_isNan : ByteArray := prog_7_method_7_code
abbrev ky_N_isNan : MethodName := ⟨"HostBridge$Numbers", "isNan", "(J)Z"⟩
abbrev kw_N_isNan : List Cond := [.code ky_N_isNan kc_N_isNan 2 (some .boolean)]
abbrev kc_D_setValue : ByteArray := prog_5_method_3_code
abbrev ky_D_setValue : MethodName := ⟨"HostBridge$Diary", "setValue", "(IJ)V"⟩
abbrev kw_D_setValue : List Cond := [.code ky_D_setValue kc_D_setValue 4 none]
abbrev kc_S_next : ByteArray := prog_2_method_3_code
abbrev ky_S_next : MethodName := ⟨"HostBridge$Answers", "next", "()J"⟩
abbrev kw_S_next : List Cond := [.code ky_S_next kc_S_next 3 (some .long)]
abbrev kc_D_close : ByteArray := prog_5_method_4_code
abbrev ky_D_close : MethodName := ⟨"HostBridge$Diary", "close", "(J)V"⟩
abbrev kw_D_close : List Cond := [.code ky_D_close kc_D_close 3 none]
abbrev kc_L_exact : ByteArray := method_9_code
abbrev ky_L_exact : MethodName := ⟨"HostBridgeLaw", "exact", "(LHostBridge;III[J)I"⟩
abbrev kw_L_exact : List Cond := [.codeWith ky_L_exact kc_L_exact 6 (some .int) [(0, 12, 15, 13), (0, 12, 19, 35)]]
abbrev kc_B_exact : ByteArray := prog_1_method_8_code
abbrev ky_B_exact : MethodName := ⟨"HostBridge", "exact", "(III)I"⟩
abbrev kw_B_exact : List Cond := [.code ky_B_exact kc_B_exact 6 (some .int)]
abbrev kc_C_first : ByteArray := prog_4_method_2_code
abbrev ky_C_first : MethodName := ⟨"HostBridge$Choice", "first", "(IIII)I"⟩
abbrev kw_C_first : List Cond := [.code ky_C_first kc_C_first 8 (some .int)]
abbrev kc_L_answer : ByteArray := method_10_code
abbrev ky_L_answer : MethodName := ⟨"HostBridgeLaw", "answer", "(LHostBridge;J)I"⟩
abbrev kw_L_answer : List Cond := [.codeWith ky_L_answer kc_L_answer 4 (some .int) [(0, 5, 8, 15)]]
abbrev kc_B_answer : ByteArray := prog_1_method_9_code
abbrev ky_B_answer : MethodName := ⟨"HostBridge", "answer", "(J)V"⟩
abbrev kw_B_answer : List Cond := [.code ky_B_answer kc_B_answer 3 none]
abbrev kc_S_add : ByteArray := prog_2_method_2_code
abbrev ky_S_add : MethodName := ⟨"HostBridge$Answers", "add", "(J)V"⟩
abbrev kw_S_add : List Cond := [.code ky_S_add kc_S_add 3 none]
abbrev kc_L_given : ByteArray := method_11_code
abbrev ky_L_given : MethodName := ⟨"HostBridgeLaw", "given", "(LHostBridge;[J)I"⟩
abbrev kw_L_given : List Cond := [.codeWith ky_L_given kc_L_given 3 (some .int) [(0, 7, 10, 15)]]
abbrev kc_B_given : ByteArray := prog_1_method_10_code
abbrev ky_B_given : MethodName := ⟨"HostBridge", "given", "()J"⟩
abbrev kw_B_given : List Cond := [.code ky_B_given kc_B_given 1 (some .long)]
abbrev kc_L_look : ByteArray := method_12_code
abbrev ky_L_look : MethodName := ⟨"HostBridgeLaw", "look", "(LHostBridge;II[J)I"⟩
abbrev kw_L_look : List Cond := [.codeWith ky_L_look kc_L_look 5 (some .int) [(0, 10, 13, 13), (0, 10, 17, 52)]]
abbrev kc_B_look : ByteArray := prog_1_method_12_code
abbrev ky_B_look : MethodName := ⟨"HostBridge", "look", "(II)I"⟩
abbrev kw_B_look : List Cond := [.code ky_B_look kc_B_look 3 (some .int)]
abbrev kc_D_keeps : ByteArray := prog_5_method_5_code
abbrev ky_D_keeps : MethodName := ⟨"HostBridge$Diary", "keeps", "(I)Z"⟩
abbrev kw_D_keeps : List Cond := [.code ky_D_keeps kc_D_keeps 2 (some .boolean)]
abbrev kc_D_objectOf : ByteArray := prog_5_method_6_code
abbrev ky_D_objectOf : MethodName := ⟨"HostBridge$Diary", "objectOf", "(I)I"⟩
abbrev kw_D_objectOf : List Cond := [.code ky_D_objectOf kc_D_objectOf 2 (some .int)]
abbrev kc_D_methodOf : ByteArray := prog_5_method_7_code
abbrev ky_D_methodOf : MethodName := ⟨"HostBridge$Diary", "methodOf", "(I)I"⟩
abbrev kw_D_methodOf : List Cond := [.code ky_D_methodOf kc_D_methodOf 2 (some .int)]
abbrev kc_D_argumentsOf : ByteArray := prog_5_method_8_code
abbrev ky_D_argumentsOf : MethodName := ⟨"HostBridge$Diary", "argumentsOf", "(I)I"⟩
abbrev kw_D_argumentsOf : List Cond := [.code ky_D_argumentsOf kc_D_argumentsOf 2 (some .int)]
abbrev kc_L_converted : ByteArray := method_13_code
abbrev ky_L_converted : MethodName := ⟨"HostBridgeLaw", "converted", "(LHostBridge;II[J)I"⟩
abbrev kw_L_converted : List Cond := [.codeWith ky_L_converted kc_L_converted 5 (some .int) [(0, 9, 12, 52)]]
abbrev kc_B_converted : ByteArray := prog_1_method_13_code
abbrev ky_B_converted : MethodName := ⟨"HostBridge", "converted", "(II)J"⟩
abbrev kw_B_converted : List Cond := [.code ky_B_converted kc_B_converted 3 (some .long)]
abbrev kc_D_valueOf : ByteArray := prog_5_method_9_code
abbrev ky_D_valueOf : MethodName := ⟨"HostBridge$Diary", "valueOf", "(II)J"⟩
abbrev kw_D_valueOf : List Cond := [.code ky_D_valueOf kc_D_valueOf 3 (some .long)]
abbrev kc_R_init : ByteArray := prog_10_method_1_code
abbrev ky_R_init : MethodName := ⟨"HostBridgeModel", "<init>", "()V"⟩
abbrev kw_R_init : List Cond := [.code ky_R_init kc_R_init 1 none]
abbrev kc_R_thrown : ByteArray := prog_10_method_2_code
abbrev ky_R_thrown : MethodName := ⟨"HostBridgeModel", "thrown", "()I"⟩
abbrev kw_R_thrown : List Cond := [.code ky_R_thrown kc_R_thrown 1 (some .int)]
abbrev kc_R_klass : ByteArray := prog_10_method_5_code
abbrev ky_R_klass : MethodName := ⟨"HostBridgeModel", "klass", "(I)I"⟩
abbrev kw_R_klass : List Cond := [.code ky_R_klass kc_R_klass 3 (some .int)]
abbrev kc_R_isNo : ByteArray := prog_10_method_4_code
abbrev ky_R_isNo : MethodName := ⟨"HostBridgeModel", "isNo", "(II)Z"⟩
abbrev kw_R_isNo : List Cond := [.code ky_R_isNo kc_R_isNo 2 (some .boolean)]
abbrev kc_R_throwing : ByteArray := prog_10_method_3_code
abbrev ky_R_throwing : MethodName := ⟨"HostBridgeModel", "throwing", "(ZZZ)Z"⟩
abbrev kw_R_throwing : List Cond := [.code ky_R_throwing kc_R_throwing 4 (some .boolean)]
abbrev kc_R_method : ByteArray := prog_10_method_8_code
abbrev ky_R_method : MethodName := ⟨"HostBridgeModel", "method", "(IIIII)I"⟩
abbrev kw_R_method : List Cond := [.code ky_R_method kc_R_method 9 (some .int)]
abbrev kc_R_asks : ByteArray := prog_10_method_6_code
abbrev ky_R_asks : MethodName := ⟨"HostBridgeModel", "asks", "(II)Z"⟩
abbrev kw_R_asks : List Cond := [.code ky_R_asks kc_R_asks 7 (some .boolean)]
abbrev kc_R_methodOf : ByteArray := prog_10_method_7_code
abbrev ky_R_methodOf : MethodName := ⟨"HostBridgeModel", "methodOf", "(III)I"⟩
abbrev kw_R_methodOf : List Cond := [.code ky_R_methodOf kc_R_methodOf 8 (some .int)]
abbrev kc_R_object : ByteArray := prog_10_method_9_code
abbrev ky_R_object : MethodName := ⟨"HostBridgeModel", "object", "(I)I"⟩
abbrev kw_R_object : List Cond := [.code ky_R_object kc_R_object 3 (some .int)]
abbrev kc_R_argument : ByteArray := prog_10_method_10_code
abbrev ky_R_argument : MethodName := ⟨"HostBridgeModel", "argument", "(IJ)I"⟩
abbrev kw_R_argument : List Cond := [.code ky_R_argument kc_R_argument 5 (some .int)]
abbrev kc_R_weight : ByteArray := prog_10_method_15_code
abbrev ky_R_weight : MethodName := ⟨"HostBridgeModel", "weight", "(II)I"⟩
abbrev kw_R_weight : List Cond := [.code ky_R_weight kc_R_weight 3 (some .int)]
abbrev kc_R_weightOf : ByteArray := prog_10_method_14_code
abbrev ky_R_weightOf : MethodName := ⟨"HostBridgeModel", "weightOf", "(II)I"⟩
abbrev kw_R_weightOf : List Cond := [.code ky_R_weightOf kc_R_weightOf 6 (some .int)]
abbrev kc_R_weightOfNumber : ByteArray := prog_10_method_13_code
abbrev ky_R_weightOfNumber : MethodName := ⟨"HostBridgeModel", "weightOfNumber", "(JI)I"⟩
abbrev kw_R_weightOfNumber : List Cond := [.code ky_R_weightOfNumber kc_R_weightOfNumber 6 (some .int)]
abbrev kc_R_wholeOf : ByteArray := prog_10_method_11_code
abbrev ky_R_wholeOf : MethodName := ⟨"HostBridgeModel", "wholeOf", "(J)J"⟩
abbrev kw_R_wholeOf : List Cond := [.code ky_R_wholeOf kc_R_wholeOf 7 (some .long)]
abbrev kc_R_isMinusZero : ByteArray := prog_10_method_12_code
abbrev ky_R_isMinusZero : MethodName := ⟨"HostBridgeModel", "isMinusZero", "(J)Z"⟩
abbrev kw_R_isMinusZero : List Cond := [.code ky_R_isMinusZero kc_R_isMinusZero 2 (some .boolean)]
abbrev kc_R_call : ByteArray := prog_10_method_23_code
abbrev ky_R_call : MethodName := ⟨"HostBridgeModel", "call", "(II)I"⟩
abbrev kw_R_call : List Cond := [.code ky_R_call kc_R_call 8 (some .int)]
abbrev kc_R_far : ByteArray := prog_10_method_18_code
abbrev ky_R_far : MethodName := ⟨"HostBridgeModel", "far", "(II)I"⟩
abbrev kw_R_far : List Cond := [.code ky_R_far kc_R_far 5 (some .int)]
abbrev kc_R_fits : ByteArray := prog_10_method_20_code
abbrev ky_R_fits : MethodName := ⟨"HostBridgeModel", "fits", "(I)Z"⟩
abbrev kw_R_fits : List Cond := [.code ky_R_fits kc_R_fits 4 (some .boolean)]
abbrev kc_R_isHidden : ByteArray := prog_10_method_19_code
abbrev ky_R_isHidden : MethodName := ⟨"HostBridgeModel", "isHidden", "(II)Z"⟩
abbrev kw_R_isHidden : List Cond := [.code ky_R_isHidden kc_R_isHidden 7 (some .boolean)]
abbrev kc_R_isBest : ByteArray := prog_10_method_21_code
abbrev ky_R_isBest : MethodName := ⟨"HostBridgeModel", "isBest", "(I)Z"⟩
abbrev kw_R_isBest : List Cond := [.code ky_R_isBest kc_R_isBest 5 (some .boolean)]
abbrev kc_R_make : ByteArray := prog_10_method_22_code
abbrev ky_R_make : MethodName := ⟨"HostBridgeModel", "make", "(II)I"⟩
abbrev kw_R_make : List Cond := [.code ky_R_make kc_R_make 5 (some .int)]
abbrev kc_R_turned : ByteArray := prog_10_method_17_code
abbrev ky_R_turned : MethodName := ⟨"HostBridgeModel", "turned", "(II)J"⟩
abbrev kw_R_turned : List Cond := [.code ky_R_turned kc_R_turned 3 (some .long)]
abbrev kc_R_isTrue : ByteArray := prog_10_method_16_code
abbrev ky_R_isTrue : MethodName := ⟨"HostBridgeModel", "isTrue", "(J)Z"⟩
abbrev kw_R_isTrue : List Cond := [.code ky_R_isTrue kc_R_isTrue 4 (some .boolean)]
abbrev kc_R_exact : ByteArray := prog_10_method_24_code
abbrev ky_R_exact : MethodName := ⟨"HostBridgeModel", "exact", "(III)I"⟩
abbrev kw_R_exact : List Cond := [.code ky_R_exact kc_R_exact 7 (some .int)]
abbrev kc_R_answer : ByteArray := prog_10_method_25_code
abbrev ky_R_answer : MethodName := ⟨"HostBridgeModel", "answer", "(J)V"⟩
abbrev kw_R_answer : List Cond := [.code ky_R_answer kc_R_answer 3 none]
abbrev kc_R_given : ByteArray := prog_10_method_26_code
abbrev ky_R_given : MethodName := ⟨"HostBridgeModel", "given", "()J"⟩
abbrev kw_R_given : List Cond := [.code ky_R_given kc_R_given 1 (some .long)]
abbrev kc_R_calls : ByteArray := prog_10_method_27_code
abbrev ky_R_calls : MethodName := ⟨"HostBridgeModel", "calls", "()I"⟩
abbrev kw_R_calls : List Cond := [.code ky_R_calls kc_R_calls 1 (some .int)]
abbrev kc_R_look : ByteArray := prog_10_method_29_code
abbrev ky_R_look : MethodName := ⟨"HostBridgeModel", "look", "(II)I"⟩
abbrev kw_R_look : List Cond := [.code ky_R_look kc_R_look 4 (some .int)]
abbrev kc_R_isGone : ByteArray := prog_10_method_28_code
abbrev ky_R_isGone : MethodName := ⟨"HostBridgeModel", "isGone", "(I)Z"⟩
abbrev kw_R_isGone : List Cond := [.code ky_R_isGone kc_R_isGone 2 (some .boolean)]
abbrev kc_R_converted : ByteArray := prog_10_method_30_code
abbrev ky_R_converted : MethodName := ⟨"HostBridgeModel", "converted", "(II)J"⟩
abbrev kw_R_converted : List Cond := [.code ky_R_converted kc_R_converted 3 (some .long)]
abbrev kc_L_law : ByteArray := code
abbrev ky_L_law : MethodName := ⟨"HostBridgeLaw", "law", "([I)Z"⟩
abbrev kw_L_law : List Cond := [.code ky_L_law kc_L_law 8 (some .boolean)]
theorem km_0 : Cond.initialized "HostBridgeLaw" ∈ cx_T := cx_tab (i := 0) (by decide +kernel) (by decide +kernel)
theorem km_1 : Cond.initialized "HostBridge" ∈ cx_T := cx_tab (i := 1) (by decide +kernel) (by decide +kernel)
theorem km_2 : Cond.initialized "HostBridge$World" ∈ cx_T := cx_tab (i := 2) (by decide +kernel) (by decide +kernel)
theorem km_3 : Cond.initialized "HostBridge$Methods" ∈ cx_T := cx_tab (i := 3) (by decide +kernel) (by decide +kernel)
theorem km_4 : Cond.initialized "HostBridge$Arguments" ∈ cx_T := cx_tab (i := 4) (by decide +kernel) (by decide +kernel)
theorem km_5 : Cond.initialized "HostBridge$Choice" ∈ cx_T := cx_tab (i := 5) (by decide +kernel) (by decide +kernel)
theorem km_6 : Cond.initialized "HostBridge$Diary" ∈ cx_T := cx_tab (i := 6) (by decide +kernel) (by decide +kernel)
theorem km_7 : Cond.initialized "HostBridge$Answers" ∈ cx_T := cx_tab (i := 7) (by decide +kernel) (by decide +kernel)
theorem km_8 : Cond.initialized "HostBridgeModel" ∈ cx_T := cx_tab (i := 8) (by decide +kernel) (by decide +kernel)
theorem km_9 : Cond.initialized "java/lang/Throwable" ∈ cx_T := cx_tab (i := 9) (by decide +kernel) (by decide +kernel)
theorem km_10 : Cond.initialized "java/lang/Exception" ∈ cx_T := cx_tab (i := 10) (by decide +kernel) (by decide +kernel)
theorem km_11 : Cond.initialized "java/lang/RuntimeException" ∈ cx_T := cx_tab (i := 11) (by decide +kernel) (by decide +kernel)
theorem km_12 : Cond.initialized "java/lang/IllegalArgumentException" ∈ cx_T := cx_tab (i := 12) (by decide +kernel) (by decide +kernel)
theorem km_13 : Cond.initialized "java/lang/IllegalStateException" ∈ cx_T := cx_tab (i := 13) (by decide +kernel) (by decide +kernel)
theorem km_14 : Cond.initialized "HostBridge$Numbers" ∈ cx_T := cx_tab (i := 14) (by decide +kernel) (by decide +kernel)
theorem km_15 : Cond.initialized "java/util/NoSuchElementException" ∈ cx_T := cx_tab (i := 15) (by decide +kernel) (by decide +kernel)
theorem km_16 : Cond.initialized "java/lang/Math" ∈ cx_T := cx_tab (i := 16) (by decide +kernel) (by decide +kernel)
theorem km_17 : Cond.initialized "java/lang/IndexOutOfBoundsException" ∈ cx_T := cx_tab (i := 17) (by decide +kernel) (by decide +kernel)
theorem km_18 : Cond.classLink "HostBridgeLaw" 8 "HostBridge" ∈ cx_T := cx_tab (i := 18) (by decide +kernel) (by decide +kernel)
theorem km_19 : Cond.instantiable "HostBridge" 6 ∈ cx_T := cx_tab (i := 19) (by decide +kernel) (by decide +kernel)
theorem km_20 : Cond.methodLink "HostBridgeLaw" 58 ⟨"HostBridge", "<init>", "()V"⟩ ∈ cx_T := cx_tab (i := 20) (by decide +kernel) (by decide +kernel)
theorem km_21 : Cond.instanceMethod ⟨"HostBridge", "<init>", "()V"⟩ ∈ cx_T := cx_tab (i := 21) (by decide +kernel) (by decide +kernel)
theorem km_22 : Cond.code ⟨"HostBridge", "<init>", "()V"⟩ prog_1_method_1_code 1 none ∈ cx_T := cx_tab (i := 22) (by decide +kernel) (by decide +kernel)
theorem km_23 : Cond.methodLink "HostBridge" 1 ⟨"java/lang/Object", "<init>", "()V"⟩ ∈ cx_T := cx_tab (i := 23) (by decide +kernel) (by decide +kernel)
theorem km_24 : Cond.instanceMethod ⟨"java/lang/Object", "<init>", "()V"⟩ ∈ cx_T := cx_tab (i := 24) (by decide +kernel) (by decide +kernel)
theorem km_25 : Cond.code ⟨"java/lang/Object", "<init>", "()V"⟩ object_method_1_code 1 none ∈ cx_T := cx_tab (i := 25) (by decide +kernel) (by decide +kernel)
theorem km_26 : Cond.classLink "HostBridge" 7 "HostBridge$World" ∈ cx_T := cx_tab (i := 26) (by decide +kernel) (by decide +kernel)
theorem km_27 : Cond.instantiable "HostBridge$World" 4 ∈ cx_T := cx_tab (i := 27) (by decide +kernel) (by decide +kernel)
theorem km_28 : Cond.methodLinkNest "HostBridge" 9 ⟨"HostBridge$World", "<init>", "()V"⟩ "HostBridge" ∈ cx_T := cx_tab (i := 28) (by decide +kernel) (by decide +kernel)
theorem km_29 : Cond.instanceMethod ⟨"HostBridge$World", "<init>", "()V"⟩ ∈ cx_T := cx_tab (i := 29) (by decide +kernel) (by decide +kernel)
theorem km_30 : Cond.code ⟨"HostBridge$World", "<init>", "()V"⟩ prog_8_method_1_code 1 none ∈ cx_T := cx_tab (i := 30) (by decide +kernel) (by decide +kernel)
theorem km_31 : Cond.methodLink "HostBridge$World" 3 ⟨"java/lang/Object", "<init>", "()V"⟩ ∈ cx_T := cx_tab (i := 31) (by decide +kernel) (by decide +kernel)
theorem km_32 : Cond.fieldLink "HostBridge$World" 9 "HostBridge$World" "parents" "[I" ∈ cx_T := cx_tab (i := 32) (by decide +kernel) (by decide +kernel)
theorem km_33 : Cond.fieldLinkNest "HostBridge$Choice" 36 "HostBridge$World" "parents" "[I" "HostBridge" ∈ cx_T := cx_tab (i := 33) (by decide +kernel) (by decide +kernel)
theorem km_34 : Cond.fieldLink "HostBridge$World" 15 "HostBridge$World" "classOf" "[I" ∈ cx_T := cx_tab (i := 34) (by decide +kernel) (by decide +kernel)
theorem km_35 : Cond.fieldLinkNest "HostBridge$Arguments" 54 "HostBridge$World" "classOf" "[I" "HostBridge" ∈ cx_T := cx_tab (i := 35) (by decide +kernel) (by decide +kernel)
theorem km_36 : Cond.fieldLinkNest "HostBridge" 146 "HostBridge$World" "classOf" "[I" "HostBridge" ∈ cx_T := cx_tab (i := 36) (by decide +kernel) (by decide +kernel)
theorem km_37 : Cond.fieldLink "HostBridge$World" 18 "HostBridge$World" "classes" "I" ∈ cx_T := cx_tab (i := 37) (by decide +kernel) (by decide +kernel)
theorem km_38 : Cond.fieldLinkNest "HostBridge" 66 "HostBridge$World" "classes" "I" "HostBridge" ∈ cx_T := cx_tab (i := 38) (by decide +kernel) (by decide +kernel)
theorem km_39 : Cond.fieldLink "HostBridge$World" 22 "HostBridge$World" "objects" "I" ∈ cx_T := cx_tab (i := 39) (by decide +kernel) (by decide +kernel)
theorem km_40 : Cond.fieldLinkNest "HostBridge" 111 "HostBridge$World" "objects" "I" "HostBridge" ∈ cx_T := cx_tab (i := 40) (by decide +kernel) (by decide +kernel)
theorem km_41 : Cond.laysFinal "HostBridge$World" "HostBridge$World" "parents" "[I" ∈ cx_T := cx_tab (i := 41) (by decide +kernel) (by decide +kernel)
theorem km_42 : Cond.soleField "HostBridge$World" "parents" ∈ cx_T := cx_tab (i := 42) (by decide +kernel) (by decide +kernel)
theorem km_43 : Cond.laysFinal "HostBridge$World" "HostBridge$World" "classOf" "[I" ∈ cx_T := cx_tab (i := 43) (by decide +kernel) (by decide +kernel)
theorem km_44 : Cond.soleField "HostBridge$World" "classOf" ∈ cx_T := cx_tab (i := 44) (by decide +kernel) (by decide +kernel)
theorem km_45 : Cond.lays "HostBridge$World" "HostBridge$World" "classes" "I" ∈ cx_T := cx_tab (i := 45) (by decide +kernel) (by decide +kernel)
theorem km_46 : Cond.soleField "HostBridge$World" "classes" ∈ cx_T := cx_tab (i := 46) (by decide +kernel) (by decide +kernel)
theorem km_47 : Cond.lays "HostBridge$World" "HostBridge$World" "objects" "I" ∈ cx_T := cx_tab (i := 47) (by decide +kernel) (by decide +kernel)
theorem km_48 : Cond.soleField "HostBridge$World" "objects" ∈ cx_T := cx_tab (i := 48) (by decide +kernel) (by decide +kernel)
theorem km_49 : Cond.superclass "HostBridge$World" "java/lang/Object" ∈ cx_T := cx_tab (i := 49) (by decide +kernel) (by decide +kernel)
theorem km_50 : Cond.arrayClass FieldType.int ∈ cx_T := cx_tab (i := 50) (by decide +kernel) (by decide +kernel)
theorem km_51 : Cond.classLink "HostBridge" 16 "HostBridge$Methods" ∈ cx_T := cx_tab (i := 51) (by decide +kernel) (by decide +kernel)
theorem km_52 : Cond.instantiable "HostBridge$Methods" 5 ∈ cx_T := cx_tab (i := 52) (by decide +kernel) (by decide +kernel)
theorem km_53 : Cond.methodLinkNest "HostBridge" 18 ⟨"HostBridge$Methods", "<init>", "()V"⟩ "HostBridge" ∈ cx_T := cx_tab (i := 53) (by decide +kernel) (by decide +kernel)
theorem km_54 : Cond.instanceMethod ⟨"HostBridge$Methods", "<init>", "()V"⟩ ∈ cx_T := cx_tab (i := 54) (by decide +kernel) (by decide +kernel)
theorem km_55 : Cond.code ⟨"HostBridge$Methods", "<init>", "()V"⟩ prog_6_method_1_code 1 none ∈ cx_T := cx_tab (i := 55) (by decide +kernel) (by decide +kernel)
theorem km_56 : Cond.methodLink "HostBridge$Methods" 3 ⟨"java/lang/Object", "<init>", "()V"⟩ ∈ cx_T := cx_tab (i := 56) (by decide +kernel) (by decide +kernel)
theorem km_57 : Cond.fieldLink "HostBridge$Methods" 9 "HostBridge$Methods" "homes" "[I" ∈ cx_T := cx_tab (i := 57) (by decide +kernel) (by decide +kernel)
theorem km_58 : Cond.fieldLink "HostBridge$Methods" 15 "HostBridge$Methods" "names" "[I" ∈ cx_T := cx_tab (i := 58) (by decide +kernel) (by decide +kernel)
theorem km_59 : Cond.fieldLink "HostBridge$Methods" 18 "HostBridge$Methods" "sizes" "[I" ∈ cx_T := cx_tab (i := 59) (by decide +kernel) (by decide +kernel)
theorem km_60 : Cond.fieldLinkNest "HostBridge" 215 "HostBridge$Methods" "sizes" "[I" "HostBridge" ∈ cx_T := cx_tab (i := 60) (by decide +kernel) (by decide +kernel)
theorem km_61 : Cond.fieldLink "HostBridge$Methods" 21 "HostBridge$Methods" "types" "[I" ∈ cx_T := cx_tab (i := 61) (by decide +kernel) (by decide +kernel)
theorem km_62 : Cond.fieldLinkNest "HostBridge$Choice" 54 "HostBridge$Methods" "types" "[I" "HostBridge" ∈ cx_T := cx_tab (i := 62) (by decide +kernel) (by decide +kernel)
theorem km_63 : Cond.fieldLinkNest "HostBridge" 218 "HostBridge$Methods" "types" "[I" "HostBridge" ∈ cx_T := cx_tab (i := 63) (by decide +kernel) (by decide +kernel)
theorem km_64 : Cond.fieldLink "HostBridge$Methods" 24 "HostBridge$Methods" "count" "I" ∈ cx_T := cx_tab (i := 64) (by decide +kernel) (by decide +kernel)
theorem km_65 : Cond.fieldLinkNest "HostBridge" 103 "HostBridge$Methods" "count" "I" "HostBridge" ∈ cx_T := cx_tab (i := 65) (by decide +kernel) (by decide +kernel)
theorem km_66 : Cond.fieldLinkNest "HostBridge$Choice" 49 "HostBridge$Methods" "count" "I" "HostBridge" ∈ cx_T := cx_tab (i := 66) (by decide +kernel) (by decide +kernel)
theorem km_67 : Cond.laysFinal "HostBridge$Methods" "HostBridge$Methods" "homes" "[I" ∈ cx_T := cx_tab (i := 67) (by decide +kernel) (by decide +kernel)
theorem km_68 : Cond.soleField "HostBridge$Methods" "homes" ∈ cx_T := cx_tab (i := 68) (by decide +kernel) (by decide +kernel)
theorem km_69 : Cond.laysFinal "HostBridge$Methods" "HostBridge$Methods" "names" "[I" ∈ cx_T := cx_tab (i := 69) (by decide +kernel) (by decide +kernel)
theorem km_70 : Cond.soleField "HostBridge$Methods" "names" ∈ cx_T := cx_tab (i := 70) (by decide +kernel) (by decide +kernel)
theorem km_71 : Cond.laysFinal "HostBridge$Methods" "HostBridge$Methods" "sizes" "[I" ∈ cx_T := cx_tab (i := 71) (by decide +kernel) (by decide +kernel)
theorem km_72 : Cond.soleField "HostBridge$Methods" "sizes" ∈ cx_T := cx_tab (i := 72) (by decide +kernel) (by decide +kernel)
theorem km_73 : Cond.laysFinal "HostBridge$Methods" "HostBridge$Methods" "types" "[I" ∈ cx_T := cx_tab (i := 73) (by decide +kernel) (by decide +kernel)
theorem km_74 : Cond.soleField "HostBridge$Methods" "types" ∈ cx_T := cx_tab (i := 74) (by decide +kernel) (by decide +kernel)
theorem km_75 : Cond.lays "HostBridge$Methods" "HostBridge$Methods" "count" "I" ∈ cx_T := cx_tab (i := 75) (by decide +kernel) (by decide +kernel)
theorem km_76 : Cond.soleField "HostBridge$Methods" "count" ∈ cx_T := cx_tab (i := 76) (by decide +kernel) (by decide +kernel)
theorem km_77 : Cond.superclass "HostBridge$Methods" "java/lang/Object" ∈ cx_T := cx_tab (i := 77) (by decide +kernel) (by decide +kernel)
theorem km_78 : Cond.classLink "HostBridge" 23 "HostBridge$Arguments" ∈ cx_T := cx_tab (i := 78) (by decide +kernel) (by decide +kernel)
theorem km_79 : Cond.instantiable "HostBridge$Arguments" 5 ∈ cx_T := cx_tab (i := 79) (by decide +kernel) (by decide +kernel)
theorem km_80 : Cond.methodLink "HostBridge" 25 ⟨"HostBridge$Arguments", "<init>", "(LHostBridge$World;)V"⟩ ∈ cx_T := cx_tab (i := 80) (by decide +kernel) (by decide +kernel)
theorem km_81 : Cond.instanceMethod ⟨"HostBridge$Arguments", "<init>", "(LHostBridge$World;)V"⟩ ∈ cx_T := cx_tab (i := 81) (by decide +kernel) (by decide +kernel)
theorem km_82 : Cond.code ⟨"HostBridge$Arguments", "<init>", "(LHostBridge$World;)V"⟩ prog_3_method_1_code 2 none ∈ cx_T := cx_tab (i := 82) (by decide +kernel) (by decide +kernel)
theorem km_83 : Cond.methodLink "HostBridge$Arguments" 3 ⟨"java/lang/Object", "<init>", "()V"⟩ ∈ cx_T := cx_tab (i := 83) (by decide +kernel) (by decide +kernel)
theorem km_84 : Cond.fieldLink "HostBridge$Arguments" 22 "HostBridge$Arguments" "world" "LHostBridge$World;" ∈ cx_T := cx_tab (i := 84) (by decide +kernel) (by decide +kernel)
theorem km_85 : Cond.fieldLink "HostBridge$Arguments" 9 "HostBridge$Arguments" "kinds" "[I" ∈ cx_T := cx_tab (i := 85) (by decide +kernel) (by decide +kernel)
theorem km_86 : Cond.fieldLink "HostBridge$Arguments" 15 "HostBridge$Arguments" "sorts" "[I" ∈ cx_T := cx_tab (i := 86) (by decide +kernel) (by decide +kernel)
theorem km_87 : Cond.fieldLink "HostBridge$Arguments" 18 "HostBridge$Arguments" "bits" "[J" ∈ cx_T := cx_tab (i := 87) (by decide +kernel) (by decide +kernel)
theorem km_88 : Cond.fieldLink "HostBridge$Arguments" 26 "HostBridge$Arguments" "count" "I" ∈ cx_T := cx_tab (i := 88) (by decide +kernel) (by decide +kernel)
theorem km_89 : Cond.fieldLinkNest "HostBridge" 125 "HostBridge$Arguments" "count" "I" "HostBridge" ∈ cx_T := cx_tab (i := 89) (by decide +kernel) (by decide +kernel)
theorem km_90 : Cond.laysFinal "HostBridge$Arguments" "HostBridge$Arguments" "world" "LHostBridge$World;" ∈ cx_T := cx_tab (i := 90) (by decide +kernel) (by decide +kernel)
theorem km_91 : Cond.soleField "HostBridge$Arguments" "world" ∈ cx_T := cx_tab (i := 91) (by decide +kernel) (by decide +kernel)
theorem km_92 : Cond.laysFinal "HostBridge$Arguments" "HostBridge$Arguments" "kinds" "[I" ∈ cx_T := cx_tab (i := 92) (by decide +kernel) (by decide +kernel)
theorem km_93 : Cond.soleField "HostBridge$Arguments" "kinds" ∈ cx_T := cx_tab (i := 93) (by decide +kernel) (by decide +kernel)
theorem km_94 : Cond.laysFinal "HostBridge$Arguments" "HostBridge$Arguments" "sorts" "[I" ∈ cx_T := cx_tab (i := 94) (by decide +kernel) (by decide +kernel)
theorem km_95 : Cond.soleField "HostBridge$Arguments" "sorts" ∈ cx_T := cx_tab (i := 95) (by decide +kernel) (by decide +kernel)
theorem km_96 : Cond.laysFinal "HostBridge$Arguments" "HostBridge$Arguments" "bits" "[J" ∈ cx_T := cx_tab (i := 96) (by decide +kernel) (by decide +kernel)
theorem km_97 : Cond.soleField "HostBridge$Arguments" "bits" ∈ cx_T := cx_tab (i := 97) (by decide +kernel) (by decide +kernel)
theorem km_98 : Cond.lays "HostBridge$Arguments" "HostBridge$Arguments" "count" "I" ∈ cx_T := cx_tab (i := 98) (by decide +kernel) (by decide +kernel)
theorem km_99 : Cond.soleField "HostBridge$Arguments" "count" ∈ cx_T := cx_tab (i := 99) (by decide +kernel) (by decide +kernel)
theorem km_100 : Cond.superclass "HostBridge$Arguments" "java/lang/Object" ∈ cx_T := cx_tab (i := 100) (by decide +kernel) (by decide +kernel)
theorem km_101 : Cond.arrayClass FieldType.long ∈ cx_T := cx_tab (i := 101) (by decide +kernel) (by decide +kernel)
theorem km_102 : Cond.classLink "HostBridge" 32 "HostBridge$Choice" ∈ cx_T := cx_tab (i := 102) (by decide +kernel) (by decide +kernel)
theorem km_103 : Cond.instantiable "HostBridge$Choice" 6 ∈ cx_T := cx_tab (i := 103) (by decide +kernel) (by decide +kernel)
theorem km_104 : Cond.methodLink "HostBridge" 34 ⟨"HostBridge$Choice", "<init>", "(LHostBridge$World;LHostBridge$Methods;LHostBridge$Arguments;)V"⟩ ∈ cx_T := cx_tab (i := 104) (by decide +kernel) (by decide +kernel)
theorem km_105 : Cond.instanceMethod ⟨"HostBridge$Choice", "<init>", "(LHostBridge$World;LHostBridge$Methods;LHostBridge$Arguments;)V"⟩ ∈ cx_T := cx_tab (i := 105) (by decide +kernel) (by decide +kernel)
theorem km_106 : Cond.code ⟨"HostBridge$Choice", "<init>", "(LHostBridge$World;LHostBridge$Methods;LHostBridge$Arguments;)V"⟩ prog_4_method_1_code 4 none ∈ cx_T := cx_tab (i := 106) (by decide +kernel) (by decide +kernel)
theorem km_107 : Cond.methodLink "HostBridge$Choice" 3 ⟨"java/lang/Object", "<init>", "()V"⟩ ∈ cx_T := cx_tab (i := 107) (by decide +kernel) (by decide +kernel)
theorem km_108 : Cond.fieldLink "HostBridge$Choice" 18 "HostBridge$Choice" "world" "LHostBridge$World;" ∈ cx_T := cx_tab (i := 108) (by decide +kernel) (by decide +kernel)
theorem km_109 : Cond.fieldLink "HostBridge$Choice" 22 "HostBridge$Choice" "methods" "LHostBridge$Methods;" ∈ cx_T := cx_tab (i := 109) (by decide +kernel) (by decide +kernel)
theorem km_110 : Cond.fieldLink "HostBridge$Choice" 26 "HostBridge$Choice" "arguments" "LHostBridge$Arguments;" ∈ cx_T := cx_tab (i := 110) (by decide +kernel) (by decide +kernel)
theorem km_111 : Cond.fieldLink "HostBridge$Choice" 9 "HostBridge$Choice" "candidates" "[I" ∈ cx_T := cx_tab (i := 111) (by decide +kernel) (by decide +kernel)
theorem km_112 : Cond.fieldLink "HostBridge$Choice" 15 "HostBridge$Choice" "lowest" "[I" ∈ cx_T := cx_tab (i := 112) (by decide +kernel) (by decide +kernel)
theorem km_113 : Cond.fieldLink "HostBridge$Choice" 41 "HostBridge$Choice" "count" "I" ∈ cx_T := cx_tab (i := 113) (by decide +kernel) (by decide +kernel)
theorem km_114 : Cond.fieldLinkNest "HostBridge" 154 "HostBridge$Choice" "count" "I" "HostBridge" ∈ cx_T := cx_tab (i := 114) (by decide +kernel) (by decide +kernel)
theorem km_115 : Cond.laysFinal "HostBridge$Choice" "HostBridge$Choice" "world" "LHostBridge$World;" ∈ cx_T := cx_tab (i := 115) (by decide +kernel) (by decide +kernel)
theorem km_116 : Cond.soleField "HostBridge$Choice" "world" ∈ cx_T := cx_tab (i := 116) (by decide +kernel) (by decide +kernel)
theorem km_117 : Cond.laysFinal "HostBridge$Choice" "HostBridge$Choice" "methods" "LHostBridge$Methods;" ∈ cx_T := cx_tab (i := 117) (by decide +kernel) (by decide +kernel)
theorem km_118 : Cond.soleField "HostBridge$Choice" "methods" ∈ cx_T := cx_tab (i := 118) (by decide +kernel) (by decide +kernel)
theorem km_119 : Cond.laysFinal "HostBridge$Choice" "HostBridge$Choice" "arguments" "LHostBridge$Arguments;" ∈ cx_T := cx_tab (i := 119) (by decide +kernel) (by decide +kernel)
theorem km_120 : Cond.soleField "HostBridge$Choice" "arguments" ∈ cx_T := cx_tab (i := 120) (by decide +kernel) (by decide +kernel)
theorem km_121 : Cond.laysFinal "HostBridge$Choice" "HostBridge$Choice" "candidates" "[I" ∈ cx_T := cx_tab (i := 121) (by decide +kernel) (by decide +kernel)
theorem km_122 : Cond.soleField "HostBridge$Choice" "candidates" ∈ cx_T := cx_tab (i := 122) (by decide +kernel) (by decide +kernel)
theorem km_123 : Cond.laysFinal "HostBridge$Choice" "HostBridge$Choice" "lowest" "[I" ∈ cx_T := cx_tab (i := 123) (by decide +kernel) (by decide +kernel)
theorem km_124 : Cond.soleField "HostBridge$Choice" "lowest" ∈ cx_T := cx_tab (i := 124) (by decide +kernel) (by decide +kernel)
theorem km_125 : Cond.lays "HostBridge$Choice" "HostBridge$Choice" "count" "I" ∈ cx_T := cx_tab (i := 125) (by decide +kernel) (by decide +kernel)
theorem km_126 : Cond.soleField "HostBridge$Choice" "count" ∈ cx_T := cx_tab (i := 126) (by decide +kernel) (by decide +kernel)
theorem km_127 : Cond.superclass "HostBridge$Choice" "java/lang/Object" ∈ cx_T := cx_tab (i := 127) (by decide +kernel) (by decide +kernel)
theorem km_128 : Cond.classLink "HostBridge" 41 "HostBridge$Diary" ∈ cx_T := cx_tab (i := 128) (by decide +kernel) (by decide +kernel)
theorem km_129 : Cond.instantiable "HostBridge$Diary" 6 ∈ cx_T := cx_tab (i := 129) (by decide +kernel) (by decide +kernel)
theorem km_130 : Cond.methodLinkNest "HostBridge" 43 ⟨"HostBridge$Diary", "<init>", "()V"⟩ "HostBridge" ∈ cx_T := cx_tab (i := 130) (by decide +kernel) (by decide +kernel)
theorem km_131 : Cond.instanceMethod ⟨"HostBridge$Diary", "<init>", "()V"⟩ ∈ cx_T := cx_tab (i := 131) (by decide +kernel) (by decide +kernel)
theorem km_132 : Cond.code ⟨"HostBridge$Diary", "<init>", "()V"⟩ prog_5_method_1_code 1 none ∈ cx_T := cx_tab (i := 132) (by decide +kernel) (by decide +kernel)
theorem km_133 : Cond.methodLink "HostBridge$Diary" 3 ⟨"java/lang/Object", "<init>", "()V"⟩ ∈ cx_T := cx_tab (i := 133) (by decide +kernel) (by decide +kernel)
theorem km_134 : Cond.fieldLink "HostBridge$Diary" 9 "HostBridge$Diary" "objects" "[I" ∈ cx_T := cx_tab (i := 134) (by decide +kernel) (by decide +kernel)
theorem km_135 : Cond.fieldLink "HostBridge$Diary" 15 "HostBridge$Diary" "methods" "[I" ∈ cx_T := cx_tab (i := 135) (by decide +kernel) (by decide +kernel)
theorem km_136 : Cond.fieldLink "HostBridge$Diary" 18 "HostBridge$Diary" "sizes" "[I" ∈ cx_T := cx_tab (i := 136) (by decide +kernel) (by decide +kernel)
theorem km_137 : Cond.fieldLink "HostBridge$Diary" 21 "HostBridge$Diary" "values" "[J" ∈ cx_T := cx_tab (i := 137) (by decide +kernel) (by decide +kernel)
theorem km_138 : Cond.fieldLink "HostBridge$Diary" 33 "HostBridge$Diary" "latestGiven" "J" ∈ cx_T := cx_tab (i := 138) (by decide +kernel) (by decide +kernel)
theorem km_139 : Cond.fieldLinkNest "HostBridge" 188 "HostBridge$Diary" "latestGiven" "J" "HostBridge" ∈ cx_T := cx_tab (i := 139) (by decide +kernel) (by decide +kernel)
theorem km_140 : Cond.fieldLink "HostBridge$Diary" 25 "HostBridge$Diary" "count" "I" ∈ cx_T := cx_tab (i := 140) (by decide +kernel) (by decide +kernel)
theorem km_141 : Cond.fieldLinkNest "HostBridge" 185 "HostBridge$Diary" "count" "I" "HostBridge" ∈ cx_T := cx_tab (i := 141) (by decide +kernel) (by decide +kernel)
theorem km_142 : Cond.laysFinal "HostBridge$Diary" "HostBridge$Diary" "objects" "[I" ∈ cx_T := cx_tab (i := 142) (by decide +kernel) (by decide +kernel)
theorem km_143 : Cond.soleField "HostBridge$Diary" "objects" ∈ cx_T := cx_tab (i := 143) (by decide +kernel) (by decide +kernel)
theorem km_144 : Cond.laysFinal "HostBridge$Diary" "HostBridge$Diary" "methods" "[I" ∈ cx_T := cx_tab (i := 144) (by decide +kernel) (by decide +kernel)
theorem km_145 : Cond.soleField "HostBridge$Diary" "methods" ∈ cx_T := cx_tab (i := 145) (by decide +kernel) (by decide +kernel)
theorem km_146 : Cond.laysFinal "HostBridge$Diary" "HostBridge$Diary" "sizes" "[I" ∈ cx_T := cx_tab (i := 146) (by decide +kernel) (by decide +kernel)
theorem km_147 : Cond.soleField "HostBridge$Diary" "sizes" ∈ cx_T := cx_tab (i := 147) (by decide +kernel) (by decide +kernel)
theorem km_148 : Cond.laysFinal "HostBridge$Diary" "HostBridge$Diary" "values" "[J" ∈ cx_T := cx_tab (i := 148) (by decide +kernel) (by decide +kernel)
theorem km_149 : Cond.soleField "HostBridge$Diary" "values" ∈ cx_T := cx_tab (i := 149) (by decide +kernel) (by decide +kernel)
theorem km_150 : Cond.lays "HostBridge$Diary" "HostBridge$Diary" "latestGiven" "J" ∈ cx_T := cx_tab (i := 150) (by decide +kernel) (by decide +kernel)
theorem km_151 : Cond.soleField "HostBridge$Diary" "latestGiven" ∈ cx_T := cx_tab (i := 151) (by decide +kernel) (by decide +kernel)
theorem km_152 : Cond.lays "HostBridge$Diary" "HostBridge$Diary" "count" "I" ∈ cx_T := cx_tab (i := 152) (by decide +kernel) (by decide +kernel)
theorem km_153 : Cond.soleField "HostBridge$Diary" "count" ∈ cx_T := cx_tab (i := 153) (by decide +kernel) (by decide +kernel)
theorem km_154 : Cond.superclass "HostBridge$Diary" "java/lang/Object" ∈ cx_T := cx_tab (i := 154) (by decide +kernel) (by decide +kernel)
theorem km_155 : Cond.classLink "HostBridge" 48 "HostBridge$Answers" ∈ cx_T := cx_tab (i := 155) (by decide +kernel) (by decide +kernel)
theorem km_156 : Cond.instantiable "HostBridge$Answers" 3 ∈ cx_T := cx_tab (i := 156) (by decide +kernel) (by decide +kernel)
theorem km_157 : Cond.methodLinkNest "HostBridge" 50 ⟨"HostBridge$Answers", "<init>", "()V"⟩ "HostBridge" ∈ cx_T := cx_tab (i := 157) (by decide +kernel) (by decide +kernel)
theorem km_158 : Cond.instanceMethod ⟨"HostBridge$Answers", "<init>", "()V"⟩ ∈ cx_T := cx_tab (i := 158) (by decide +kernel) (by decide +kernel)
theorem km_159 : Cond.code ⟨"HostBridge$Answers", "<init>", "()V"⟩ prog_2_method_1_code 1 none ∈ cx_T := cx_tab (i := 159) (by decide +kernel) (by decide +kernel)
theorem km_160 : Cond.methodLink "HostBridge$Answers" 3 ⟨"java/lang/Object", "<init>", "()V"⟩ ∈ cx_T := cx_tab (i := 160) (by decide +kernel) (by decide +kernel)
theorem km_161 : Cond.fieldLink "HostBridge$Answers" 9 "HostBridge$Answers" "waiting" "[J" ∈ cx_T := cx_tab (i := 161) (by decide +kernel) (by decide +kernel)
theorem km_162 : Cond.fieldLink "HostBridge$Answers" 15 "HostBridge$Answers" "start" "I" ∈ cx_T := cx_tab (i := 162) (by decide +kernel) (by decide +kernel)
theorem km_163 : Cond.fieldLink "HostBridge$Answers" 19 "HostBridge$Answers" "count" "I" ∈ cx_T := cx_tab (i := 163) (by decide +kernel) (by decide +kernel)
theorem km_164 : Cond.fieldLinkNest "HostBridge" 179 "HostBridge$Answers" "count" "I" "HostBridge" ∈ cx_T := cx_tab (i := 164) (by decide +kernel) (by decide +kernel)
theorem km_165 : Cond.laysFinal "HostBridge$Answers" "HostBridge$Answers" "waiting" "[J" ∈ cx_T := cx_tab (i := 165) (by decide +kernel) (by decide +kernel)
theorem km_166 : Cond.soleField "HostBridge$Answers" "waiting" ∈ cx_T := cx_tab (i := 166) (by decide +kernel) (by decide +kernel)
theorem km_167 : Cond.lays "HostBridge$Answers" "HostBridge$Answers" "start" "I" ∈ cx_T := cx_tab (i := 167) (by decide +kernel) (by decide +kernel)
theorem km_168 : Cond.soleField "HostBridge$Answers" "start" ∈ cx_T := cx_tab (i := 168) (by decide +kernel) (by decide +kernel)
theorem km_169 : Cond.lays "HostBridge$Answers" "HostBridge$Answers" "count" "I" ∈ cx_T := cx_tab (i := 169) (by decide +kernel) (by decide +kernel)
theorem km_170 : Cond.soleField "HostBridge$Answers" "count" ∈ cx_T := cx_tab (i := 170) (by decide +kernel) (by decide +kernel)
theorem km_171 : Cond.superclass "HostBridge$Answers" "java/lang/Object" ∈ cx_T := cx_tab (i := 171) (by decide +kernel) (by decide +kernel)
theorem km_172 : Cond.fieldLink "HostBridge" 10 "HostBridge" "world" "LHostBridge$World;" ∈ cx_T := cx_tab (i := 172) (by decide +kernel) (by decide +kernel)
theorem km_173 : Cond.fieldLink "HostBridge" 19 "HostBridge" "methods" "LHostBridge$Methods;" ∈ cx_T := cx_tab (i := 173) (by decide +kernel) (by decide +kernel)
theorem km_174 : Cond.fieldLink "HostBridge" 28 "HostBridge" "arguments" "LHostBridge$Arguments;" ∈ cx_T := cx_tab (i := 174) (by decide +kernel) (by decide +kernel)
theorem km_175 : Cond.fieldLink "HostBridge" 37 "HostBridge" "choice" "LHostBridge$Choice;" ∈ cx_T := cx_tab (i := 175) (by decide +kernel) (by decide +kernel)
theorem km_176 : Cond.fieldLink "HostBridge" 44 "HostBridge" "diary" "LHostBridge$Diary;" ∈ cx_T := cx_tab (i := 176) (by decide +kernel) (by decide +kernel)
theorem km_177 : Cond.fieldLink "HostBridge" 51 "HostBridge" "answers" "LHostBridge$Answers;" ∈ cx_T := cx_tab (i := 177) (by decide +kernel) (by decide +kernel)
theorem km_178 : Cond.laysFinal "HostBridge" "HostBridge" "world" "LHostBridge$World;" ∈ cx_T := cx_tab (i := 178) (by decide +kernel) (by decide +kernel)
theorem km_179 : Cond.soleField "HostBridge" "world" ∈ cx_T := cx_tab (i := 179) (by decide +kernel) (by decide +kernel)
theorem km_180 : Cond.laysFinal "HostBridge" "HostBridge" "methods" "LHostBridge$Methods;" ∈ cx_T := cx_tab (i := 180) (by decide +kernel) (by decide +kernel)
theorem km_181 : Cond.soleField "HostBridge" "methods" ∈ cx_T := cx_tab (i := 181) (by decide +kernel) (by decide +kernel)
theorem km_182 : Cond.laysFinal "HostBridge" "HostBridge" "arguments" "LHostBridge$Arguments;" ∈ cx_T := cx_tab (i := 182) (by decide +kernel) (by decide +kernel)
theorem km_183 : Cond.soleField "HostBridge" "arguments" ∈ cx_T := cx_tab (i := 183) (by decide +kernel) (by decide +kernel)
theorem km_184 : Cond.laysFinal "HostBridge" "HostBridge" "choice" "LHostBridge$Choice;" ∈ cx_T := cx_tab (i := 184) (by decide +kernel) (by decide +kernel)
theorem km_185 : Cond.soleField "HostBridge" "choice" ∈ cx_T := cx_tab (i := 185) (by decide +kernel) (by decide +kernel)
theorem km_186 : Cond.laysFinal "HostBridge" "HostBridge" "diary" "LHostBridge$Diary;" ∈ cx_T := cx_tab (i := 186) (by decide +kernel) (by decide +kernel)
theorem km_187 : Cond.soleField "HostBridge" "diary" ∈ cx_T := cx_tab (i := 187) (by decide +kernel) (by decide +kernel)
theorem km_188 : Cond.laysFinal "HostBridge" "HostBridge" "answers" "LHostBridge$Answers;" ∈ cx_T := cx_tab (i := 188) (by decide +kernel) (by decide +kernel)
theorem km_189 : Cond.soleField "HostBridge" "answers" ∈ cx_T := cx_tab (i := 189) (by decide +kernel) (by decide +kernel)
theorem km_190 : Cond.superclass "HostBridge" "java/lang/Object" ∈ cx_T := cx_tab (i := 190) (by decide +kernel) (by decide +kernel)
theorem km_191 : Cond.methodLink "HostBridgeLaw" 104 ⟨"HostBridge", "calls", "()I"⟩ ∈ cx_T := cx_tab (i := 191) (by decide +kernel) (by decide +kernel)
theorem km_192 : Cond.instanceMethod ⟨"HostBridge", "calls", "()I"⟩ ∈ cx_T := cx_tab (i := 192) (by decide +kernel) (by decide +kernel)
theorem km_193 : Cond.selects "HostBridge" ⟨"HostBridge", "calls", "()I"⟩ ⟨"HostBridge", "calls", "()I"⟩ ∈ cx_T := cx_tab (i := 193) (by decide +kernel) (by decide +kernel)
theorem km_194 : Cond.code ⟨"HostBridge", "calls", "()I"⟩ prog_1_method_11_code 1 (some FieldType.int) ∈ cx_T := cx_tab (i := 194) (by decide +kernel) (by decide +kernel)
theorem km_195 : Cond.methodLink "HostBridgeLaw" 62 ⟨"HostBridgeLaw", "klass", "(LHostBridge;I[J)I"⟩ ∈ cx_T := cx_tab (i := 195) (by decide +kernel) (by decide +kernel)
theorem km_196 : Cond.static ⟨"HostBridgeLaw", "klass", "(LHostBridge;I[J)I"⟩ ∈ cx_T := cx_tab (i := 196) (by decide +kernel) (by decide +kernel)
theorem km_197 : Cond.codeWith ⟨"HostBridgeLaw", "klass", "(LHostBridge;I[J)I"⟩ method_3_code 4 (some FieldType.int) [(0, 9, 12, 13), (0, 9, 15, 15)] ∈ cx_T := cx_tab (i := 197) (by decide +kernel) (by decide +kernel)
theorem km_198 : Cond.classLink "HostBridgeLaw" 13 "java/lang/IllegalArgumentException" ∈ cx_T := cx_tab (i := 198) (by decide +kernel) (by decide +kernel)
theorem km_199 : Cond.classLink "HostBridgeLaw" 15 "java/lang/IllegalStateException" ∈ cx_T := cx_tab (i := 199) (by decide +kernel) (by decide +kernel)
theorem km_200 : Cond.methodLink "HostBridgeLaw" 7 ⟨"HostBridge", "klass", "(I)I"⟩ ∈ cx_T := cx_tab (i := 200) (by decide +kernel) (by decide +kernel)
theorem km_201 : Cond.instanceMethod ⟨"HostBridge", "klass", "(I)I"⟩ ∈ cx_T := cx_tab (i := 201) (by decide +kernel) (by decide +kernel)
theorem km_202 : Cond.selects "HostBridge" ⟨"HostBridge", "klass", "(I)I"⟩ ⟨"HostBridge", "klass", "(I)I"⟩ ∈ cx_T := cx_tab (i := 202) (by decide +kernel) (by decide +kernel)
theorem km_203 : Cond.code ⟨"HostBridge", "klass", "(I)I"⟩ prog_1_method_2_code 2 (some FieldType.int) ∈ cx_T := cx_tab (i := 203) (by decide +kernel) (by decide +kernel)
theorem km_204 : Cond.methodLink "HostBridge" 55 ⟨"HostBridge$World", "hasClass", "(I)Z"⟩ ∈ cx_T := cx_tab (i := 204) (by decide +kernel) (by decide +kernel)
theorem km_205 : Cond.instanceMethod ⟨"HostBridge$World", "hasClass", "(I)Z"⟩ ∈ cx_T := cx_tab (i := 205) (by decide +kernel) (by decide +kernel)
theorem km_206 : Cond.selects "HostBridge$World" ⟨"HostBridge$World", "hasClass", "(I)Z"⟩ ⟨"HostBridge$World", "hasClass", "(I)Z"⟩ ∈ cx_T := cx_tab (i := 206) (by decide +kernel) (by decide +kernel)
theorem km_207 : Cond.code ⟨"HostBridge$World", "hasClass", "(I)Z"⟩ prog_8_method_2_code 2 (some FieldType.boolean) ∈ cx_T := cx_tab (i := 207) (by decide +kernel) (by decide +kernel)
theorem km_208 : Cond.classLink "HostBridge" 59 "java/lang/IllegalArgumentException" ∈ cx_T := cx_tab (i := 208) (by decide +kernel) (by decide +kernel)
theorem km_209 : Cond.instantiable "java/lang/IllegalArgumentException" 6 ∈ cx_T := cx_tab (i := 209) (by decide +kernel) (by decide +kernel)
theorem km_210 : Cond.castable "java/lang/IllegalArgumentException" "java/lang/IllegalArgumentException" ∈ cx_T := cx_tab (i := 210) (by decide +kernel) (by decide +kernel)
theorem km_211 : Cond.declares ⟨"java/lang/RuntimeException", "<init>", "()V"⟩ ∈ cx_T := cx_tab (i := 211) (by decide +kernel) (by decide +kernel)
theorem km_212 : Cond.declares ⟨"java/lang/RuntimeException", "<init>", "(Ljava/lang/String;)V"⟩ ∈ cx_T := cx_tab (i := 212) (by decide +kernel) (by decide +kernel)
theorem km_213 : Cond.declares ⟨"java/lang/Exception", "<init>", "()V"⟩ ∈ cx_T := cx_tab (i := 213) (by decide +kernel) (by decide +kernel)
theorem km_214 : Cond.declares ⟨"java/lang/Exception", "<init>", "(Ljava/lang/String;)V"⟩ ∈ cx_T := cx_tab (i := 214) (by decide +kernel) (by decide +kernel)
theorem km_215 : Cond.declares ⟨"java/lang/Throwable", "<init>", "()V"⟩ ∈ cx_T := cx_tab (i := 215) (by decide +kernel) (by decide +kernel)
theorem km_216 : Cond.declares ⟨"java/lang/Throwable", "<init>", "(Ljava/lang/String;)V"⟩ ∈ cx_T := cx_tab (i := 216) (by decide +kernel) (by decide +kernel)
theorem km_217 : Cond.selects "java/lang/IllegalArgumentException" ⟨"java/lang/Throwable", "fillInStackTrace", "(I)Ljava/lang/Throwable;"⟩ ⟨"java/lang/Throwable", "fillInStackTrace", "(I)Ljava/lang/Throwable;"⟩ ∈ cx_T := cx_tab (i := 217) (by decide +kernel) (by decide +kernel)
theorem km_218 : Cond.selects "java/lang/IllegalArgumentException" ⟨"java/lang/Throwable", "fillInStackTrace", "()Ljava/lang/Throwable;"⟩ ⟨"java/lang/Throwable", "fillInStackTrace", "()Ljava/lang/Throwable;"⟩ ∈ cx_T := cx_tab (i := 218) (by decide +kernel) (by decide +kernel)
theorem km_219 : Cond.lays "java/lang/IllegalArgumentException" "java/lang/Throwable" "cause" "Ljava/lang/Throwable;" ∈ cx_T := cx_tab (i := 219) (by decide +kernel) (by decide +kernel)
theorem km_220 : Cond.lays "java/lang/Throwable" "java/lang/Throwable" "cause" "Ljava/lang/Throwable;" ∈ cx_T := cx_tab (i := 220) (by decide +kernel) (by decide +kernel)
theorem km_221 : Cond.lays "java/lang/IllegalArgumentException" "java/lang/Throwable" "stackTrace" "[Ljava/lang/StackTraceElement;" ∈ cx_T := cx_tab (i := 221) (by decide +kernel) (by decide +kernel)
theorem km_222 : Cond.lays "java/lang/Throwable" "java/lang/Throwable" "stackTrace" "[Ljava/lang/StackTraceElement;" ∈ cx_T := cx_tab (i := 222) (by decide +kernel) (by decide +kernel)
theorem km_223 : Cond.lays "java/lang/IllegalArgumentException" "java/lang/Throwable" "suppressedExceptions" "Ljava/util/List;" ∈ cx_T := cx_tab (i := 223) (by decide +kernel) (by decide +kernel)
theorem km_224 : Cond.lays "java/lang/Throwable" "java/lang/Throwable" "suppressedExceptions" "Ljava/util/List;" ∈ cx_T := cx_tab (i := 224) (by decide +kernel) (by decide +kernel)
theorem km_225 : Cond.lays "java/lang/IllegalArgumentException" "java/lang/Throwable" "detailMessage" "Ljava/lang/String;" ∈ cx_T := cx_tab (i := 225) (by decide +kernel) (by decide +kernel)
theorem km_226 : Cond.lays "java/lang/Throwable" "java/lang/Throwable" "detailMessage" "Ljava/lang/String;" ∈ cx_T := cx_tab (i := 226) (by decide +kernel) (by decide +kernel)
theorem km_227 : Cond.lays "java/lang/IllegalArgumentException" "java/lang/Throwable" "backtrace" "Ljava/lang/Object;" ∈ cx_T := cx_tab (i := 227) (by decide +kernel) (by decide +kernel)
theorem km_228 : Cond.lays "java/lang/Throwable" "java/lang/Throwable" "backtrace" "Ljava/lang/Object;" ∈ cx_T := cx_tab (i := 228) (by decide +kernel) (by decide +kernel)
theorem km_229 : Cond.fieldLink "java/lang/Throwable" 198 "java/lang/Throwable" "backtrace" "Ljava/lang/Object;" ∈ cx_T := cx_tab (i := 229) (by decide +kernel) (by decide +kernel)
theorem km_230 : Cond.superclass "java/lang/Throwable" "java/lang/Object" ∈ cx_T := cx_tab (i := 230) (by decide +kernel) (by decide +kernel)
theorem km_231 : Cond.instanceMethod ⟨"java/lang/Throwable", "<init>", "()V"⟩ ∈ cx_T := cx_tab (i := 231) (by decide +kernel) (by decide +kernel)
theorem km_232 : Cond.code ⟨"java/lang/Throwable", "<init>", "()V"⟩ prog_18_method_1_code 1 none ∈ cx_T := cx_tab (i := 232) (by decide +kernel) (by decide +kernel)
theorem km_233 : Cond.methodLink "java/lang/Throwable" 1 ⟨"java/lang/Object", "<init>", "()V"⟩ ∈ cx_T := cx_tab (i := 233) (by decide +kernel) (by decide +kernel)
theorem km_234 : Cond.fieldLink "java/lang/Throwable" 13 "java/lang/Throwable" "UNASSIGNED_STACK" "[Ljava/lang/StackTraceElement;" ∈ cx_T := cx_tab (i := 234) (by decide +kernel) (by decide +kernel)
theorem km_236 : Cond.fieldLink "java/lang/Throwable" 20 "java/lang/Throwable" "SUPPRESSED_SENTINEL" "Ljava/util/List;" ∈ cx_T := cx_tab (i := 236) (by decide +kernel) (by decide +kernel)
theorem km_238 : Cond.methodLink "java/lang/Throwable" 27 ⟨"java/lang/Throwable", "fillInStackTrace", "()Ljava/lang/Throwable;"⟩ ∈ cx_T := cx_tab (i := 238) (by decide +kernel) (by decide +kernel)
theorem km_239 : Cond.instanceMethod ⟨"java/lang/Throwable", "fillInStackTrace", "()Ljava/lang/Throwable;"⟩ ∈ cx_T := cx_tab (i := 239) (by decide +kernel) (by decide +kernel)
theorem km_240 : Cond.sameMethod "java/lang/Throwable" "java/lang/Throwable" "fillInStackTrace" "()Ljava/lang/Throwable;" ∈ cx_T := cx_tab (i := 240) (by decide +kernel) (by decide +kernel)
theorem km_241 : Cond.selects "java/lang/IllegalStateException" ⟨"java/lang/Throwable", "fillInStackTrace", "()Ljava/lang/Throwable;"⟩ ⟨"java/lang/Throwable", "fillInStackTrace", "()Ljava/lang/Throwable;"⟩ ∈ cx_T := cx_tab (i := 241) (by decide +kernel) (by decide +kernel)
theorem km_242 : Cond.selects "java/lang/IndexOutOfBoundsException" ⟨"java/lang/Throwable", "fillInStackTrace", "()Ljava/lang/Throwable;"⟩ ⟨"java/lang/Throwable", "fillInStackTrace", "()Ljava/lang/Throwable;"⟩ ∈ cx_T := cx_tab (i := 242) (by decide +kernel) (by decide +kernel)
theorem km_243 : Cond.selects "java/util/NoSuchElementException" ⟨"java/lang/Throwable", "fillInStackTrace", "()Ljava/lang/Throwable;"⟩ ⟨"java/lang/Throwable", "fillInStackTrace", "()Ljava/lang/Throwable;"⟩ ∈ cx_T := cx_tab (i := 243) (by decide +kernel) (by decide +kernel)
theorem km_244 : Cond.codeSync ⟨"java/lang/Throwable", "fillInStackTrace", "()Ljava/lang/Throwable;"⟩ prog_18_method_18_code 1 (Option.some (FieldType.object "java/lang/Throwable")) ∈ cx_T := cx_tab (i := 244) (by decide +kernel) (by decide +kernel)
theorem km_245 : Cond.methodLink "java/lang/Throwable" 202 ⟨"java/lang/Throwable", "fillInStackTrace", "(I)Ljava/lang/Throwable;"⟩ ∈ cx_T := cx_tab (i := 245) (by decide +kernel) (by decide +kernel)
theorem km_246 : Cond.privateMethod ⟨"java/lang/Throwable", "fillInStackTrace", "(I)Ljava/lang/Throwable;"⟩ ∈ cx_T := cx_tab (i := 246) (by decide +kernel) (by decide +kernel)
theorem km_247 : Cond.instanceMethod ⟨"java/lang/Throwable", "fillInStackTrace", "(I)Ljava/lang/Throwable;"⟩ ∈ cx_T := cx_tab (i := 247) (by decide +kernel) (by decide +kernel)
theorem km_248 : Cond.instantiable "java/lang/Throwable" 6 ∈ cx_T := cx_tab (i := 248) (by decide +kernel) (by decide +kernel)
theorem km_249 : Cond.native ⟨"java/lang/Throwable", "fillInStackTrace", "(I)Ljava/lang/Throwable;"⟩ ∈ cx_T := cx_tab (i := 249) (by decide +kernel) (by decide +kernel)
theorem km_251 : Cond.methodLink "HostBridge" 63 ⟨"java/lang/IllegalArgumentException", "<init>", "(Ljava/lang/String;)V"⟩ ∈ cx_T := cx_tab (i := 251) (by decide +kernel) (by decide +kernel)
theorem km_252 : Cond.instanceMethod ⟨"java/lang/IllegalArgumentException", "<init>", "(Ljava/lang/String;)V"⟩ ∈ cx_T := cx_tab (i := 252) (by decide +kernel) (by decide +kernel)
theorem km_253 : Cond.code ⟨"java/lang/IllegalArgumentException", "<init>", "(Ljava/lang/String;)V"⟩ prog_12_method_2_code 2 none ∈ cx_T := cx_tab (i := 253) (by decide +kernel) (by decide +kernel)
theorem km_254 : Cond.methodLink "java/lang/IllegalArgumentException" 7 ⟨"java/lang/RuntimeException", "<init>", "(Ljava/lang/String;)V"⟩ ∈ cx_T := cx_tab (i := 254) (by decide +kernel) (by decide +kernel)
theorem km_255 : Cond.instanceMethod ⟨"java/lang/RuntimeException", "<init>", "(Ljava/lang/String;)V"⟩ ∈ cx_T := cx_tab (i := 255) (by decide +kernel) (by decide +kernel)
theorem km_256 : Cond.code ⟨"java/lang/RuntimeException", "<init>", "(Ljava/lang/String;)V"⟩ prog_16_method_2_code 2 none ∈ cx_T := cx_tab (i := 256) (by decide +kernel) (by decide +kernel)
theorem km_257 : Cond.methodLink "java/lang/RuntimeException" 7 ⟨"java/lang/Exception", "<init>", "(Ljava/lang/String;)V"⟩ ∈ cx_T := cx_tab (i := 257) (by decide +kernel) (by decide +kernel)
theorem km_258 : Cond.instanceMethod ⟨"java/lang/Exception", "<init>", "(Ljava/lang/String;)V"⟩ ∈ cx_T := cx_tab (i := 258) (by decide +kernel) (by decide +kernel)
theorem km_259 : Cond.code ⟨"java/lang/Exception", "<init>", "(Ljava/lang/String;)V"⟩ prog_11_method_2_code 2 none ∈ cx_T := cx_tab (i := 259) (by decide +kernel) (by decide +kernel)
theorem km_260 : Cond.methodLink "java/lang/Exception" 7 ⟨"java/lang/Throwable", "<init>", "(Ljava/lang/String;)V"⟩ ∈ cx_T := cx_tab (i := 260) (by decide +kernel) (by decide +kernel)
theorem km_261 : Cond.instanceMethod ⟨"java/lang/Throwable", "<init>", "(Ljava/lang/String;)V"⟩ ∈ cx_T := cx_tab (i := 261) (by decide +kernel) (by decide +kernel)
theorem km_262 : Cond.code ⟨"java/lang/Throwable", "<init>", "(Ljava/lang/String;)V"⟩ prog_18_method_2_code 2 none ∈ cx_T := cx_tab (i := 262) (by decide +kernel) (by decide +kernel)
theorem km_263 : Cond.fieldLink "java/lang/Throwable" 198 "java/lang/Throwable" "backtrace" "Ljava/lang/Object;" ∈ cx_T := cx_tab (i := 263) (by decide +kernel) (by decide +kernel)
theorem km_264 : Cond.fieldLink "java/lang/Throwable" 31 "java/lang/Throwable" "detailMessage" "Ljava/lang/String;" ∈ cx_T := cx_tab (i := 264) (by decide +kernel) (by decide +kernel)
theorem km_265 : Cond.fieldLink "java/lang/Throwable" 7 "java/lang/Throwable" "cause" "Ljava/lang/Throwable;" ∈ cx_T := cx_tab (i := 265) (by decide +kernel) (by decide +kernel)
theorem km_266 : Cond.fieldLink "java/lang/Throwable" 17 "java/lang/Throwable" "stackTrace" "[Ljava/lang/StackTraceElement;" ∈ cx_T := cx_tab (i := 266) (by decide +kernel) (by decide +kernel)
theorem km_267 : Cond.fieldLink "java/lang/Throwable" 24 "java/lang/Throwable" "suppressedExceptions" "Ljava/util/List;" ∈ cx_T := cx_tab (i := 267) (by decide +kernel) (by decide +kernel)
theorem km_268 : Cond.soleField "java/lang/Throwable" "backtrace" ∈ cx_T := cx_tab (i := 268) (by decide +kernel) (by decide +kernel)
theorem km_269 : Cond.soleField "java/lang/Throwable" "detailMessage" ∈ cx_T := cx_tab (i := 269) (by decide +kernel) (by decide +kernel)
theorem km_270 : Cond.soleField "java/lang/Throwable" "cause" ∈ cx_T := cx_tab (i := 270) (by decide +kernel) (by decide +kernel)
theorem km_271 : Cond.soleField "java/lang/Throwable" "stackTrace" ∈ cx_T := cx_tab (i := 271) (by decide +kernel) (by decide +kernel)
theorem km_272 : Cond.lays "java/lang/IllegalArgumentException" "java/lang/Throwable" "depth" "I" ∈ cx_T := cx_tab (i := 272) (by decide +kernel) (by decide +kernel)
theorem km_273 : Cond.soleField "java/lang/Throwable" "depth" ∈ cx_T := cx_tab (i := 273) (by decide +kernel) (by decide +kernel)
theorem km_274 : Cond.soleField "java/lang/Throwable" "suppressedExceptions" ∈ cx_T := cx_tab (i := 274) (by decide +kernel) (by decide +kernel)
theorem km_275 : Cond.superclass "java/lang/IllegalArgumentException" "java/lang/RuntimeException" ∈ cx_T := cx_tab (i := 275) (by decide +kernel) (by decide +kernel)
theorem km_276 : Cond.arrayClass FieldType.byte ∈ cx_T := cx_tab (i := 276) (by decide +kernel) (by decide +kernel)
theorem km_277 : Cond.classLink "HostBridge" 70 "java/lang/IllegalStateException" ∈ cx_T := cx_tab (i := 277) (by decide +kernel) (by decide +kernel)
theorem km_278 : Cond.instantiable "java/lang/IllegalStateException" 6 ∈ cx_T := cx_tab (i := 278) (by decide +kernel) (by decide +kernel)
theorem km_279 : Cond.castable "java/lang/IllegalStateException" "java/lang/IllegalStateException" ∈ cx_T := cx_tab (i := 279) (by decide +kernel) (by decide +kernel)
theorem km_280 : Cond.selects "java/lang/IllegalStateException" ⟨"java/lang/Throwable", "fillInStackTrace", "(I)Ljava/lang/Throwable;"⟩ ⟨"java/lang/Throwable", "fillInStackTrace", "(I)Ljava/lang/Throwable;"⟩ ∈ cx_T := cx_tab (i := 280) (by decide +kernel) (by decide +kernel)
theorem km_281 : Cond.lays "java/lang/IllegalStateException" "java/lang/Throwable" "cause" "Ljava/lang/Throwable;" ∈ cx_T := cx_tab (i := 281) (by decide +kernel) (by decide +kernel)
theorem km_282 : Cond.lays "java/lang/IllegalStateException" "java/lang/Throwable" "stackTrace" "[Ljava/lang/StackTraceElement;" ∈ cx_T := cx_tab (i := 282) (by decide +kernel) (by decide +kernel)
theorem km_283 : Cond.lays "java/lang/IllegalStateException" "java/lang/Throwable" "suppressedExceptions" "Ljava/util/List;" ∈ cx_T := cx_tab (i := 283) (by decide +kernel) (by decide +kernel)
theorem km_284 : Cond.lays "java/lang/IllegalStateException" "java/lang/Throwable" "detailMessage" "Ljava/lang/String;" ∈ cx_T := cx_tab (i := 284) (by decide +kernel) (by decide +kernel)
theorem km_285 : Cond.lays "java/lang/IllegalStateException" "java/lang/Throwable" "backtrace" "Ljava/lang/Object;" ∈ cx_T := cx_tab (i := 285) (by decide +kernel) (by decide +kernel)
theorem km_287 : Cond.methodLink "HostBridge" 74 ⟨"java/lang/IllegalStateException", "<init>", "(Ljava/lang/String;)V"⟩ ∈ cx_T := cx_tab (i := 287) (by decide +kernel) (by decide +kernel)
theorem km_288 : Cond.instanceMethod ⟨"java/lang/IllegalStateException", "<init>", "(Ljava/lang/String;)V"⟩ ∈ cx_T := cx_tab (i := 288) (by decide +kernel) (by decide +kernel)
theorem km_289 : Cond.code ⟨"java/lang/IllegalStateException", "<init>", "(Ljava/lang/String;)V"⟩ prog_13_method_2_code 2 none ∈ cx_T := cx_tab (i := 289) (by decide +kernel) (by decide +kernel)
theorem km_290 : Cond.methodLink "java/lang/IllegalStateException" 7 ⟨"java/lang/RuntimeException", "<init>", "(Ljava/lang/String;)V"⟩ ∈ cx_T := cx_tab (i := 290) (by decide +kernel) (by decide +kernel)
theorem km_291 : Cond.lays "java/lang/IllegalStateException" "java/lang/Throwable" "depth" "I" ∈ cx_T := cx_tab (i := 291) (by decide +kernel) (by decide +kernel)
theorem km_292 : Cond.superclass "java/lang/IllegalStateException" "java/lang/RuntimeException" ∈ cx_T := cx_tab (i := 292) (by decide +kernel) (by decide +kernel)
theorem km_293 : Cond.methodLink "HostBridge" 75 ⟨"HostBridge$World", "addClass", "(I)I"⟩ ∈ cx_T := cx_tab (i := 293) (by decide +kernel) (by decide +kernel)
theorem km_294 : Cond.instanceMethod ⟨"HostBridge$World", "addClass", "(I)I"⟩ ∈ cx_T := cx_tab (i := 294) (by decide +kernel) (by decide +kernel)
theorem km_295 : Cond.selects "HostBridge$World" ⟨"HostBridge$World", "addClass", "(I)I"⟩ ⟨"HostBridge$World", "addClass", "(I)I"⟩ ∈ cx_T := cx_tab (i := 295) (by decide +kernel) (by decide +kernel)
theorem km_296 : Cond.code ⟨"HostBridge$World", "addClass", "(I)I"⟩ prog_8_method_6_code 2 (some FieldType.int) ∈ cx_T := cx_tab (i := 296) (by decide +kernel) (by decide +kernel)
theorem km_297 : Cond.methodLink "HostBridgeLaw" 72 ⟨"HostBridgeLaw", "method", "(LHostBridge;IIIII[J)I"⟩ ∈ cx_T := cx_tab (i := 297) (by decide +kernel) (by decide +kernel)
theorem km_298 : Cond.static ⟨"HostBridgeLaw", "method", "(LHostBridge;IIIII[J)I"⟩ ∈ cx_T := cx_tab (i := 298) (by decide +kernel) (by decide +kernel)
theorem km_299 : Cond.codeWith ⟨"HostBridgeLaw", "method", "(LHostBridge;IIIII[J)I"⟩ method_4_code 8 (some FieldType.int) [(0, 16, 19, 13), (0, 16, 23, 15)] ∈ cx_T := cx_tab (i := 299) (by decide +kernel) (by decide +kernel)
theorem km_300 : Cond.methodLink "HostBridgeLaw" 17 ⟨"HostBridge", "method", "(IIIII)I"⟩ ∈ cx_T := cx_tab (i := 300) (by decide +kernel) (by decide +kernel)
theorem km_301 : Cond.instanceMethod ⟨"HostBridge", "method", "(IIIII)I"⟩ ∈ cx_T := cx_tab (i := 301) (by decide +kernel) (by decide +kernel)
theorem km_302 : Cond.selects "HostBridge" ⟨"HostBridge", "method", "(IIIII)I"⟩ ⟨"HostBridge", "method", "(IIIII)I"⟩ ∈ cx_T := cx_tab (i := 302) (by decide +kernel) (by decide +kernel)
theorem km_303 : Cond.code ⟨"HostBridge", "method", "(IIIII)I"⟩ prog_1_method_3_code 6 (some FieldType.int) ∈ cx_T := cx_tab (i := 303) (by decide +kernel) (by decide +kernel)
theorem km_305 : Cond.methodLink "HostBridge" 81 ⟨"HostBridge", "isName", "(I)Z"⟩ ∈ cx_T := cx_tab (i := 305) (by decide +kernel) (by decide +kernel)
theorem km_306 : Cond.static ⟨"HostBridge", "isName", "(I)Z"⟩ ∈ cx_T := cx_tab (i := 306) (by decide +kernel) (by decide +kernel)
theorem km_307 : Cond.code ⟨"HostBridge", "isName", "(I)Z"⟩ prog_1_method_16_code 1 (some FieldType.boolean) ∈ cx_T := cx_tab (i := 307) (by decide +kernel) (by decide +kernel)
theorem km_310 : Cond.methodLink "HostBridge" 88 ⟨"HostBridge$World", "hasTypes", "(II)Z"⟩ ∈ cx_T := cx_tab (i := 310) (by decide +kernel) (by decide +kernel)
theorem km_311 : Cond.instanceMethod ⟨"HostBridge$World", "hasTypes", "(II)Z"⟩ ∈ cx_T := cx_tab (i := 311) (by decide +kernel) (by decide +kernel)
theorem km_312 : Cond.selects "HostBridge$World" ⟨"HostBridge$World", "hasTypes", "(II)Z"⟩ ⟨"HostBridge$World", "hasTypes", "(II)Z"⟩ ∈ cx_T := cx_tab (i := 312) (by decide +kernel) (by decide +kernel)
theorem km_313 : Cond.code ⟨"HostBridge$World", "hasTypes", "(II)Z"⟩ prog_8_method_5_code 4 (some FieldType.boolean) ∈ cx_T := cx_tab (i := 313) (by decide +kernel) (by decide +kernel)
theorem km_314 : Cond.methodLinkNest "HostBridge$World" 25 ⟨"HostBridge", "typeAt", "(III)I"⟩ "HostBridge" ∈ cx_T := cx_tab (i := 314) (by decide +kernel) (by decide +kernel)
theorem km_315 : Cond.static ⟨"HostBridge", "typeAt", "(III)I"⟩ ∈ cx_T := cx_tab (i := 315) (by decide +kernel) (by decide +kernel)
theorem km_316 : Cond.code ⟨"HostBridge", "typeAt", "(III)I"⟩ prog_1_method_17_code 3 (some FieldType.int) ∈ cx_T := cx_tab (i := 316) (by decide +kernel) (by decide +kernel)
theorem km_317 : Cond.methodLink "HostBridge$World" 29 ⟨"HostBridge$World", "hasType", "(I)Z"⟩ ∈ cx_T := cx_tab (i := 317) (by decide +kernel) (by decide +kernel)
theorem km_318 : Cond.instanceMethod ⟨"HostBridge$World", "hasType", "(I)Z"⟩ ∈ cx_T := cx_tab (i := 318) (by decide +kernel) (by decide +kernel)
theorem km_319 : Cond.selects "HostBridge$World" ⟨"HostBridge$World", "hasType", "(I)Z"⟩ ⟨"HostBridge$World", "hasType", "(I)Z"⟩ ∈ cx_T := cx_tab (i := 319) (by decide +kernel) (by decide +kernel)
theorem km_320 : Cond.code ⟨"HostBridge$World", "hasType", "(I)Z"⟩ prog_8_method_4_code 2 (some FieldType.boolean) ∈ cx_T := cx_tab (i := 320) (by decide +kernel) (by decide +kernel)
theorem km_321 : Cond.methodLink "HostBridge" 92 ⟨"HostBridge$World", "hasType", "(I)Z"⟩ ∈ cx_T := cx_tab (i := 321) (by decide +kernel) (by decide +kernel)
theorem km_323 : Cond.methodLink "HostBridge" 97 ⟨"HostBridge$Methods", "find", "(IIII)I"⟩ ∈ cx_T := cx_tab (i := 323) (by decide +kernel) (by decide +kernel)
theorem km_324 : Cond.instanceMethod ⟨"HostBridge$Methods", "find", "(IIII)I"⟩ ∈ cx_T := cx_tab (i := 324) (by decide +kernel) (by decide +kernel)
theorem km_325 : Cond.selects "HostBridge$Methods" ⟨"HostBridge$Methods", "find", "(IIII)I"⟩ ⟨"HostBridge$Methods", "find", "(IIII)I"⟩ ∈ cx_T := cx_tab (i := 325) (by decide +kernel) (by decide +kernel)
theorem km_326 : Cond.code ⟨"HostBridge$Methods", "find", "(IIII)I"⟩ prog_6_method_4_code 6 (some FieldType.int) ∈ cx_T := cx_tab (i := 326) (by decide +kernel) (by decide +kernel)
theorem km_327 : Cond.methodLink "HostBridge$Methods" 28 ⟨"HostBridge$Methods", "isCalled", "(IIII)Z"⟩ ∈ cx_T := cx_tab (i := 327) (by decide +kernel) (by decide +kernel)
theorem km_328 : Cond.instanceMethod ⟨"HostBridge$Methods", "isCalled", "(IIII)Z"⟩ ∈ cx_T := cx_tab (i := 328) (by decide +kernel) (by decide +kernel)
theorem km_329 : Cond.selects "HostBridge$Methods" ⟨"HostBridge$Methods", "isCalled", "(IIII)Z"⟩ ⟨"HostBridge$Methods", "isCalled", "(IIII)Z"⟩ ∈ cx_T := cx_tab (i := 329) (by decide +kernel) (by decide +kernel)
theorem km_330 : Cond.code ⟨"HostBridge$Methods", "isCalled", "(IIII)Z"⟩ prog_6_method_3_code 5 (some FieldType.boolean) ∈ cx_T := cx_tab (i := 330) (by decide +kernel) (by decide +kernel)
theorem km_333 : Cond.methodLink "HostBridge" 108 ⟨"HostBridge$Methods", "add", "(IIII)I"⟩ ∈ cx_T := cx_tab (i := 333) (by decide +kernel) (by decide +kernel)
theorem km_334 : Cond.instanceMethod ⟨"HostBridge$Methods", "add", "(IIII)I"⟩ ∈ cx_T := cx_tab (i := 334) (by decide +kernel) (by decide +kernel)
theorem km_335 : Cond.selects "HostBridge$Methods" ⟨"HostBridge$Methods", "add", "(IIII)I"⟩ ⟨"HostBridge$Methods", "add", "(IIII)I"⟩ ∈ cx_T := cx_tab (i := 335) (by decide +kernel) (by decide +kernel)
theorem km_336 : Cond.code ⟨"HostBridge$Methods", "add", "(IIII)I"⟩ prog_6_method_2_code 5 (some FieldType.int) ∈ cx_T := cx_tab (i := 336) (by decide +kernel) (by decide +kernel)
theorem km_337 : Cond.methodLink "HostBridgeLaw" 76 ⟨"HostBridgeLaw", "object", "(LHostBridge;I[J)I"⟩ ∈ cx_T := cx_tab (i := 337) (by decide +kernel) (by decide +kernel)
theorem km_338 : Cond.static ⟨"HostBridgeLaw", "object", "(LHostBridge;I[J)I"⟩ ∈ cx_T := cx_tab (i := 338) (by decide +kernel) (by decide +kernel)
theorem km_339 : Cond.codeWith ⟨"HostBridgeLaw", "object", "(LHostBridge;I[J)I"⟩ method_5_code 4 (some FieldType.int) [(0, 9, 12, 13), (0, 9, 15, 15)] ∈ cx_T := cx_tab (i := 339) (by decide +kernel) (by decide +kernel)
theorem km_340 : Cond.methodLink "HostBridgeLaw" 21 ⟨"HostBridge", "object", "(I)I"⟩ ∈ cx_T := cx_tab (i := 340) (by decide +kernel) (by decide +kernel)
theorem km_341 : Cond.instanceMethod ⟨"HostBridge", "object", "(I)I"⟩ ∈ cx_T := cx_tab (i := 341) (by decide +kernel) (by decide +kernel)
theorem km_342 : Cond.selects "HostBridge" ⟨"HostBridge", "object", "(I)I"⟩ ⟨"HostBridge", "object", "(I)I"⟩ ∈ cx_T := cx_tab (i := 342) (by decide +kernel) (by decide +kernel)
theorem km_343 : Cond.code ⟨"HostBridge", "object", "(I)I"⟩ prog_1_method_4_code 2 (some FieldType.int) ∈ cx_T := cx_tab (i := 343) (by decide +kernel) (by decide +kernel)
theorem km_345 : Cond.methodLink "HostBridge" 116 ⟨"HostBridge$World", "addObject", "(I)I"⟩ ∈ cx_T := cx_tab (i := 345) (by decide +kernel) (by decide +kernel)
theorem km_346 : Cond.instanceMethod ⟨"HostBridge$World", "addObject", "(I)I"⟩ ∈ cx_T := cx_tab (i := 346) (by decide +kernel) (by decide +kernel)
theorem km_347 : Cond.selects "HostBridge$World" ⟨"HostBridge$World", "addObject", "(I)I"⟩ ⟨"HostBridge$World", "addObject", "(I)I"⟩ ∈ cx_T := cx_tab (i := 347) (by decide +kernel) (by decide +kernel)
theorem km_348 : Cond.code ⟨"HostBridge$World", "addObject", "(I)I"⟩ prog_8_method_7_code 2 (some FieldType.int) ∈ cx_T := cx_tab (i := 348) (by decide +kernel) (by decide +kernel)
theorem km_349 : Cond.methodLink "HostBridgeLaw" 81 ⟨"HostBridgeLaw", "argument", "(LHostBridge;IJ[J)I"⟩ ∈ cx_T := cx_tab (i := 349) (by decide +kernel) (by decide +kernel)
theorem km_350 : Cond.static ⟨"HostBridgeLaw", "argument", "(LHostBridge;IJ[J)I"⟩ ∈ cx_T := cx_tab (i := 350) (by decide +kernel) (by decide +kernel)
theorem km_351 : Cond.codeWith ⟨"HostBridgeLaw", "argument", "(LHostBridge;IJ[J)I"⟩ method_6_code 6 (some FieldType.int) [(0, 11, 14, 13), (0, 11, 18, 15)] ∈ cx_T := cx_tab (i := 351) (by decide +kernel) (by decide +kernel)
theorem km_352 : Cond.methodLink "HostBridgeLaw" 24 ⟨"HostBridge", "argument", "(IJ)I"⟩ ∈ cx_T := cx_tab (i := 352) (by decide +kernel) (by decide +kernel)
theorem km_353 : Cond.instanceMethod ⟨"HostBridge", "argument", "(IJ)I"⟩ ∈ cx_T := cx_tab (i := 353) (by decide +kernel) (by decide +kernel)
theorem km_354 : Cond.selects "HostBridge" ⟨"HostBridge", "argument", "(IJ)I"⟩ ⟨"HostBridge", "argument", "(IJ)I"⟩ ∈ cx_T := cx_tab (i := 354) (by decide +kernel) (by decide +kernel)
theorem km_355 : Cond.code ⟨"HostBridge", "argument", "(IJ)I"⟩ prog_1_method_5_code 4 (some FieldType.int) ∈ cx_T := cx_tab (i := 355) (by decide +kernel) (by decide +kernel)
theorem km_356 : Cond.methodLink "HostBridge" 119 ⟨"HostBridge", "isValue", "(IJ)Z"⟩ ∈ cx_T := cx_tab (i := 356) (by decide +kernel) (by decide +kernel)
theorem km_357 : Cond.privateMethod ⟨"HostBridge", "isValue", "(IJ)Z"⟩ ∈ cx_T := cx_tab (i := 357) (by decide +kernel) (by decide +kernel)
theorem km_358 : Cond.instanceMethod ⟨"HostBridge", "isValue", "(IJ)Z"⟩ ∈ cx_T := cx_tab (i := 358) (by decide +kernel) (by decide +kernel)
theorem km_359 : Cond.code ⟨"HostBridge", "isValue", "(IJ)Z"⟩ prog_1_method_14_code 4 (some FieldType.boolean) ∈ cx_T := cx_tab (i := 359) (by decide +kernel) (by decide +kernel)
theorem km_362 : Cond.methodLink "HostBridge" 128 ⟨"HostBridge$Arguments", "add", "(IJ)I"⟩ ∈ cx_T := cx_tab (i := 362) (by decide +kernel) (by decide +kernel)
theorem km_363 : Cond.instanceMethod ⟨"HostBridge$Arguments", "add", "(IJ)I"⟩ ∈ cx_T := cx_tab (i := 363) (by decide +kernel) (by decide +kernel)
theorem km_364 : Cond.selects "HostBridge$Arguments" ⟨"HostBridge$Arguments", "add", "(IJ)I"⟩ ⟨"HostBridge$Arguments", "add", "(IJ)I"⟩ ∈ cx_T := cx_tab (i := 364) (by decide +kernel) (by decide +kernel)
theorem km_365 : Cond.code ⟨"HostBridge$Arguments", "add", "(IJ)I"⟩ prog_3_method_2_code 4 (some FieldType.int) ∈ cx_T := cx_tab (i := 365) (by decide +kernel) (by decide +kernel)
theorem km_366 : Cond.methodLink "HostBridge$Arguments" 30 ⟨"HostBridge$Arguments", "sortOf", "(IJ)I"⟩ ∈ cx_T := cx_tab (i := 366) (by decide +kernel) (by decide +kernel)
theorem km_367 : Cond.static ⟨"HostBridge$Arguments", "sortOf", "(IJ)I"⟩ ∈ cx_T := cx_tab (i := 367) (by decide +kernel) (by decide +kernel)
theorem km_368 : Cond.code ⟨"HostBridge$Arguments", "sortOf", "(IJ)I"⟩ prog_3_method_3_code 3 (some FieldType.int) ∈ cx_T := cx_tab (i := 368) (by decide +kernel) (by decide +kernel)
theorem km_369 : Cond.methodLink "HostBridge$Arguments" 34 ⟨"HostBridge$Numbers", "isInt", "(J)Z"⟩ ∈ cx_T := cx_tab (i := 369) (by decide +kernel) (by decide +kernel)
theorem km_370 : Cond.static ⟨"HostBridge$Numbers", "isInt", "(J)Z"⟩ ∈ cx_T := cx_tab (i := 370) (by decide +kernel) (by decide +kernel)
theorem km_371 : Cond.code ⟨"HostBridge$Numbers", "isInt", "(J)Z"⟩ prog_7_method_2_code 4 (some FieldType.boolean) ∈ cx_T := cx_tab (i := 371) (by decide +kernel) (by decide +kernel)
theorem km_372 : Cond.constantLong "HostBridge$Numbers" 9 (-9223372036854775808 : Int64) ∈ cx_T := cx_tab (i := 372) (by decide +kernel) (by decide +kernel)
theorem km_373 : Cond.methodLink "HostBridge$Numbers" 11 ⟨"HostBridge$Numbers", "isLong", "(J)Z"⟩ ∈ cx_T := cx_tab (i := 373) (by decide +kernel) (by decide +kernel)
theorem km_374 : Cond.static ⟨"HostBridge$Numbers", "isLong", "(J)Z"⟩ ∈ cx_T := cx_tab (i := 374) (by decide +kernel) (by decide +kernel)
theorem km_375 : Cond.code ⟨"HostBridge$Numbers", "isLong", "(J)Z"⟩ prog_7_method_3_code 5 (some FieldType.boolean) ∈ cx_T := cx_tab (i := 375) (by decide +kernel) (by decide +kernel)
theorem km_376 : Cond.methodLink "HostBridge$Numbers" 19 ⟨"HostBridge$Numbers", "isZero", "(J)Z"⟩ ∈ cx_T := cx_tab (i := 376) (by decide +kernel) (by decide +kernel)
theorem km_377 : Cond.static ⟨"HostBridge$Numbers", "isZero", "(J)Z"⟩ ∈ cx_T := cx_tab (i := 377) (by decide +kernel) (by decide +kernel)
theorem km_378 : Cond.code ⟨"HostBridge$Numbers", "isZero", "(J)Z"⟩ prog_7_method_6_code 2 (some FieldType.boolean) ∈ cx_T := cx_tab (i := 378) (by decide +kernel) (by decide +kernel)
theorem km_379 : Cond.methodLink "HostBridge$Numbers" 34 ⟨"HostBridge$Numbers", "withoutSign", "(J)J"⟩ ∈ cx_T := cx_tab (i := 379) (by decide +kernel) (by decide +kernel)
theorem km_380 : Cond.static ⟨"HostBridge$Numbers", "withoutSign", "(J)J"⟩ ∈ cx_T := cx_tab (i := 380) (by decide +kernel) (by decide +kernel)
theorem km_381 : Cond.code ⟨"HostBridge$Numbers", "withoutSign", "(J)J"⟩ prog_7_method_8_code 2 (some FieldType.long) ∈ cx_T := cx_tab (i := 381) (by decide +kernel) (by decide +kernel)
theorem km_382 : Cond.constantLong "HostBridge$Numbers" 39 (9223372036854775807 : Int64) ∈ cx_T := cx_tab (i := 382) (by decide +kernel) (by decide +kernel)
theorem km_383 : Cond.methodLink "HostBridge$Numbers" 22 ⟨"HostBridge$Numbers", "powerOf", "(J)I"⟩ ∈ cx_T := cx_tab (i := 383) (by decide +kernel) (by decide +kernel)
theorem km_384 : Cond.static ⟨"HostBridge$Numbers", "powerOf", "(J)I"⟩ ∈ cx_T := cx_tab (i := 384) (by decide +kernel) (by decide +kernel)
theorem km_385 : Cond.code ⟨"HostBridge$Numbers", "powerOf", "(J)I"⟩ prog_7_method_9_code 2 (some FieldType.int) ∈ cx_T := cx_tab (i := 385) (by decide +kernel) (by decide +kernel)
theorem km_386 : Cond.constantLong "HostBridge$Numbers" 41 (2047 : Int64) ∈ cx_T := cx_tab (i := 386) (by decide +kernel) (by decide +kernel)
theorem km_387 : Cond.methodLink "HostBridge$Numbers" 26 ⟨"HostBridge$Numbers", "fractionOf", "(J)J"⟩ ∈ cx_T := cx_tab (i := 387) (by decide +kernel) (by decide +kernel)
theorem km_388 : Cond.static ⟨"HostBridge$Numbers", "fractionOf", "(J)J"⟩ ∈ cx_T := cx_tab (i := 388) (by decide +kernel) (by decide +kernel)
theorem km_389 : Cond.code ⟨"HostBridge$Numbers", "fractionOf", "(J)J"⟩ prog_7_method_10_code 2 (some FieldType.long) ∈ cx_T := cx_tab (i := 389) (by decide +kernel) (by decide +kernel)
theorem km_390 : Cond.constantLong "HostBridge$Numbers" 43 (4503599627370495 : Int64) ∈ cx_T := cx_tab (i := 390) (by decide +kernel) (by decide +kernel)
theorem km_391 : Cond.methodLink "HostBridge$Numbers" 15 ⟨"HostBridge$Numbers", "wholeOf", "(J)J"⟩ ∈ cx_T := cx_tab (i := 391) (by decide +kernel) (by decide +kernel)
theorem km_392 : Cond.static ⟨"HostBridge$Numbers", "wholeOf", "(J)J"⟩ ∈ cx_T := cx_tab (i := 392) (by decide +kernel) (by decide +kernel)
theorem km_393 : Cond.code ⟨"HostBridge$Numbers", "wholeOf", "(J)J"⟩ prog_7_method_4_code 7 (some FieldType.long) ∈ cx_T := cx_tab (i := 393) (by decide +kernel) (by decide +kernel)
theorem km_394 : Cond.constantLong "HostBridge$Numbers" 29 (4503599627370496 : Int64) ∈ cx_T := cx_tab (i := 394) (by decide +kernel) (by decide +kernel)
theorem km_395 : Cond.methodLink "HostBridge$Arguments" 40 ⟨"HostBridge$Numbers", "isLong", "(J)Z"⟩ ∈ cx_T := cx_tab (i := 395) (by decide +kernel) (by decide +kernel)
theorem km_396 : Cond.methodLink "HostBridgeLaw" 85 ⟨"HostBridgeLaw", "weight", "(LHostBridge;II[J)I"⟩ ∈ cx_T := cx_tab (i := 396) (by decide +kernel) (by decide +kernel)
theorem km_397 : Cond.static ⟨"HostBridgeLaw", "weight", "(LHostBridge;II[J)I"⟩ ∈ cx_T := cx_tab (i := 397) (by decide +kernel) (by decide +kernel)
theorem km_398 : Cond.codeWith ⟨"HostBridgeLaw", "weight", "(LHostBridge;II[J)I"⟩ method_7_code 5 (some FieldType.int) [(0, 10, 13, 13)] ∈ cx_T := cx_tab (i := 398) (by decide +kernel) (by decide +kernel)
theorem km_399 : Cond.methodLink "HostBridgeLaw" 28 ⟨"HostBridge", "weight", "(II)I"⟩ ∈ cx_T := cx_tab (i := 399) (by decide +kernel) (by decide +kernel)
theorem km_400 : Cond.instanceMethod ⟨"HostBridge", "weight", "(II)I"⟩ ∈ cx_T := cx_tab (i := 400) (by decide +kernel) (by decide +kernel)
theorem km_401 : Cond.selects "HostBridge" ⟨"HostBridge", "weight", "(II)I"⟩ ⟨"HostBridge", "weight", "(II)I"⟩ ∈ cx_T := cx_tab (i := 401) (by decide +kernel) (by decide +kernel)
theorem km_402 : Cond.code ⟨"HostBridge", "weight", "(II)I"⟩ prog_1_method_6_code 3 (some FieldType.int) ∈ cx_T := cx_tab (i := 402) (by decide +kernel) (by decide +kernel)
theorem km_404 : Cond.methodLink "HostBridge" 133 ⟨"HostBridge$Arguments", "weightFor", "(II)I"⟩ ∈ cx_T := cx_tab (i := 404) (by decide +kernel) (by decide +kernel)
theorem km_405 : Cond.instanceMethod ⟨"HostBridge$Arguments", "weightFor", "(II)I"⟩ ∈ cx_T := cx_tab (i := 405) (by decide +kernel) (by decide +kernel)
theorem km_406 : Cond.selects "HostBridge$Arguments" ⟨"HostBridge$Arguments", "weightFor", "(II)I"⟩ ⟨"HostBridge$Arguments", "weightFor", "(II)I"⟩ ∈ cx_T := cx_tab (i := 406) (by decide +kernel) (by decide +kernel)
theorem km_407 : Cond.code ⟨"HostBridge$Arguments", "weightFor", "(II)I"⟩ prog_3_method_6_code 3 (some FieldType.int) ∈ cx_T := cx_tab (i := 407) (by decide +kernel) (by decide +kernel)
theorem km_408 : Cond.fieldLink "HostBridge$Arguments" 51 "HostBridge$Arguments" "WEIGHTS" "[I" ∈ cx_T := cx_tab (i := 408) (by decide +kernel) (by decide +kernel)
theorem km_410 : Cond.methodLink "HostBridge$Arguments" 59 ⟨"HostBridge$World", "distance", "(II)I"⟩ ∈ cx_T := cx_tab (i := 410) (by decide +kernel) (by decide +kernel)
theorem km_411 : Cond.instanceMethod ⟨"HostBridge$World", "distance", "(II)I"⟩ ∈ cx_T := cx_tab (i := 411) (by decide +kernel) (by decide +kernel)
theorem km_412 : Cond.selects "HostBridge$World" ⟨"HostBridge$World", "distance", "(II)I"⟩ ⟨"HostBridge$World", "distance", "(II)I"⟩ ∈ cx_T := cx_tab (i := 412) (by decide +kernel) (by decide +kernel)
theorem km_413 : Cond.code ⟨"HostBridge$World", "distance", "(II)I"⟩ prog_8_method_8_code 5 (some FieldType.int) ∈ cx_T := cx_tab (i := 413) (by decide +kernel) (by decide +kernel)
theorem km_414 : Cond.methodLink "HostBridgeLaw" 89 ⟨"HostBridgeLaw", "call", "(LHostBridge;II[J)I"⟩ ∈ cx_T := cx_tab (i := 414) (by decide +kernel) (by decide +kernel)
theorem km_415 : Cond.static ⟨"HostBridgeLaw", "call", "(LHostBridge;II[J)I"⟩ ∈ cx_T := cx_tab (i := 415) (by decide +kernel) (by decide +kernel)
theorem km_416 : Cond.codeWith ⟨"HostBridgeLaw", "call", "(LHostBridge;II[J)I"⟩ method_8_code 5 (some FieldType.int) [(0, 10, 13, 13), (0, 10, 17, 35), (0, 10, 21, 15)] ∈ cx_T := cx_tab (i := 416) (by decide +kernel) (by decide +kernel)
theorem km_417 : Cond.classLink "HostBridgeLaw" 35 "java/util/NoSuchElementException" ∈ cx_T := cx_tab (i := 417) (by decide +kernel) (by decide +kernel)
theorem km_418 : Cond.methodLink "HostBridgeLaw" 32 ⟨"HostBridge", "call", "(II)I"⟩ ∈ cx_T := cx_tab (i := 418) (by decide +kernel) (by decide +kernel)
theorem km_419 : Cond.instanceMethod ⟨"HostBridge", "call", "(II)I"⟩ ∈ cx_T := cx_tab (i := 419) (by decide +kernel) (by decide +kernel)
theorem km_420 : Cond.selects "HostBridge" ⟨"HostBridge", "call", "(II)I"⟩ ⟨"HostBridge", "call", "(II)I"⟩ ∈ cx_T := cx_tab (i := 420) (by decide +kernel) (by decide +kernel)
theorem km_421 : Cond.code ⟨"HostBridge", "call", "(II)I"⟩ prog_1_method_7_code 5 (some FieldType.int) ∈ cx_T := cx_tab (i := 421) (by decide +kernel) (by decide +kernel)
theorem km_422 : Cond.methodLink "HostBridge" 137 ⟨"HostBridge$Arguments", "takeAll", "()I"⟩ ∈ cx_T := cx_tab (i := 422) (by decide +kernel) (by decide +kernel)
theorem km_423 : Cond.instanceMethod ⟨"HostBridge$Arguments", "takeAll", "()I"⟩ ∈ cx_T := cx_tab (i := 423) (by decide +kernel) (by decide +kernel)
theorem km_424 : Cond.selects "HostBridge$Arguments" ⟨"HostBridge$Arguments", "takeAll", "()I"⟩ ⟨"HostBridge$Arguments", "takeAll", "()I"⟩ ∈ cx_T := cx_tab (i := 424) (by decide +kernel) (by decide +kernel)
theorem km_425 : Cond.code ⟨"HostBridge$Arguments", "takeAll", "()I"⟩ prog_3_method_4_code 2 (some FieldType.int) ∈ cx_T := cx_tab (i := 425) (by decide +kernel) (by decide +kernel)
theorem km_426 : Cond.methodLink "HostBridge" 141 ⟨"HostBridge$World", "hasObject", "(I)Z"⟩ ∈ cx_T := cx_tab (i := 426) (by decide +kernel) (by decide +kernel)
theorem km_427 : Cond.instanceMethod ⟨"HostBridge$World", "hasObject", "(I)Z"⟩ ∈ cx_T := cx_tab (i := 427) (by decide +kernel) (by decide +kernel)
theorem km_428 : Cond.selects "HostBridge$World" ⟨"HostBridge$World", "hasObject", "(I)Z"⟩ ⟨"HostBridge$World", "hasObject", "(I)Z"⟩ ∈ cx_T := cx_tab (i := 428) (by decide +kernel) (by decide +kernel)
theorem km_429 : Cond.code ⟨"HostBridge$World", "hasObject", "(I)Z"⟩ prog_8_method_3_code 2 (some FieldType.boolean) ∈ cx_T := cx_tab (i := 429) (by decide +kernel) (by decide +kernel)
theorem km_431 : Cond.methodLink "HostBridge" 150 ⟨"HostBridge$Choice", "gather", "(III)V"⟩ ∈ cx_T := cx_tab (i := 431) (by decide +kernel) (by decide +kernel)
theorem km_432 : Cond.instanceMethod ⟨"HostBridge$Choice", "gather", "(III)V"⟩ ∈ cx_T := cx_tab (i := 432) (by decide +kernel) (by decide +kernel)
theorem km_433 : Cond.selects "HostBridge$Choice" ⟨"HostBridge$Choice", "gather", "(III)V"⟩ ⟨"HostBridge$Choice", "gather", "(III)V"⟩ ∈ cx_T := cx_tab (i := 433) (by decide +kernel) (by decide +kernel)
theorem km_434 : Cond.code ⟨"HostBridge$Choice", "gather", "(III)V"⟩ prog_4_method_3_code 6 none ∈ cx_T := cx_tab (i := 434) (by decide +kernel) (by decide +kernel)
theorem km_435 : Cond.methodLink "HostBridge$Choice" 45 ⟨"HostBridge$Choice", "gatherFrom", "(III)V"⟩ ∈ cx_T := cx_tab (i := 435) (by decide +kernel) (by decide +kernel)
theorem km_436 : Cond.privateMethod ⟨"HostBridge$Choice", "gatherFrom", "(III)V"⟩ ∈ cx_T := cx_tab (i := 436) (by decide +kernel) (by decide +kernel)
theorem km_437 : Cond.instanceMethod ⟨"HostBridge$Choice", "gatherFrom", "(III)V"⟩ ∈ cx_T := cx_tab (i := 437) (by decide +kernel) (by decide +kernel)
theorem km_438 : Cond.code ⟨"HostBridge$Choice", "gatherFrom", "(III)V"⟩ prog_4_method_4_code 5 none ∈ cx_T := cx_tab (i := 438) (by decide +kernel) (by decide +kernel)
theorem km_439 : Cond.methodLink "HostBridge$Choice" 50 ⟨"HostBridge$Methods", "isCalled", "(IIII)Z"⟩ ∈ cx_T := cx_tab (i := 439) (by decide +kernel) (by decide +kernel)
theorem km_440 : Cond.methodLink "HostBridge$Choice" 57 ⟨"HostBridge$Arguments", "fit", "(II)Z"⟩ ∈ cx_T := cx_tab (i := 440) (by decide +kernel) (by decide +kernel)
theorem km_441 : Cond.instanceMethod ⟨"HostBridge$Arguments", "fit", "(II)Z"⟩ ∈ cx_T := cx_tab (i := 441) (by decide +kernel) (by decide +kernel)
theorem km_442 : Cond.selects "HostBridge$Arguments" ⟨"HostBridge$Arguments", "fit", "(II)Z"⟩ ⟨"HostBridge$Arguments", "fit", "(II)Z"⟩ ∈ cx_T := cx_tab (i := 442) (by decide +kernel) (by decide +kernel)
theorem km_443 : Cond.code ⟨"HostBridge$Arguments", "fit", "(II)Z"⟩ prog_3_method_5_code 4 (some FieldType.boolean) ∈ cx_T := cx_tab (i := 443) (by decide +kernel) (by decide +kernel)
theorem km_444 : Cond.methodLinkNest "HostBridge$Arguments" 43 ⟨"HostBridge", "typeAt", "(III)I"⟩ "HostBridge" ∈ cx_T := cx_tab (i := 444) (by decide +kernel) (by decide +kernel)
theorem km_445 : Cond.methodLink "HostBridge$Arguments" 47 ⟨"HostBridge$Arguments", "weightFor", "(II)I"⟩ ∈ cx_T := cx_tab (i := 445) (by decide +kernel) (by decide +kernel)
theorem km_446 : Cond.methodLink "HostBridge$Choice" 63 ⟨"HostBridge$Choice", "isHidden", "(I)Z"⟩ ∈ cx_T := cx_tab (i := 446) (by decide +kernel) (by decide +kernel)
theorem km_447 : Cond.privateMethod ⟨"HostBridge$Choice", "isHidden", "(I)Z"⟩ ∈ cx_T := cx_tab (i := 447) (by decide +kernel) (by decide +kernel)
theorem km_448 : Cond.instanceMethod ⟨"HostBridge$Choice", "isHidden", "(I)Z"⟩ ∈ cx_T := cx_tab (i := 448) (by decide +kernel) (by decide +kernel)
theorem km_449 : Cond.code ⟨"HostBridge$Choice", "isHidden", "(I)Z"⟩ prog_4_method_5_code 3 (some FieldType.boolean) ∈ cx_T := cx_tab (i := 449) (by decide +kernel) (by decide +kernel)
theorem km_450 : Cond.classLink "HostBridge" 155 "java/util/NoSuchElementException" ∈ cx_T := cx_tab (i := 450) (by decide +kernel) (by decide +kernel)
theorem km_451 : Cond.instantiable "java/util/NoSuchElementException" 6 ∈ cx_T := cx_tab (i := 451) (by decide +kernel) (by decide +kernel)
theorem km_452 : Cond.castable "java/util/NoSuchElementException" "java/util/NoSuchElementException" ∈ cx_T := cx_tab (i := 452) (by decide +kernel) (by decide +kernel)
theorem km_453 : Cond.selects "java/util/NoSuchElementException" ⟨"java/lang/Throwable", "fillInStackTrace", "(I)Ljava/lang/Throwable;"⟩ ⟨"java/lang/Throwable", "fillInStackTrace", "(I)Ljava/lang/Throwable;"⟩ ∈ cx_T := cx_tab (i := 453) (by decide +kernel) (by decide +kernel)
theorem km_454 : Cond.lays "java/util/NoSuchElementException" "java/lang/Throwable" "cause" "Ljava/lang/Throwable;" ∈ cx_T := cx_tab (i := 454) (by decide +kernel) (by decide +kernel)
theorem km_455 : Cond.lays "java/util/NoSuchElementException" "java/lang/Throwable" "stackTrace" "[Ljava/lang/StackTraceElement;" ∈ cx_T := cx_tab (i := 455) (by decide +kernel) (by decide +kernel)
theorem km_456 : Cond.lays "java/util/NoSuchElementException" "java/lang/Throwable" "suppressedExceptions" "Ljava/util/List;" ∈ cx_T := cx_tab (i := 456) (by decide +kernel) (by decide +kernel)
theorem km_457 : Cond.lays "java/util/NoSuchElementException" "java/lang/Throwable" "detailMessage" "Ljava/lang/String;" ∈ cx_T := cx_tab (i := 457) (by decide +kernel) (by decide +kernel)
theorem km_458 : Cond.lays "java/util/NoSuchElementException" "java/lang/Throwable" "backtrace" "Ljava/lang/Object;" ∈ cx_T := cx_tab (i := 458) (by decide +kernel) (by decide +kernel)
theorem km_460 : Cond.methodLink "HostBridge" 159 ⟨"java/util/NoSuchElementException", "<init>", "(Ljava/lang/String;)V"⟩ ∈ cx_T := cx_tab (i := 460) (by decide +kernel) (by decide +kernel)
theorem km_461 : Cond.instanceMethod ⟨"java/util/NoSuchElementException", "<init>", "(Ljava/lang/String;)V"⟩ ∈ cx_T := cx_tab (i := 461) (by decide +kernel) (by decide +kernel)
theorem km_462 : Cond.code ⟨"java/util/NoSuchElementException", "<init>", "(Ljava/lang/String;)V"⟩ prog_19_method_4_code 2 none ∈ cx_T := cx_tab (i := 462) (by decide +kernel) (by decide +kernel)
theorem km_463 : Cond.methodLink "java/util/NoSuchElementException" 13 ⟨"java/lang/RuntimeException", "<init>", "(Ljava/lang/String;)V"⟩ ∈ cx_T := cx_tab (i := 463) (by decide +kernel) (by decide +kernel)
theorem km_464 : Cond.lays "java/util/NoSuchElementException" "java/lang/Throwable" "depth" "I" ∈ cx_T := cx_tab (i := 464) (by decide +kernel) (by decide +kernel)
theorem km_465 : Cond.superclass "java/util/NoSuchElementException" "java/lang/RuntimeException" ∈ cx_T := cx_tab (i := 465) (by decide +kernel) (by decide +kernel)
theorem km_466 : Cond.methodLink "HostBridge" 160 ⟨"HostBridge$Choice", "best", "(I)I"⟩ ∈ cx_T := cx_tab (i := 466) (by decide +kernel) (by decide +kernel)
theorem km_467 : Cond.instanceMethod ⟨"HostBridge$Choice", "best", "(I)I"⟩ ∈ cx_T := cx_tab (i := 467) (by decide +kernel) (by decide +kernel)
theorem km_468 : Cond.selects "HostBridge$Choice" ⟨"HostBridge$Choice", "best", "(I)I"⟩ ⟨"HostBridge$Choice", "best", "(I)I"⟩ ∈ cx_T := cx_tab (i := 468) (by decide +kernel) (by decide +kernel)
theorem km_469 : Cond.code ⟨"HostBridge$Choice", "best", "(I)I"⟩ prog_4_method_6_code 4 (some FieldType.int) ∈ cx_T := cx_tab (i := 469) (by decide +kernel) (by decide +kernel)
theorem km_470 : Cond.methodLink "HostBridge$Choice" 67 ⟨"HostBridge$Choice", "lowestWeight", "(II)I"⟩ ∈ cx_T := cx_tab (i := 470) (by decide +kernel) (by decide +kernel)
theorem km_471 : Cond.privateMethod ⟨"HostBridge$Choice", "lowestWeight", "(II)I"⟩ ∈ cx_T := cx_tab (i := 471) (by decide +kernel) (by decide +kernel)
theorem km_472 : Cond.instanceMethod ⟨"HostBridge$Choice", "lowestWeight", "(II)I"⟩ ∈ cx_T := cx_tab (i := 472) (by decide +kernel) (by decide +kernel)
theorem km_473 : Cond.code ⟨"HostBridge$Choice", "lowestWeight", "(II)I"⟩ prog_4_method_7_code 5 (some FieldType.int) ∈ cx_T := cx_tab (i := 473) (by decide +kernel) (by decide +kernel)
theorem km_474 : Cond.methodLink "HostBridge$Choice" 74 ⟨"HostBridge$Choice", "weightIn", "(III)I"⟩ ∈ cx_T := cx_tab (i := 474) (by decide +kernel) (by decide +kernel)
theorem km_475 : Cond.privateMethod ⟨"HostBridge$Choice", "weightIn", "(III)I"⟩ ∈ cx_T := cx_tab (i := 475) (by decide +kernel) (by decide +kernel)
theorem km_476 : Cond.instanceMethod ⟨"HostBridge$Choice", "weightIn", "(III)I"⟩ ∈ cx_T := cx_tab (i := 476) (by decide +kernel) (by decide +kernel)
theorem km_477 : Cond.code ⟨"HostBridge$Choice", "weightIn", "(III)I"⟩ prog_4_method_9_code 4 (some FieldType.int) ∈ cx_T := cx_tab (i := 477) (by decide +kernel) (by decide +kernel)
theorem km_478 : Cond.methodLinkNest "HostBridge$Choice" 83 ⟨"HostBridge", "typeAt", "(III)I"⟩ "HostBridge" ∈ cx_T := cx_tab (i := 478) (by decide +kernel) (by decide +kernel)
theorem km_479 : Cond.methodLink "HostBridge$Choice" 86 ⟨"HostBridge$Arguments", "weightFor", "(II)I"⟩ ∈ cx_T := cx_tab (i := 479) (by decide +kernel) (by decide +kernel)
theorem km_480 : Cond.methodLink "HostBridge$Choice" 78 ⟨"java/lang/Math", "min", "(II)I"⟩ ∈ cx_T := cx_tab (i := 480) (by decide +kernel) (by decide +kernel)
theorem km_481 : Cond.static ⟨"java/lang/Math", "min", "(II)I"⟩ ∈ cx_T := cx_tab (i := 481) (by decide +kernel) (by decide +kernel)
theorem km_482 : Cond.code ⟨"java/lang/Math", "min", "(II)I"⟩ prog_15_method_69_code 2 (some FieldType.int) ∈ cx_T := cx_tab (i := 482) (by decide +kernel) (by decide +kernel)
theorem km_483 : Cond.methodLink "HostBridge$Choice" 71 ⟨"HostBridge$Choice", "isLowest", "(II)Z"⟩ ∈ cx_T := cx_tab (i := 483) (by decide +kernel) (by decide +kernel)
theorem km_484 : Cond.privateMethod ⟨"HostBridge$Choice", "isLowest", "(II)Z"⟩ ∈ cx_T := cx_tab (i := 484) (by decide +kernel) (by decide +kernel)
theorem km_485 : Cond.instanceMethod ⟨"HostBridge$Choice", "isLowest", "(II)Z"⟩ ∈ cx_T := cx_tab (i := 485) (by decide +kernel) (by decide +kernel)
theorem km_486 : Cond.code ⟨"HostBridge$Choice", "isLowest", "(II)Z"⟩ prog_4_method_8_code 4 (some FieldType.boolean) ∈ cx_T := cx_tab (i := 486) (by decide +kernel) (by decide +kernel)
theorem km_488 : Cond.methodLink "HostBridge" 165 ⟨"HostBridge", "writeDown", "(II)V"⟩ ∈ cx_T := cx_tab (i := 488) (by decide +kernel) (by decide +kernel)
theorem km_489 : Cond.privateMethod ⟨"HostBridge", "writeDown", "(II)V"⟩ ∈ cx_T := cx_tab (i := 489) (by decide +kernel) (by decide +kernel)
theorem km_490 : Cond.instanceMethod ⟨"HostBridge", "writeDown", "(II)V"⟩ ∈ cx_T := cx_tab (i := 490) (by decide +kernel) (by decide +kernel)
theorem km_491 : Cond.code ⟨"HostBridge", "writeDown", "(II)V"⟩ prog_1_method_15_code 6 none ∈ cx_T := cx_tab (i := 491) (by decide +kernel) (by decide +kernel)
theorem km_492 : Cond.methodLink "HostBridge" 221 ⟨"HostBridge$Diary", "open", "(III)V"⟩ ∈ cx_T := cx_tab (i := 492) (by decide +kernel) (by decide +kernel)
theorem km_493 : Cond.instanceMethod ⟨"HostBridge$Diary", "open", "(III)V"⟩ ∈ cx_T := cx_tab (i := 493) (by decide +kernel) (by decide +kernel)
theorem km_494 : Cond.selects "HostBridge$Diary" ⟨"HostBridge$Diary", "open", "(III)V"⟩ ⟨"HostBridge$Diary", "open", "(III)V"⟩ ∈ cx_T := cx_tab (i := 494) (by decide +kernel) (by decide +kernel)
theorem km_495 : Cond.code ⟨"HostBridge$Diary", "open", "(III)V"⟩ prog_5_method_2_code 5 none ∈ cx_T := cx_tab (i := 495) (by decide +kernel) (by decide +kernel)
theorem km_496 : Cond.methodLink "HostBridge$Diary" 29 ⟨"HostBridge$Diary", "rowOf", "(I)I"⟩ ∈ cx_T := cx_tab (i := 496) (by decide +kernel) (by decide +kernel)
theorem km_497 : Cond.static ⟨"HostBridge$Diary", "rowOf", "(I)I"⟩ ∈ cx_T := cx_tab (i := 497) (by decide +kernel) (by decide +kernel)
theorem km_498 : Cond.code ⟨"HostBridge$Diary", "rowOf", "(I)I"⟩ prog_5_method_10_code 1 (some FieldType.int) ∈ cx_T := cx_tab (i := 498) (by decide +kernel) (by decide +kernel)
theorem km_499 : Cond.methodLink "HostBridge$Diary" 37 ⟨"java/lang/Math", "floorMod", "(II)I"⟩ ∈ cx_T := cx_tab (i := 499) (by decide +kernel) (by decide +kernel)
theorem km_500 : Cond.static ⟨"java/lang/Math", "floorMod", "(II)I"⟩ ∈ cx_T := cx_tab (i := 500) (by decide +kernel) (by decide +kernel)
theorem km_501 : Cond.code ⟨"java/lang/Math", "floorMod", "(II)I"⟩ prog_15_method_50_code 3 (some FieldType.int) ∈ cx_T := cx_tab (i := 501) (by decide +kernel) (by decide +kernel)
theorem km_502 : Cond.methodLink "HostBridge" 224 ⟨"HostBridge", "typeAt", "(III)I"⟩ ∈ cx_T := cx_tab (i := 502) (by decide +kernel) (by decide +kernel)
theorem km_503 : Cond.methodLink "HostBridge" 228 ⟨"HostBridge$Arguments", "convert", "(II)J"⟩ ∈ cx_T := cx_tab (i := 503) (by decide +kernel) (by decide +kernel)
theorem km_504 : Cond.instanceMethod ⟨"HostBridge$Arguments", "convert", "(II)J"⟩ ∈ cx_T := cx_tab (i := 504) (by decide +kernel) (by decide +kernel)
theorem km_505 : Cond.selects "HostBridge$Arguments" ⟨"HostBridge$Arguments", "convert", "(II)J"⟩ ⟨"HostBridge$Arguments", "convert", "(II)J"⟩ ∈ cx_T := cx_tab (i := 505) (by decide +kernel) (by decide +kernel)
theorem km_506 : Cond.code ⟨"HostBridge$Arguments", "convert", "(II)J"⟩ prog_3_method_7_code 3 (some FieldType.long) ∈ cx_T := cx_tab (i := 506) (by decide +kernel) (by decide +kernel)
theorem km_507 : Cond.methodLink "HostBridge$Arguments" 62 ⟨"HostBridge$Numbers", "truthOf", "(J)J"⟩ ∈ cx_T := cx_tab (i := 507) (by decide +kernel) (by decide +kernel)
theorem km_508 : Cond.static ⟨"HostBridge$Numbers", "truthOf", "(J)J"⟩ ∈ cx_T := cx_tab (i := 508) (by decide +kernel) (by decide +kernel)
theorem km_509 : Cond.code ⟨"HostBridge$Numbers", "truthOf", "(J)J"⟩ prog_7_method_5_code 2 (some FieldType.long) ∈ cx_T := cx_tab (i := 509) (by decide +kernel) (by decide +kernel)
theorem km_510 : Cond.methodLink "HostBridge$Numbers" 31 ⟨"HostBridge$Numbers", "isNan", "(J)Z"⟩ ∈ cx_T := cx_tab (i := 510) (by decide +kernel) (by decide +kernel)
theorem km_511 : Cond.static ⟨"HostBridge$Numbers", "isNan", "(J)Z"⟩ ∈ cx_T := cx_tab (i := 511) (by decide +kernel) (by decide +kernel)
theorem km_512 : Cond.code ⟨"HostBridge$Numbers", "isNan", "(J)Z"⟩ prog_7_method_7_code 2 (some FieldType.boolean) ∈ cx_T := cx_tab (i := 512) (by decide +kernel) (by decide +kernel)
theorem km_513 : Cond.constantLong "HostBridge$Numbers" 37 (9218868437227405312 : Int64) ∈ cx_T := cx_tab (i := 513) (by decide +kernel) (by decide +kernel)
theorem km_514 : Cond.methodLink "HostBridge$Arguments" 66 ⟨"HostBridge$Numbers", "wholeOf", "(J)J"⟩ ∈ cx_T := cx_tab (i := 514) (by decide +kernel) (by decide +kernel)
theorem km_515 : Cond.constantLong "HostBridge$Arguments" 69 (-1 : Int64) ∈ cx_T := cx_tab (i := 515) (by decide +kernel) (by decide +kernel)
theorem km_516 : Cond.methodLink "HostBridge" 231 ⟨"HostBridge$Diary", "setValue", "(IJ)V"⟩ ∈ cx_T := cx_tab (i := 516) (by decide +kernel) (by decide +kernel)
theorem km_517 : Cond.instanceMethod ⟨"HostBridge$Diary", "setValue", "(IJ)V"⟩ ∈ cx_T := cx_tab (i := 517) (by decide +kernel) (by decide +kernel)
theorem km_518 : Cond.selects "HostBridge$Diary" ⟨"HostBridge$Diary", "setValue", "(IJ)V"⟩ ⟨"HostBridge$Diary", "setValue", "(IJ)V"⟩ ∈ cx_T := cx_tab (i := 518) (by decide +kernel) (by decide +kernel)
theorem km_519 : Cond.code ⟨"HostBridge$Diary", "setValue", "(IJ)V"⟩ prog_5_method_3_code 4 none ∈ cx_T := cx_tab (i := 519) (by decide +kernel) (by decide +kernel)
theorem km_520 : Cond.methodLink "HostBridge" 235 ⟨"HostBridge$Answers", "next", "()J"⟩ ∈ cx_T := cx_tab (i := 520) (by decide +kernel) (by decide +kernel)
theorem km_521 : Cond.instanceMethod ⟨"HostBridge$Answers", "next", "()J"⟩ ∈ cx_T := cx_tab (i := 521) (by decide +kernel) (by decide +kernel)
theorem km_522 : Cond.selects "HostBridge$Answers" ⟨"HostBridge$Answers", "next", "()J"⟩ ⟨"HostBridge$Answers", "next", "()J"⟩ ∈ cx_T := cx_tab (i := 522) (by decide +kernel) (by decide +kernel)
theorem km_523 : Cond.code ⟨"HostBridge$Answers", "next", "()J"⟩ prog_2_method_3_code 3 (some FieldType.long) ∈ cx_T := cx_tab (i := 523) (by decide +kernel) (by decide +kernel)
theorem km_524 : Cond.methodLink "HostBridge" 239 ⟨"HostBridge$Diary", "close", "(J)V"⟩ ∈ cx_T := cx_tab (i := 524) (by decide +kernel) (by decide +kernel)
theorem km_525 : Cond.instanceMethod ⟨"HostBridge$Diary", "close", "(J)V"⟩ ∈ cx_T := cx_tab (i := 525) (by decide +kernel) (by decide +kernel)
theorem km_526 : Cond.selects "HostBridge$Diary" ⟨"HostBridge$Diary", "close", "(J)V"⟩ ⟨"HostBridge$Diary", "close", "(J)V"⟩ ∈ cx_T := cx_tab (i := 526) (by decide +kernel) (by decide +kernel)
theorem km_527 : Cond.code ⟨"HostBridge$Diary", "close", "(J)V"⟩ prog_5_method_4_code 3 none ∈ cx_T := cx_tab (i := 527) (by decide +kernel) (by decide +kernel)
theorem km_528 : Cond.methodLink "HostBridgeLaw" 92 ⟨"HostBridgeLaw", "exact", "(LHostBridge;III[J)I"⟩ ∈ cx_T := cx_tab (i := 528) (by decide +kernel) (by decide +kernel)
theorem km_529 : Cond.static ⟨"HostBridgeLaw", "exact", "(LHostBridge;III[J)I"⟩ ∈ cx_T := cx_tab (i := 529) (by decide +kernel) (by decide +kernel)
theorem km_530 : Cond.codeWith ⟨"HostBridgeLaw", "exact", "(LHostBridge;III[J)I"⟩ method_9_code 6 (some FieldType.int) [(0, 12, 15, 13), (0, 12, 19, 35)] ∈ cx_T := cx_tab (i := 530) (by decide +kernel) (by decide +kernel)
theorem km_531 : Cond.methodLink "HostBridgeLaw" 37 ⟨"HostBridge", "exact", "(III)I"⟩ ∈ cx_T := cx_tab (i := 531) (by decide +kernel) (by decide +kernel)
theorem km_532 : Cond.instanceMethod ⟨"HostBridge", "exact", "(III)I"⟩ ∈ cx_T := cx_tab (i := 532) (by decide +kernel) (by decide +kernel)
theorem km_533 : Cond.selects "HostBridge" ⟨"HostBridge", "exact", "(III)I"⟩ ⟨"HostBridge", "exact", "(III)I"⟩ ∈ cx_T := cx_tab (i := 533) (by decide +kernel) (by decide +kernel)
theorem km_534 : Cond.code ⟨"HostBridge", "exact", "(III)I"⟩ prog_1_method_8_code 6 (some FieldType.int) ∈ cx_T := cx_tab (i := 534) (by decide +kernel) (by decide +kernel)
theorem km_535 : Cond.methodLink "HostBridge" 169 ⟨"HostBridge$Choice", "first", "(IIII)I"⟩ ∈ cx_T := cx_tab (i := 535) (by decide +kernel) (by decide +kernel)
theorem km_536 : Cond.instanceMethod ⟨"HostBridge$Choice", "first", "(IIII)I"⟩ ∈ cx_T := cx_tab (i := 536) (by decide +kernel) (by decide +kernel)
theorem km_537 : Cond.selects "HostBridge$Choice" ⟨"HostBridge$Choice", "first", "(IIII)I"⟩ ⟨"HostBridge$Choice", "first", "(IIII)I"⟩ ∈ cx_T := cx_tab (i := 537) (by decide +kernel) (by decide +kernel)
theorem km_538 : Cond.code ⟨"HostBridge$Choice", "first", "(IIII)I"⟩ prog_4_method_2_code 8 (some FieldType.int) ∈ cx_T := cx_tab (i := 538) (by decide +kernel) (by decide +kernel)
theorem km_539 : Cond.methodLink "HostBridge$Choice" 30 ⟨"HostBridge$Methods", "find", "(IIII)I"⟩ ∈ cx_T := cx_tab (i := 539) (by decide +kernel) (by decide +kernel)
theorem km_541 : Cond.methodLink "HostBridge" 174 ⟨"HostBridge$Arguments", "fit", "(II)Z"⟩ ∈ cx_T := cx_tab (i := 541) (by decide +kernel) (by decide +kernel)
theorem km_543 : Cond.methodLink "HostBridgeLaw" 96 ⟨"HostBridgeLaw", "answer", "(LHostBridge;J)I"⟩ ∈ cx_T := cx_tab (i := 543) (by decide +kernel) (by decide +kernel)
theorem km_544 : Cond.static ⟨"HostBridgeLaw", "answer", "(LHostBridge;J)I"⟩ ∈ cx_T := cx_tab (i := 544) (by decide +kernel) (by decide +kernel)
theorem km_545 : Cond.codeWith ⟨"HostBridgeLaw", "answer", "(LHostBridge;J)I"⟩ method_10_code 4 (some FieldType.int) [(0, 5, 8, 15)] ∈ cx_T := cx_tab (i := 545) (by decide +kernel) (by decide +kernel)
theorem km_546 : Cond.methodLink "HostBridgeLaw" 41 ⟨"HostBridge", "answer", "(J)V"⟩ ∈ cx_T := cx_tab (i := 546) (by decide +kernel) (by decide +kernel)
theorem km_547 : Cond.instanceMethod ⟨"HostBridge", "answer", "(J)V"⟩ ∈ cx_T := cx_tab (i := 547) (by decide +kernel) (by decide +kernel)
theorem km_548 : Cond.selects "HostBridge" ⟨"HostBridge", "answer", "(J)V"⟩ ⟨"HostBridge", "answer", "(J)V"⟩ ∈ cx_T := cx_tab (i := 548) (by decide +kernel) (by decide +kernel)
theorem km_549 : Cond.code ⟨"HostBridge", "answer", "(J)V"⟩ prog_1_method_9_code 3 none ∈ cx_T := cx_tab (i := 549) (by decide +kernel) (by decide +kernel)
theorem km_551 : Cond.methodLink "HostBridge" 182 ⟨"HostBridge$Answers", "add", "(J)V"⟩ ∈ cx_T := cx_tab (i := 551) (by decide +kernel) (by decide +kernel)
theorem km_552 : Cond.instanceMethod ⟨"HostBridge$Answers", "add", "(J)V"⟩ ∈ cx_T := cx_tab (i := 552) (by decide +kernel) (by decide +kernel)
theorem km_553 : Cond.selects "HostBridge$Answers" ⟨"HostBridge$Answers", "add", "(J)V"⟩ ⟨"HostBridge$Answers", "add", "(J)V"⟩ ∈ cx_T := cx_tab (i := 553) (by decide +kernel) (by decide +kernel)
theorem km_554 : Cond.code ⟨"HostBridge$Answers", "add", "(J)V"⟩ prog_2_method_2_code 3 none ∈ cx_T := cx_tab (i := 554) (by decide +kernel) (by decide +kernel)
theorem km_555 : Cond.methodLink "HostBridgeLaw" 100 ⟨"HostBridgeLaw", "given", "(LHostBridge;[J)I"⟩ ∈ cx_T := cx_tab (i := 555) (by decide +kernel) (by decide +kernel)
theorem km_556 : Cond.static ⟨"HostBridgeLaw", "given", "(LHostBridge;[J)I"⟩ ∈ cx_T := cx_tab (i := 556) (by decide +kernel) (by decide +kernel)
theorem km_557 : Cond.codeWith ⟨"HostBridgeLaw", "given", "(LHostBridge;[J)I"⟩ method_11_code 3 (some FieldType.int) [(0, 7, 10, 15)] ∈ cx_T := cx_tab (i := 557) (by decide +kernel) (by decide +kernel)
theorem km_558 : Cond.methodLink "HostBridgeLaw" 45 ⟨"HostBridge", "given", "()J"⟩ ∈ cx_T := cx_tab (i := 558) (by decide +kernel) (by decide +kernel)
theorem km_559 : Cond.instanceMethod ⟨"HostBridge", "given", "()J"⟩ ∈ cx_T := cx_tab (i := 559) (by decide +kernel) (by decide +kernel)
theorem km_560 : Cond.selects "HostBridge" ⟨"HostBridge", "given", "()J"⟩ ⟨"HostBridge", "given", "()J"⟩ ∈ cx_T := cx_tab (i := 560) (by decide +kernel) (by decide +kernel)
theorem km_561 : Cond.code ⟨"HostBridge", "given", "()J"⟩ prog_1_method_10_code 1 (some FieldType.long) ∈ cx_T := cx_tab (i := 561) (by decide +kernel) (by decide +kernel)
theorem km_563 : Cond.methodLink "HostBridgeLaw" 108 ⟨"HostBridgeLaw", "look", "(LHostBridge;II[J)I"⟩ ∈ cx_T := cx_tab (i := 563) (by decide +kernel) (by decide +kernel)
theorem km_564 : Cond.static ⟨"HostBridgeLaw", "look", "(LHostBridge;II[J)I"⟩ ∈ cx_T := cx_tab (i := 564) (by decide +kernel) (by decide +kernel)
theorem km_565 : Cond.codeWith ⟨"HostBridgeLaw", "look", "(LHostBridge;II[J)I"⟩ method_12_code 5 (some FieldType.int) [(0, 10, 13, 13), (0, 10, 17, 52)] ∈ cx_T := cx_tab (i := 565) (by decide +kernel) (by decide +kernel)
theorem km_566 : Cond.classLink "HostBridgeLaw" 52 "java/lang/IndexOutOfBoundsException" ∈ cx_T := cx_tab (i := 566) (by decide +kernel) (by decide +kernel)
theorem km_567 : Cond.methodLink "HostBridgeLaw" 49 ⟨"HostBridge", "look", "(II)I"⟩ ∈ cx_T := cx_tab (i := 567) (by decide +kernel) (by decide +kernel)
theorem km_568 : Cond.instanceMethod ⟨"HostBridge", "look", "(II)I"⟩ ∈ cx_T := cx_tab (i := 568) (by decide +kernel) (by decide +kernel)
theorem km_569 : Cond.selects "HostBridge" ⟨"HostBridge", "look", "(II)I"⟩ ⟨"HostBridge", "look", "(II)I"⟩ ∈ cx_T := cx_tab (i := 569) (by decide +kernel) (by decide +kernel)
theorem km_570 : Cond.code ⟨"HostBridge", "look", "(II)I"⟩ prog_1_method_12_code 3 (some FieldType.int) ∈ cx_T := cx_tab (i := 570) (by decide +kernel) (by decide +kernel)
theorem km_572 : Cond.methodLink "HostBridge" 194 ⟨"HostBridge$Diary", "keeps", "(I)Z"⟩ ∈ cx_T := cx_tab (i := 572) (by decide +kernel) (by decide +kernel)
theorem km_573 : Cond.instanceMethod ⟨"HostBridge$Diary", "keeps", "(I)Z"⟩ ∈ cx_T := cx_tab (i := 573) (by decide +kernel) (by decide +kernel)
theorem km_574 : Cond.selects "HostBridge$Diary" ⟨"HostBridge$Diary", "keeps", "(I)Z"⟩ ⟨"HostBridge$Diary", "keeps", "(I)Z"⟩ ∈ cx_T := cx_tab (i := 574) (by decide +kernel) (by decide +kernel)
theorem km_575 : Cond.code ⟨"HostBridge$Diary", "keeps", "(I)Z"⟩ prog_5_method_5_code 2 (some FieldType.boolean) ∈ cx_T := cx_tab (i := 575) (by decide +kernel) (by decide +kernel)
theorem km_576 : Cond.classLink "HostBridge" 197 "java/lang/IndexOutOfBoundsException" ∈ cx_T := cx_tab (i := 576) (by decide +kernel) (by decide +kernel)
theorem km_577 : Cond.instantiable "java/lang/IndexOutOfBoundsException" 6 ∈ cx_T := cx_tab (i := 577) (by decide +kernel) (by decide +kernel)
theorem km_578 : Cond.castable "java/lang/IndexOutOfBoundsException" "java/lang/IndexOutOfBoundsException" ∈ cx_T := cx_tab (i := 578) (by decide +kernel) (by decide +kernel)
theorem km_579 : Cond.selects "java/lang/IndexOutOfBoundsException" ⟨"java/lang/Throwable", "fillInStackTrace", "(I)Ljava/lang/Throwable;"⟩ ⟨"java/lang/Throwable", "fillInStackTrace", "(I)Ljava/lang/Throwable;"⟩ ∈ cx_T := cx_tab (i := 579) (by decide +kernel) (by decide +kernel)
theorem km_580 : Cond.lays "java/lang/IndexOutOfBoundsException" "java/lang/Throwable" "cause" "Ljava/lang/Throwable;" ∈ cx_T := cx_tab (i := 580) (by decide +kernel) (by decide +kernel)
theorem km_581 : Cond.lays "java/lang/IndexOutOfBoundsException" "java/lang/Throwable" "stackTrace" "[Ljava/lang/StackTraceElement;" ∈ cx_T := cx_tab (i := 581) (by decide +kernel) (by decide +kernel)
theorem km_582 : Cond.lays "java/lang/IndexOutOfBoundsException" "java/lang/Throwable" "suppressedExceptions" "Ljava/util/List;" ∈ cx_T := cx_tab (i := 582) (by decide +kernel) (by decide +kernel)
theorem km_583 : Cond.lays "java/lang/IndexOutOfBoundsException" "java/lang/Throwable" "detailMessage" "Ljava/lang/String;" ∈ cx_T := cx_tab (i := 583) (by decide +kernel) (by decide +kernel)
theorem km_584 : Cond.lays "java/lang/IndexOutOfBoundsException" "java/lang/Throwable" "backtrace" "Ljava/lang/Object;" ∈ cx_T := cx_tab (i := 584) (by decide +kernel) (by decide +kernel)
theorem km_586 : Cond.methodLink "HostBridge" 201 ⟨"java/lang/IndexOutOfBoundsException", "<init>", "(Ljava/lang/String;)V"⟩ ∈ cx_T := cx_tab (i := 586) (by decide +kernel) (by decide +kernel)
theorem km_587 : Cond.instanceMethod ⟨"java/lang/IndexOutOfBoundsException", "<init>", "(Ljava/lang/String;)V"⟩ ∈ cx_T := cx_tab (i := 587) (by decide +kernel) (by decide +kernel)
theorem km_588 : Cond.code ⟨"java/lang/IndexOutOfBoundsException", "<init>", "(Ljava/lang/String;)V"⟩ prog_14_method_2_code 2 none ∈ cx_T := cx_tab (i := 588) (by decide +kernel) (by decide +kernel)
theorem km_589 : Cond.methodLink "java/lang/IndexOutOfBoundsException" 7 ⟨"java/lang/RuntimeException", "<init>", "(Ljava/lang/String;)V"⟩ ∈ cx_T := cx_tab (i := 589) (by decide +kernel) (by decide +kernel)
theorem km_590 : Cond.lays "java/lang/IndexOutOfBoundsException" "java/lang/Throwable" "depth" "I" ∈ cx_T := cx_tab (i := 590) (by decide +kernel) (by decide +kernel)
theorem km_591 : Cond.superclass "java/lang/IndexOutOfBoundsException" "java/lang/RuntimeException" ∈ cx_T := cx_tab (i := 591) (by decide +kernel) (by decide +kernel)
theorem km_592 : Cond.methodLink "HostBridge" 202 ⟨"HostBridge$Diary", "objectOf", "(I)I"⟩ ∈ cx_T := cx_tab (i := 592) (by decide +kernel) (by decide +kernel)
theorem km_593 : Cond.instanceMethod ⟨"HostBridge$Diary", "objectOf", "(I)I"⟩ ∈ cx_T := cx_tab (i := 593) (by decide +kernel) (by decide +kernel)
theorem km_594 : Cond.selects "HostBridge$Diary" ⟨"HostBridge$Diary", "objectOf", "(I)I"⟩ ⟨"HostBridge$Diary", "objectOf", "(I)I"⟩ ∈ cx_T := cx_tab (i := 594) (by decide +kernel) (by decide +kernel)
theorem km_595 : Cond.code ⟨"HostBridge$Diary", "objectOf", "(I)I"⟩ prog_5_method_6_code 2 (some FieldType.int) ∈ cx_T := cx_tab (i := 595) (by decide +kernel) (by decide +kernel)
theorem km_596 : Cond.methodLink "HostBridge" 205 ⟨"HostBridge$Diary", "methodOf", "(I)I"⟩ ∈ cx_T := cx_tab (i := 596) (by decide +kernel) (by decide +kernel)
theorem km_597 : Cond.instanceMethod ⟨"HostBridge$Diary", "methodOf", "(I)I"⟩ ∈ cx_T := cx_tab (i := 597) (by decide +kernel) (by decide +kernel)
theorem km_598 : Cond.selects "HostBridge$Diary" ⟨"HostBridge$Diary", "methodOf", "(I)I"⟩ ⟨"HostBridge$Diary", "methodOf", "(I)I"⟩ ∈ cx_T := cx_tab (i := 598) (by decide +kernel) (by decide +kernel)
theorem km_599 : Cond.code ⟨"HostBridge$Diary", "methodOf", "(I)I"⟩ prog_5_method_7_code 2 (some FieldType.int) ∈ cx_T := cx_tab (i := 599) (by decide +kernel) (by decide +kernel)
theorem km_600 : Cond.methodLink "HostBridge" 208 ⟨"HostBridge$Diary", "argumentsOf", "(I)I"⟩ ∈ cx_T := cx_tab (i := 600) (by decide +kernel) (by decide +kernel)
theorem km_601 : Cond.instanceMethod ⟨"HostBridge$Diary", "argumentsOf", "(I)I"⟩ ∈ cx_T := cx_tab (i := 601) (by decide +kernel) (by decide +kernel)
theorem km_602 : Cond.selects "HostBridge$Diary" ⟨"HostBridge$Diary", "argumentsOf", "(I)I"⟩ ⟨"HostBridge$Diary", "argumentsOf", "(I)I"⟩ ∈ cx_T := cx_tab (i := 602) (by decide +kernel) (by decide +kernel)
theorem km_603 : Cond.code ⟨"HostBridge$Diary", "argumentsOf", "(I)I"⟩ prog_5_method_8_code 2 (some FieldType.int) ∈ cx_T := cx_tab (i := 603) (by decide +kernel) (by decide +kernel)
theorem km_604 : Cond.methodLink "HostBridgeLaw" 111 ⟨"HostBridgeLaw", "converted", "(LHostBridge;II[J)I"⟩ ∈ cx_T := cx_tab (i := 604) (by decide +kernel) (by decide +kernel)
theorem km_605 : Cond.static ⟨"HostBridgeLaw", "converted", "(LHostBridge;II[J)I"⟩ ∈ cx_T := cx_tab (i := 605) (by decide +kernel) (by decide +kernel)
theorem km_606 : Cond.codeWith ⟨"HostBridgeLaw", "converted", "(LHostBridge;II[J)I"⟩ method_13_code 5 (some FieldType.int) [(0, 9, 12, 52)] ∈ cx_T := cx_tab (i := 606) (by decide +kernel) (by decide +kernel)
theorem km_607 : Cond.methodLink "HostBridgeLaw" 54 ⟨"HostBridge", "converted", "(II)J"⟩ ∈ cx_T := cx_tab (i := 607) (by decide +kernel) (by decide +kernel)
theorem km_608 : Cond.instanceMethod ⟨"HostBridge", "converted", "(II)J"⟩ ∈ cx_T := cx_tab (i := 608) (by decide +kernel) (by decide +kernel)
theorem km_609 : Cond.selects "HostBridge" ⟨"HostBridge", "converted", "(II)J"⟩ ⟨"HostBridge", "converted", "(II)J"⟩ ∈ cx_T := cx_tab (i := 609) (by decide +kernel) (by decide +kernel)
theorem km_610 : Cond.code ⟨"HostBridge", "converted", "(II)J"⟩ prog_1_method_13_code 3 (some FieldType.long) ∈ cx_T := cx_tab (i := 610) (by decide +kernel) (by decide +kernel)
theorem km_611 : Cond.methodLink "HostBridge" 211 ⟨"HostBridge$Diary", "valueOf", "(II)J"⟩ ∈ cx_T := cx_tab (i := 611) (by decide +kernel) (by decide +kernel)
theorem km_612 : Cond.instanceMethod ⟨"HostBridge$Diary", "valueOf", "(II)J"⟩ ∈ cx_T := cx_tab (i := 612) (by decide +kernel) (by decide +kernel)
theorem km_613 : Cond.selects "HostBridge$Diary" ⟨"HostBridge$Diary", "valueOf", "(II)J"⟩ ⟨"HostBridge$Diary", "valueOf", "(II)J"⟩ ∈ cx_T := cx_tab (i := 613) (by decide +kernel) (by decide +kernel)
theorem km_614 : Cond.code ⟨"HostBridge$Diary", "valueOf", "(II)J"⟩ prog_5_method_9_code 3 (some FieldType.long) ∈ cx_T := cx_tab (i := 614) (by decide +kernel) (by decide +kernel)
theorem km_615 : Cond.classLink "HostBridgeLaw" 59 "HostBridgeModel" ∈ cx_T := cx_tab (i := 615) (by decide +kernel) (by decide +kernel)
theorem km_616 : Cond.instantiable "HostBridgeModel" 23 ∈ cx_T := cx_tab (i := 616) (by decide +kernel) (by decide +kernel)
theorem km_617 : Cond.methodLink "HostBridgeLaw" 61 ⟨"HostBridgeModel", "<init>", "()V"⟩ ∈ cx_T := cx_tab (i := 617) (by decide +kernel) (by decide +kernel)
theorem km_618 : Cond.instanceMethod ⟨"HostBridgeModel", "<init>", "()V"⟩ ∈ cx_T := cx_tab (i := 618) (by decide +kernel) (by decide +kernel)
theorem km_619 : Cond.code ⟨"HostBridgeModel", "<init>", "()V"⟩ prog_10_method_1_code 1 none ∈ cx_T := cx_tab (i := 619) (by decide +kernel) (by decide +kernel)
theorem km_620 : Cond.methodLink "HostBridgeModel" 1 ⟨"java/lang/Object", "<init>", "()V"⟩ ∈ cx_T := cx_tab (i := 620) (by decide +kernel) (by decide +kernel)
theorem km_621 : Cond.fieldLink "HostBridgeModel" 57 "HostBridgeModel" "thrown" "I" ∈ cx_T := cx_tab (i := 621) (by decide +kernel) (by decide +kernel)
theorem km_622 : Cond.fieldLink "HostBridgeModel" 61 "HostBridgeModel" "classes" "I" ∈ cx_T := cx_tab (i := 622) (by decide +kernel) (by decide +kernel)
theorem km_623 : Cond.fieldLink "HostBridgeModel" 7 "HostBridgeModel" "parent" "[I" ∈ cx_T := cx_tab (i := 623) (by decide +kernel) (by decide +kernel)
theorem km_624 : Cond.fieldLink "HostBridgeModel" 82 "HostBridgeModel" "objects" "I" ∈ cx_T := cx_tab (i := 624) (by decide +kernel) (by decide +kernel)
theorem km_625 : Cond.fieldLink "HostBridgeModel" 13 "HostBridgeModel" "klass" "[I" ∈ cx_T := cx_tab (i := 625) (by decide +kernel) (by decide +kernel)
theorem km_626 : Cond.fieldLink "HostBridgeModel" 72 "HostBridgeModel" "methods" "I" ∈ cx_T := cx_tab (i := 626) (by decide +kernel) (by decide +kernel)
theorem km_627 : Cond.fieldLink "HostBridgeModel" 16 "HostBridgeModel" "owner" "[I" ∈ cx_T := cx_tab (i := 627) (by decide +kernel) (by decide +kernel)
theorem km_628 : Cond.fieldLink "HostBridgeModel" 19 "HostBridgeModel" "names" "[I" ∈ cx_T := cx_tab (i := 628) (by decide +kernel) (by decide +kernel)
theorem km_629 : Cond.fieldLink "HostBridgeModel" 22 "HostBridgeModel" "counts" "[I" ∈ cx_T := cx_tab (i := 629) (by decide +kernel) (by decide +kernel)
theorem km_630 : Cond.fieldLink "HostBridgeModel" 25 "HostBridgeModel" "types" "[I" ∈ cx_T := cx_tab (i := 630) (by decide +kernel) (by decide +kernel)
theorem km_631 : Cond.fieldLink "HostBridgeModel" 85 "HostBridgeModel" "many" "I" ∈ cx_T := cx_tab (i := 631) (by decide +kernel) (by decide +kernel)
theorem km_632 : Cond.fieldLink "HostBridgeModel" 28 "HostBridgeModel" "kind" "[I" ∈ cx_T := cx_tab (i := 632) (by decide +kernel) (by decide +kernel)
theorem km_633 : Cond.fieldLink "HostBridgeModel" 31 "HostBridgeModel" "bits" "[J" ∈ cx_T := cx_tab (i := 633) (by decide +kernel) (by decide +kernel)
theorem km_634 : Cond.fieldLink "HostBridgeModel" 35 "HostBridgeModel" "asked" "[I" ∈ cx_T := cx_tab (i := 634) (by decide +kernel) (by decide +kernel)
theorem km_635 : Cond.fieldLink "HostBridgeModel" 38 "HostBridgeModel" "candidate" "[Z" ∈ cx_T := cx_tab (i := 635) (by decide +kernel) (by decide +kernel)
theorem km_636 : Cond.fieldLink "HostBridgeModel" 134 "HostBridgeModel" "calls" "I" ∈ cx_T := cx_tab (i := 636) (by decide +kernel) (by decide +kernel)
theorem km_637 : Cond.fieldLink "HostBridgeModel" 42 "HostBridgeModel" "calledObject" "[I" ∈ cx_T := cx_tab (i := 637) (by decide +kernel) (by decide +kernel)
theorem km_638 : Cond.fieldLink "HostBridgeModel" 45 "HostBridgeModel" "calledMethod" "[I" ∈ cx_T := cx_tab (i := 638) (by decide +kernel) (by decide +kernel)
theorem km_639 : Cond.fieldLink "HostBridgeModel" 48 "HostBridgeModel" "calledMany" "[I" ∈ cx_T := cx_tab (i := 639) (by decide +kernel) (by decide +kernel)
theorem km_640 : Cond.fieldLink "HostBridgeModel" 51 "HostBridgeModel" "calledWith" "[J" ∈ cx_T := cx_tab (i := 640) (by decide +kernel) (by decide +kernel)
theorem km_641 : Cond.fieldLink "HostBridgeModel" 141 "HostBridgeModel" "answers" "I" ∈ cx_T := cx_tab (i := 641) (by decide +kernel) (by decide +kernel)
theorem km_642 : Cond.fieldLink "HostBridgeModel" 54 "HostBridgeModel" "answer" "[J" ∈ cx_T := cx_tab (i := 642) (by decide +kernel) (by decide +kernel)
theorem km_643 : Cond.fieldLink "HostBridgeModel" 144 "HostBridgeModel" "given" "J" ∈ cx_T := cx_tab (i := 643) (by decide +kernel) (by decide +kernel)
theorem km_644 : Cond.lays "HostBridgeModel" "HostBridgeModel" "thrown" "I" ∈ cx_T := cx_tab (i := 644) (by decide +kernel) (by decide +kernel)
theorem km_645 : Cond.soleField "HostBridgeModel" "thrown" ∈ cx_T := cx_tab (i := 645) (by decide +kernel) (by decide +kernel)
theorem km_646 : Cond.lays "HostBridgeModel" "HostBridgeModel" "classes" "I" ∈ cx_T := cx_tab (i := 646) (by decide +kernel) (by decide +kernel)
theorem km_647 : Cond.soleField "HostBridgeModel" "classes" ∈ cx_T := cx_tab (i := 647) (by decide +kernel) (by decide +kernel)
theorem km_648 : Cond.laysFinal "HostBridgeModel" "HostBridgeModel" "parent" "[I" ∈ cx_T := cx_tab (i := 648) (by decide +kernel) (by decide +kernel)
theorem km_649 : Cond.soleField "HostBridgeModel" "parent" ∈ cx_T := cx_tab (i := 649) (by decide +kernel) (by decide +kernel)
theorem km_650 : Cond.lays "HostBridgeModel" "HostBridgeModel" "objects" "I" ∈ cx_T := cx_tab (i := 650) (by decide +kernel) (by decide +kernel)
theorem km_651 : Cond.soleField "HostBridgeModel" "objects" ∈ cx_T := cx_tab (i := 651) (by decide +kernel) (by decide +kernel)
theorem km_652 : Cond.laysFinal "HostBridgeModel" "HostBridgeModel" "klass" "[I" ∈ cx_T := cx_tab (i := 652) (by decide +kernel) (by decide +kernel)
theorem km_653 : Cond.soleField "HostBridgeModel" "klass" ∈ cx_T := cx_tab (i := 653) (by decide +kernel) (by decide +kernel)
theorem km_654 : Cond.lays "HostBridgeModel" "HostBridgeModel" "methods" "I" ∈ cx_T := cx_tab (i := 654) (by decide +kernel) (by decide +kernel)
theorem km_655 : Cond.soleField "HostBridgeModel" "methods" ∈ cx_T := cx_tab (i := 655) (by decide +kernel) (by decide +kernel)
theorem km_656 : Cond.laysFinal "HostBridgeModel" "HostBridgeModel" "owner" "[I" ∈ cx_T := cx_tab (i := 656) (by decide +kernel) (by decide +kernel)
theorem km_657 : Cond.soleField "HostBridgeModel" "owner" ∈ cx_T := cx_tab (i := 657) (by decide +kernel) (by decide +kernel)
theorem km_658 : Cond.laysFinal "HostBridgeModel" "HostBridgeModel" "names" "[I" ∈ cx_T := cx_tab (i := 658) (by decide +kernel) (by decide +kernel)
theorem km_659 : Cond.soleField "HostBridgeModel" "names" ∈ cx_T := cx_tab (i := 659) (by decide +kernel) (by decide +kernel)
theorem km_660 : Cond.laysFinal "HostBridgeModel" "HostBridgeModel" "counts" "[I" ∈ cx_T := cx_tab (i := 660) (by decide +kernel) (by decide +kernel)
theorem km_661 : Cond.soleField "HostBridgeModel" "counts" ∈ cx_T := cx_tab (i := 661) (by decide +kernel) (by decide +kernel)
theorem km_662 : Cond.laysFinal "HostBridgeModel" "HostBridgeModel" "types" "[I" ∈ cx_T := cx_tab (i := 662) (by decide +kernel) (by decide +kernel)
theorem km_663 : Cond.soleField "HostBridgeModel" "types" ∈ cx_T := cx_tab (i := 663) (by decide +kernel) (by decide +kernel)
theorem km_664 : Cond.lays "HostBridgeModel" "HostBridgeModel" "many" "I" ∈ cx_T := cx_tab (i := 664) (by decide +kernel) (by decide +kernel)
theorem km_665 : Cond.soleField "HostBridgeModel" "many" ∈ cx_T := cx_tab (i := 665) (by decide +kernel) (by decide +kernel)
theorem km_666 : Cond.laysFinal "HostBridgeModel" "HostBridgeModel" "kind" "[I" ∈ cx_T := cx_tab (i := 666) (by decide +kernel) (by decide +kernel)
theorem km_667 : Cond.soleField "HostBridgeModel" "kind" ∈ cx_T := cx_tab (i := 667) (by decide +kernel) (by decide +kernel)
theorem km_668 : Cond.laysFinal "HostBridgeModel" "HostBridgeModel" "bits" "[J" ∈ cx_T := cx_tab (i := 668) (by decide +kernel) (by decide +kernel)
theorem km_669 : Cond.soleField "HostBridgeModel" "bits" ∈ cx_T := cx_tab (i := 669) (by decide +kernel) (by decide +kernel)
theorem km_670 : Cond.laysFinal "HostBridgeModel" "HostBridgeModel" "asked" "[I" ∈ cx_T := cx_tab (i := 670) (by decide +kernel) (by decide +kernel)
theorem km_671 : Cond.soleField "HostBridgeModel" "asked" ∈ cx_T := cx_tab (i := 671) (by decide +kernel) (by decide +kernel)
theorem km_672 : Cond.laysFinal "HostBridgeModel" "HostBridgeModel" "candidate" "[Z" ∈ cx_T := cx_tab (i := 672) (by decide +kernel) (by decide +kernel)
theorem km_673 : Cond.soleField "HostBridgeModel" "candidate" ∈ cx_T := cx_tab (i := 673) (by decide +kernel) (by decide +kernel)
theorem km_674 : Cond.lays "HostBridgeModel" "HostBridgeModel" "calls" "I" ∈ cx_T := cx_tab (i := 674) (by decide +kernel) (by decide +kernel)
theorem km_675 : Cond.soleField "HostBridgeModel" "calls" ∈ cx_T := cx_tab (i := 675) (by decide +kernel) (by decide +kernel)
theorem km_676 : Cond.laysFinal "HostBridgeModel" "HostBridgeModel" "calledObject" "[I" ∈ cx_T := cx_tab (i := 676) (by decide +kernel) (by decide +kernel)
theorem km_677 : Cond.soleField "HostBridgeModel" "calledObject" ∈ cx_T := cx_tab (i := 677) (by decide +kernel) (by decide +kernel)
theorem km_678 : Cond.laysFinal "HostBridgeModel" "HostBridgeModel" "calledMethod" "[I" ∈ cx_T := cx_tab (i := 678) (by decide +kernel) (by decide +kernel)
theorem km_679 : Cond.soleField "HostBridgeModel" "calledMethod" ∈ cx_T := cx_tab (i := 679) (by decide +kernel) (by decide +kernel)
theorem km_680 : Cond.laysFinal "HostBridgeModel" "HostBridgeModel" "calledMany" "[I" ∈ cx_T := cx_tab (i := 680) (by decide +kernel) (by decide +kernel)
theorem km_681 : Cond.soleField "HostBridgeModel" "calledMany" ∈ cx_T := cx_tab (i := 681) (by decide +kernel) (by decide +kernel)
theorem km_682 : Cond.laysFinal "HostBridgeModel" "HostBridgeModel" "calledWith" "[J" ∈ cx_T := cx_tab (i := 682) (by decide +kernel) (by decide +kernel)
theorem km_683 : Cond.soleField "HostBridgeModel" "calledWith" ∈ cx_T := cx_tab (i := 683) (by decide +kernel) (by decide +kernel)
theorem km_684 : Cond.lays "HostBridgeModel" "HostBridgeModel" "answers" "I" ∈ cx_T := cx_tab (i := 684) (by decide +kernel) (by decide +kernel)
theorem km_685 : Cond.soleField "HostBridgeModel" "answers" ∈ cx_T := cx_tab (i := 685) (by decide +kernel) (by decide +kernel)
theorem km_686 : Cond.laysFinal "HostBridgeModel" "HostBridgeModel" "answer" "[J" ∈ cx_T := cx_tab (i := 686) (by decide +kernel) (by decide +kernel)
theorem km_687 : Cond.soleField "HostBridgeModel" "answer" ∈ cx_T := cx_tab (i := 687) (by decide +kernel) (by decide +kernel)
theorem km_688 : Cond.lays "HostBridgeModel" "HostBridgeModel" "given" "J" ∈ cx_T := cx_tab (i := 688) (by decide +kernel) (by decide +kernel)
theorem km_689 : Cond.soleField "HostBridgeModel" "given" ∈ cx_T := cx_tab (i := 689) (by decide +kernel) (by decide +kernel)
theorem km_690 : Cond.superclass "HostBridgeModel" "java/lang/Object" ∈ cx_T := cx_tab (i := 690) (by decide +kernel) (by decide +kernel)
theorem km_691 : Cond.arrayClass FieldType.boolean ∈ cx_T := cx_tab (i := 691) (by decide +kernel) (by decide +kernel)
theorem km_692 : Cond.methodLink "HostBridgeLaw" 68 ⟨"HostBridgeModel", "thrown", "()I"⟩ ∈ cx_T := cx_tab (i := 692) (by decide +kernel) (by decide +kernel)
theorem km_693 : Cond.instanceMethod ⟨"HostBridgeModel", "thrown", "()I"⟩ ∈ cx_T := cx_tab (i := 693) (by decide +kernel) (by decide +kernel)
theorem km_694 : Cond.selects "HostBridgeModel" ⟨"HostBridgeModel", "thrown", "()I"⟩ ⟨"HostBridgeModel", "thrown", "()I"⟩ ∈ cx_T := cx_tab (i := 694) (by decide +kernel) (by decide +kernel)
theorem km_695 : Cond.code ⟨"HostBridgeModel", "thrown", "()I"⟩ prog_10_method_2_code 1 (some FieldType.int) ∈ cx_T := cx_tab (i := 695) (by decide +kernel) (by decide +kernel)
theorem km_696 : Cond.methodLink "HostBridgeLaw" 67 ⟨"HostBridgeModel", "klass", "(I)I"⟩ ∈ cx_T := cx_tab (i := 696) (by decide +kernel) (by decide +kernel)
theorem km_697 : Cond.instanceMethod ⟨"HostBridgeModel", "klass", "(I)I"⟩ ∈ cx_T := cx_tab (i := 697) (by decide +kernel) (by decide +kernel)
theorem km_698 : Cond.selects "HostBridgeModel" ⟨"HostBridgeModel", "klass", "(I)I"⟩ ⟨"HostBridgeModel", "klass", "(I)I"⟩ ∈ cx_T := cx_tab (i := 698) (by decide +kernel) (by decide +kernel)
theorem km_699 : Cond.code ⟨"HostBridgeModel", "klass", "(I)I"⟩ prog_10_method_5_code 3 (some FieldType.int) ∈ cx_T := cx_tab (i := 699) (by decide +kernel) (by decide +kernel)
theorem km_700 : Cond.methodLink "HostBridgeModel" 64 ⟨"HostBridgeModel", "isNo", "(II)Z"⟩ ∈ cx_T := cx_tab (i := 700) (by decide +kernel) (by decide +kernel)
theorem km_701 : Cond.static ⟨"HostBridgeModel", "isNo", "(II)Z"⟩ ∈ cx_T := cx_tab (i := 701) (by decide +kernel) (by decide +kernel)
theorem km_702 : Cond.code ⟨"HostBridgeModel", "isNo", "(II)Z"⟩ prog_10_method_4_code 2 (some FieldType.boolean) ∈ cx_T := cx_tab (i := 702) (by decide +kernel) (by decide +kernel)
theorem km_703 : Cond.methodLink "HostBridgeModel" 68 ⟨"HostBridgeModel", "throwing", "(ZZZ)Z"⟩ ∈ cx_T := cx_tab (i := 703) (by decide +kernel) (by decide +kernel)
theorem km_704 : Cond.privateMethod ⟨"HostBridgeModel", "throwing", "(ZZZ)Z"⟩ ∈ cx_T := cx_tab (i := 704) (by decide +kernel) (by decide +kernel)
theorem km_705 : Cond.instanceMethod ⟨"HostBridgeModel", "throwing", "(ZZZ)Z"⟩ ∈ cx_T := cx_tab (i := 705) (by decide +kernel) (by decide +kernel)
theorem km_706 : Cond.code ⟨"HostBridgeModel", "throwing", "(ZZZ)Z"⟩ prog_10_method_3_code 4 (some FieldType.boolean) ∈ cx_T := cx_tab (i := 706) (by decide +kernel) (by decide +kernel)
theorem km_707 : Cond.methodLink "HostBridgeLaw" 75 ⟨"HostBridgeModel", "method", "(IIIII)I"⟩ ∈ cx_T := cx_tab (i := 707) (by decide +kernel) (by decide +kernel)
theorem km_708 : Cond.instanceMethod ⟨"HostBridgeModel", "method", "(IIIII)I"⟩ ∈ cx_T := cx_tab (i := 708) (by decide +kernel) (by decide +kernel)
theorem km_709 : Cond.selects "HostBridgeModel" ⟨"HostBridgeModel", "method", "(IIIII)I"⟩ ⟨"HostBridgeModel", "method", "(IIIII)I"⟩ ∈ cx_T := cx_tab (i := 709) (by decide +kernel) (by decide +kernel)
theorem km_710 : Cond.code ⟨"HostBridgeModel", "method", "(IIIII)I"⟩ prog_10_method_8_code 9 (some FieldType.int) ∈ cx_T := cx_tab (i := 710) (by decide +kernel) (by decide +kernel)
theorem km_711 : Cond.methodLink "HostBridgeModel" 75 ⟨"HostBridgeModel", "asks", "(II)Z"⟩ ∈ cx_T := cx_tab (i := 711) (by decide +kernel) (by decide +kernel)
theorem km_712 : Cond.privateMethod ⟨"HostBridgeModel", "asks", "(II)Z"⟩ ∈ cx_T := cx_tab (i := 712) (by decide +kernel) (by decide +kernel)
theorem km_713 : Cond.instanceMethod ⟨"HostBridgeModel", "asks", "(II)Z"⟩ ∈ cx_T := cx_tab (i := 713) (by decide +kernel) (by decide +kernel)
theorem km_714 : Cond.code ⟨"HostBridgeModel", "asks", "(II)Z"⟩ prog_10_method_6_code 7 (some FieldType.boolean) ∈ cx_T := cx_tab (i := 714) (by decide +kernel) (by decide +kernel)
theorem km_715 : Cond.methodLink "HostBridgeModel" 78 ⟨"HostBridgeModel", "methodOf", "(III)I"⟩ ∈ cx_T := cx_tab (i := 715) (by decide +kernel) (by decide +kernel)
theorem km_716 : Cond.privateMethod ⟨"HostBridgeModel", "methodOf", "(III)I"⟩ ∈ cx_T := cx_tab (i := 716) (by decide +kernel) (by decide +kernel)
theorem km_717 : Cond.instanceMethod ⟨"HostBridgeModel", "methodOf", "(III)I"⟩ ∈ cx_T := cx_tab (i := 717) (by decide +kernel) (by decide +kernel)
theorem km_718 : Cond.code ⟨"HostBridgeModel", "methodOf", "(III)I"⟩ prog_10_method_7_code 8 (some FieldType.int) ∈ cx_T := cx_tab (i := 718) (by decide +kernel) (by decide +kernel)
theorem km_719 : Cond.methodLink "HostBridgeLaw" 78 ⟨"HostBridgeModel", "object", "(I)I"⟩ ∈ cx_T := cx_tab (i := 719) (by decide +kernel) (by decide +kernel)
theorem km_720 : Cond.instanceMethod ⟨"HostBridgeModel", "object", "(I)I"⟩ ∈ cx_T := cx_tab (i := 720) (by decide +kernel) (by decide +kernel)
theorem km_721 : Cond.selects "HostBridgeModel" ⟨"HostBridgeModel", "object", "(I)I"⟩ ⟨"HostBridgeModel", "object", "(I)I"⟩ ∈ cx_T := cx_tab (i := 721) (by decide +kernel) (by decide +kernel)
theorem km_722 : Cond.code ⟨"HostBridgeModel", "object", "(I)I"⟩ prog_10_method_9_code 3 (some FieldType.int) ∈ cx_T := cx_tab (i := 722) (by decide +kernel) (by decide +kernel)
theorem km_723 : Cond.methodLink "HostBridgeLaw" 84 ⟨"HostBridgeModel", "argument", "(IJ)I"⟩ ∈ cx_T := cx_tab (i := 723) (by decide +kernel) (by decide +kernel)
theorem km_724 : Cond.instanceMethod ⟨"HostBridgeModel", "argument", "(IJ)I"⟩ ∈ cx_T := cx_tab (i := 724) (by decide +kernel) (by decide +kernel)
theorem km_725 : Cond.selects "HostBridgeModel" ⟨"HostBridgeModel", "argument", "(IJ)I"⟩ ⟨"HostBridgeModel", "argument", "(IJ)I"⟩ ∈ cx_T := cx_tab (i := 725) (by decide +kernel) (by decide +kernel)
theorem km_726 : Cond.code ⟨"HostBridgeModel", "argument", "(IJ)I"⟩ prog_10_method_10_code 5 (some FieldType.int) ∈ cx_T := cx_tab (i := 726) (by decide +kernel) (by decide +kernel)
theorem km_727 : Cond.methodLink "HostBridgeLaw" 88 ⟨"HostBridgeModel", "weight", "(II)I"⟩ ∈ cx_T := cx_tab (i := 727) (by decide +kernel) (by decide +kernel)
theorem km_728 : Cond.instanceMethod ⟨"HostBridgeModel", "weight", "(II)I"⟩ ∈ cx_T := cx_tab (i := 728) (by decide +kernel) (by decide +kernel)
theorem km_729 : Cond.selects "HostBridgeModel" ⟨"HostBridgeModel", "weight", "(II)I"⟩ ⟨"HostBridgeModel", "weight", "(II)I"⟩ ∈ cx_T := cx_tab (i := 729) (by decide +kernel) (by decide +kernel)
theorem km_730 : Cond.code ⟨"HostBridgeModel", "weight", "(II)I"⟩ prog_10_method_15_code 3 (some FieldType.int) ∈ cx_T := cx_tab (i := 730) (by decide +kernel) (by decide +kernel)
theorem km_731 : Cond.methodLink "HostBridgeModel" 118 ⟨"HostBridgeModel", "weightOf", "(II)I"⟩ ∈ cx_T := cx_tab (i := 731) (by decide +kernel) (by decide +kernel)
theorem km_732 : Cond.privateMethod ⟨"HostBridgeModel", "weightOf", "(II)I"⟩ ∈ cx_T := cx_tab (i := 732) (by decide +kernel) (by decide +kernel)
theorem km_733 : Cond.instanceMethod ⟨"HostBridgeModel", "weightOf", "(II)I"⟩ ∈ cx_T := cx_tab (i := 733) (by decide +kernel) (by decide +kernel)
theorem km_734 : Cond.code ⟨"HostBridgeModel", "weightOf", "(II)I"⟩ prog_10_method_14_code 6 (some FieldType.int) ∈ cx_T := cx_tab (i := 734) (by decide +kernel) (by decide +kernel)
theorem km_735 : Cond.methodLink "HostBridgeModel" 114 ⟨"HostBridgeModel", "weightOfNumber", "(JI)I"⟩ ∈ cx_T := cx_tab (i := 735) (by decide +kernel) (by decide +kernel)
theorem km_736 : Cond.static ⟨"HostBridgeModel", "weightOfNumber", "(JI)I"⟩ ∈ cx_T := cx_tab (i := 736) (by decide +kernel) (by decide +kernel)
theorem km_737 : Cond.code ⟨"HostBridgeModel", "weightOfNumber", "(JI)I"⟩ prog_10_method_13_code 6 (some FieldType.int) ∈ cx_T := cx_tab (i := 737) (by decide +kernel) (by decide +kernel)
theorem km_738 : Cond.methodLink "HostBridgeModel" 102 ⟨"HostBridgeModel", "wholeOf", "(J)J"⟩ ∈ cx_T := cx_tab (i := 738) (by decide +kernel) (by decide +kernel)
theorem km_739 : Cond.static ⟨"HostBridgeModel", "wholeOf", "(J)J"⟩ ∈ cx_T := cx_tab (i := 739) (by decide +kernel) (by decide +kernel)
theorem km_740 : Cond.code ⟨"HostBridgeModel", "wholeOf", "(J)J"⟩ prog_10_method_11_code 7 (some FieldType.long) ∈ cx_T := cx_tab (i := 740) (by decide +kernel) (by decide +kernel)
theorem km_741 : Cond.constantLong "HostBridgeModel" 88 (9007199254740992 : Int64) ∈ cx_T := cx_tab (i := 741) (by decide +kernel) (by decide +kernel)
theorem km_742 : Cond.constantLong "HostBridgeModel" 90 (2047 : Int64) ∈ cx_T := cx_tab (i := 742) (by decide +kernel) (by decide +kernel)
theorem km_743 : Cond.constantLong "HostBridgeModel" 92 (4503599627370495 : Int64) ∈ cx_T := cx_tab (i := 743) (by decide +kernel) (by decide +kernel)
theorem km_744 : Cond.constantLong "HostBridgeModel" 94 (4611686018427387904 : Int64) ∈ cx_T := cx_tab (i := 744) (by decide +kernel) (by decide +kernel)
theorem km_745 : Cond.constantLong "HostBridgeModel" 96 (4503599627370496 : Int64) ∈ cx_T := cx_tab (i := 745) (by decide +kernel) (by decide +kernel)
theorem km_746 : Cond.constantLong "HostBridgeModel" 98 (2 : Int64) ∈ cx_T := cx_tab (i := 746) (by decide +kernel) (by decide +kernel)
theorem km_747 : Cond.constantLong "HostBridgeModel" 106 (-2147483648 : Int64) ∈ cx_T := cx_tab (i := 747) (by decide +kernel) (by decide +kernel)
theorem km_748 : Cond.constantLong "HostBridgeModel" 108 (2147483647 : Int64) ∈ cx_T := cx_tab (i := 748) (by decide +kernel) (by decide +kernel)
theorem km_749 : Cond.methodLink "HostBridgeModel" 110 ⟨"HostBridgeModel", "isMinusZero", "(J)Z"⟩ ∈ cx_T := cx_tab (i := 749) (by decide +kernel) (by decide +kernel)
theorem km_750 : Cond.static ⟨"HostBridgeModel", "isMinusZero", "(J)Z"⟩ ∈ cx_T := cx_tab (i := 750) (by decide +kernel) (by decide +kernel)
theorem km_751 : Cond.code ⟨"HostBridgeModel", "isMinusZero", "(J)Z"⟩ prog_10_method_12_code 2 (some FieldType.boolean) ∈ cx_T := cx_tab (i := 751) (by decide +kernel) (by decide +kernel)
theorem km_752 : Cond.constantLong "HostBridgeModel" 100 (-9223372036854775808 : Int64) ∈ cx_T := cx_tab (i := 752) (by decide +kernel) (by decide +kernel)
theorem km_753 : Cond.methodLink "HostBridgeLaw" 91 ⟨"HostBridgeModel", "call", "(II)I"⟩ ∈ cx_T := cx_tab (i := 753) (by decide +kernel) (by decide +kernel)
theorem km_754 : Cond.instanceMethod ⟨"HostBridgeModel", "call", "(II)I"⟩ ∈ cx_T := cx_tab (i := 754) (by decide +kernel) (by decide +kernel)
theorem km_755 : Cond.selects "HostBridgeModel" ⟨"HostBridgeModel", "call", "(II)I"⟩ ⟨"HostBridgeModel", "call", "(II)I"⟩ ∈ cx_T := cx_tab (i := 755) (by decide +kernel) (by decide +kernel)
theorem km_756 : Cond.code ⟨"HostBridgeModel", "call", "(II)I"⟩ prog_10_method_23_code 8 (some FieldType.int) ∈ cx_T := cx_tab (i := 756) (by decide +kernel) (by decide +kernel)
theorem km_757 : Cond.methodLink "HostBridgeModel" 131 ⟨"HostBridgeModel", "far", "(II)I"⟩ ∈ cx_T := cx_tab (i := 757) (by decide +kernel) (by decide +kernel)
theorem km_758 : Cond.privateMethod ⟨"HostBridgeModel", "far", "(II)I"⟩ ∈ cx_T := cx_tab (i := 758) (by decide +kernel) (by decide +kernel)
theorem km_759 : Cond.instanceMethod ⟨"HostBridgeModel", "far", "(II)I"⟩ ∈ cx_T := cx_tab (i := 759) (by decide +kernel) (by decide +kernel)
theorem km_760 : Cond.code ⟨"HostBridgeModel", "far", "(II)I"⟩ prog_10_method_18_code 5 (some FieldType.int) ∈ cx_T := cx_tab (i := 760) (by decide +kernel) (by decide +kernel)
theorem km_761 : Cond.methodLink "HostBridgeModel" 148 ⟨"HostBridgeModel", "fits", "(I)Z"⟩ ∈ cx_T := cx_tab (i := 761) (by decide +kernel) (by decide +kernel)
theorem km_762 : Cond.privateMethod ⟨"HostBridgeModel", "fits", "(I)Z"⟩ ∈ cx_T := cx_tab (i := 762) (by decide +kernel) (by decide +kernel)
theorem km_763 : Cond.instanceMethod ⟨"HostBridgeModel", "fits", "(I)Z"⟩ ∈ cx_T := cx_tab (i := 763) (by decide +kernel) (by decide +kernel)
theorem km_764 : Cond.code ⟨"HostBridgeModel", "fits", "(I)Z"⟩ prog_10_method_20_code 4 (some FieldType.boolean) ∈ cx_T := cx_tab (i := 764) (by decide +kernel) (by decide +kernel)
theorem km_765 : Cond.methodLink "HostBridgeModel" 152 ⟨"HostBridgeModel", "isHidden", "(II)Z"⟩ ∈ cx_T := cx_tab (i := 765) (by decide +kernel) (by decide +kernel)
theorem km_766 : Cond.privateMethod ⟨"HostBridgeModel", "isHidden", "(II)Z"⟩ ∈ cx_T := cx_tab (i := 766) (by decide +kernel) (by decide +kernel)
theorem km_767 : Cond.instanceMethod ⟨"HostBridgeModel", "isHidden", "(II)Z"⟩ ∈ cx_T := cx_tab (i := 767) (by decide +kernel) (by decide +kernel)
theorem km_768 : Cond.code ⟨"HostBridgeModel", "isHidden", "(II)Z"⟩ prog_10_method_19_code 7 (some FieldType.boolean) ∈ cx_T := cx_tab (i := 768) (by decide +kernel) (by decide +kernel)
theorem km_769 : Cond.methodLink "HostBridgeModel" 155 ⟨"HostBridgeModel", "isBest", "(I)Z"⟩ ∈ cx_T := cx_tab (i := 769) (by decide +kernel) (by decide +kernel)
theorem km_770 : Cond.privateMethod ⟨"HostBridgeModel", "isBest", "(I)Z"⟩ ∈ cx_T := cx_tab (i := 770) (by decide +kernel) (by decide +kernel)
theorem km_771 : Cond.instanceMethod ⟨"HostBridgeModel", "isBest", "(I)Z"⟩ ∈ cx_T := cx_tab (i := 771) (by decide +kernel) (by decide +kernel)
theorem km_772 : Cond.code ⟨"HostBridgeModel", "isBest", "(I)Z"⟩ prog_10_method_21_code 5 (some FieldType.boolean) ∈ cx_T := cx_tab (i := 772) (by decide +kernel) (by decide +kernel)
theorem km_773 : Cond.methodLink "HostBridgeModel" 158 ⟨"HostBridgeModel", "make", "(II)I"⟩ ∈ cx_T := cx_tab (i := 773) (by decide +kernel) (by decide +kernel)
theorem km_774 : Cond.privateMethod ⟨"HostBridgeModel", "make", "(II)I"⟩ ∈ cx_T := cx_tab (i := 774) (by decide +kernel) (by decide +kernel)
theorem km_775 : Cond.instanceMethod ⟨"HostBridgeModel", "make", "(II)I"⟩ ∈ cx_T := cx_tab (i := 775) (by decide +kernel) (by decide +kernel)
theorem km_776 : Cond.code ⟨"HostBridgeModel", "make", "(II)I"⟩ prog_10_method_22_code 5 (some FieldType.int) ∈ cx_T := cx_tab (i := 776) (by decide +kernel) (by decide +kernel)
theorem km_777 : Cond.methodLink "HostBridgeModel" 137 ⟨"HostBridgeModel", "turned", "(II)J"⟩ ∈ cx_T := cx_tab (i := 777) (by decide +kernel) (by decide +kernel)
theorem km_778 : Cond.privateMethod ⟨"HostBridgeModel", "turned", "(II)J"⟩ ∈ cx_T := cx_tab (i := 778) (by decide +kernel) (by decide +kernel)
theorem km_779 : Cond.instanceMethod ⟨"HostBridgeModel", "turned", "(II)J"⟩ ∈ cx_T := cx_tab (i := 779) (by decide +kernel) (by decide +kernel)
theorem km_780 : Cond.code ⟨"HostBridgeModel", "turned", "(II)J"⟩ prog_10_method_17_code 3 (some FieldType.long) ∈ cx_T := cx_tab (i := 780) (by decide +kernel) (by decide +kernel)
theorem km_781 : Cond.constantLong "HostBridgeModel" 126 (-1 : Int64) ∈ cx_T := cx_tab (i := 781) (by decide +kernel) (by decide +kernel)
theorem km_782 : Cond.methodLink "HostBridgeModel" 128 ⟨"HostBridgeModel", "isTrue", "(J)Z"⟩ ∈ cx_T := cx_tab (i := 782) (by decide +kernel) (by decide +kernel)
theorem km_783 : Cond.static ⟨"HostBridgeModel", "isTrue", "(J)Z"⟩ ∈ cx_T := cx_tab (i := 783) (by decide +kernel) (by decide +kernel)
theorem km_784 : Cond.code ⟨"HostBridgeModel", "isTrue", "(J)Z"⟩ prog_10_method_16_code 4 (some FieldType.boolean) ∈ cx_T := cx_tab (i := 784) (by decide +kernel) (by decide +kernel)
theorem km_785 : Cond.constantLong "HostBridgeModel" 122 (9223372036854775807 : Int64) ∈ cx_T := cx_tab (i := 785) (by decide +kernel) (by decide +kernel)
theorem km_786 : Cond.constantLong "HostBridgeModel" 124 (9218868437227405312 : Int64) ∈ cx_T := cx_tab (i := 786) (by decide +kernel) (by decide +kernel)
theorem km_787 : Cond.methodLink "HostBridgeLaw" 95 ⟨"HostBridgeModel", "exact", "(III)I"⟩ ∈ cx_T := cx_tab (i := 787) (by decide +kernel) (by decide +kernel)
theorem km_788 : Cond.instanceMethod ⟨"HostBridgeModel", "exact", "(III)I"⟩ ∈ cx_T := cx_tab (i := 788) (by decide +kernel) (by decide +kernel)
theorem km_789 : Cond.selects "HostBridgeModel" ⟨"HostBridgeModel", "exact", "(III)I"⟩ ⟨"HostBridgeModel", "exact", "(III)I"⟩ ∈ cx_T := cx_tab (i := 789) (by decide +kernel) (by decide +kernel)
theorem km_790 : Cond.code ⟨"HostBridgeModel", "exact", "(III)I"⟩ prog_10_method_24_code 7 (some FieldType.int) ∈ cx_T := cx_tab (i := 790) (by decide +kernel) (by decide +kernel)
theorem km_791 : Cond.methodLink "HostBridgeLaw" 99 ⟨"HostBridgeModel", "answer", "(J)V"⟩ ∈ cx_T := cx_tab (i := 791) (by decide +kernel) (by decide +kernel)
theorem km_792 : Cond.instanceMethod ⟨"HostBridgeModel", "answer", "(J)V"⟩ ∈ cx_T := cx_tab (i := 792) (by decide +kernel) (by decide +kernel)
theorem km_793 : Cond.selects "HostBridgeModel" ⟨"HostBridgeModel", "answer", "(J)V"⟩ ⟨"HostBridgeModel", "answer", "(J)V"⟩ ∈ cx_T := cx_tab (i := 793) (by decide +kernel) (by decide +kernel)
theorem km_794 : Cond.code ⟨"HostBridgeModel", "answer", "(J)V"⟩ prog_10_method_25_code 3 none ∈ cx_T := cx_tab (i := 794) (by decide +kernel) (by decide +kernel)
theorem km_795 : Cond.methodLink "HostBridgeLaw" 103 ⟨"HostBridgeModel", "given", "()J"⟩ ∈ cx_T := cx_tab (i := 795) (by decide +kernel) (by decide +kernel)
theorem km_796 : Cond.instanceMethod ⟨"HostBridgeModel", "given", "()J"⟩ ∈ cx_T := cx_tab (i := 796) (by decide +kernel) (by decide +kernel)
theorem km_797 : Cond.selects "HostBridgeModel" ⟨"HostBridgeModel", "given", "()J"⟩ ⟨"HostBridgeModel", "given", "()J"⟩ ∈ cx_T := cx_tab (i := 797) (by decide +kernel) (by decide +kernel)
theorem km_798 : Cond.code ⟨"HostBridgeModel", "given", "()J"⟩ prog_10_method_26_code 1 (some FieldType.long) ∈ cx_T := cx_tab (i := 798) (by decide +kernel) (by decide +kernel)
theorem km_799 : Cond.methodLink "HostBridgeLaw" 107 ⟨"HostBridgeModel", "calls", "()I"⟩ ∈ cx_T := cx_tab (i := 799) (by decide +kernel) (by decide +kernel)
theorem km_800 : Cond.instanceMethod ⟨"HostBridgeModel", "calls", "()I"⟩ ∈ cx_T := cx_tab (i := 800) (by decide +kernel) (by decide +kernel)
theorem km_801 : Cond.selects "HostBridgeModel" ⟨"HostBridgeModel", "calls", "()I"⟩ ⟨"HostBridgeModel", "calls", "()I"⟩ ∈ cx_T := cx_tab (i := 801) (by decide +kernel) (by decide +kernel)
theorem km_802 : Cond.code ⟨"HostBridgeModel", "calls", "()I"⟩ prog_10_method_27_code 1 (some FieldType.int) ∈ cx_T := cx_tab (i := 802) (by decide +kernel) (by decide +kernel)
theorem km_803 : Cond.methodLink "HostBridgeLaw" 110 ⟨"HostBridgeModel", "look", "(II)I"⟩ ∈ cx_T := cx_tab (i := 803) (by decide +kernel) (by decide +kernel)
theorem km_804 : Cond.instanceMethod ⟨"HostBridgeModel", "look", "(II)I"⟩ ∈ cx_T := cx_tab (i := 804) (by decide +kernel) (by decide +kernel)
theorem km_805 : Cond.selects "HostBridgeModel" ⟨"HostBridgeModel", "look", "(II)I"⟩ ⟨"HostBridgeModel", "look", "(II)I"⟩ ∈ cx_T := cx_tab (i := 805) (by decide +kernel) (by decide +kernel)
theorem km_806 : Cond.code ⟨"HostBridgeModel", "look", "(II)I"⟩ prog_10_method_29_code 4 (some FieldType.int) ∈ cx_T := cx_tab (i := 806) (by decide +kernel) (by decide +kernel)
theorem km_807 : Cond.methodLink "HostBridgeModel" 161 ⟨"HostBridgeModel", "isGone", "(I)Z"⟩ ∈ cx_T := cx_tab (i := 807) (by decide +kernel) (by decide +kernel)
theorem km_808 : Cond.privateMethod ⟨"HostBridgeModel", "isGone", "(I)Z"⟩ ∈ cx_T := cx_tab (i := 808) (by decide +kernel) (by decide +kernel)
theorem km_809 : Cond.instanceMethod ⟨"HostBridgeModel", "isGone", "(I)Z"⟩ ∈ cx_T := cx_tab (i := 809) (by decide +kernel) (by decide +kernel)
theorem km_810 : Cond.code ⟨"HostBridgeModel", "isGone", "(I)Z"⟩ prog_10_method_28_code 2 (some FieldType.boolean) ∈ cx_T := cx_tab (i := 810) (by decide +kernel) (by decide +kernel)
theorem km_811 : Cond.methodLink "HostBridgeLaw" 113 ⟨"HostBridgeModel", "converted", "(II)J"⟩ ∈ cx_T := cx_tab (i := 811) (by decide +kernel) (by decide +kernel)
theorem km_812 : Cond.instanceMethod ⟨"HostBridgeModel", "converted", "(II)J"⟩ ∈ cx_T := cx_tab (i := 812) (by decide +kernel) (by decide +kernel)
theorem km_813 : Cond.selects "HostBridgeModel" ⟨"HostBridgeModel", "converted", "(II)J"⟩ ⟨"HostBridgeModel", "converted", "(II)J"⟩ ∈ cx_T := cx_tab (i := 813) (by decide +kernel) (by decide +kernel)
theorem km_814 : Cond.code ⟨"HostBridgeModel", "converted", "(II)J"⟩ prog_10_method_30_code 3 (some FieldType.long) ∈ cx_T := cx_tab (i := 814) (by decide +kernel) (by decide +kernel)
theorem km_815 : Cond.constantLong "HostBridgeLaw" 79 (4294967295 : Int64) ∈ cx_T := cx_tab (i := 815) (by decide +kernel) (by decide +kernel)
theorem km_816 : Cond.sameMethod "java/lang/Throwable" "java/lang/Throwable" "fillInStackTrace" "(I)Ljava/lang/Throwable;" ∈ cx_T := cx_tab (i := 816) (by decide +kernel) (by decide +kernel)
theorem kv_B_isValue : Cond.selects "HostBridge" ⟨"HostBridge", "isValue", "(IJ)Z"⟩ ⟨"HostBridge", "isValue", "(IJ)Z"⟩ ∈ cx_T := cx_mem (by decide +kernel) (by decide +kernel)
theorem kv_C_gatherFrom : Cond.selects "HostBridge$Choice" ⟨"HostBridge$Choice", "gatherFrom", "(III)V"⟩ ⟨"HostBridge$Choice", "gatherFrom", "(III)V"⟩ ∈ cx_T := cx_mem (by decide +kernel) (by decide +kernel)
theorem kv_C_isHidden : Cond.selects "HostBridge$Choice" ⟨"HostBridge$Choice", "isHidden", "(I)Z"⟩ ⟨"HostBridge$Choice", "isHidden", "(I)Z"⟩ ∈ cx_T := cx_mem (by decide +kernel) (by decide +kernel)
theorem kv_C_lowestWeight : Cond.selects "HostBridge$Choice" ⟨"HostBridge$Choice", "lowestWeight", "(II)I"⟩ ⟨"HostBridge$Choice", "lowestWeight", "(II)I"⟩ ∈ cx_T := cx_mem (by decide +kernel) (by decide +kernel)
theorem kv_C_weightIn : Cond.selects "HostBridge$Choice" ⟨"HostBridge$Choice", "weightIn", "(III)I"⟩ ⟨"HostBridge$Choice", "weightIn", "(III)I"⟩ ∈ cx_T := cx_mem (by decide +kernel) (by decide +kernel)
theorem kv_C_isLowest : Cond.selects "HostBridge$Choice" ⟨"HostBridge$Choice", "isLowest", "(II)Z"⟩ ⟨"HostBridge$Choice", "isLowest", "(II)Z"⟩ ∈ cx_T := cx_mem (by decide +kernel) (by decide +kernel)
theorem kv_B_writeDown : Cond.selects "HostBridge" ⟨"HostBridge", "writeDown", "(II)V"⟩ ⟨"HostBridge", "writeDown", "(II)V"⟩ ∈ cx_T := cx_mem (by decide +kernel) (by decide +kernel)
theorem kv_R_throwing : Cond.selects "HostBridgeModel" ⟨"HostBridgeModel", "throwing", "(ZZZ)Z"⟩ ⟨"HostBridgeModel", "throwing", "(ZZZ)Z"⟩ ∈ cx_T := cx_mem (by decide +kernel) (by decide +kernel)
theorem kv_R_asks : Cond.selects "HostBridgeModel" ⟨"HostBridgeModel", "asks", "(II)Z"⟩ ⟨"HostBridgeModel", "asks", "(II)Z"⟩ ∈ cx_T := cx_mem (by decide +kernel) (by decide +kernel)
theorem kv_R_methodOf : Cond.selects "HostBridgeModel" ⟨"HostBridgeModel", "methodOf", "(III)I"⟩ ⟨"HostBridgeModel", "methodOf", "(III)I"⟩ ∈ cx_T := cx_mem (by decide +kernel) (by decide +kernel)
theorem kv_R_weightOf : Cond.selects "HostBridgeModel" ⟨"HostBridgeModel", "weightOf", "(II)I"⟩ ⟨"HostBridgeModel", "weightOf", "(II)I"⟩ ∈ cx_T := cx_mem (by decide +kernel) (by decide +kernel)
theorem kv_R_far : Cond.selects "HostBridgeModel" ⟨"HostBridgeModel", "far", "(II)I"⟩ ⟨"HostBridgeModel", "far", "(II)I"⟩ ∈ cx_T := cx_mem (by decide +kernel) (by decide +kernel)
theorem kv_R_fits : Cond.selects "HostBridgeModel" ⟨"HostBridgeModel", "fits", "(I)Z"⟩ ⟨"HostBridgeModel", "fits", "(I)Z"⟩ ∈ cx_T := cx_mem (by decide +kernel) (by decide +kernel)
theorem kv_R_isHidden : Cond.selects "HostBridgeModel" ⟨"HostBridgeModel", "isHidden", "(II)Z"⟩ ⟨"HostBridgeModel", "isHidden", "(II)Z"⟩ ∈ cx_T := cx_mem (by decide +kernel) (by decide +kernel)
theorem kv_R_isBest : Cond.selects "HostBridgeModel" ⟨"HostBridgeModel", "isBest", "(I)Z"⟩ ⟨"HostBridgeModel", "isBest", "(I)Z"⟩ ∈ cx_T := cx_mem (by decide +kernel) (by decide +kernel)
theorem kv_R_make : Cond.selects "HostBridgeModel" ⟨"HostBridgeModel", "make", "(II)I"⟩ ⟨"HostBridgeModel", "make", "(II)I"⟩ ∈ cx_T := cx_mem (by decide +kernel) (by decide +kernel)
theorem kv_R_turned : Cond.selects "HostBridgeModel" ⟨"HostBridgeModel", "turned", "(II)J"⟩ ⟨"HostBridgeModel", "turned", "(II)J"⟩ ∈ cx_T := cx_mem (by decide +kernel) (by decide +kernel)
theorem kv_R_isGone : Cond.selects "HostBridgeModel" ⟨"HostBridgeModel", "isGone", "(I)Z"⟩ ⟨"HostBridgeModel", "isGone", "(I)Z"⟩ ∈ cx_T := cx_mem (by decide +kernel) (by decide +kernel)
end
section
/-! DECODE ROWS (written by wip/gen/names.py) -/
theorem kd_B_init_0 : decode kc_B_init 0 = .ok (.aload_n 0, 1) := by decide +kernel
theorem kd_B_init_1 : decode kc_B_init 1 = .ok (.invokespecial 1, 3) := by decide +kernel
theorem kd_B_init_4 : decode kc_B_init 4 = .ok (.aload_n 0, 1) := by decide +kernel
theorem kd_B_init_5 : decode kc_B_init 5 = .ok (.new 7, 3) := by decide +kernel
theorem kd_B_init_8 : decode kc_B_init 8 = .ok (.dup, 1) := by decide +kernel
theorem kd_B_init_9 : decode kc_B_init 9 = .ok (.invokespecial 9, 3) := by decide +kernel
theorem kd_B_init_12 : decode kc_B_init 12 = .ok (.putfield 10, 3) := by decide +kernel
theorem kd_B_init_15 : decode kc_B_init 15 = .ok (.aload_n 0, 1) := by decide +kernel
theorem kd_B_init_16 : decode kc_B_init 16 = .ok (.new 16, 3) := by decide +kernel
theorem kd_B_init_19 : decode kc_B_init 19 = .ok (.dup, 1) := by decide +kernel
theorem kd_B_init_20 : decode kc_B_init 20 = .ok (.invokespecial 18, 3) := by decide +kernel
theorem kd_B_init_23 : decode kc_B_init 23 = .ok (.putfield 19, 3) := by decide +kernel
theorem kd_B_init_26 : decode kc_B_init 26 = .ok (.aload_n 0, 1) := by decide +kernel
theorem kd_B_init_27 : decode kc_B_init 27 = .ok (.new 23, 3) := by decide +kernel
theorem kd_B_init_30 : decode kc_B_init 30 = .ok (.dup, 1) := by decide +kernel
theorem kd_B_init_31 : decode kc_B_init 31 = .ok (.aload_n 0, 1) := by decide +kernel
theorem kd_B_init_32 : decode kc_B_init 32 = .ok (.getfield 10, 3) := by decide +kernel
theorem kd_B_init_35 : decode kc_B_init 35 = .ok (.invokespecial 25, 3) := by decide +kernel
theorem kd_B_init_38 : decode kc_B_init 38 = .ok (.putfield 28, 3) := by decide +kernel
theorem kd_B_init_41 : decode kc_B_init 41 = .ok (.aload_n 0, 1) := by decide +kernel
theorem kd_B_init_42 : decode kc_B_init 42 = .ok (.new 32, 3) := by decide +kernel
theorem kd_B_init_45 : decode kc_B_init 45 = .ok (.dup, 1) := by decide +kernel
theorem kd_B_init_46 : decode kc_B_init 46 = .ok (.aload_n 0, 1) := by decide +kernel
theorem kd_B_init_47 : decode kc_B_init 47 = .ok (.getfield 10, 3) := by decide +kernel
theorem kd_B_init_50 : decode kc_B_init 50 = .ok (.aload_n 0, 1) := by decide +kernel
theorem kd_B_init_51 : decode kc_B_init 51 = .ok (.getfield 19, 3) := by decide +kernel
theorem kd_B_init_54 : decode kc_B_init 54 = .ok (.aload_n 0, 1) := by decide +kernel
theorem kd_B_init_55 : decode kc_B_init 55 = .ok (.getfield 28, 3) := by decide +kernel
theorem kd_B_init_58 : decode kc_B_init 58 = .ok (.invokespecial 34, 3) := by decide +kernel
theorem kd_B_init_61 : decode kc_B_init 61 = .ok (.putfield 37, 3) := by decide +kernel
theorem kd_B_init_64 : decode kc_B_init 64 = .ok (.aload_n 0, 1) := by decide +kernel
theorem kd_B_init_65 : decode kc_B_init 65 = .ok (.new 41, 3) := by decide +kernel
theorem kd_B_init_68 : decode kc_B_init 68 = .ok (.dup, 1) := by decide +kernel
theorem kd_B_init_69 : decode kc_B_init 69 = .ok (.invokespecial 43, 3) := by decide +kernel
theorem kd_B_init_72 : decode kc_B_init 72 = .ok (.putfield 44, 3) := by decide +kernel
theorem kd_B_init_75 : decode kc_B_init 75 = .ok (.aload_n 0, 1) := by decide +kernel
theorem kd_B_init_76 : decode kc_B_init 76 = .ok (.new 48, 3) := by decide +kernel
theorem kd_B_init_79 : decode kc_B_init 79 = .ok (.dup, 1) := by decide +kernel
theorem kd_B_init_80 : decode kc_B_init 80 = .ok (.invokespecial 50, 3) := by decide +kernel
theorem kd_B_init_83 : decode kc_B_init 83 = .ok (.putfield 51, 3) := by decide +kernel
theorem kd_B_init_86 : decode kc_B_init 86 = .ok (.return_, 1) := by decide +kernel
theorem kd_W_init_0 : decode kc_W_init 0 = .ok (.aload_n 0, 1) := by decide +kernel
theorem kd_W_init_1 : decode kc_W_init 1 = .ok (.invokespecial 3, 3) := by decide +kernel
theorem kd_W_init_4 : decode kc_W_init 4 = .ok (.aload_n 0, 1) := by decide +kernel
theorem kd_W_init_5 : decode kc_W_init 5 = .ok (.bipush 16, 2) := by decide +kernel
theorem kd_W_init_7 : decode kc_W_init 7 = .ok (.newarray .int, 2) := by decide +kernel
theorem kd_W_init_9 : decode kc_W_init 9 = .ok (.putfield 9, 3) := by decide +kernel
theorem kd_W_init_12 : decode kc_W_init 12 = .ok (.aload_n 0, 1) := by decide +kernel
theorem kd_W_init_13 : decode kc_W_init 13 = .ok (.bipush 64, 2) := by decide +kernel
theorem kd_W_init_15 : decode kc_W_init 15 = .ok (.newarray .int, 2) := by decide +kernel
theorem kd_W_init_17 : decode kc_W_init 17 = .ok (.putfield 15, 3) := by decide +kernel
theorem kd_W_init_20 : decode kc_W_init 20 = .ok (.return_, 1) := by decide +kernel
theorem kd_M_init_0 : decode kc_M_init 0 = .ok (.aload_n 0, 1) := by decide +kernel
theorem kd_M_init_1 : decode kc_M_init 1 = .ok (.invokespecial 3, 3) := by decide +kernel
theorem kd_M_init_4 : decode kc_M_init 4 = .ok (.aload_n 0, 1) := by decide +kernel
theorem kd_M_init_5 : decode kc_M_init 5 = .ok (.bipush 64, 2) := by decide +kernel
theorem kd_M_init_7 : decode kc_M_init 7 = .ok (.newarray .int, 2) := by decide +kernel
theorem kd_M_init_9 : decode kc_M_init 9 = .ok (.putfield 9, 3) := by decide +kernel
theorem kd_M_init_12 : decode kc_M_init 12 = .ok (.aload_n 0, 1) := by decide +kernel
theorem kd_M_init_13 : decode kc_M_init 13 = .ok (.bipush 64, 2) := by decide +kernel
theorem kd_M_init_15 : decode kc_M_init 15 = .ok (.newarray .int, 2) := by decide +kernel
theorem kd_M_init_17 : decode kc_M_init 17 = .ok (.putfield 15, 3) := by decide +kernel
theorem kd_M_init_20 : decode kc_M_init 20 = .ok (.aload_n 0, 1) := by decide +kernel
theorem kd_M_init_21 : decode kc_M_init 21 = .ok (.bipush 64, 2) := by decide +kernel
theorem kd_M_init_23 : decode kc_M_init 23 = .ok (.newarray .int, 2) := by decide +kernel
theorem kd_M_init_25 : decode kc_M_init 25 = .ok (.putfield 18, 3) := by decide +kernel
theorem kd_M_init_28 : decode kc_M_init 28 = .ok (.aload_n 0, 1) := by decide +kernel
theorem kd_M_init_29 : decode kc_M_init 29 = .ok (.bipush 64, 2) := by decide +kernel
theorem kd_M_init_31 : decode kc_M_init 31 = .ok (.newarray .int, 2) := by decide +kernel
theorem kd_M_init_33 : decode kc_M_init 33 = .ok (.putfield 21, 3) := by decide +kernel
theorem kd_M_init_36 : decode kc_M_init 36 = .ok (.return_, 1) := by decide +kernel
theorem kd_B_calls_0 : decode kc_B_calls 0 = .ok (.aload_n 0, 1) := by decide +kernel
theorem kd_B_calls_1 : decode kc_B_calls 1 = .ok (.getfield 44, 3) := by decide +kernel
theorem kd_B_calls_4 : decode kc_B_calls 4 = .ok (.getfield 185, 3) := by decide +kernel
theorem kd_B_calls_7 : decode kc_B_calls 7 = .ok (.ireturn, 1) := by decide +kernel
theorem kd_B_klass_0 : decode kc_B_klass 0 = .ok (.iload_n 1, 1) := by decide +kernel
theorem kd_B_klass_1 : decode kc_B_klass 1 = .ok (.iconst (-1), 1) := by decide +kernel
theorem kd_B_klass_2 : decode kc_B_klass 2 = .ok (.if_icmp .eq 24, 3) := by decide +kernel
theorem kd_B_klass_5 : decode kc_B_klass 5 = .ok (.aload_n 0, 1) := by decide +kernel
theorem kd_B_klass_6 : decode kc_B_klass 6 = .ok (.getfield 10, 3) := by decide +kernel
theorem kd_B_klass_9 : decode kc_B_klass 9 = .ok (.iload_n 1, 1) := by decide +kernel
theorem kd_B_klass_10 : decode kc_B_klass 10 = .ok (.invokevirtual 55, 3) := by decide +kernel
theorem kd_B_klass_13 : decode kc_B_klass 13 = .ok (.ifCond .ne 13, 3) := by decide +kernel
theorem kd_B_klass_16 : decode kc_B_klass 16 = .ok (.new 59, 3) := by decide +kernel
theorem kd_B_klass_19 : decode kc_B_klass 19 = .ok (.dup, 1) := by decide +kernel
theorem kd_B_klass_20 : decode kc_B_klass 20 = .ok (.ldc 61, 2) := by decide +kernel
theorem kd_B_klass_22 : decode kc_B_klass 22 = .ok (.invokespecial 63, 3) := by decide +kernel
theorem kd_B_klass_25 : decode kc_B_klass 25 = .ok (.athrow, 1) := by decide +kernel
theorem kd_B_klass_26 : decode kc_B_klass 26 = .ok (.aload_n 0, 1) := by decide +kernel
theorem kd_B_klass_27 : decode kc_B_klass 27 = .ok (.getfield 10, 3) := by decide +kernel
theorem kd_B_klass_30 : decode kc_B_klass 30 = .ok (.getfield 66, 3) := by decide +kernel
theorem kd_B_klass_33 : decode kc_B_klass 33 = .ok (.bipush 16, 2) := by decide +kernel
theorem kd_B_klass_35 : decode kc_B_klass 35 = .ok (.if_icmp .lt 13, 3) := by decide +kernel
theorem kd_B_klass_38 : decode kc_B_klass 38 = .ok (.new 70, 3) := by decide +kernel
theorem kd_B_klass_41 : decode kc_B_klass 41 = .ok (.dup, 1) := by decide +kernel
theorem kd_B_klass_42 : decode kc_B_klass 42 = .ok (.ldc 72, 2) := by decide +kernel
theorem kd_B_klass_44 : decode kc_B_klass 44 = .ok (.invokespecial 74, 3) := by decide +kernel
theorem kd_B_klass_47 : decode kc_B_klass 47 = .ok (.athrow, 1) := by decide +kernel
theorem kd_B_klass_48 : decode kc_B_klass 48 = .ok (.aload_n 0, 1) := by decide +kernel
theorem kd_B_klass_49 : decode kc_B_klass 49 = .ok (.getfield 10, 3) := by decide +kernel
theorem kd_B_klass_52 : decode kc_B_klass 52 = .ok (.iload_n 1, 1) := by decide +kernel
theorem kd_B_klass_53 : decode kc_B_klass 53 = .ok (.invokevirtual 75, 3) := by decide +kernel
theorem kd_B_klass_56 : decode kc_B_klass 56 = .ok (.ireturn, 1) := by decide +kernel
theorem kd_W_hasClass_0 : decode kc_W_hasClass 0 = .ok (.iload_n 1, 1) := by decide +kernel
theorem kd_W_hasClass_1 : decode kc_W_hasClass 1 = .ok (.ifCond .lt 15, 3) := by decide +kernel
theorem kd_W_hasClass_4 : decode kc_W_hasClass 4 = .ok (.iload_n 1, 1) := by decide +kernel
theorem kd_W_hasClass_5 : decode kc_W_hasClass 5 = .ok (.aload_n 0, 1) := by decide +kernel
theorem kd_W_hasClass_6 : decode kc_W_hasClass 6 = .ok (.getfield 18, 3) := by decide +kernel
theorem kd_W_hasClass_9 : decode kc_W_hasClass 9 = .ok (.if_icmp .ge 7, 3) := by decide +kernel
theorem kd_W_hasClass_12 : decode kc_W_hasClass 12 = .ok (.iconst 1, 1) := by decide +kernel
theorem kd_W_hasClass_13 : decode kc_W_hasClass 13 = .ok (.goto 4, 3) := by decide +kernel
theorem kd_W_hasClass_16 : decode kc_W_hasClass 16 = .ok (.iconst 0, 1) := by decide +kernel
theorem kd_W_hasClass_17 : decode kc_W_hasClass 17 = .ok (.ireturn, 1) := by decide +kernel
theorem kd_W_addClass_0 : decode kc_W_addClass 0 = .ok (.aload_n 0, 1) := by decide +kernel
theorem kd_W_addClass_1 : decode kc_W_addClass 1 = .ok (.getfield 9, 3) := by decide +kernel
theorem kd_W_addClass_4 : decode kc_W_addClass 4 = .ok (.aload_n 0, 1) := by decide +kernel
theorem kd_W_addClass_5 : decode kc_W_addClass 5 = .ok (.getfield 18, 3) := by decide +kernel
theorem kd_W_addClass_8 : decode kc_W_addClass 8 = .ok (.iload_n 1, 1) := by decide +kernel
theorem kd_W_addClass_9 : decode kc_W_addClass 9 = .ok (.iastore, 1) := by decide +kernel
theorem kd_W_addClass_10 : decode kc_W_addClass 10 = .ok (.aload_n 0, 1) := by decide +kernel
theorem kd_W_addClass_11 : decode kc_W_addClass 11 = .ok (.dup, 1) := by decide +kernel
theorem kd_W_addClass_12 : decode kc_W_addClass 12 = .ok (.getfield 18, 3) := by decide +kernel
theorem kd_W_addClass_15 : decode kc_W_addClass 15 = .ok (.iconst 1, 1) := by decide +kernel
theorem kd_W_addClass_16 : decode kc_W_addClass 16 = .ok (.iadd, 1) := by decide +kernel
theorem kd_W_addClass_17 : decode kc_W_addClass 17 = .ok (.putfield 18, 3) := by decide +kernel
theorem kd_W_addClass_20 : decode kc_W_addClass 20 = .ok (.aload_n 0, 1) := by decide +kernel
theorem kd_W_addClass_21 : decode kc_W_addClass 21 = .ok (.getfield 18, 3) := by decide +kernel
theorem kd_W_addClass_24 : decode kc_W_addClass 24 = .ok (.iconst 1, 1) := by decide +kernel
theorem kd_W_addClass_25 : decode kc_W_addClass 25 = .ok (.isub, 1) := by decide +kernel
theorem kd_W_addClass_26 : decode kc_W_addClass 26 = .ok (.ireturn, 1) := by decide +kernel
theorem kd_B_method_0 : decode kc_B_method 0 = .ok (.aload_n 0, 1) := by decide +kernel
theorem kd_B_method_1 : decode kc_B_method 1 = .ok (.getfield 10, 3) := by decide +kernel
theorem kd_B_method_4 : decode kc_B_method 4 = .ok (.iload_n 1, 1) := by decide +kernel
theorem kd_B_method_5 : decode kc_B_method 5 = .ok (.invokevirtual 55, 3) := by decide +kernel
theorem kd_B_method_8 : decode kc_B_method 8 = .ok (.ifCond .ne 13, 3) := by decide +kernel
theorem kd_B_method_11 : decode kc_B_method 11 = .ok (.new 59, 3) := by decide +kernel
theorem kd_B_method_14 : decode kc_B_method 14 = .ok (.dup, 1) := by decide +kernel
theorem kd_B_method_15 : decode kc_B_method 15 = .ok (.ldc 79, 2) := by decide +kernel
theorem kd_B_method_17 : decode kc_B_method 17 = .ok (.invokespecial 63, 3) := by decide +kernel
theorem kd_B_method_20 : decode kc_B_method 20 = .ok (.athrow, 1) := by decide +kernel
theorem kd_B_method_21 : decode kc_B_method 21 = .ok (.iload_n 2, 1) := by decide +kernel
theorem kd_B_method_22 : decode kc_B_method 22 = .ok (.invokestatic 81, 3) := by decide +kernel
theorem kd_B_method_25 : decode kc_B_method 25 = .ok (.ifCond .ne 13, 3) := by decide +kernel
theorem kd_B_method_28 : decode kc_B_method 28 = .ok (.new 59, 3) := by decide +kernel
theorem kd_B_method_31 : decode kc_B_method 31 = .ok (.dup, 1) := by decide +kernel
theorem kd_B_method_32 : decode kc_B_method 32 = .ok (.ldc 84, 2) := by decide +kernel
theorem kd_B_method_34 : decode kc_B_method 34 = .ok (.invokespecial 63, 3) := by decide +kernel
theorem kd_B_method_37 : decode kc_B_method 37 = .ok (.athrow, 1) := by decide +kernel
theorem kd_B_method_38 : decode kc_B_method 38 = .ok (.iload_n 3, 1) := by decide +kernel
theorem kd_B_method_39 : decode kc_B_method 39 = .ok (.ifCond .lt 8, 3) := by decide +kernel
theorem kd_B_method_42 : decode kc_B_method 42 = .ok (.iload_n 3, 1) := by decide +kernel
theorem kd_B_method_43 : decode kc_B_method 43 = .ok (.iconst 4, 1) := by decide +kernel
theorem kd_B_method_44 : decode kc_B_method 44 = .ok (.if_icmp .le 13, 3) := by decide +kernel
theorem kd_B_method_47 : decode kc_B_method 47 = .ok (.new 59, 3) := by decide +kernel
theorem kd_B_method_50 : decode kc_B_method 50 = .ok (.dup, 1) := by decide +kernel
theorem kd_B_method_51 : decode kc_B_method 51 = .ok (.ldc 86, 2) := by decide +kernel
theorem kd_B_method_53 : decode kc_B_method 53 = .ok (.invokespecial 63, 3) := by decide +kernel
theorem kd_B_method_56 : decode kc_B_method 56 = .ok (.athrow, 1) := by decide +kernel
theorem kd_B_method_57 : decode kc_B_method 57 = .ok (.aload_n 0, 1) := by decide +kernel
theorem kd_B_method_58 : decode kc_B_method 58 = .ok (.getfield 10, 3) := by decide +kernel
theorem kd_B_method_61 : decode kc_B_method 61 = .ok (.iload_n 3, 1) := by decide +kernel
theorem kd_B_method_62 : decode kc_B_method 62 = .ok (.iload 4, 2) := by decide +kernel
theorem kd_B_method_64 : decode kc_B_method 64 = .ok (.invokevirtual 88, 3) := by decide +kernel
theorem kd_B_method_67 : decode kc_B_method 67 = .ok (.ifCond .eq 15, 3) := by decide +kernel
theorem kd_B_method_70 : decode kc_B_method 70 = .ok (.aload_n 0, 1) := by decide +kernel
theorem kd_B_method_71 : decode kc_B_method 71 = .ok (.getfield 10, 3) := by decide +kernel
theorem kd_B_method_74 : decode kc_B_method 74 = .ok (.iload 5, 2) := by decide +kernel
theorem kd_B_method_76 : decode kc_B_method 76 = .ok (.invokevirtual 92, 3) := by decide +kernel
theorem kd_B_method_79 : decode kc_B_method 79 = .ok (.ifCond .ne 13, 3) := by decide +kernel
theorem kd_B_method_82 : decode kc_B_method 82 = .ok (.new 59, 3) := by decide +kernel
theorem kd_B_method_85 : decode kc_B_method 85 = .ok (.dup, 1) := by decide +kernel
theorem kd_B_method_86 : decode kc_B_method 86 = .ok (.ldc 95, 2) := by decide +kernel
theorem kd_B_method_88 : decode kc_B_method 88 = .ok (.invokespecial 63, 3) := by decide +kernel
theorem kd_B_method_91 : decode kc_B_method 91 = .ok (.athrow, 1) := by decide +kernel
theorem kd_B_method_92 : decode kc_B_method 92 = .ok (.aload_n 0, 1) := by decide +kernel
theorem kd_B_method_93 : decode kc_B_method 93 = .ok (.getfield 19, 3) := by decide +kernel
theorem kd_B_method_96 : decode kc_B_method 96 = .ok (.iload_n 1, 1) := by decide +kernel
theorem kd_B_method_97 : decode kc_B_method 97 = .ok (.iload_n 2, 1) := by decide +kernel
theorem kd_B_method_98 : decode kc_B_method 98 = .ok (.iload_n 3, 1) := by decide +kernel
theorem kd_B_method_99 : decode kc_B_method 99 = .ok (.iload 4, 2) := by decide +kernel
theorem kd_B_method_101 : decode kc_B_method 101 = .ok (.invokevirtual 97, 3) := by decide +kernel
theorem kd_B_method_104 : decode kc_B_method 104 = .ok (.iconst (-1), 1) := by decide +kernel
theorem kd_B_method_105 : decode kc_B_method 105 = .ok (.if_icmp .eq 13, 3) := by decide +kernel
theorem kd_B_method_108 : decode kc_B_method 108 = .ok (.new 70, 3) := by decide +kernel
theorem kd_B_method_111 : decode kc_B_method 111 = .ok (.dup, 1) := by decide +kernel
theorem kd_B_method_112 : decode kc_B_method 112 = .ok (.ldc 101, 2) := by decide +kernel
theorem kd_B_method_114 : decode kc_B_method 114 = .ok (.invokespecial 74, 3) := by decide +kernel
theorem kd_B_method_117 : decode kc_B_method 117 = .ok (.athrow, 1) := by decide +kernel
theorem kd_B_method_118 : decode kc_B_method 118 = .ok (.aload_n 0, 1) := by decide +kernel
theorem kd_B_method_119 : decode kc_B_method 119 = .ok (.getfield 19, 3) := by decide +kernel
theorem kd_B_method_122 : decode kc_B_method 122 = .ok (.getfield 103, 3) := by decide +kernel
theorem kd_B_method_125 : decode kc_B_method 125 = .ok (.bipush 64, 2) := by decide +kernel
theorem kd_B_method_127 : decode kc_B_method 127 = .ok (.if_icmp .lt 13, 3) := by decide +kernel
theorem kd_B_method_130 : decode kc_B_method 130 = .ok (.new 70, 3) := by decide +kernel
theorem kd_B_method_133 : decode kc_B_method 133 = .ok (.dup, 1) := by decide +kernel
theorem kd_B_method_134 : decode kc_B_method 134 = .ok (.ldc 106, 2) := by decide +kernel
theorem kd_B_method_136 : decode kc_B_method 136 = .ok (.invokespecial 74, 3) := by decide +kernel
theorem kd_B_method_139 : decode kc_B_method 139 = .ok (.athrow, 1) := by decide +kernel
theorem kd_B_method_140 : decode kc_B_method 140 = .ok (.aload_n 0, 1) := by decide +kernel
theorem kd_B_method_141 : decode kc_B_method 141 = .ok (.getfield 19, 3) := by decide +kernel
theorem kd_B_method_144 : decode kc_B_method 144 = .ok (.iload_n 1, 1) := by decide +kernel
theorem kd_B_method_145 : decode kc_B_method 145 = .ok (.iload_n 2, 1) := by decide +kernel
theorem kd_B_method_146 : decode kc_B_method 146 = .ok (.iload_n 3, 1) := by decide +kernel
theorem kd_B_method_147 : decode kc_B_method 147 = .ok (.iload 4, 2) := by decide +kernel
theorem kd_B_method_149 : decode kc_B_method 149 = .ok (.invokevirtual 108, 3) := by decide +kernel
theorem kd_B_method_152 : decode kc_B_method 152 = .ok (.ireturn, 1) := by decide +kernel
theorem kd_B_isName_0 : decode kc_B_isName 0 = .ok (.iload_n 0, 1) := by decide +kernel
theorem kd_B_isName_1 : decode kc_B_isName 1 = .ok (.ifCond .lt 14, 3) := by decide +kernel
theorem kd_B_isName_4 : decode kc_B_isName 4 = .ok (.iload_n 0, 1) := by decide +kernel
theorem kd_B_isName_5 : decode kc_B_isName 5 = .ok (.sipush 1000, 3) := by decide +kernel
theorem kd_B_isName_8 : decode kc_B_isName 8 = .ok (.if_icmp .ge 7, 3) := by decide +kernel
theorem kd_B_isName_11 : decode kc_B_isName 11 = .ok (.iconst 1, 1) := by decide +kernel
theorem kd_B_isName_12 : decode kc_B_isName 12 = .ok (.goto 4, 3) := by decide +kernel
theorem kd_B_isName_15 : decode kc_B_isName 15 = .ok (.iconst 0, 1) := by decide +kernel
theorem kd_B_isName_16 : decode kc_B_isName 16 = .ok (.ireturn, 1) := by decide +kernel
theorem kd_W_hasTypes_0 : decode kc_W_hasTypes 0 = .ok (.iload_n 1, 1) := by decide +kernel
theorem kd_W_hasTypes_1 : decode kc_W_hasTypes 1 = .ok (.iconst 4, 1) := by decide +kernel
theorem kd_W_hasTypes_2 : decode kc_W_hasTypes 2 = .ok (.if_icmp .ge 14, 3) := by decide +kernel
theorem kd_W_hasTypes_5 : decode kc_W_hasTypes 5 = .ok (.iload_n 2, 1) := by decide +kernel
theorem kd_W_hasTypes_6 : decode kc_W_hasTypes 6 = .ok (.bipush 8, 2) := by decide +kernel
theorem kd_W_hasTypes_8 : decode kc_W_hasTypes 8 = .ok (.iload_n 1, 1) := by decide +kernel
theorem kd_W_hasTypes_9 : decode kc_W_hasTypes 9 = .ok (.imul, 1) := by decide +kernel
theorem kd_W_hasTypes_10 : decode kc_W_hasTypes 10 = .ok (.iushr, 1) := by decide +kernel
theorem kd_W_hasTypes_11 : decode kc_W_hasTypes 11 = .ok (.ifCond .eq 5, 3) := by decide +kernel
theorem kd_W_hasTypes_14 : decode kc_W_hasTypes 14 = .ok (.iconst 0, 1) := by decide +kernel
theorem kd_W_hasTypes_15 : decode kc_W_hasTypes 15 = .ok (.ireturn, 1) := by decide +kernel
theorem kd_W_hasTypes_16 : decode kc_W_hasTypes 16 = .ok (.iconst 0, 1) := by decide +kernel
theorem kd_W_hasTypes_17 : decode kc_W_hasTypes 17 = .ok (.istore_n 3, 1) := by decide +kernel
theorem kd_W_hasTypes_18 : decode kc_W_hasTypes 18 = .ok (.iload_n 3, 1) := by decide +kernel
theorem kd_W_hasTypes_19 : decode kc_W_hasTypes 19 = .ok (.iload_n 1, 1) := by decide +kernel
theorem kd_W_hasTypes_20 : decode kc_W_hasTypes 20 = .ok (.if_icmp .ge 24, 3) := by decide +kernel
theorem kd_W_hasTypes_23 : decode kc_W_hasTypes 23 = .ok (.aload_n 0, 1) := by decide +kernel
theorem kd_W_hasTypes_24 : decode kc_W_hasTypes 24 = .ok (.iload_n 2, 1) := by decide +kernel
theorem kd_W_hasTypes_25 : decode kc_W_hasTypes 25 = .ok (.iload_n 1, 1) := by decide +kernel
theorem kd_W_hasTypes_26 : decode kc_W_hasTypes 26 = .ok (.iload_n 3, 1) := by decide +kernel
theorem kd_W_hasTypes_27 : decode kc_W_hasTypes 27 = .ok (.invokestatic 25, 3) := by decide +kernel
theorem kd_W_hasTypes_30 : decode kc_W_hasTypes 30 = .ok (.invokevirtual 29, 3) := by decide +kernel
theorem kd_W_hasTypes_33 : decode kc_W_hasTypes 33 = .ok (.ifCond .ne 5, 3) := by decide +kernel
theorem kd_W_hasTypes_36 : decode kc_W_hasTypes 36 = .ok (.iconst 0, 1) := by decide +kernel
theorem kd_W_hasTypes_37 : decode kc_W_hasTypes 37 = .ok (.ireturn, 1) := by decide +kernel
theorem kd_W_hasTypes_38 : decode kc_W_hasTypes 38 = .ok (.iinc 3 1, 3) := by decide +kernel
theorem kd_W_hasTypes_41 : decode kc_W_hasTypes 41 = .ok (.goto (-23), 3) := by decide +kernel
theorem kd_W_hasTypes_44 : decode kc_W_hasTypes 44 = .ok (.iconst 1, 1) := by decide +kernel
theorem kd_W_hasTypes_45 : decode kc_W_hasTypes 45 = .ok (.ireturn, 1) := by decide +kernel
theorem kd_B_typeAt_0 : decode kc_B_typeAt 0 = .ok (.iload_n 0, 1) := by decide +kernel
theorem kd_B_typeAt_1 : decode kc_B_typeAt 1 = .ok (.bipush 8, 2) := by decide +kernel
theorem kd_B_typeAt_3 : decode kc_B_typeAt 3 = .ok (.iload_n 1, 1) := by decide +kernel
theorem kd_B_typeAt_4 : decode kc_B_typeAt 4 = .ok (.iconst 1, 1) := by decide +kernel
theorem kd_B_typeAt_5 : decode kc_B_typeAt 5 = .ok (.isub, 1) := by decide +kernel
theorem kd_B_typeAt_6 : decode kc_B_typeAt 6 = .ok (.iload_n 2, 1) := by decide +kernel
theorem kd_B_typeAt_7 : decode kc_B_typeAt 7 = .ok (.isub, 1) := by decide +kernel
theorem kd_B_typeAt_8 : decode kc_B_typeAt 8 = .ok (.imul, 1) := by decide +kernel
theorem kd_B_typeAt_9 : decode kc_B_typeAt 9 = .ok (.iushr, 1) := by decide +kernel
theorem kd_B_typeAt_10 : decode kc_B_typeAt 10 = .ok (.sipush 255, 3) := by decide +kernel
theorem kd_B_typeAt_13 : decode kc_B_typeAt 13 = .ok (.iand, 1) := by decide +kernel
theorem kd_B_typeAt_14 : decode kc_B_typeAt 14 = .ok (.ireturn, 1) := by decide +kernel
theorem kd_W_hasType_0 : decode kc_W_hasType 0 = .ok (.iload_n 1, 1) := by decide +kernel
theorem kd_W_hasType_1 : decode kc_W_hasType 1 = .ok (.ifCond .lt 18, 3) := by decide +kernel
theorem kd_W_hasType_4 : decode kc_W_hasType 4 = .ok (.iload_n 1, 1) := by decide +kernel
theorem kd_W_hasType_5 : decode kc_W_hasType 5 = .ok (.bipush 6, 2) := by decide +kernel
theorem kd_W_hasType_7 : decode kc_W_hasType 7 = .ok (.aload_n 0, 1) := by decide +kernel
theorem kd_W_hasType_8 : decode kc_W_hasType 8 = .ok (.getfield 18, 3) := by decide +kernel
theorem kd_W_hasType_11 : decode kc_W_hasType 11 = .ok (.iadd, 1) := by decide +kernel
theorem kd_W_hasType_12 : decode kc_W_hasType 12 = .ok (.if_icmp .ge 7, 3) := by decide +kernel
theorem kd_W_hasType_15 : decode kc_W_hasType 15 = .ok (.iconst 1, 1) := by decide +kernel
theorem kd_W_hasType_16 : decode kc_W_hasType 16 = .ok (.goto 4, 3) := by decide +kernel
theorem kd_W_hasType_19 : decode kc_W_hasType 19 = .ok (.iconst 0, 1) := by decide +kernel
theorem kd_W_hasType_20 : decode kc_W_hasType 20 = .ok (.ireturn, 1) := by decide +kernel
theorem kd_M_find_0 : decode kc_M_find 0 = .ok (.iconst 0, 1) := by decide +kernel
theorem kd_M_find_1 : decode kc_M_find 1 = .ok (.istore 5, 2) := by decide +kernel
theorem kd_M_find_3 : decode kc_M_find 3 = .ok (.iload 5, 2) := by decide +kernel
theorem kd_M_find_5 : decode kc_M_find 5 = .ok (.aload_n 0, 1) := by decide +kernel
theorem kd_M_find_6 : decode kc_M_find 6 = .ok (.getfield 24, 3) := by decide +kernel
theorem kd_M_find_9 : decode kc_M_find 9 = .ok (.if_icmp .ge 36, 3) := by decide +kernel
theorem kd_M_find_12 : decode kc_M_find 12 = .ok (.aload_n 0, 1) := by decide +kernel
theorem kd_M_find_13 : decode kc_M_find 13 = .ok (.iload 5, 2) := by decide +kernel
theorem kd_M_find_15 : decode kc_M_find 15 = .ok (.iload_n 1, 1) := by decide +kernel
theorem kd_M_find_16 : decode kc_M_find 16 = .ok (.iload_n 2, 1) := by decide +kernel
theorem kd_M_find_17 : decode kc_M_find 17 = .ok (.iload_n 3, 1) := by decide +kernel
theorem kd_M_find_18 : decode kc_M_find 18 = .ok (.invokevirtual 28, 3) := by decide +kernel
theorem kd_M_find_21 : decode kc_M_find 21 = .ok (.ifCond .eq 18, 3) := by decide +kernel
theorem kd_M_find_24 : decode kc_M_find 24 = .ok (.aload_n 0, 1) := by decide +kernel
theorem kd_M_find_25 : decode kc_M_find 25 = .ok (.getfield 21, 3) := by decide +kernel
theorem kd_M_find_28 : decode kc_M_find 28 = .ok (.iload 5, 2) := by decide +kernel
theorem kd_M_find_30 : decode kc_M_find 30 = .ok (.iaload, 1) := by decide +kernel
theorem kd_M_find_31 : decode kc_M_find 31 = .ok (.iload 4, 2) := by decide +kernel
theorem kd_M_find_33 : decode kc_M_find 33 = .ok (.if_icmp .ne 6, 3) := by decide +kernel
theorem kd_M_find_36 : decode kc_M_find 36 = .ok (.iload 5, 2) := by decide +kernel
theorem kd_M_find_38 : decode kc_M_find 38 = .ok (.ireturn, 1) := by decide +kernel
theorem kd_M_find_39 : decode kc_M_find 39 = .ok (.iinc 5 1, 3) := by decide +kernel
theorem kd_M_find_42 : decode kc_M_find 42 = .ok (.goto (-39), 3) := by decide +kernel
theorem kd_M_find_45 : decode kc_M_find 45 = .ok (.iconst (-1), 1) := by decide +kernel
theorem kd_M_find_46 : decode kc_M_find 46 = .ok (.ireturn, 1) := by decide +kernel
theorem kd_M_isCalled_0 : decode kc_M_isCalled 0 = .ok (.aload_n 0, 1) := by decide +kernel
theorem kd_M_isCalled_1 : decode kc_M_isCalled 1 = .ok (.getfield 9, 3) := by decide +kernel
theorem kd_M_isCalled_4 : decode kc_M_isCalled 4 = .ok (.iload_n 1, 1) := by decide +kernel
theorem kd_M_isCalled_5 : decode kc_M_isCalled 5 = .ok (.iaload, 1) := by decide +kernel
theorem kd_M_isCalled_6 : decode kc_M_isCalled 6 = .ok (.iload_n 2, 1) := by decide +kernel
theorem kd_M_isCalled_7 : decode kc_M_isCalled 7 = .ok (.if_icmp .ne 28, 3) := by decide +kernel
theorem kd_M_isCalled_10 : decode kc_M_isCalled 10 = .ok (.aload_n 0, 1) := by decide +kernel
theorem kd_M_isCalled_11 : decode kc_M_isCalled 11 = .ok (.getfield 15, 3) := by decide +kernel
theorem kd_M_isCalled_14 : decode kc_M_isCalled 14 = .ok (.iload_n 1, 1) := by decide +kernel
theorem kd_M_isCalled_15 : decode kc_M_isCalled 15 = .ok (.iaload, 1) := by decide +kernel
theorem kd_M_isCalled_16 : decode kc_M_isCalled 16 = .ok (.iload_n 3, 1) := by decide +kernel
theorem kd_M_isCalled_17 : decode kc_M_isCalled 17 = .ok (.if_icmp .ne 18, 3) := by decide +kernel
theorem kd_M_isCalled_20 : decode kc_M_isCalled 20 = .ok (.aload_n 0, 1) := by decide +kernel
theorem kd_M_isCalled_21 : decode kc_M_isCalled 21 = .ok (.getfield 18, 3) := by decide +kernel
theorem kd_M_isCalled_24 : decode kc_M_isCalled 24 = .ok (.iload_n 1, 1) := by decide +kernel
theorem kd_M_isCalled_25 : decode kc_M_isCalled 25 = .ok (.iaload, 1) := by decide +kernel
theorem kd_M_isCalled_26 : decode kc_M_isCalled 26 = .ok (.iload 4, 2) := by decide +kernel
theorem kd_M_isCalled_28 : decode kc_M_isCalled 28 = .ok (.if_icmp .ne 7, 3) := by decide +kernel
theorem kd_M_isCalled_31 : decode kc_M_isCalled 31 = .ok (.iconst 1, 1) := by decide +kernel
theorem kd_M_isCalled_32 : decode kc_M_isCalled 32 = .ok (.goto 4, 3) := by decide +kernel
theorem kd_M_isCalled_35 : decode kc_M_isCalled 35 = .ok (.iconst 0, 1) := by decide +kernel
theorem kd_M_isCalled_36 : decode kc_M_isCalled 36 = .ok (.ireturn, 1) := by decide +kernel
theorem kd_M_add_0 : decode kc_M_add 0 = .ok (.aload_n 0, 1) := by decide +kernel
theorem kd_M_add_1 : decode kc_M_add 1 = .ok (.getfield 9, 3) := by decide +kernel
theorem kd_M_add_4 : decode kc_M_add 4 = .ok (.aload_n 0, 1) := by decide +kernel
theorem kd_M_add_5 : decode kc_M_add 5 = .ok (.getfield 24, 3) := by decide +kernel
theorem kd_M_add_8 : decode kc_M_add 8 = .ok (.iload_n 1, 1) := by decide +kernel
theorem kd_M_add_9 : decode kc_M_add 9 = .ok (.iastore, 1) := by decide +kernel
theorem kd_M_add_10 : decode kc_M_add 10 = .ok (.aload_n 0, 1) := by decide +kernel
theorem kd_M_add_11 : decode kc_M_add 11 = .ok (.getfield 15, 3) := by decide +kernel
theorem kd_M_add_14 : decode kc_M_add 14 = .ok (.aload_n 0, 1) := by decide +kernel
theorem kd_M_add_15 : decode kc_M_add 15 = .ok (.getfield 24, 3) := by decide +kernel
theorem kd_M_add_18 : decode kc_M_add 18 = .ok (.iload_n 2, 1) := by decide +kernel
theorem kd_M_add_19 : decode kc_M_add 19 = .ok (.iastore, 1) := by decide +kernel
theorem kd_M_add_20 : decode kc_M_add 20 = .ok (.aload_n 0, 1) := by decide +kernel
theorem kd_M_add_21 : decode kc_M_add 21 = .ok (.getfield 18, 3) := by decide +kernel
theorem kd_M_add_24 : decode kc_M_add 24 = .ok (.aload_n 0, 1) := by decide +kernel
theorem kd_M_add_25 : decode kc_M_add 25 = .ok (.getfield 24, 3) := by decide +kernel
theorem kd_M_add_28 : decode kc_M_add 28 = .ok (.iload_n 3, 1) := by decide +kernel
theorem kd_M_add_29 : decode kc_M_add 29 = .ok (.iastore, 1) := by decide +kernel
theorem kd_M_add_30 : decode kc_M_add 30 = .ok (.aload_n 0, 1) := by decide +kernel
theorem kd_M_add_31 : decode kc_M_add 31 = .ok (.getfield 21, 3) := by decide +kernel
theorem kd_M_add_34 : decode kc_M_add 34 = .ok (.aload_n 0, 1) := by decide +kernel
theorem kd_M_add_35 : decode kc_M_add 35 = .ok (.getfield 24, 3) := by decide +kernel
theorem kd_M_add_38 : decode kc_M_add 38 = .ok (.iload 4, 2) := by decide +kernel
theorem kd_M_add_40 : decode kc_M_add 40 = .ok (.iastore, 1) := by decide +kernel
theorem kd_M_add_41 : decode kc_M_add 41 = .ok (.aload_n 0, 1) := by decide +kernel
theorem kd_M_add_42 : decode kc_M_add 42 = .ok (.dup, 1) := by decide +kernel
theorem kd_M_add_43 : decode kc_M_add 43 = .ok (.getfield 24, 3) := by decide +kernel
theorem kd_M_add_46 : decode kc_M_add 46 = .ok (.iconst 1, 1) := by decide +kernel
theorem kd_M_add_47 : decode kc_M_add 47 = .ok (.iadd, 1) := by decide +kernel
theorem kd_M_add_48 : decode kc_M_add 48 = .ok (.putfield 24, 3) := by decide +kernel
theorem kd_M_add_51 : decode kc_M_add 51 = .ok (.aload_n 0, 1) := by decide +kernel
theorem kd_M_add_52 : decode kc_M_add 52 = .ok (.getfield 24, 3) := by decide +kernel
theorem kd_M_add_55 : decode kc_M_add 55 = .ok (.iconst 1, 1) := by decide +kernel
theorem kd_M_add_56 : decode kc_M_add 56 = .ok (.isub, 1) := by decide +kernel
theorem kd_M_add_57 : decode kc_M_add 57 = .ok (.ireturn, 1) := by decide +kernel
theorem kd_B_object_0 : decode kc_B_object 0 = .ok (.aload_n 0, 1) := by decide +kernel
theorem kd_B_object_1 : decode kc_B_object 1 = .ok (.getfield 10, 3) := by decide +kernel
theorem kd_B_object_4 : decode kc_B_object 4 = .ok (.iload_n 1, 1) := by decide +kernel
theorem kd_B_object_5 : decode kc_B_object 5 = .ok (.invokevirtual 55, 3) := by decide +kernel
theorem kd_B_object_8 : decode kc_B_object 8 = .ok (.ifCond .ne 13, 3) := by decide +kernel
theorem kd_B_object_11 : decode kc_B_object 11 = .ok (.new 59, 3) := by decide +kernel
theorem kd_B_object_14 : decode kc_B_object 14 = .ok (.dup, 1) := by decide +kernel
theorem kd_B_object_15 : decode kc_B_object 15 = .ok (.ldc 79, 2) := by decide +kernel
theorem kd_B_object_17 : decode kc_B_object 17 = .ok (.invokespecial 63, 3) := by decide +kernel
theorem kd_B_object_20 : decode kc_B_object 20 = .ok (.athrow, 1) := by decide +kernel
theorem kd_B_object_21 : decode kc_B_object 21 = .ok (.aload_n 0, 1) := by decide +kernel
theorem kd_B_object_22 : decode kc_B_object 22 = .ok (.getfield 10, 3) := by decide +kernel
theorem kd_B_object_25 : decode kc_B_object 25 = .ok (.getfield 111, 3) := by decide +kernel
theorem kd_B_object_28 : decode kc_B_object 28 = .ok (.bipush 64, 2) := by decide +kernel
theorem kd_B_object_30 : decode kc_B_object 30 = .ok (.if_icmp .lt 13, 3) := by decide +kernel
theorem kd_B_object_33 : decode kc_B_object 33 = .ok (.new 70, 3) := by decide +kernel
theorem kd_B_object_36 : decode kc_B_object 36 = .ok (.dup, 1) := by decide +kernel
theorem kd_B_object_37 : decode kc_B_object 37 = .ok (.ldc 114, 2) := by decide +kernel
theorem kd_B_object_39 : decode kc_B_object 39 = .ok (.invokespecial 74, 3) := by decide +kernel
theorem kd_B_object_42 : decode kc_B_object 42 = .ok (.athrow, 1) := by decide +kernel
theorem kd_B_object_43 : decode kc_B_object 43 = .ok (.aload_n 0, 1) := by decide +kernel
theorem kd_B_object_44 : decode kc_B_object 44 = .ok (.getfield 10, 3) := by decide +kernel
theorem kd_B_object_47 : decode kc_B_object 47 = .ok (.iload_n 1, 1) := by decide +kernel
theorem kd_B_object_48 : decode kc_B_object 48 = .ok (.invokevirtual 116, 3) := by decide +kernel
theorem kd_B_object_51 : decode kc_B_object 51 = .ok (.ireturn, 1) := by decide +kernel
theorem kd_W_addObject_0 : decode kc_W_addObject 0 = .ok (.aload_n 0, 1) := by decide +kernel
theorem kd_W_addObject_1 : decode kc_W_addObject 1 = .ok (.getfield 15, 3) := by decide +kernel
theorem kd_W_addObject_4 : decode kc_W_addObject 4 = .ok (.aload_n 0, 1) := by decide +kernel
theorem kd_W_addObject_5 : decode kc_W_addObject 5 = .ok (.getfield 22, 3) := by decide +kernel
theorem kd_W_addObject_8 : decode kc_W_addObject 8 = .ok (.iload_n 1, 1) := by decide +kernel
theorem kd_W_addObject_9 : decode kc_W_addObject 9 = .ok (.iastore, 1) := by decide +kernel
theorem kd_W_addObject_10 : decode kc_W_addObject 10 = .ok (.aload_n 0, 1) := by decide +kernel
theorem kd_W_addObject_11 : decode kc_W_addObject 11 = .ok (.dup, 1) := by decide +kernel
theorem kd_W_addObject_12 : decode kc_W_addObject 12 = .ok (.getfield 22, 3) := by decide +kernel
theorem kd_W_addObject_15 : decode kc_W_addObject 15 = .ok (.iconst 1, 1) := by decide +kernel
theorem kd_W_addObject_16 : decode kc_W_addObject 16 = .ok (.iadd, 1) := by decide +kernel
theorem kd_W_addObject_17 : decode kc_W_addObject 17 = .ok (.putfield 22, 3) := by decide +kernel
theorem kd_W_addObject_20 : decode kc_W_addObject 20 = .ok (.aload_n 0, 1) := by decide +kernel
theorem kd_W_addObject_21 : decode kc_W_addObject 21 = .ok (.getfield 22, 3) := by decide +kernel
theorem kd_W_addObject_24 : decode kc_W_addObject 24 = .ok (.iconst 1, 1) := by decide +kernel
theorem kd_W_addObject_25 : decode kc_W_addObject 25 = .ok (.isub, 1) := by decide +kernel
theorem kd_W_addObject_26 : decode kc_W_addObject 26 = .ok (.ireturn, 1) := by decide +kernel
theorem kd_B_argument_0 : decode kc_B_argument 0 = .ok (.aload_n 0, 1) := by decide +kernel
theorem kd_B_argument_1 : decode kc_B_argument 1 = .ok (.iload_n 1, 1) := by decide +kernel
theorem kd_B_argument_2 : decode kc_B_argument 2 = .ok (.lload_n 2, 1) := by decide +kernel
theorem kd_B_argument_3 : decode kc_B_argument 3 = .ok (.invokevirtual 119, 3) := by decide +kernel
theorem kd_B_argument_6 : decode kc_B_argument 6 = .ok (.ifCond .ne 13, 3) := by decide +kernel
theorem kd_B_argument_9 : decode kc_B_argument 9 = .ok (.new 59, 3) := by decide +kernel
theorem kd_B_argument_12 : decode kc_B_argument 12 = .ok (.dup, 1) := by decide +kernel
theorem kd_B_argument_13 : decode kc_B_argument 13 = .ok (.ldc 123, 2) := by decide +kernel
theorem kd_B_argument_15 : decode kc_B_argument 15 = .ok (.invokespecial 63, 3) := by decide +kernel
theorem kd_B_argument_18 : decode kc_B_argument 18 = .ok (.athrow, 1) := by decide +kernel
theorem kd_B_argument_19 : decode kc_B_argument 19 = .ok (.aload_n 0, 1) := by decide +kernel
theorem kd_B_argument_20 : decode kc_B_argument 20 = .ok (.getfield 28, 3) := by decide +kernel
theorem kd_B_argument_23 : decode kc_B_argument 23 = .ok (.getfield 125, 3) := by decide +kernel
theorem kd_B_argument_26 : decode kc_B_argument 26 = .ok (.iconst 4, 1) := by decide +kernel
theorem kd_B_argument_27 : decode kc_B_argument 27 = .ok (.if_icmp .lt 13, 3) := by decide +kernel
theorem kd_B_argument_30 : decode kc_B_argument 30 = .ok (.new 70, 3) := by decide +kernel
theorem kd_B_argument_33 : decode kc_B_argument 33 = .ok (.dup, 1) := by decide +kernel
theorem kd_B_argument_34 : decode kc_B_argument 34 = .ok (.ldc 126, 2) := by decide +kernel
theorem kd_B_argument_36 : decode kc_B_argument 36 = .ok (.invokespecial 74, 3) := by decide +kernel
theorem kd_B_argument_39 : decode kc_B_argument 39 = .ok (.athrow, 1) := by decide +kernel
theorem kd_B_argument_40 : decode kc_B_argument 40 = .ok (.aload_n 0, 1) := by decide +kernel
theorem kd_B_argument_41 : decode kc_B_argument 41 = .ok (.getfield 28, 3) := by decide +kernel
theorem kd_B_argument_44 : decode kc_B_argument 44 = .ok (.iload_n 1, 1) := by decide +kernel
theorem kd_B_argument_45 : decode kc_B_argument 45 = .ok (.lload_n 2, 1) := by decide +kernel
theorem kd_B_argument_46 : decode kc_B_argument 46 = .ok (.invokevirtual 128, 3) := by decide +kernel
theorem kd_B_argument_49 : decode kc_B_argument 49 = .ok (.ireturn, 1) := by decide +kernel
theorem kd_B_isValue_0 : decode kc_B_isValue 0 = .ok (.iload_n 1, 1) := by decide +kernel
theorem kd_B_isValue_1 : decode kc_B_isValue 1 = .ok (.tableswitch 100 0 6 #[43, 43, 45, 43, 63, 75, 63], 43) := by decide +kernel
theorem kd_B_isValue_44 : decode kc_B_isValue 44 = .ok (.iconst 1, 1) := by decide +kernel
theorem kd_B_isValue_45 : decode kc_B_isValue 45 = .ok (.ireturn, 1) := by decide +kernel
theorem kd_B_isValue_46 : decode kc_B_isValue 46 = .ok (.lload_n 2, 1) := by decide +kernel
theorem kd_B_isValue_47 : decode kc_B_isValue 47 = .ok (.lconst 0, 1) := by decide +kernel
theorem kd_B_isValue_48 : decode kc_B_isValue 48 = .ok (.lcmp, 1) := by decide +kernel
theorem kd_B_isValue_49 : decode kc_B_isValue 49 = .ok (.ifCond .eq 9, 3) := by decide +kernel
theorem kd_B_isValue_52 : decode kc_B_isValue 52 = .ok (.lload_n 2, 1) := by decide +kernel
theorem kd_B_isValue_53 : decode kc_B_isValue 53 = .ok (.lconst 1, 1) := by decide +kernel
theorem kd_B_isValue_54 : decode kc_B_isValue 54 = .ok (.lcmp, 1) := by decide +kernel
theorem kd_B_isValue_55 : decode kc_B_isValue 55 = .ok (.ifCond .ne 7, 3) := by decide +kernel
theorem kd_B_isValue_58 : decode kc_B_isValue 58 = .ok (.iconst 1, 1) := by decide +kernel
theorem kd_B_isValue_59 : decode kc_B_isValue 59 = .ok (.goto 4, 3) := by decide +kernel
theorem kd_B_isValue_62 : decode kc_B_isValue 62 = .ok (.iconst 0, 1) := by decide +kernel
theorem kd_B_isValue_63 : decode kc_B_isValue 63 = .ok (.ireturn, 1) := by decide +kernel
theorem kd_B_isValue_64 : decode kc_B_isValue 64 = .ok (.lload_n 2, 1) := by decide +kernel
theorem kd_B_isValue_65 : decode kc_B_isValue 65 = .ok (.lconst 0, 1) := by decide +kernel
theorem kd_B_isValue_66 : decode kc_B_isValue 66 = .ok (.lcmp, 1) := by decide +kernel
theorem kd_B_isValue_67 : decode kc_B_isValue 67 = .ok (.ifCond .lt 7, 3) := by decide +kernel
theorem kd_B_isValue_70 : decode kc_B_isValue 70 = .ok (.iconst 1, 1) := by decide +kernel
theorem kd_B_isValue_71 : decode kc_B_isValue 71 = .ok (.goto 4, 3) := by decide +kernel
theorem kd_B_isValue_74 : decode kc_B_isValue 74 = .ok (.iconst 0, 1) := by decide +kernel
theorem kd_B_isValue_75 : decode kc_B_isValue 75 = .ok (.ireturn, 1) := by decide +kernel
theorem kd_B_isValue_76 : decode kc_B_isValue 76 = .ok (.lload_n 2, 1) := by decide +kernel
theorem kd_B_isValue_77 : decode kc_B_isValue 77 = .ok (.lconst 0, 1) := by decide +kernel
theorem kd_B_isValue_78 : decode kc_B_isValue 78 = .ok (.lcmp, 1) := by decide +kernel
theorem kd_B_isValue_79 : decode kc_B_isValue 79 = .ok (.ifCond .lt 20, 3) := by decide +kernel
theorem kd_B_isValue_82 : decode kc_B_isValue 82 = .ok (.lload_n 2, 1) := by decide +kernel
theorem kd_B_isValue_83 : decode kc_B_isValue 83 = .ok (.aload_n 0, 1) := by decide +kernel
theorem kd_B_isValue_84 : decode kc_B_isValue 84 = .ok (.getfield 10, 3) := by decide +kernel
theorem kd_B_isValue_87 : decode kc_B_isValue 87 = .ok (.getfield 111, 3) := by decide +kernel
theorem kd_B_isValue_90 : decode kc_B_isValue 90 = .ok (.i2l, 1) := by decide +kernel
theorem kd_B_isValue_91 : decode kc_B_isValue 91 = .ok (.lcmp, 1) := by decide +kernel
theorem kd_B_isValue_92 : decode kc_B_isValue 92 = .ok (.ifCond .ge 7, 3) := by decide +kernel
theorem kd_B_isValue_95 : decode kc_B_isValue 95 = .ok (.iconst 1, 1) := by decide +kernel
theorem kd_B_isValue_96 : decode kc_B_isValue 96 = .ok (.goto 4, 3) := by decide +kernel
theorem kd_B_isValue_99 : decode kc_B_isValue 99 = .ok (.iconst 0, 1) := by decide +kernel
theorem kd_B_isValue_100 : decode kc_B_isValue 100 = .ok (.ireturn, 1) := by decide +kernel
theorem kd_B_isValue_101 : decode kc_B_isValue 101 = .ok (.iconst 0, 1) := by decide +kernel
theorem kd_B_isValue_102 : decode kc_B_isValue 102 = .ok (.ireturn, 1) := by decide +kernel
theorem kd_B_weight_0 : decode kc_B_weight 0 = .ok (.iload_n 1, 1) := by decide +kernel
theorem kd_B_weight_1 : decode kc_B_weight 1 = .ok (.ifCond .lt 14, 3) := by decide +kernel
theorem kd_B_weight_4 : decode kc_B_weight 4 = .ok (.iload_n 1, 1) := by decide +kernel
theorem kd_B_weight_5 : decode kc_B_weight 5 = .ok (.aload_n 0, 1) := by decide +kernel
theorem kd_B_weight_6 : decode kc_B_weight 6 = .ok (.getfield 28, 3) := by decide +kernel
theorem kd_B_weight_9 : decode kc_B_weight 9 = .ok (.getfield 125, 3) := by decide +kernel
theorem kd_B_weight_12 : decode kc_B_weight 12 = .ok (.if_icmp .lt 13, 3) := by decide +kernel
theorem kd_B_weight_15 : decode kc_B_weight 15 = .ok (.new 59, 3) := by decide +kernel
theorem kd_B_weight_18 : decode kc_B_weight 18 = .ok (.dup, 1) := by decide +kernel
theorem kd_B_weight_19 : decode kc_B_weight 19 = .ok (.ldc 131, 2) := by decide +kernel
theorem kd_B_weight_21 : decode kc_B_weight 21 = .ok (.invokespecial 63, 3) := by decide +kernel
theorem kd_B_weight_24 : decode kc_B_weight 24 = .ok (.athrow, 1) := by decide +kernel
theorem kd_B_weight_25 : decode kc_B_weight 25 = .ok (.aload_n 0, 1) := by decide +kernel
theorem kd_B_weight_26 : decode kc_B_weight 26 = .ok (.getfield 10, 3) := by decide +kernel
theorem kd_B_weight_29 : decode kc_B_weight 29 = .ok (.iload_n 2, 1) := by decide +kernel
theorem kd_B_weight_30 : decode kc_B_weight 30 = .ok (.invokevirtual 92, 3) := by decide +kernel
theorem kd_B_weight_33 : decode kc_B_weight 33 = .ok (.ifCond .ne 13, 3) := by decide +kernel
theorem kd_B_weight_36 : decode kc_B_weight 36 = .ok (.new 59, 3) := by decide +kernel
theorem kd_B_weight_39 : decode kc_B_weight 39 = .ok (.dup, 1) := by decide +kernel
theorem kd_B_weight_40 : decode kc_B_weight 40 = .ok (.ldc 95, 2) := by decide +kernel
theorem kd_B_weight_42 : decode kc_B_weight 42 = .ok (.invokespecial 63, 3) := by decide +kernel
theorem kd_B_weight_45 : decode kc_B_weight 45 = .ok (.athrow, 1) := by decide +kernel
theorem kd_B_weight_46 : decode kc_B_weight 46 = .ok (.aload_n 0, 1) := by decide +kernel
theorem kd_B_weight_47 : decode kc_B_weight 47 = .ok (.getfield 28, 3) := by decide +kernel
theorem kd_B_weight_50 : decode kc_B_weight 50 = .ok (.iload_n 1, 1) := by decide +kernel
theorem kd_B_weight_51 : decode kc_B_weight 51 = .ok (.iload_n 2, 1) := by decide +kernel
theorem kd_B_weight_52 : decode kc_B_weight 52 = .ok (.invokevirtual 133, 3) := by decide +kernel
theorem kd_B_weight_55 : decode kc_B_weight 55 = .ok (.ireturn, 1) := by decide +kernel
theorem kd_W_distance_0 : decode kc_W_distance 0 = .ok (.iload_n 1, 1) := by decide +kernel
theorem kd_W_distance_1 : decode kc_W_distance 1 = .ok (.istore_n 3, 1) := by decide +kernel
theorem kd_W_distance_2 : decode kc_W_distance 2 = .ok (.iconst 0, 1) := by decide +kernel
theorem kd_W_distance_3 : decode kc_W_distance 3 = .ok (.istore 4, 2) := by decide +kernel
theorem kd_W_distance_5 : decode kc_W_distance 5 = .ok (.iload 4, 2) := by decide +kernel
theorem kd_W_distance_7 : decode kc_W_distance 7 = .ok (.bipush 16, 2) := by decide +kernel
theorem kd_W_distance_9 : decode kc_W_distance 9 = .ok (.if_icmp .ge 29, 3) := by decide +kernel
theorem kd_W_distance_12 : decode kc_W_distance 12 = .ok (.iload_n 3, 1) := by decide +kernel
theorem kd_W_distance_13 : decode kc_W_distance 13 = .ok (.iconst (-1), 1) := by decide +kernel
theorem kd_W_distance_14 : decode kc_W_distance 14 = .ok (.if_icmp .eq 24, 3) := by decide +kernel
theorem kd_W_distance_17 : decode kc_W_distance 17 = .ok (.iload_n 3, 1) := by decide +kernel
theorem kd_W_distance_18 : decode kc_W_distance 18 = .ok (.iload_n 2, 1) := by decide +kernel
theorem kd_W_distance_19 : decode kc_W_distance 19 = .ok (.if_icmp .ne 6, 3) := by decide +kernel
theorem kd_W_distance_22 : decode kc_W_distance 22 = .ok (.iload 4, 2) := by decide +kernel
theorem kd_W_distance_24 : decode kc_W_distance 24 = .ok (.ireturn, 1) := by decide +kernel
theorem kd_W_distance_25 : decode kc_W_distance 25 = .ok (.aload_n 0, 1) := by decide +kernel
theorem kd_W_distance_26 : decode kc_W_distance 26 = .ok (.getfield 9, 3) := by decide +kernel
theorem kd_W_distance_29 : decode kc_W_distance 29 = .ok (.iload_n 3, 1) := by decide +kernel
theorem kd_W_distance_30 : decode kc_W_distance 30 = .ok (.iaload, 1) := by decide +kernel
theorem kd_W_distance_31 : decode kc_W_distance 31 = .ok (.istore_n 3, 1) := by decide +kernel
theorem kd_W_distance_32 : decode kc_W_distance 32 = .ok (.iinc 4 1, 3) := by decide +kernel
theorem kd_W_distance_35 : decode kc_W_distance 35 = .ok (.goto (-30), 3) := by decide +kernel
theorem kd_W_distance_38 : decode kc_W_distance 38 = .ok (.iconst (-1), 1) := by decide +kernel
theorem kd_W_distance_39 : decode kc_W_distance 39 = .ok (.ireturn, 1) := by decide +kernel
theorem kd_B_call_0 : decode kc_B_call 0 = .ok (.aload_n 0, 1) := by decide +kernel
theorem kd_B_call_1 : decode kc_B_call 1 = .ok (.getfield 28, 3) := by decide +kernel
theorem kd_B_call_4 : decode kc_B_call 4 = .ok (.invokevirtual 137, 3) := by decide +kernel
theorem kd_B_call_7 : decode kc_B_call 7 = .ok (.istore_n 3, 1) := by decide +kernel
theorem kd_B_call_8 : decode kc_B_call 8 = .ok (.aload_n 0, 1) := by decide +kernel
theorem kd_B_call_9 : decode kc_B_call 9 = .ok (.getfield 10, 3) := by decide +kernel
theorem kd_B_call_12 : decode kc_B_call 12 = .ok (.iload_n 1, 1) := by decide +kernel
theorem kd_B_call_13 : decode kc_B_call 13 = .ok (.invokevirtual 141, 3) := by decide +kernel
theorem kd_B_call_16 : decode kc_B_call 16 = .ok (.ifCond .ne 13, 3) := by decide +kernel
theorem kd_B_call_19 : decode kc_B_call 19 = .ok (.new 59, 3) := by decide +kernel
theorem kd_B_call_22 : decode kc_B_call 22 = .ok (.dup, 1) := by decide +kernel
theorem kd_B_call_23 : decode kc_B_call 23 = .ok (.ldc 144, 2) := by decide +kernel
theorem kd_B_call_25 : decode kc_B_call 25 = .ok (.invokespecial 63, 3) := by decide +kernel
theorem kd_B_call_28 : decode kc_B_call 28 = .ok (.athrow, 1) := by decide +kernel
theorem kd_B_call_29 : decode kc_B_call 29 = .ok (.iload_n 2, 1) := by decide +kernel
theorem kd_B_call_30 : decode kc_B_call 30 = .ok (.invokestatic 81, 3) := by decide +kernel
theorem kd_B_call_33 : decode kc_B_call 33 = .ok (.ifCond .ne 13, 3) := by decide +kernel
theorem kd_B_call_36 : decode kc_B_call 36 = .ok (.new 59, 3) := by decide +kernel
theorem kd_B_call_39 : decode kc_B_call 39 = .ok (.dup, 1) := by decide +kernel
theorem kd_B_call_40 : decode kc_B_call 40 = .ok (.ldc 84, 2) := by decide +kernel
theorem kd_B_call_42 : decode kc_B_call 42 = .ok (.invokespecial 63, 3) := by decide +kernel
theorem kd_B_call_45 : decode kc_B_call 45 = .ok (.athrow, 1) := by decide +kernel
theorem kd_B_call_46 : decode kc_B_call 46 = .ok (.aload_n 0, 1) := by decide +kernel
theorem kd_B_call_47 : decode kc_B_call 47 = .ok (.getfield 37, 3) := by decide +kernel
theorem kd_B_call_50 : decode kc_B_call 50 = .ok (.aload_n 0, 1) := by decide +kernel
theorem kd_B_call_51 : decode kc_B_call 51 = .ok (.getfield 10, 3) := by decide +kernel
theorem kd_B_call_54 : decode kc_B_call 54 = .ok (.getfield 146, 3) := by decide +kernel
theorem kd_B_call_57 : decode kc_B_call 57 = .ok (.iload_n 1, 1) := by decide +kernel
theorem kd_B_call_58 : decode kc_B_call 58 = .ok (.iaload, 1) := by decide +kernel
theorem kd_B_call_59 : decode kc_B_call 59 = .ok (.iload_n 2, 1) := by decide +kernel
theorem kd_B_call_60 : decode kc_B_call 60 = .ok (.iload_n 3, 1) := by decide +kernel
theorem kd_B_call_61 : decode kc_B_call 61 = .ok (.invokevirtual 150, 3) := by decide +kernel
theorem kd_B_call_64 : decode kc_B_call 64 = .ok (.aload_n 0, 1) := by decide +kernel
theorem kd_B_call_65 : decode kc_B_call 65 = .ok (.getfield 37, 3) := by decide +kernel
theorem kd_B_call_68 : decode kc_B_call 68 = .ok (.getfield 154, 3) := by decide +kernel
theorem kd_B_call_71 : decode kc_B_call 71 = .ok (.ifCond .ne 13, 3) := by decide +kernel
theorem kd_B_call_74 : decode kc_B_call 74 = .ok (.new 155, 3) := by decide +kernel
theorem kd_B_call_77 : decode kc_B_call 77 = .ok (.dup, 1) := by decide +kernel
theorem kd_B_call_78 : decode kc_B_call 78 = .ok (.ldc 157, 2) := by decide +kernel
theorem kd_B_call_80 : decode kc_B_call 80 = .ok (.invokespecial 159, 3) := by decide +kernel
theorem kd_B_call_83 : decode kc_B_call 83 = .ok (.athrow, 1) := by decide +kernel
theorem kd_B_call_84 : decode kc_B_call 84 = .ok (.aload_n 0, 1) := by decide +kernel
theorem kd_B_call_85 : decode kc_B_call 85 = .ok (.getfield 37, 3) := by decide +kernel
theorem kd_B_call_88 : decode kc_B_call 88 = .ok (.iload_n 3, 1) := by decide +kernel
theorem kd_B_call_89 : decode kc_B_call 89 = .ok (.invokevirtual 160, 3) := by decide +kernel
theorem kd_B_call_92 : decode kc_B_call 92 = .ok (.istore 4, 2) := by decide +kernel
theorem kd_B_call_94 : decode kc_B_call 94 = .ok (.iload 4, 2) := by decide +kernel
theorem kd_B_call_96 : decode kc_B_call 96 = .ok (.iconst (-1), 1) := by decide +kernel
theorem kd_B_call_97 : decode kc_B_call 97 = .ok (.if_icmp .ne 13, 3) := by decide +kernel
theorem kd_B_call_100 : decode kc_B_call 100 = .ok (.new 70, 3) := by decide +kernel
theorem kd_B_call_103 : decode kc_B_call 103 = .ok (.dup, 1) := by decide +kernel
theorem kd_B_call_104 : decode kc_B_call 104 = .ok (.ldc 163, 2) := by decide +kernel
theorem kd_B_call_106 : decode kc_B_call 106 = .ok (.invokespecial 74, 3) := by decide +kernel
theorem kd_B_call_109 : decode kc_B_call 109 = .ok (.athrow, 1) := by decide +kernel
theorem kd_B_call_110 : decode kc_B_call 110 = .ok (.aload_n 0, 1) := by decide +kernel
theorem kd_B_call_111 : decode kc_B_call 111 = .ok (.iload_n 1, 1) := by decide +kernel
theorem kd_B_call_112 : decode kc_B_call 112 = .ok (.iload 4, 2) := by decide +kernel
theorem kd_B_call_114 : decode kc_B_call 114 = .ok (.invokevirtual 165, 3) := by decide +kernel
theorem kd_B_call_117 : decode kc_B_call 117 = .ok (.iload 4, 2) := by decide +kernel
theorem kd_B_call_119 : decode kc_B_call 119 = .ok (.ireturn, 1) := by decide +kernel
theorem kd_W_hasObject_0 : decode kc_W_hasObject 0 = .ok (.iload_n 1, 1) := by decide +kernel
theorem kd_W_hasObject_1 : decode kc_W_hasObject 1 = .ok (.ifCond .lt 15, 3) := by decide +kernel
theorem kd_W_hasObject_4 : decode kc_W_hasObject 4 = .ok (.iload_n 1, 1) := by decide +kernel
theorem kd_W_hasObject_5 : decode kc_W_hasObject 5 = .ok (.aload_n 0, 1) := by decide +kernel
theorem kd_W_hasObject_6 : decode kc_W_hasObject 6 = .ok (.getfield 22, 3) := by decide +kernel
theorem kd_W_hasObject_9 : decode kc_W_hasObject 9 = .ok (.if_icmp .ge 7, 3) := by decide +kernel
theorem kd_W_hasObject_12 : decode kc_W_hasObject 12 = .ok (.iconst 1, 1) := by decide +kernel
theorem kd_W_hasObject_13 : decode kc_W_hasObject 13 = .ok (.goto 4, 3) := by decide +kernel
theorem kd_W_hasObject_16 : decode kc_W_hasObject 16 = .ok (.iconst 0, 1) := by decide +kernel
theorem kd_W_hasObject_17 : decode kc_W_hasObject 17 = .ok (.ireturn, 1) := by decide +kernel
theorem kd_B_writeDown_0 : decode kc_B_writeDown 0 = .ok (.aload_n 0, 1) := by decide +kernel
theorem kd_B_writeDown_1 : decode kc_B_writeDown 1 = .ok (.getfield 19, 3) := by decide +kernel
theorem kd_B_writeDown_4 : decode kc_B_writeDown 4 = .ok (.getfield 215, 3) := by decide +kernel
theorem kd_B_writeDown_7 : decode kc_B_writeDown 7 = .ok (.iload_n 2, 1) := by decide +kernel
theorem kd_B_writeDown_8 : decode kc_B_writeDown 8 = .ok (.iaload, 1) := by decide +kernel
theorem kd_B_writeDown_9 : decode kc_B_writeDown 9 = .ok (.istore_n 3, 1) := by decide +kernel
theorem kd_B_writeDown_10 : decode kc_B_writeDown 10 = .ok (.aload_n 0, 1) := by decide +kernel
theorem kd_B_writeDown_11 : decode kc_B_writeDown 11 = .ok (.getfield 19, 3) := by decide +kernel
theorem kd_B_writeDown_14 : decode kc_B_writeDown 14 = .ok (.getfield 218, 3) := by decide +kernel
theorem kd_B_writeDown_17 : decode kc_B_writeDown 17 = .ok (.iload_n 2, 1) := by decide +kernel
theorem kd_B_writeDown_18 : decode kc_B_writeDown 18 = .ok (.iaload, 1) := by decide +kernel
theorem kd_B_writeDown_19 : decode kc_B_writeDown 19 = .ok (.istore 4, 2) := by decide +kernel
theorem kd_B_writeDown_21 : decode kc_B_writeDown 21 = .ok (.aload_n 0, 1) := by decide +kernel
theorem kd_B_writeDown_22 : decode kc_B_writeDown 22 = .ok (.getfield 44, 3) := by decide +kernel
theorem kd_B_writeDown_25 : decode kc_B_writeDown 25 = .ok (.iload_n 1, 1) := by decide +kernel
theorem kd_B_writeDown_26 : decode kc_B_writeDown 26 = .ok (.iload_n 2, 1) := by decide +kernel
theorem kd_B_writeDown_27 : decode kc_B_writeDown 27 = .ok (.iload_n 3, 1) := by decide +kernel
theorem kd_B_writeDown_28 : decode kc_B_writeDown 28 = .ok (.invokevirtual 221, 3) := by decide +kernel
theorem kd_B_writeDown_31 : decode kc_B_writeDown 31 = .ok (.iconst 0, 1) := by decide +kernel
theorem kd_B_writeDown_32 : decode kc_B_writeDown 32 = .ok (.istore 5, 2) := by decide +kernel
theorem kd_B_writeDown_34 : decode kc_B_writeDown 34 = .ok (.iload 5, 2) := by decide +kernel
theorem kd_B_writeDown_36 : decode kc_B_writeDown 36 = .ok (.iload_n 3, 1) := by decide +kernel
theorem kd_B_writeDown_37 : decode kc_B_writeDown 37 = .ok (.if_icmp .ge 35, 3) := by decide +kernel
theorem kd_B_writeDown_40 : decode kc_B_writeDown 40 = .ok (.aload_n 0, 1) := by decide +kernel
theorem kd_B_writeDown_41 : decode kc_B_writeDown 41 = .ok (.getfield 44, 3) := by decide +kernel
theorem kd_B_writeDown_44 : decode kc_B_writeDown 44 = .ok (.iload 5, 2) := by decide +kernel
theorem kd_B_writeDown_46 : decode kc_B_writeDown 46 = .ok (.aload_n 0, 1) := by decide +kernel
theorem kd_B_writeDown_47 : decode kc_B_writeDown 47 = .ok (.getfield 28, 3) := by decide +kernel
theorem kd_B_writeDown_50 : decode kc_B_writeDown 50 = .ok (.iload 5, 2) := by decide +kernel
theorem kd_B_writeDown_52 : decode kc_B_writeDown 52 = .ok (.iload 4, 2) := by decide +kernel
theorem kd_B_writeDown_54 : decode kc_B_writeDown 54 = .ok (.iload_n 3, 1) := by decide +kernel
theorem kd_B_writeDown_55 : decode kc_B_writeDown 55 = .ok (.iload 5, 2) := by decide +kernel
theorem kd_B_writeDown_57 : decode kc_B_writeDown 57 = .ok (.invokestatic 224, 3) := by decide +kernel
theorem kd_B_writeDown_60 : decode kc_B_writeDown 60 = .ok (.invokevirtual 228, 3) := by decide +kernel
theorem kd_B_writeDown_63 : decode kc_B_writeDown 63 = .ok (.invokevirtual 231, 3) := by decide +kernel
theorem kd_B_writeDown_66 : decode kc_B_writeDown 66 = .ok (.iinc 5 1, 3) := by decide +kernel
theorem kd_B_writeDown_69 : decode kc_B_writeDown 69 = .ok (.goto (-35), 3) := by decide +kernel
theorem kd_B_writeDown_72 : decode kc_B_writeDown 72 = .ok (.aload_n 0, 1) := by decide +kernel
theorem kd_B_writeDown_73 : decode kc_B_writeDown 73 = .ok (.getfield 44, 3) := by decide +kernel
theorem kd_B_writeDown_76 : decode kc_B_writeDown 76 = .ok (.aload_n 0, 1) := by decide +kernel
theorem kd_B_writeDown_77 : decode kc_B_writeDown 77 = .ok (.getfield 51, 3) := by decide +kernel
theorem kd_B_writeDown_80 : decode kc_B_writeDown 80 = .ok (.invokevirtual 235, 3) := by decide +kernel
theorem kd_B_writeDown_83 : decode kc_B_writeDown 83 = .ok (.invokevirtual 239, 3) := by decide +kernel
theorem kd_B_writeDown_86 : decode kc_B_writeDown 86 = .ok (.return_, 1) := by decide +kernel
theorem kd_B_exact_0 : decode kc_B_exact 0 = .ok (.aload_n 0, 1) := by decide +kernel
theorem kd_B_exact_1 : decode kc_B_exact 1 = .ok (.getfield 28, 3) := by decide +kernel
theorem kd_B_exact_4 : decode kc_B_exact 4 = .ok (.invokevirtual 137, 3) := by decide +kernel
theorem kd_B_exact_7 : decode kc_B_exact 7 = .ok (.istore 4, 2) := by decide +kernel
theorem kd_B_exact_9 : decode kc_B_exact 9 = .ok (.aload_n 0, 1) := by decide +kernel
theorem kd_B_exact_10 : decode kc_B_exact 10 = .ok (.getfield 10, 3) := by decide +kernel
theorem kd_B_exact_13 : decode kc_B_exact 13 = .ok (.iload_n 1, 1) := by decide +kernel
theorem kd_B_exact_14 : decode kc_B_exact 14 = .ok (.invokevirtual 141, 3) := by decide +kernel
theorem kd_B_exact_17 : decode kc_B_exact 17 = .ok (.ifCond .ne 13, 3) := by decide +kernel
theorem kd_B_exact_20 : decode kc_B_exact 20 = .ok (.new 59, 3) := by decide +kernel
theorem kd_B_exact_23 : decode kc_B_exact 23 = .ok (.dup, 1) := by decide +kernel
theorem kd_B_exact_24 : decode kc_B_exact 24 = .ok (.ldc 144, 2) := by decide +kernel
theorem kd_B_exact_26 : decode kc_B_exact 26 = .ok (.invokespecial 63, 3) := by decide +kernel
theorem kd_B_exact_29 : decode kc_B_exact 29 = .ok (.athrow, 1) := by decide +kernel
theorem kd_B_exact_30 : decode kc_B_exact 30 = .ok (.iload_n 2, 1) := by decide +kernel
theorem kd_B_exact_31 : decode kc_B_exact 31 = .ok (.invokestatic 81, 3) := by decide +kernel
theorem kd_B_exact_34 : decode kc_B_exact 34 = .ok (.ifCond .ne 13, 3) := by decide +kernel
theorem kd_B_exact_37 : decode kc_B_exact 37 = .ok (.new 59, 3) := by decide +kernel
theorem kd_B_exact_40 : decode kc_B_exact 40 = .ok (.dup, 1) := by decide +kernel
theorem kd_B_exact_41 : decode kc_B_exact 41 = .ok (.ldc 84, 2) := by decide +kernel
theorem kd_B_exact_43 : decode kc_B_exact 43 = .ok (.invokespecial 63, 3) := by decide +kernel
theorem kd_B_exact_46 : decode kc_B_exact 46 = .ok (.athrow, 1) := by decide +kernel
theorem kd_B_exact_47 : decode kc_B_exact 47 = .ok (.aload_n 0, 1) := by decide +kernel
theorem kd_B_exact_48 : decode kc_B_exact 48 = .ok (.getfield 10, 3) := by decide +kernel
theorem kd_B_exact_51 : decode kc_B_exact 51 = .ok (.iload 4, 2) := by decide +kernel
theorem kd_B_exact_53 : decode kc_B_exact 53 = .ok (.iload_n 3, 1) := by decide +kernel
theorem kd_B_exact_54 : decode kc_B_exact 54 = .ok (.invokevirtual 88, 3) := by decide +kernel
theorem kd_B_exact_57 : decode kc_B_exact 57 = .ok (.ifCond .ne 13, 3) := by decide +kernel
theorem kd_B_exact_60 : decode kc_B_exact 60 = .ok (.new 59, 3) := by decide +kernel
theorem kd_B_exact_63 : decode kc_B_exact 63 = .ok (.dup, 1) := by decide +kernel
theorem kd_B_exact_64 : decode kc_B_exact 64 = .ok (.ldc 95, 2) := by decide +kernel
theorem kd_B_exact_66 : decode kc_B_exact 66 = .ok (.invokespecial 63, 3) := by decide +kernel
theorem kd_B_exact_69 : decode kc_B_exact 69 = .ok (.athrow, 1) := by decide +kernel
theorem kd_B_exact_70 : decode kc_B_exact 70 = .ok (.aload_n 0, 1) := by decide +kernel
theorem kd_B_exact_71 : decode kc_B_exact 71 = .ok (.getfield 37, 3) := by decide +kernel
theorem kd_B_exact_74 : decode kc_B_exact 74 = .ok (.aload_n 0, 1) := by decide +kernel
theorem kd_B_exact_75 : decode kc_B_exact 75 = .ok (.getfield 10, 3) := by decide +kernel
theorem kd_B_exact_78 : decode kc_B_exact 78 = .ok (.getfield 146, 3) := by decide +kernel
theorem kd_B_exact_81 : decode kc_B_exact 81 = .ok (.iload_n 1, 1) := by decide +kernel
theorem kd_B_exact_82 : decode kc_B_exact 82 = .ok (.iaload, 1) := by decide +kernel
theorem kd_B_exact_83 : decode kc_B_exact 83 = .ok (.iload_n 2, 1) := by decide +kernel
theorem kd_B_exact_84 : decode kc_B_exact 84 = .ok (.iload 4, 2) := by decide +kernel
theorem kd_B_exact_86 : decode kc_B_exact 86 = .ok (.iload_n 3, 1) := by decide +kernel
theorem kd_B_exact_87 : decode kc_B_exact 87 = .ok (.invokevirtual 169, 3) := by decide +kernel
theorem kd_B_exact_90 : decode kc_B_exact 90 = .ok (.istore 5, 2) := by decide +kernel
theorem kd_B_exact_92 : decode kc_B_exact 92 = .ok (.iload 5, 2) := by decide +kernel
theorem kd_B_exact_94 : decode kc_B_exact 94 = .ok (.iconst (-1), 1) := by decide +kernel
theorem kd_B_exact_95 : decode kc_B_exact 95 = .ok (.if_icmp .ne 13, 3) := by decide +kernel
theorem kd_B_exact_98 : decode kc_B_exact 98 = .ok (.new 155, 3) := by decide +kernel
theorem kd_B_exact_101 : decode kc_B_exact 101 = .ok (.dup, 1) := by decide +kernel
theorem kd_B_exact_102 : decode kc_B_exact 102 = .ok (.ldc 172, 2) := by decide +kernel
theorem kd_B_exact_104 : decode kc_B_exact 104 = .ok (.invokespecial 159, 3) := by decide +kernel
theorem kd_B_exact_107 : decode kc_B_exact 107 = .ok (.athrow, 1) := by decide +kernel
theorem kd_B_exact_108 : decode kc_B_exact 108 = .ok (.aload_n 0, 1) := by decide +kernel
theorem kd_B_exact_109 : decode kc_B_exact 109 = .ok (.getfield 28, 3) := by decide +kernel
theorem kd_B_exact_112 : decode kc_B_exact 112 = .ok (.iload 4, 2) := by decide +kernel
theorem kd_B_exact_114 : decode kc_B_exact 114 = .ok (.iload_n 3, 1) := by decide +kernel
theorem kd_B_exact_115 : decode kc_B_exact 115 = .ok (.invokevirtual 174, 3) := by decide +kernel
theorem kd_B_exact_118 : decode kc_B_exact 118 = .ok (.ifCond .ne 13, 3) := by decide +kernel
theorem kd_B_exact_121 : decode kc_B_exact 121 = .ok (.new 155, 3) := by decide +kernel
theorem kd_B_exact_124 : decode kc_B_exact 124 = .ok (.dup, 1) := by decide +kernel
theorem kd_B_exact_125 : decode kc_B_exact 125 = .ok (.ldc 177, 2) := by decide +kernel
theorem kd_B_exact_127 : decode kc_B_exact 127 = .ok (.invokespecial 159, 3) := by decide +kernel
theorem kd_B_exact_130 : decode kc_B_exact 130 = .ok (.athrow, 1) := by decide +kernel
theorem kd_B_exact_131 : decode kc_B_exact 131 = .ok (.aload_n 0, 1) := by decide +kernel
theorem kd_B_exact_132 : decode kc_B_exact 132 = .ok (.iload_n 1, 1) := by decide +kernel
theorem kd_B_exact_133 : decode kc_B_exact 133 = .ok (.iload 5, 2) := by decide +kernel
theorem kd_B_exact_135 : decode kc_B_exact 135 = .ok (.invokevirtual 165, 3) := by decide +kernel
theorem kd_B_exact_138 : decode kc_B_exact 138 = .ok (.iload 5, 2) := by decide +kernel
theorem kd_B_exact_140 : decode kc_B_exact 140 = .ok (.ireturn, 1) := by decide +kernel
theorem kd_B_answer_0 : decode kc_B_answer 0 = .ok (.aload_n 0, 1) := by decide +kernel
theorem kd_B_answer_1 : decode kc_B_answer 1 = .ok (.getfield 51, 3) := by decide +kernel
theorem kd_B_answer_4 : decode kc_B_answer 4 = .ok (.getfield 179, 3) := by decide +kernel
theorem kd_B_answer_7 : decode kc_B_answer 7 = .ok (.bipush 64, 2) := by decide +kernel
theorem kd_B_answer_9 : decode kc_B_answer 9 = .ok (.if_icmp .lt 13, 3) := by decide +kernel
theorem kd_B_answer_12 : decode kc_B_answer 12 = .ok (.new 70, 3) := by decide +kernel
theorem kd_B_answer_15 : decode kc_B_answer 15 = .ok (.dup, 1) := by decide +kernel
theorem kd_B_answer_16 : decode kc_B_answer 16 = .ok (.ldc 180, 2) := by decide +kernel
theorem kd_B_answer_18 : decode kc_B_answer 18 = .ok (.invokespecial 74, 3) := by decide +kernel
theorem kd_B_answer_21 : decode kc_B_answer 21 = .ok (.athrow, 1) := by decide +kernel
theorem kd_B_answer_22 : decode kc_B_answer 22 = .ok (.aload_n 0, 1) := by decide +kernel
theorem kd_B_answer_23 : decode kc_B_answer 23 = .ok (.getfield 51, 3) := by decide +kernel
theorem kd_B_answer_26 : decode kc_B_answer 26 = .ok (.lload_n 1, 1) := by decide +kernel
theorem kd_B_answer_27 : decode kc_B_answer 27 = .ok (.invokevirtual 182, 3) := by decide +kernel
theorem kd_B_answer_30 : decode kc_B_answer 30 = .ok (.return_, 1) := by decide +kernel
theorem kd_B_given_0 : decode kc_B_given 0 = .ok (.aload_n 0, 1) := by decide +kernel
theorem kd_B_given_1 : decode kc_B_given 1 = .ok (.getfield 44, 3) := by decide +kernel
theorem kd_B_given_4 : decode kc_B_given 4 = .ok (.getfield 185, 3) := by decide +kernel
theorem kd_B_given_7 : decode kc_B_given 7 = .ok (.ifCond .ne 13, 3) := by decide +kernel
theorem kd_B_given_10 : decode kc_B_given 10 = .ok (.new 70, 3) := by decide +kernel
theorem kd_B_given_13 : decode kc_B_given 13 = .ok (.dup, 1) := by decide +kernel
theorem kd_B_given_14 : decode kc_B_given 14 = .ok (.ldc 186, 2) := by decide +kernel
theorem kd_B_given_16 : decode kc_B_given 16 = .ok (.invokespecial 74, 3) := by decide +kernel
theorem kd_B_given_19 : decode kc_B_given 19 = .ok (.athrow, 1) := by decide +kernel
theorem kd_B_given_20 : decode kc_B_given 20 = .ok (.aload_n 0, 1) := by decide +kernel
theorem kd_B_given_21 : decode kc_B_given 21 = .ok (.getfield 44, 3) := by decide +kernel
theorem kd_B_given_24 : decode kc_B_given 24 = .ok (.getfield 188, 3) := by decide +kernel
theorem kd_B_given_27 : decode kc_B_given 27 = .ok (.lreturn, 1) := by decide +kernel
theorem kd_B_look_0 : decode kc_B_look 0 = .ok (.iload_n 2, 1) := by decide +kernel
theorem kd_B_look_1 : decode kc_B_look 1 = .ok (.ifCond .lt 8, 3) := by decide +kernel
theorem kd_B_look_4 : decode kc_B_look 4 = .ok (.iload_n 2, 1) := by decide +kernel
theorem kd_B_look_5 : decode kc_B_look 5 = .ok (.iconst 2, 1) := by decide +kernel
theorem kd_B_look_6 : decode kc_B_look 6 = .ok (.if_icmp .le 13, 3) := by decide +kernel
theorem kd_B_look_9 : decode kc_B_look 9 = .ok (.new 59, 3) := by decide +kernel
theorem kd_B_look_12 : decode kc_B_look 12 = .ok (.dup, 1) := by decide +kernel
theorem kd_B_look_13 : decode kc_B_look 13 = .ok (.ldc 192, 2) := by decide +kernel
theorem kd_B_look_15 : decode kc_B_look 15 = .ok (.invokespecial 63, 3) := by decide +kernel
theorem kd_B_look_18 : decode kc_B_look 18 = .ok (.athrow, 1) := by decide +kernel
theorem kd_B_look_19 : decode kc_B_look 19 = .ok (.aload_n 0, 1) := by decide +kernel
theorem kd_B_look_20 : decode kc_B_look 20 = .ok (.getfield 44, 3) := by decide +kernel
theorem kd_B_look_23 : decode kc_B_look 23 = .ok (.iload_n 1, 1) := by decide +kernel
theorem kd_B_look_24 : decode kc_B_look 24 = .ok (.invokevirtual 194, 3) := by decide +kernel
theorem kd_B_look_27 : decode kc_B_look 27 = .ok (.ifCond .ne 13, 3) := by decide +kernel
theorem kd_B_look_30 : decode kc_B_look 30 = .ok (.new 197, 3) := by decide +kernel
theorem kd_B_look_33 : decode kc_B_look 33 = .ok (.dup, 1) := by decide +kernel
theorem kd_B_look_34 : decode kc_B_look 34 = .ok (.ldc 199, 2) := by decide +kernel
theorem kd_B_look_36 : decode kc_B_look 36 = .ok (.invokespecial 201, 3) := by decide +kernel
theorem kd_B_look_39 : decode kc_B_look 39 = .ok (.athrow, 1) := by decide +kernel
theorem kd_B_look_40 : decode kc_B_look 40 = .ok (.iload_n 2, 1) := by decide +kernel
theorem kd_B_look_41 : decode kc_B_look 41 = .ok (.ifCond .ne 12, 3) := by decide +kernel
theorem kd_B_look_44 : decode kc_B_look 44 = .ok (.aload_n 0, 1) := by decide +kernel
theorem kd_B_look_45 : decode kc_B_look 45 = .ok (.getfield 44, 3) := by decide +kernel
theorem kd_B_look_48 : decode kc_B_look 48 = .ok (.iload_n 1, 1) := by decide +kernel
theorem kd_B_look_49 : decode kc_B_look 49 = .ok (.invokevirtual 202, 3) := by decide +kernel
theorem kd_B_look_52 : decode kc_B_look 52 = .ok (.ireturn, 1) := by decide +kernel
theorem kd_B_look_53 : decode kc_B_look 53 = .ok (.iload_n 2, 1) := by decide +kernel
theorem kd_B_look_54 : decode kc_B_look 54 = .ok (.iconst 1, 1) := by decide +kernel
theorem kd_B_look_55 : decode kc_B_look 55 = .ok (.if_icmp .ne 14, 3) := by decide +kernel
theorem kd_B_look_58 : decode kc_B_look 58 = .ok (.aload_n 0, 1) := by decide +kernel
theorem kd_B_look_59 : decode kc_B_look 59 = .ok (.getfield 44, 3) := by decide +kernel
theorem kd_B_look_62 : decode kc_B_look 62 = .ok (.iload_n 1, 1) := by decide +kernel
theorem kd_B_look_63 : decode kc_B_look 63 = .ok (.invokevirtual 205, 3) := by decide +kernel
theorem kd_B_look_66 : decode kc_B_look 66 = .ok (.goto 11, 3) := by decide +kernel
theorem kd_B_look_69 : decode kc_B_look 69 = .ok (.aload_n 0, 1) := by decide +kernel
theorem kd_B_look_70 : decode kc_B_look 70 = .ok (.getfield 44, 3) := by decide +kernel
theorem kd_B_look_73 : decode kc_B_look 73 = .ok (.iload_n 1, 1) := by decide +kernel
theorem kd_B_look_74 : decode kc_B_look 74 = .ok (.invokevirtual 208, 3) := by decide +kernel
theorem kd_B_look_77 : decode kc_B_look 77 = .ok (.ireturn, 1) := by decide +kernel
theorem kd_B_converted_0 : decode kc_B_converted 0 = .ok (.aload_n 0, 1) := by decide +kernel
theorem kd_B_converted_1 : decode kc_B_converted 1 = .ok (.getfield 44, 3) := by decide +kernel
theorem kd_B_converted_4 : decode kc_B_converted 4 = .ok (.iload_n 1, 1) := by decide +kernel
theorem kd_B_converted_5 : decode kc_B_converted 5 = .ok (.invokevirtual 194, 3) := by decide +kernel
theorem kd_B_converted_8 : decode kc_B_converted 8 = .ok (.ifCond .ne 13, 3) := by decide +kernel
theorem kd_B_converted_11 : decode kc_B_converted 11 = .ok (.new 197, 3) := by decide +kernel
theorem kd_B_converted_14 : decode kc_B_converted 14 = .ok (.dup, 1) := by decide +kernel
theorem kd_B_converted_15 : decode kc_B_converted 15 = .ok (.ldc 199, 2) := by decide +kernel
theorem kd_B_converted_17 : decode kc_B_converted 17 = .ok (.invokespecial 201, 3) := by decide +kernel
theorem kd_B_converted_20 : decode kc_B_converted 20 = .ok (.athrow, 1) := by decide +kernel
theorem kd_B_converted_21 : decode kc_B_converted 21 = .ok (.iload_n 2, 1) := by decide +kernel
theorem kd_B_converted_22 : decode kc_B_converted 22 = .ok (.ifCond .lt 15, 3) := by decide +kernel
theorem kd_B_converted_25 : decode kc_B_converted 25 = .ok (.iload_n 2, 1) := by decide +kernel
theorem kd_B_converted_26 : decode kc_B_converted 26 = .ok (.aload_n 0, 1) := by decide +kernel
theorem kd_B_converted_27 : decode kc_B_converted 27 = .ok (.getfield 44, 3) := by decide +kernel
theorem kd_B_converted_30 : decode kc_B_converted 30 = .ok (.iload_n 1, 1) := by decide +kernel
theorem kd_B_converted_31 : decode kc_B_converted 31 = .ok (.invokevirtual 208, 3) := by decide +kernel
theorem kd_B_converted_34 : decode kc_B_converted 34 = .ok (.if_icmp .lt 13, 3) := by decide +kernel
theorem kd_B_converted_37 : decode kc_B_converted 37 = .ok (.new 197, 3) := by decide +kernel
theorem kd_B_converted_40 : decode kc_B_converted 40 = .ok (.dup, 1) := by decide +kernel
theorem kd_B_converted_41 : decode kc_B_converted 41 = .ok (.ldc 131, 2) := by decide +kernel
theorem kd_B_converted_43 : decode kc_B_converted 43 = .ok (.invokespecial 201, 3) := by decide +kernel
theorem kd_B_converted_46 : decode kc_B_converted 46 = .ok (.athrow, 1) := by decide +kernel
theorem kd_B_converted_47 : decode kc_B_converted 47 = .ok (.aload_n 0, 1) := by decide +kernel
theorem kd_B_converted_48 : decode kc_B_converted 48 = .ok (.getfield 44, 3) := by decide +kernel
theorem kd_B_converted_51 : decode kc_B_converted 51 = .ok (.iload_n 1, 1) := by decide +kernel
theorem kd_B_converted_52 : decode kc_B_converted 52 = .ok (.iload_n 2, 1) := by decide +kernel
theorem kd_B_converted_53 : decode kc_B_converted 53 = .ok (.invokevirtual 211, 3) := by decide +kernel
theorem kd_B_converted_56 : decode kc_B_converted 56 = .ok (.lreturn, 1) := by decide +kernel
end
section
/-! DECODE ROWS (written by wip/gen/names.py) -/
theorem kd_A_init_0 : decode kc_A_init 0 = .ok (.aload_n 0, 1) := by decide +kernel
theorem kd_A_init_1 : decode kc_A_init 1 = .ok (.invokespecial 3, 3) := by decide +kernel
theorem kd_A_init_4 : decode kc_A_init 4 = .ok (.aload_n 0, 1) := by decide +kernel
theorem kd_A_init_5 : decode kc_A_init 5 = .ok (.iconst 4, 1) := by decide +kernel
theorem kd_A_init_6 : decode kc_A_init 6 = .ok (.newarray .int, 2) := by decide +kernel
theorem kd_A_init_8 : decode kc_A_init 8 = .ok (.putfield 9, 3) := by decide +kernel
theorem kd_A_init_11 : decode kc_A_init 11 = .ok (.aload_n 0, 1) := by decide +kernel
theorem kd_A_init_12 : decode kc_A_init 12 = .ok (.iconst 4, 1) := by decide +kernel
theorem kd_A_init_13 : decode kc_A_init 13 = .ok (.newarray .int, 2) := by decide +kernel
theorem kd_A_init_15 : decode kc_A_init 15 = .ok (.putfield 15, 3) := by decide +kernel
theorem kd_A_init_18 : decode kc_A_init 18 = .ok (.aload_n 0, 1) := by decide +kernel
theorem kd_A_init_19 : decode kc_A_init 19 = .ok (.iconst 4, 1) := by decide +kernel
theorem kd_A_init_20 : decode kc_A_init 20 = .ok (.newarray .long, 2) := by decide +kernel
theorem kd_A_init_22 : decode kc_A_init 22 = .ok (.putfield 18, 3) := by decide +kernel
theorem kd_A_init_25 : decode kc_A_init 25 = .ok (.aload_n 0, 1) := by decide +kernel
theorem kd_A_init_26 : decode kc_A_init 26 = .ok (.aload_n 1, 1) := by decide +kernel
theorem kd_A_init_27 : decode kc_A_init 27 = .ok (.putfield 22, 3) := by decide +kernel
theorem kd_A_init_30 : decode kc_A_init 30 = .ok (.return_, 1) := by decide +kernel
theorem kd_C_init_0 : decode kc_C_init 0 = .ok (.aload_n 0, 1) := by decide +kernel
theorem kd_C_init_1 : decode kc_C_init 1 = .ok (.invokespecial 3, 3) := by decide +kernel
theorem kd_C_init_4 : decode kc_C_init 4 = .ok (.aload_n 0, 1) := by decide +kernel
theorem kd_C_init_5 : decode kc_C_init 5 = .ok (.bipush 64, 2) := by decide +kernel
theorem kd_C_init_7 : decode kc_C_init 7 = .ok (.newarray .int, 2) := by decide +kernel
theorem kd_C_init_9 : decode kc_C_init 9 = .ok (.putfield 9, 3) := by decide +kernel
theorem kd_C_init_12 : decode kc_C_init 12 = .ok (.aload_n 0, 1) := by decide +kernel
theorem kd_C_init_13 : decode kc_C_init 13 = .ok (.iconst 4, 1) := by decide +kernel
theorem kd_C_init_14 : decode kc_C_init 14 = .ok (.newarray .int, 2) := by decide +kernel
theorem kd_C_init_16 : decode kc_C_init 16 = .ok (.putfield 15, 3) := by decide +kernel
theorem kd_C_init_19 : decode kc_C_init 19 = .ok (.aload_n 0, 1) := by decide +kernel
theorem kd_C_init_20 : decode kc_C_init 20 = .ok (.aload_n 1, 1) := by decide +kernel
theorem kd_C_init_21 : decode kc_C_init 21 = .ok (.putfield 18, 3) := by decide +kernel
theorem kd_C_init_24 : decode kc_C_init 24 = .ok (.aload_n 0, 1) := by decide +kernel
theorem kd_C_init_25 : decode kc_C_init 25 = .ok (.aload_n 2, 1) := by decide +kernel
theorem kd_C_init_26 : decode kc_C_init 26 = .ok (.putfield 22, 3) := by decide +kernel
theorem kd_C_init_29 : decode kc_C_init 29 = .ok (.aload_n 0, 1) := by decide +kernel
theorem kd_C_init_30 : decode kc_C_init 30 = .ok (.aload_n 3, 1) := by decide +kernel
theorem kd_C_init_31 : decode kc_C_init 31 = .ok (.putfield 26, 3) := by decide +kernel
theorem kd_C_init_34 : decode kc_C_init 34 = .ok (.return_, 1) := by decide +kernel
theorem kd_D_init_0 : decode kc_D_init 0 = .ok (.aload_n 0, 1) := by decide +kernel
theorem kd_D_init_1 : decode kc_D_init 1 = .ok (.invokespecial 3, 3) := by decide +kernel
theorem kd_D_init_4 : decode kc_D_init 4 = .ok (.aload_n 0, 1) := by decide +kernel
theorem kd_D_init_5 : decode kc_D_init 5 = .ok (.bipush 64, 2) := by decide +kernel
theorem kd_D_init_7 : decode kc_D_init 7 = .ok (.newarray .int, 2) := by decide +kernel
theorem kd_D_init_9 : decode kc_D_init 9 = .ok (.putfield 9, 3) := by decide +kernel
theorem kd_D_init_12 : decode kc_D_init 12 = .ok (.aload_n 0, 1) := by decide +kernel
theorem kd_D_init_13 : decode kc_D_init 13 = .ok (.bipush 64, 2) := by decide +kernel
theorem kd_D_init_15 : decode kc_D_init 15 = .ok (.newarray .int, 2) := by decide +kernel
theorem kd_D_init_17 : decode kc_D_init 17 = .ok (.putfield 15, 3) := by decide +kernel
theorem kd_D_init_20 : decode kc_D_init 20 = .ok (.aload_n 0, 1) := by decide +kernel
theorem kd_D_init_21 : decode kc_D_init 21 = .ok (.bipush 64, 2) := by decide +kernel
theorem kd_D_init_23 : decode kc_D_init 23 = .ok (.newarray .int, 2) := by decide +kernel
theorem kd_D_init_25 : decode kc_D_init 25 = .ok (.putfield 18, 3) := by decide +kernel
theorem kd_D_init_28 : decode kc_D_init 28 = .ok (.aload_n 0, 1) := by decide +kernel
theorem kd_D_init_29 : decode kc_D_init 29 = .ok (.sipush 256, 3) := by decide +kernel
theorem kd_D_init_32 : decode kc_D_init 32 = .ok (.newarray .long, 2) := by decide +kernel
theorem kd_D_init_34 : decode kc_D_init 34 = .ok (.putfield 21, 3) := by decide +kernel
theorem kd_D_init_37 : decode kc_D_init 37 = .ok (.return_, 1) := by decide +kernel
theorem kd_S_init_0 : decode kc_S_init 0 = .ok (.aload_n 0, 1) := by decide +kernel
theorem kd_S_init_1 : decode kc_S_init 1 = .ok (.invokespecial 3, 3) := by decide +kernel
theorem kd_S_init_4 : decode kc_S_init 4 = .ok (.aload_n 0, 1) := by decide +kernel
theorem kd_S_init_5 : decode kc_S_init 5 = .ok (.bipush 64, 2) := by decide +kernel
theorem kd_S_init_7 : decode kc_S_init 7 = .ok (.newarray .long, 2) := by decide +kernel
theorem kd_S_init_9 : decode kc_S_init 9 = .ok (.putfield 9, 3) := by decide +kernel
theorem kd_S_init_12 : decode kc_S_init 12 = .ok (.return_, 1) := by decide +kernel
theorem kd_A_add_0 : decode kc_A_add 0 = .ok (.aload_n 0, 1) := by decide +kernel
theorem kd_A_add_1 : decode kc_A_add 1 = .ok (.getfield 9, 3) := by decide +kernel
theorem kd_A_add_4 : decode kc_A_add 4 = .ok (.aload_n 0, 1) := by decide +kernel
theorem kd_A_add_5 : decode kc_A_add 5 = .ok (.getfield 26, 3) := by decide +kernel
theorem kd_A_add_8 : decode kc_A_add 8 = .ok (.iload_n 1, 1) := by decide +kernel
theorem kd_A_add_9 : decode kc_A_add 9 = .ok (.iastore, 1) := by decide +kernel
theorem kd_A_add_10 : decode kc_A_add 10 = .ok (.aload_n 0, 1) := by decide +kernel
theorem kd_A_add_11 : decode kc_A_add 11 = .ok (.getfield 15, 3) := by decide +kernel
theorem kd_A_add_14 : decode kc_A_add 14 = .ok (.aload_n 0, 1) := by decide +kernel
theorem kd_A_add_15 : decode kc_A_add 15 = .ok (.getfield 26, 3) := by decide +kernel
theorem kd_A_add_18 : decode kc_A_add 18 = .ok (.iload_n 1, 1) := by decide +kernel
theorem kd_A_add_19 : decode kc_A_add 19 = .ok (.lload_n 2, 1) := by decide +kernel
theorem kd_A_add_20 : decode kc_A_add 20 = .ok (.invokestatic 30, 3) := by decide +kernel
theorem kd_A_add_23 : decode kc_A_add 23 = .ok (.iastore, 1) := by decide +kernel
theorem kd_A_add_24 : decode kc_A_add 24 = .ok (.aload_n 0, 1) := by decide +kernel
theorem kd_A_add_25 : decode kc_A_add 25 = .ok (.getfield 18, 3) := by decide +kernel
theorem kd_A_add_28 : decode kc_A_add 28 = .ok (.aload_n 0, 1) := by decide +kernel
theorem kd_A_add_29 : decode kc_A_add 29 = .ok (.getfield 26, 3) := by decide +kernel
theorem kd_A_add_32 : decode kc_A_add 32 = .ok (.lload_n 2, 1) := by decide +kernel
theorem kd_A_add_33 : decode kc_A_add 33 = .ok (.lastore, 1) := by decide +kernel
theorem kd_A_add_34 : decode kc_A_add 34 = .ok (.aload_n 0, 1) := by decide +kernel
theorem kd_A_add_35 : decode kc_A_add 35 = .ok (.dup, 1) := by decide +kernel
theorem kd_A_add_36 : decode kc_A_add 36 = .ok (.getfield 26, 3) := by decide +kernel
theorem kd_A_add_39 : decode kc_A_add 39 = .ok (.iconst 1, 1) := by decide +kernel
theorem kd_A_add_40 : decode kc_A_add 40 = .ok (.iadd, 1) := by decide +kernel
theorem kd_A_add_41 : decode kc_A_add 41 = .ok (.putfield 26, 3) := by decide +kernel
theorem kd_A_add_44 : decode kc_A_add 44 = .ok (.aload_n 0, 1) := by decide +kernel
theorem kd_A_add_45 : decode kc_A_add 45 = .ok (.getfield 26, 3) := by decide +kernel
theorem kd_A_add_48 : decode kc_A_add 48 = .ok (.ireturn, 1) := by decide +kernel
theorem kd_A_sortOf_0 : decode kc_A_sortOf 0 = .ok (.iload_n 0, 1) := by decide +kernel
theorem kd_A_sortOf_1 : decode kc_A_sortOf 1 = .ok (.iconst 3, 1) := by decide +kernel
theorem kd_A_sortOf_2 : decode kc_A_sortOf 2 = .ok (.if_icmp .eq 5, 3) := by decide +kernel
theorem kd_A_sortOf_5 : decode kc_A_sortOf 5 = .ok (.iload_n 0, 1) := by decide +kernel
theorem kd_A_sortOf_6 : decode kc_A_sortOf 6 = .ok (.ireturn, 1) := by decide +kernel
theorem kd_A_sortOf_7 : decode kc_A_sortOf 7 = .ok (.lload_n 1, 1) := by decide +kernel
theorem kd_A_sortOf_8 : decode kc_A_sortOf 8 = .ok (.invokestatic 34, 3) := by decide +kernel
theorem kd_A_sortOf_11 : decode kc_A_sortOf 11 = .ok (.ifCond .eq 6, 3) := by decide +kernel
theorem kd_A_sortOf_14 : decode kc_A_sortOf 14 = .ok (.bipush 7, 2) := by decide +kernel
theorem kd_A_sortOf_16 : decode kc_A_sortOf 16 = .ok (.ireturn, 1) := by decide +kernel
theorem kd_A_sortOf_17 : decode kc_A_sortOf 17 = .ok (.lload_n 1, 1) := by decide +kernel
theorem kd_A_sortOf_18 : decode kc_A_sortOf 18 = .ok (.invokestatic 40, 3) := by decide +kernel
theorem kd_A_sortOf_21 : decode kc_A_sortOf 21 = .ok (.ifCond .eq 8, 3) := by decide +kernel
theorem kd_A_sortOf_24 : decode kc_A_sortOf 24 = .ok (.bipush 8, 2) := by decide +kernel
theorem kd_A_sortOf_26 : decode kc_A_sortOf 26 = .ok (.goto 4, 3) := by decide +kernel
theorem kd_A_sortOf_29 : decode kc_A_sortOf 29 = .ok (.iconst 3, 1) := by decide +kernel
theorem kd_A_sortOf_30 : decode kc_A_sortOf 30 = .ok (.ireturn, 1) := by decide +kernel
theorem kd_N_isInt_0 : decode kc_N_isInt 0 = .ok (.lload_n 0, 1) := by decide +kernel
theorem kd_N_isInt_1 : decode kc_N_isInt 1 = .ok (.ldc2_w 9, 3) := by decide +kernel
theorem kd_N_isInt_4 : decode kc_N_isInt 4 = .ok (.lcmp, 1) := by decide +kernel
theorem kd_N_isInt_5 : decode kc_N_isInt 5 = .ok (.ifCond .eq 10, 3) := by decide +kernel
theorem kd_N_isInt_8 : decode kc_N_isInt 8 = .ok (.lload_n 0, 1) := by decide +kernel
theorem kd_N_isInt_9 : decode kc_N_isInt 9 = .ok (.invokestatic 11, 3) := by decide +kernel
theorem kd_N_isInt_12 : decode kc_N_isInt 12 = .ok (.ifCond .ne 5, 3) := by decide +kernel
theorem kd_N_isInt_15 : decode kc_N_isInt 15 = .ok (.iconst 0, 1) := by decide +kernel
theorem kd_N_isInt_16 : decode kc_N_isInt 16 = .ok (.ireturn, 1) := by decide +kernel
theorem kd_N_isInt_17 : decode kc_N_isInt 17 = .ok (.lload_n 0, 1) := by decide +kernel
theorem kd_N_isInt_18 : decode kc_N_isInt 18 = .ok (.invokestatic 15, 3) := by decide +kernel
theorem kd_N_isInt_21 : decode kc_N_isInt 21 = .ok (.lstore_n 2, 1) := by decide +kernel
theorem kd_N_isInt_22 : decode kc_N_isInt 22 = .ok (.lload_n 2, 1) := by decide +kernel
theorem kd_N_isInt_23 : decode kc_N_isInt 23 = .ok (.lload_n 2, 1) := by decide +kernel
theorem kd_N_isInt_24 : decode kc_N_isInt 24 = .ok (.l2i, 1) := by decide +kernel
theorem kd_N_isInt_25 : decode kc_N_isInt 25 = .ok (.i2l, 1) := by decide +kernel
theorem kd_N_isInt_26 : decode kc_N_isInt 26 = .ok (.lcmp, 1) := by decide +kernel
theorem kd_N_isInt_27 : decode kc_N_isInt 27 = .ok (.ifCond .ne 7, 3) := by decide +kernel
theorem kd_N_isInt_30 : decode kc_N_isInt 30 = .ok (.iconst 1, 1) := by decide +kernel
theorem kd_N_isInt_31 : decode kc_N_isInt 31 = .ok (.goto 4, 3) := by decide +kernel
theorem kd_N_isInt_34 : decode kc_N_isInt 34 = .ok (.iconst 0, 1) := by decide +kernel
theorem kd_N_isInt_35 : decode kc_N_isInt 35 = .ok (.ireturn, 1) := by decide +kernel
theorem kd_N_isLong_0 : decode kc_N_isLong 0 = .ok (.lload_n 0, 1) := by decide +kernel
theorem kd_N_isLong_1 : decode kc_N_isLong 1 = .ok (.invokestatic 19, 3) := by decide +kernel
theorem kd_N_isLong_4 : decode kc_N_isLong 4 = .ok (.ifCond .eq 5, 3) := by decide +kernel
theorem kd_N_isLong_7 : decode kc_N_isLong 7 = .ok (.iconst 1, 1) := by decide +kernel
theorem kd_N_isLong_8 : decode kc_N_isLong 8 = .ok (.ireturn, 1) := by decide +kernel
theorem kd_N_isLong_9 : decode kc_N_isLong 9 = .ok (.lload_n 0, 1) := by decide +kernel
theorem kd_N_isLong_10 : decode kc_N_isLong 10 = .ok (.invokestatic 22, 3) := by decide +kernel
theorem kd_N_isLong_13 : decode kc_N_isLong 13 = .ok (.istore_n 2, 1) := by decide +kernel
theorem kd_N_isLong_14 : decode kc_N_isLong 14 = .ok (.iload_n 2, 1) := by decide +kernel
theorem kd_N_isLong_15 : decode kc_N_isLong 15 = .ok (.ifCond .lt 9, 3) := by decide +kernel
theorem kd_N_isLong_18 : decode kc_N_isLong 18 = .ok (.iload_n 2, 1) := by decide +kernel
theorem kd_N_isLong_19 : decode kc_N_isLong 19 = .ok (.bipush 53, 2) := by decide +kernel
theorem kd_N_isLong_21 : decode kc_N_isLong 21 = .ok (.if_icmp .le 5, 3) := by decide +kernel
theorem kd_N_isLong_24 : decode kc_N_isLong 24 = .ok (.iconst 0, 1) := by decide +kernel
theorem kd_N_isLong_25 : decode kc_N_isLong 25 = .ok (.ireturn, 1) := by decide +kernel
theorem kd_N_isLong_26 : decode kc_N_isLong 26 = .ok (.iload_n 2, 1) := by decide +kernel
theorem kd_N_isLong_27 : decode kc_N_isLong 27 = .ok (.bipush 53, 2) := by decide +kernel
theorem kd_N_isLong_29 : decode kc_N_isLong 29 = .ok (.if_icmp .ne 18, 3) := by decide +kernel
theorem kd_N_isLong_32 : decode kc_N_isLong 32 = .ok (.lload_n 0, 1) := by decide +kernel
theorem kd_N_isLong_33 : decode kc_N_isLong 33 = .ok (.invokestatic 26, 3) := by decide +kernel
theorem kd_N_isLong_36 : decode kc_N_isLong 36 = .ok (.lconst 0, 1) := by decide +kernel
theorem kd_N_isLong_37 : decode kc_N_isLong 37 = .ok (.lcmp, 1) := by decide +kernel
theorem kd_N_isLong_38 : decode kc_N_isLong 38 = .ok (.ifCond .ne 7, 3) := by decide +kernel
theorem kd_N_isLong_41 : decode kc_N_isLong 41 = .ok (.iconst 1, 1) := by decide +kernel
theorem kd_N_isLong_42 : decode kc_N_isLong 42 = .ok (.goto 4, 3) := by decide +kernel
theorem kd_N_isLong_45 : decode kc_N_isLong 45 = .ok (.iconst 0, 1) := by decide +kernel
theorem kd_N_isLong_46 : decode kc_N_isLong 46 = .ok (.ireturn, 1) := by decide +kernel
theorem kd_N_isLong_47 : decode kc_N_isLong 47 = .ok (.lconst 1, 1) := by decide +kernel
theorem kd_N_isLong_48 : decode kc_N_isLong 48 = .ok (.bipush 52, 2) := by decide +kernel
theorem kd_N_isLong_50 : decode kc_N_isLong 50 = .ok (.iload_n 2, 1) := by decide +kernel
theorem kd_N_isLong_51 : decode kc_N_isLong 51 = .ok (.isub, 1) := by decide +kernel
theorem kd_N_isLong_52 : decode kc_N_isLong 52 = .ok (.lshl, 1) := by decide +kernel
theorem kd_N_isLong_53 : decode kc_N_isLong 53 = .ok (.lconst 1, 1) := by decide +kernel
theorem kd_N_isLong_54 : decode kc_N_isLong 54 = .ok (.lsub, 1) := by decide +kernel
theorem kd_N_isLong_55 : decode kc_N_isLong 55 = .ok (.lstore_n 3, 1) := by decide +kernel
theorem kd_N_isLong_56 : decode kc_N_isLong 56 = .ok (.lload_n 0, 1) := by decide +kernel
theorem kd_N_isLong_57 : decode kc_N_isLong 57 = .ok (.invokestatic 26, 3) := by decide +kernel
theorem kd_N_isLong_60 : decode kc_N_isLong 60 = .ok (.lload_n 3, 1) := by decide +kernel
theorem kd_N_isLong_61 : decode kc_N_isLong 61 = .ok (.land, 1) := by decide +kernel
theorem kd_N_isLong_62 : decode kc_N_isLong 62 = .ok (.lconst 0, 1) := by decide +kernel
theorem kd_N_isLong_63 : decode kc_N_isLong 63 = .ok (.lcmp, 1) := by decide +kernel
theorem kd_N_isLong_64 : decode kc_N_isLong 64 = .ok (.ifCond .ne 7, 3) := by decide +kernel
theorem kd_N_isLong_67 : decode kc_N_isLong 67 = .ok (.iconst 1, 1) := by decide +kernel
theorem kd_N_isLong_68 : decode kc_N_isLong 68 = .ok (.goto 4, 3) := by decide +kernel
theorem kd_N_isLong_71 : decode kc_N_isLong 71 = .ok (.iconst 0, 1) := by decide +kernel
theorem kd_N_isLong_72 : decode kc_N_isLong 72 = .ok (.ireturn, 1) := by decide +kernel
theorem kd_N_isZero_0 : decode kc_N_isZero 0 = .ok (.lload_n 0, 1) := by decide +kernel
theorem kd_N_isZero_1 : decode kc_N_isZero 1 = .ok (.invokestatic 34, 3) := by decide +kernel
theorem kd_N_isZero_4 : decode kc_N_isZero 4 = .ok (.lconst 0, 1) := by decide +kernel
theorem kd_N_isZero_5 : decode kc_N_isZero 5 = .ok (.lcmp, 1) := by decide +kernel
theorem kd_N_isZero_6 : decode kc_N_isZero 6 = .ok (.ifCond .ne 7, 3) := by decide +kernel
theorem kd_N_isZero_9 : decode kc_N_isZero 9 = .ok (.iconst 1, 1) := by decide +kernel
theorem kd_N_isZero_10 : decode kc_N_isZero 10 = .ok (.goto 4, 3) := by decide +kernel
theorem kd_N_isZero_13 : decode kc_N_isZero 13 = .ok (.iconst 0, 1) := by decide +kernel
theorem kd_N_isZero_14 : decode kc_N_isZero 14 = .ok (.ireturn, 1) := by decide +kernel
theorem kd_N_withoutSign_0 : decode kc_N_withoutSign 0 = .ok (.lload_n 0, 1) := by decide +kernel
theorem kd_N_withoutSign_1 : decode kc_N_withoutSign 1 = .ok (.ldc2_w 39, 3) := by decide +kernel
theorem kd_N_withoutSign_4 : decode kc_N_withoutSign 4 = .ok (.land, 1) := by decide +kernel
theorem kd_N_withoutSign_5 : decode kc_N_withoutSign 5 = .ok (.lreturn, 1) := by decide +kernel
theorem kd_N_powerOf_0 : decode kc_N_powerOf 0 = .ok (.lload_n 0, 1) := by decide +kernel
theorem kd_N_powerOf_1 : decode kc_N_powerOf 1 = .ok (.bipush 52, 2) := by decide +kernel
theorem kd_N_powerOf_3 : decode kc_N_powerOf 3 = .ok (.lushr, 1) := by decide +kernel
theorem kd_N_powerOf_4 : decode kc_N_powerOf 4 = .ok (.ldc2_w 41, 3) := by decide +kernel
theorem kd_N_powerOf_7 : decode kc_N_powerOf 7 = .ok (.land, 1) := by decide +kernel
theorem kd_N_powerOf_8 : decode kc_N_powerOf 8 = .ok (.l2i, 1) := by decide +kernel
theorem kd_N_powerOf_9 : decode kc_N_powerOf 9 = .ok (.sipush 1023, 3) := by decide +kernel
theorem kd_N_powerOf_12 : decode kc_N_powerOf 12 = .ok (.isub, 1) := by decide +kernel
theorem kd_N_powerOf_13 : decode kc_N_powerOf 13 = .ok (.ireturn, 1) := by decide +kernel
theorem kd_N_fractionOf_0 : decode kc_N_fractionOf 0 = .ok (.lload_n 0, 1) := by decide +kernel
theorem kd_N_fractionOf_1 : decode kc_N_fractionOf 1 = .ok (.ldc2_w 43, 3) := by decide +kernel
theorem kd_N_fractionOf_4 : decode kc_N_fractionOf 4 = .ok (.land, 1) := by decide +kernel
theorem kd_N_fractionOf_5 : decode kc_N_fractionOf 5 = .ok (.lreturn, 1) := by decide +kernel
theorem kd_N_wholeOf_0 : decode kc_N_wholeOf 0 = .ok (.lload_n 0, 1) := by decide +kernel
theorem kd_N_wholeOf_1 : decode kc_N_wholeOf 1 = .ok (.invokestatic 19, 3) := by decide +kernel
theorem kd_N_wholeOf_4 : decode kc_N_wholeOf 4 = .ok (.ifCond .eq 5, 3) := by decide +kernel
theorem kd_N_wholeOf_7 : decode kc_N_wholeOf 7 = .ok (.lconst 0, 1) := by decide +kernel
theorem kd_N_wholeOf_8 : decode kc_N_wholeOf 8 = .ok (.lreturn, 1) := by decide +kernel
theorem kd_N_wholeOf_9 : decode kc_N_wholeOf 9 = .ok (.lload_n 0, 1) := by decide +kernel
theorem kd_N_wholeOf_10 : decode kc_N_wholeOf 10 = .ok (.invokestatic 26, 3) := by decide +kernel
theorem kd_N_wholeOf_13 : decode kc_N_wholeOf 13 = .ok (.ldc2_w 29, 3) := by decide +kernel
theorem kd_N_wholeOf_16 : decode kc_N_wholeOf 16 = .ok (.lor, 1) := by decide +kernel
theorem kd_N_wholeOf_17 : decode kc_N_wholeOf 17 = .ok (.lstore_n 2, 1) := by decide +kernel
theorem kd_N_wholeOf_18 : decode kc_N_wholeOf 18 = .ok (.lload_n 0, 1) := by decide +kernel
theorem kd_N_wholeOf_19 : decode kc_N_wholeOf 19 = .ok (.invokestatic 22, 3) := by decide +kernel
theorem kd_N_wholeOf_22 : decode kc_N_wholeOf 22 = .ok (.istore 4, 2) := by decide +kernel
theorem kd_N_wholeOf_24 : decode kc_N_wholeOf 24 = .ok (.iload 4, 2) := by decide +kernel
theorem kd_N_wholeOf_26 : decode kc_N_wholeOf 26 = .ok (.bipush 52, 2) := by decide +kernel
theorem kd_N_wholeOf_28 : decode kc_N_wholeOf 28 = .ok (.if_icmp .le 13, 3) := by decide +kernel
theorem kd_N_wholeOf_31 : decode kc_N_wholeOf 31 = .ok (.lload_n 2, 1) := by decide +kernel
theorem kd_N_wholeOf_32 : decode kc_N_wholeOf 32 = .ok (.iload 4, 2) := by decide +kernel
theorem kd_N_wholeOf_34 : decode kc_N_wholeOf 34 = .ok (.bipush 52, 2) := by decide +kernel
theorem kd_N_wholeOf_36 : decode kc_N_wholeOf 36 = .ok (.isub, 1) := by decide +kernel
theorem kd_N_wholeOf_37 : decode kc_N_wholeOf 37 = .ok (.lshl, 1) := by decide +kernel
theorem kd_N_wholeOf_38 : decode kc_N_wholeOf 38 = .ok (.goto 10, 3) := by decide +kernel
theorem kd_N_wholeOf_41 : decode kc_N_wholeOf 41 = .ok (.lload_n 2, 1) := by decide +kernel
theorem kd_N_wholeOf_42 : decode kc_N_wholeOf 42 = .ok (.bipush 52, 2) := by decide +kernel
theorem kd_N_wholeOf_44 : decode kc_N_wholeOf 44 = .ok (.iload 4, 2) := by decide +kernel
theorem kd_N_wholeOf_46 : decode kc_N_wholeOf 46 = .ok (.isub, 1) := by decide +kernel
theorem kd_N_wholeOf_47 : decode kc_N_wholeOf 47 = .ok (.lushr, 1) := by decide +kernel
theorem kd_N_wholeOf_48 : decode kc_N_wholeOf 48 = .ok (.lstore 5, 2) := by decide +kernel
theorem kd_N_wholeOf_50 : decode kc_N_wholeOf 50 = .ok (.lload_n 0, 1) := by decide +kernel
theorem kd_N_wholeOf_51 : decode kc_N_wholeOf 51 = .ok (.lconst 0, 1) := by decide +kernel
theorem kd_N_wholeOf_52 : decode kc_N_wholeOf 52 = .ok (.lcmp, 1) := by decide +kernel
theorem kd_N_wholeOf_53 : decode kc_N_wholeOf 53 = .ok (.ifCond .ge 9, 3) := by decide +kernel
theorem kd_N_wholeOf_56 : decode kc_N_wholeOf 56 = .ok (.lload 5, 2) := by decide +kernel
theorem kd_N_wholeOf_58 : decode kc_N_wholeOf 58 = .ok (.lneg, 1) := by decide +kernel
theorem kd_N_wholeOf_59 : decode kc_N_wholeOf 59 = .ok (.goto 5, 3) := by decide +kernel
theorem kd_N_wholeOf_62 : decode kc_N_wholeOf 62 = .ok (.lload 5, 2) := by decide +kernel
theorem kd_N_wholeOf_64 : decode kc_N_wholeOf 64 = .ok (.lreturn, 1) := by decide +kernel
theorem kd_A_weightFor_0 : decode kc_A_weightFor 0 = .ok (.iload_n 2, 1) := by decide +kernel
theorem kd_A_weightFor_1 : decode kc_A_weightFor 1 = .ok (.bipush 6, 2) := by decide +kernel
theorem kd_A_weightFor_3 : decode kc_A_weightFor 3 = .ok (.if_icmp .ge 19, 3) := by decide +kernel
theorem kd_A_weightFor_6 : decode kc_A_weightFor 6 = .ok (.getstatic 51, 3) := by decide +kernel
theorem kd_A_weightFor_9 : decode kc_A_weightFor 9 = .ok (.aload_n 0, 1) := by decide +kernel
theorem kd_A_weightFor_10 : decode kc_A_weightFor 10 = .ok (.getfield 15, 3) := by decide +kernel
theorem kd_A_weightFor_13 : decode kc_A_weightFor 13 = .ok (.iload_n 1, 1) := by decide +kernel
theorem kd_A_weightFor_14 : decode kc_A_weightFor 14 = .ok (.iaload, 1) := by decide +kernel
theorem kd_A_weightFor_15 : decode kc_A_weightFor 15 = .ok (.bipush 7, 2) := by decide +kernel
theorem kd_A_weightFor_17 : decode kc_A_weightFor 17 = .ok (.imul, 1) := by decide +kernel
theorem kd_A_weightFor_18 : decode kc_A_weightFor 18 = .ok (.iload_n 2, 1) := by decide +kernel
theorem kd_A_weightFor_19 : decode kc_A_weightFor 19 = .ok (.iadd, 1) := by decide +kernel
theorem kd_A_weightFor_20 : decode kc_A_weightFor 20 = .ok (.iaload, 1) := by decide +kernel
theorem kd_A_weightFor_21 : decode kc_A_weightFor 21 = .ok (.ireturn, 1) := by decide +kernel
theorem kd_A_weightFor_22 : decode kc_A_weightFor 22 = .ok (.aload_n 0, 1) := by decide +kernel
theorem kd_A_weightFor_23 : decode kc_A_weightFor 23 = .ok (.getfield 9, 3) := by decide +kernel
theorem kd_A_weightFor_26 : decode kc_A_weightFor 26 = .ok (.iload_n 1, 1) := by decide +kernel
theorem kd_A_weightFor_27 : decode kc_A_weightFor 27 = .ok (.iaload, 1) := by decide +kernel
theorem kd_A_weightFor_28 : decode kc_A_weightFor 28 = .ok (.iconst 5, 1) := by decide +kernel
theorem kd_A_weightFor_29 : decode kc_A_weightFor 29 = .ok (.if_icmp .ne 30, 3) := by decide +kernel
theorem kd_A_weightFor_32 : decode kc_A_weightFor 32 = .ok (.aload_n 0, 1) := by decide +kernel
theorem kd_A_weightFor_33 : decode kc_A_weightFor 33 = .ok (.getfield 22, 3) := by decide +kernel
theorem kd_A_weightFor_36 : decode kc_A_weightFor 36 = .ok (.aload_n 0, 1) := by decide +kernel
theorem kd_A_weightFor_37 : decode kc_A_weightFor 37 = .ok (.getfield 22, 3) := by decide +kernel
theorem kd_A_weightFor_40 : decode kc_A_weightFor 40 = .ok (.getfield 54, 3) := by decide +kernel
theorem kd_A_weightFor_43 : decode kc_A_weightFor 43 = .ok (.aload_n 0, 1) := by decide +kernel
theorem kd_A_weightFor_44 : decode kc_A_weightFor 44 = .ok (.getfield 18, 3) := by decide +kernel
theorem kd_A_weightFor_47 : decode kc_A_weightFor 47 = .ok (.iload_n 1, 1) := by decide +kernel
theorem kd_A_weightFor_48 : decode kc_A_weightFor 48 = .ok (.laload, 1) := by decide +kernel
theorem kd_A_weightFor_49 : decode kc_A_weightFor 49 = .ok (.l2i, 1) := by decide +kernel
theorem kd_A_weightFor_50 : decode kc_A_weightFor 50 = .ok (.iaload, 1) := by decide +kernel
theorem kd_A_weightFor_51 : decode kc_A_weightFor 51 = .ok (.iload_n 2, 1) := by decide +kernel
theorem kd_A_weightFor_52 : decode kc_A_weightFor 52 = .ok (.bipush 6, 2) := by decide +kernel
theorem kd_A_weightFor_54 : decode kc_A_weightFor 54 = .ok (.isub, 1) := by decide +kernel
theorem kd_A_weightFor_55 : decode kc_A_weightFor 55 = .ok (.invokevirtual 59, 3) := by decide +kernel
theorem kd_A_weightFor_58 : decode kc_A_weightFor 58 = .ok (.ireturn, 1) := by decide +kernel
theorem kd_A_weightFor_59 : decode kc_A_weightFor 59 = .ok (.getstatic 51, 3) := by decide +kernel
theorem kd_A_weightFor_62 : decode kc_A_weightFor 62 = .ok (.aload_n 0, 1) := by decide +kernel
theorem kd_A_weightFor_63 : decode kc_A_weightFor 63 = .ok (.getfield 15, 3) := by decide +kernel
theorem kd_A_weightFor_66 : decode kc_A_weightFor 66 = .ok (.iload_n 1, 1) := by decide +kernel
theorem kd_A_weightFor_67 : decode kc_A_weightFor 67 = .ok (.iaload, 1) := by decide +kernel
theorem kd_A_weightFor_68 : decode kc_A_weightFor 68 = .ok (.bipush 7, 2) := by decide +kernel
theorem kd_A_weightFor_70 : decode kc_A_weightFor 70 = .ok (.imul, 1) := by decide +kernel
theorem kd_A_weightFor_71 : decode kc_A_weightFor 71 = .ok (.bipush 6, 2) := by decide +kernel
theorem kd_A_weightFor_73 : decode kc_A_weightFor 73 = .ok (.iadd, 1) := by decide +kernel
theorem kd_A_weightFor_74 : decode kc_A_weightFor 74 = .ok (.iaload, 1) := by decide +kernel
theorem kd_A_weightFor_75 : decode kc_A_weightFor 75 = .ok (.ireturn, 1) := by decide +kernel
theorem kd_A_takeAll_0 : decode kc_A_takeAll 0 = .ok (.aload_n 0, 1) := by decide +kernel
theorem kd_A_takeAll_1 : decode kc_A_takeAll 1 = .ok (.getfield 26, 3) := by decide +kernel
theorem kd_A_takeAll_4 : decode kc_A_takeAll 4 = .ok (.istore_n 1, 1) := by decide +kernel
theorem kd_A_takeAll_5 : decode kc_A_takeAll 5 = .ok (.aload_n 0, 1) := by decide +kernel
theorem kd_A_takeAll_6 : decode kc_A_takeAll 6 = .ok (.iconst 0, 1) := by decide +kernel
theorem kd_A_takeAll_7 : decode kc_A_takeAll 7 = .ok (.putfield 26, 3) := by decide +kernel
theorem kd_A_takeAll_10 : decode kc_A_takeAll 10 = .ok (.iload_n 1, 1) := by decide +kernel
theorem kd_A_takeAll_11 : decode kc_A_takeAll 11 = .ok (.ireturn, 1) := by decide +kernel
theorem kd_C_gather_0 : decode kc_C_gather 0 = .ok (.aload_n 0, 1) := by decide +kernel
theorem kd_C_gather_1 : decode kc_C_gather 1 = .ok (.iconst 0, 1) := by decide +kernel
theorem kd_C_gather_2 : decode kc_C_gather 2 = .ok (.putfield 41, 3) := by decide +kernel
theorem kd_C_gather_5 : decode kc_C_gather 5 = .ok (.iload_n 1, 1) := by decide +kernel
theorem kd_C_gather_6 : decode kc_C_gather 6 = .ok (.istore 4, 2) := by decide +kernel
theorem kd_C_gather_8 : decode kc_C_gather 8 = .ok (.iconst 0, 1) := by decide +kernel
theorem kd_C_gather_9 : decode kc_C_gather 9 = .ok (.istore 5, 2) := by decide +kernel
theorem kd_C_gather_11 : decode kc_C_gather 11 = .ok (.iload 5, 2) := by decide +kernel
theorem kd_C_gather_13 : decode kc_C_gather 13 = .ok (.bipush 16, 2) := by decide +kernel
theorem kd_C_gather_15 : decode kc_C_gather 15 = .ok (.if_icmp .ge 35, 3) := by decide +kernel
theorem kd_C_gather_18 : decode kc_C_gather 18 = .ok (.iload 4, 2) := by decide +kernel
theorem kd_C_gather_20 : decode kc_C_gather 20 = .ok (.iconst (-1), 1) := by decide +kernel
theorem kd_C_gather_21 : decode kc_C_gather 21 = .ok (.if_icmp .eq 29, 3) := by decide +kernel
theorem kd_C_gather_24 : decode kc_C_gather 24 = .ok (.aload_n 0, 1) := by decide +kernel
theorem kd_C_gather_25 : decode kc_C_gather 25 = .ok (.iload 4, 2) := by decide +kernel
theorem kd_C_gather_27 : decode kc_C_gather 27 = .ok (.iload_n 2, 1) := by decide +kernel
theorem kd_C_gather_28 : decode kc_C_gather 28 = .ok (.iload_n 3, 1) := by decide +kernel
theorem kd_C_gather_29 : decode kc_C_gather 29 = .ok (.invokevirtual 45, 3) := by decide +kernel
theorem kd_C_gather_32 : decode kc_C_gather 32 = .ok (.aload_n 0, 1) := by decide +kernel
theorem kd_C_gather_33 : decode kc_C_gather 33 = .ok (.getfield 18, 3) := by decide +kernel
theorem kd_C_gather_36 : decode kc_C_gather 36 = .ok (.getfield 36, 3) := by decide +kernel
theorem kd_C_gather_39 : decode kc_C_gather 39 = .ok (.iload 4, 2) := by decide +kernel
theorem kd_C_gather_41 : decode kc_C_gather 41 = .ok (.iaload, 1) := by decide +kernel
theorem kd_C_gather_42 : decode kc_C_gather 42 = .ok (.istore 4, 2) := by decide +kernel
theorem kd_C_gather_44 : decode kc_C_gather 44 = .ok (.iinc 5 1, 3) := by decide +kernel
theorem kd_C_gather_47 : decode kc_C_gather 47 = .ok (.goto (-36), 3) := by decide +kernel
theorem kd_C_gather_50 : decode kc_C_gather 50 = .ok (.return_, 1) := by decide +kernel
theorem kd_C_gatherFrom_0 : decode kc_C_gatherFrom 0 = .ok (.iconst 0, 1) := by decide +kernel
theorem kd_C_gatherFrom_1 : decode kc_C_gatherFrom 1 = .ok (.istore 4, 2) := by decide +kernel
theorem kd_C_gatherFrom_3 : decode kc_C_gatherFrom 3 = .ok (.iload 4, 2) := by decide +kernel
theorem kd_C_gatherFrom_5 : decode kc_C_gatherFrom 5 = .ok (.aload_n 0, 1) := by decide +kernel
theorem kd_C_gatherFrom_6 : decode kc_C_gatherFrom 6 = .ok (.getfield 22, 3) := by decide +kernel
theorem kd_C_gatherFrom_9 : decode kc_C_gatherFrom 9 = .ok (.getfield 49, 3) := by decide +kernel
theorem kd_C_gatherFrom_12 : decode kc_C_gatherFrom 12 = .ok (.if_icmp .ge 84, 3) := by decide +kernel
theorem kd_C_gatherFrom_15 : decode kc_C_gatherFrom 15 = .ok (.aload_n 0, 1) := by decide +kernel
theorem kd_C_gatherFrom_16 : decode kc_C_gatherFrom 16 = .ok (.getfield 41, 3) := by decide +kernel
theorem kd_C_gatherFrom_19 : decode kc_C_gatherFrom 19 = .ok (.bipush 64, 2) := by decide +kernel
theorem kd_C_gatherFrom_21 : decode kc_C_gatherFrom 21 = .ok (.if_icmp .ge 75, 3) := by decide +kernel
theorem kd_C_gatherFrom_24 : decode kc_C_gatherFrom 24 = .ok (.aload_n 0, 1) := by decide +kernel
theorem kd_C_gatherFrom_25 : decode kc_C_gatherFrom 25 = .ok (.getfield 22, 3) := by decide +kernel
theorem kd_C_gatherFrom_28 : decode kc_C_gatherFrom 28 = .ok (.iload 4, 2) := by decide +kernel
theorem kd_C_gatherFrom_30 : decode kc_C_gatherFrom 30 = .ok (.iload_n 1, 1) := by decide +kernel
theorem kd_C_gatherFrom_31 : decode kc_C_gatherFrom 31 = .ok (.iload_n 2, 1) := by decide +kernel
theorem kd_C_gatherFrom_32 : decode kc_C_gatherFrom 32 = .ok (.iload_n 3, 1) := by decide +kernel
theorem kd_C_gatherFrom_33 : decode kc_C_gatherFrom 33 = .ok (.invokevirtual 50, 3) := by decide +kernel
theorem kd_C_gatherFrom_36 : decode kc_C_gatherFrom 36 = .ok (.ifCond .eq 54, 3) := by decide +kernel
theorem kd_C_gatherFrom_39 : decode kc_C_gatherFrom 39 = .ok (.aload_n 0, 1) := by decide +kernel
theorem kd_C_gatherFrom_40 : decode kc_C_gatherFrom 40 = .ok (.getfield 26, 3) := by decide +kernel
theorem kd_C_gatherFrom_43 : decode kc_C_gatherFrom 43 = .ok (.iload_n 3, 1) := by decide +kernel
theorem kd_C_gatherFrom_44 : decode kc_C_gatherFrom 44 = .ok (.aload_n 0, 1) := by decide +kernel
theorem kd_C_gatherFrom_45 : decode kc_C_gatherFrom 45 = .ok (.getfield 22, 3) := by decide +kernel
theorem kd_C_gatherFrom_48 : decode kc_C_gatherFrom 48 = .ok (.getfield 54, 3) := by decide +kernel
theorem kd_C_gatherFrom_51 : decode kc_C_gatherFrom 51 = .ok (.iload 4, 2) := by decide +kernel
theorem kd_C_gatherFrom_53 : decode kc_C_gatherFrom 53 = .ok (.iaload, 1) := by decide +kernel
theorem kd_C_gatherFrom_54 : decode kc_C_gatherFrom 54 = .ok (.invokevirtual 57, 3) := by decide +kernel
theorem kd_C_gatherFrom_57 : decode kc_C_gatherFrom 57 = .ok (.ifCond .eq 33, 3) := by decide +kernel
theorem kd_C_gatherFrom_60 : decode kc_C_gatherFrom 60 = .ok (.aload_n 0, 1) := by decide +kernel
theorem kd_C_gatherFrom_61 : decode kc_C_gatherFrom 61 = .ok (.iload 4, 2) := by decide +kernel
theorem kd_C_gatherFrom_63 : decode kc_C_gatherFrom 63 = .ok (.invokevirtual 63, 3) := by decide +kernel
theorem kd_C_gatherFrom_66 : decode kc_C_gatherFrom 66 = .ok (.ifCond .ne 24, 3) := by decide +kernel
theorem kd_C_gatherFrom_69 : decode kc_C_gatherFrom 69 = .ok (.aload_n 0, 1) := by decide +kernel
theorem kd_C_gatherFrom_70 : decode kc_C_gatherFrom 70 = .ok (.getfield 9, 3) := by decide +kernel
theorem kd_C_gatherFrom_73 : decode kc_C_gatherFrom 73 = .ok (.aload_n 0, 1) := by decide +kernel
theorem kd_C_gatherFrom_74 : decode kc_C_gatherFrom 74 = .ok (.getfield 41, 3) := by decide +kernel
theorem kd_C_gatherFrom_77 : decode kc_C_gatherFrom 77 = .ok (.iload 4, 2) := by decide +kernel
theorem kd_C_gatherFrom_79 : decode kc_C_gatherFrom 79 = .ok (.iastore, 1) := by decide +kernel
theorem kd_C_gatherFrom_80 : decode kc_C_gatherFrom 80 = .ok (.aload_n 0, 1) := by decide +kernel
theorem kd_C_gatherFrom_81 : decode kc_C_gatherFrom 81 = .ok (.dup, 1) := by decide +kernel
theorem kd_C_gatherFrom_82 : decode kc_C_gatherFrom 82 = .ok (.getfield 41, 3) := by decide +kernel
theorem kd_C_gatherFrom_85 : decode kc_C_gatherFrom 85 = .ok (.iconst 1, 1) := by decide +kernel
theorem kd_C_gatherFrom_86 : decode kc_C_gatherFrom 86 = .ok (.iadd, 1) := by decide +kernel
theorem kd_C_gatherFrom_87 : decode kc_C_gatherFrom 87 = .ok (.putfield 41, 3) := by decide +kernel
theorem kd_C_gatherFrom_90 : decode kc_C_gatherFrom 90 = .ok (.iinc 4 1, 3) := by decide +kernel
theorem kd_C_gatherFrom_93 : decode kc_C_gatherFrom 93 = .ok (.goto (-90), 3) := by decide +kernel
theorem kd_C_gatherFrom_96 : decode kc_C_gatherFrom 96 = .ok (.return_, 1) := by decide +kernel
theorem kd_A_fit_0 : decode kc_A_fit 0 = .ok (.iconst 0, 1) := by decide +kernel
theorem kd_A_fit_1 : decode kc_A_fit 1 = .ok (.istore_n 3, 1) := by decide +kernel
theorem kd_A_fit_2 : decode kc_A_fit 2 = .ok (.iload_n 3, 1) := by decide +kernel
theorem kd_A_fit_3 : decode kc_A_fit 3 = .ok (.iload_n 1, 1) := by decide +kernel
theorem kd_A_fit_4 : decode kc_A_fit 4 = .ok (.if_icmp .ge 26, 3) := by decide +kernel
theorem kd_A_fit_7 : decode kc_A_fit 7 = .ok (.aload_n 0, 1) := by decide +kernel
theorem kd_A_fit_8 : decode kc_A_fit 8 = .ok (.iload_n 3, 1) := by decide +kernel
theorem kd_A_fit_9 : decode kc_A_fit 9 = .ok (.iload_n 2, 1) := by decide +kernel
theorem kd_A_fit_10 : decode kc_A_fit 10 = .ok (.iload_n 1, 1) := by decide +kernel
theorem kd_A_fit_11 : decode kc_A_fit 11 = .ok (.iload_n 3, 1) := by decide +kernel
theorem kd_A_fit_12 : decode kc_A_fit 12 = .ok (.invokestatic 43, 3) := by decide +kernel
theorem kd_A_fit_15 : decode kc_A_fit 15 = .ok (.invokevirtual 47, 3) := by decide +kernel
theorem kd_A_fit_18 : decode kc_A_fit 18 = .ok (.iconst (-1), 1) := by decide +kernel
theorem kd_A_fit_19 : decode kc_A_fit 19 = .ok (.if_icmp .ne 5, 3) := by decide +kernel
theorem kd_A_fit_22 : decode kc_A_fit 22 = .ok (.iconst 0, 1) := by decide +kernel
theorem kd_A_fit_23 : decode kc_A_fit 23 = .ok (.ireturn, 1) := by decide +kernel
theorem kd_A_fit_24 : decode kc_A_fit 24 = .ok (.iinc 3 1, 3) := by decide +kernel
theorem kd_A_fit_27 : decode kc_A_fit 27 = .ok (.goto (-25), 3) := by decide +kernel
theorem kd_A_fit_30 : decode kc_A_fit 30 = .ok (.iconst 1, 1) := by decide +kernel
theorem kd_A_fit_31 : decode kc_A_fit 31 = .ok (.ireturn, 1) := by decide +kernel
theorem kd_C_isHidden_0 : decode kc_C_isHidden 0 = .ok (.iconst 0, 1) := by decide +kernel
theorem kd_C_isHidden_1 : decode kc_C_isHidden 1 = .ok (.istore_n 2, 1) := by decide +kernel
theorem kd_C_isHidden_2 : decode kc_C_isHidden 2 = .ok (.iload_n 2, 1) := by decide +kernel
theorem kd_C_isHidden_3 : decode kc_C_isHidden 3 = .ok (.aload_n 0, 1) := by decide +kernel
theorem kd_C_isHidden_4 : decode kc_C_isHidden 4 = .ok (.getfield 41, 3) := by decide +kernel
theorem kd_C_isHidden_7 : decode kc_C_isHidden 7 = .ok (.if_icmp .ge 37, 3) := by decide +kernel
theorem kd_C_isHidden_10 : decode kc_C_isHidden 10 = .ok (.aload_n 0, 1) := by decide +kernel
theorem kd_C_isHidden_11 : decode kc_C_isHidden 11 = .ok (.getfield 22, 3) := by decide +kernel
theorem kd_C_isHidden_14 : decode kc_C_isHidden 14 = .ok (.getfield 54, 3) := by decide +kernel
theorem kd_C_isHidden_17 : decode kc_C_isHidden 17 = .ok (.aload_n 0, 1) := by decide +kernel
theorem kd_C_isHidden_18 : decode kc_C_isHidden 18 = .ok (.getfield 9, 3) := by decide +kernel
theorem kd_C_isHidden_21 : decode kc_C_isHidden 21 = .ok (.iload_n 2, 1) := by decide +kernel
theorem kd_C_isHidden_22 : decode kc_C_isHidden 22 = .ok (.iaload, 1) := by decide +kernel
theorem kd_C_isHidden_23 : decode kc_C_isHidden 23 = .ok (.iaload, 1) := by decide +kernel
theorem kd_C_isHidden_24 : decode kc_C_isHidden 24 = .ok (.aload_n 0, 1) := by decide +kernel
theorem kd_C_isHidden_25 : decode kc_C_isHidden 25 = .ok (.getfield 22, 3) := by decide +kernel
theorem kd_C_isHidden_28 : decode kc_C_isHidden 28 = .ok (.getfield 54, 3) := by decide +kernel
theorem kd_C_isHidden_31 : decode kc_C_isHidden 31 = .ok (.iload_n 1, 1) := by decide +kernel
theorem kd_C_isHidden_32 : decode kc_C_isHidden 32 = .ok (.iaload, 1) := by decide +kernel
theorem kd_C_isHidden_33 : decode kc_C_isHidden 33 = .ok (.if_icmp .ne 5, 3) := by decide +kernel
theorem kd_C_isHidden_36 : decode kc_C_isHidden 36 = .ok (.iconst 1, 1) := by decide +kernel
theorem kd_C_isHidden_37 : decode kc_C_isHidden 37 = .ok (.ireturn, 1) := by decide +kernel
theorem kd_C_isHidden_38 : decode kc_C_isHidden 38 = .ok (.iinc 2 1, 3) := by decide +kernel
theorem kd_C_isHidden_41 : decode kc_C_isHidden 41 = .ok (.goto (-39), 3) := by decide +kernel
theorem kd_C_isHidden_44 : decode kc_C_isHidden 44 = .ok (.iconst 0, 1) := by decide +kernel
theorem kd_C_isHidden_45 : decode kc_C_isHidden 45 = .ok (.ireturn, 1) := by decide +kernel
theorem kd_C_best_0 : decode kc_C_best 0 = .ok (.iconst 0, 1) := by decide +kernel
theorem kd_C_best_1 : decode kc_C_best 1 = .ok (.istore_n 2, 1) := by decide +kernel
theorem kd_C_best_2 : decode kc_C_best 2 = .ok (.iload_n 2, 1) := by decide +kernel
theorem kd_C_best_3 : decode kc_C_best 3 = .ok (.iload_n 1, 1) := by decide +kernel
theorem kd_C_best_4 : decode kc_C_best 4 = .ok (.if_icmp .ge 21, 3) := by decide +kernel
theorem kd_C_best_7 : decode kc_C_best 7 = .ok (.aload_n 0, 1) := by decide +kernel
theorem kd_C_best_8 : decode kc_C_best 8 = .ok (.getfield 15, 3) := by decide +kernel
theorem kd_C_best_11 : decode kc_C_best 11 = .ok (.iload_n 2, 1) := by decide +kernel
theorem kd_C_best_12 : decode kc_C_best 12 = .ok (.aload_n 0, 1) := by decide +kernel
theorem kd_C_best_13 : decode kc_C_best 13 = .ok (.iload_n 2, 1) := by decide +kernel
theorem kd_C_best_14 : decode kc_C_best 14 = .ok (.iload_n 1, 1) := by decide +kernel
theorem kd_C_best_15 : decode kc_C_best 15 = .ok (.invokevirtual 67, 3) := by decide +kernel
theorem kd_C_best_18 : decode kc_C_best 18 = .ok (.iastore, 1) := by decide +kernel
theorem kd_C_best_19 : decode kc_C_best 19 = .ok (.iinc 2 1, 3) := by decide +kernel
theorem kd_C_best_22 : decode kc_C_best 22 = .ok (.goto (-20), 3) := by decide +kernel
theorem kd_C_best_25 : decode kc_C_best 25 = .ok (.iconst (-1), 1) := by decide +kernel
theorem kd_C_best_26 : decode kc_C_best 26 = .ok (.istore_n 2, 1) := by decide +kernel
theorem kd_C_best_27 : decode kc_C_best 27 = .ok (.iconst 0, 1) := by decide +kernel
theorem kd_C_best_28 : decode kc_C_best 28 = .ok (.istore_n 3, 1) := by decide +kernel
theorem kd_C_best_29 : decode kc_C_best 29 = .ok (.iload_n 3, 1) := by decide +kernel
theorem kd_C_best_30 : decode kc_C_best 30 = .ok (.aload_n 0, 1) := by decide +kernel
theorem kd_C_best_31 : decode kc_C_best 31 = .ok (.getfield 41, 3) := by decide +kernel
theorem kd_C_best_34 : decode kc_C_best 34 = .ok (.if_icmp .ge 37, 3) := by decide +kernel
theorem kd_C_best_37 : decode kc_C_best 37 = .ok (.aload_n 0, 1) := by decide +kernel
theorem kd_C_best_38 : decode kc_C_best 38 = .ok (.aload_n 0, 1) := by decide +kernel
theorem kd_C_best_39 : decode kc_C_best 39 = .ok (.getfield 9, 3) := by decide +kernel
theorem kd_C_best_42 : decode kc_C_best 42 = .ok (.iload_n 3, 1) := by decide +kernel
theorem kd_C_best_43 : decode kc_C_best 43 = .ok (.iaload, 1) := by decide +kernel
theorem kd_C_best_44 : decode kc_C_best 44 = .ok (.iload_n 1, 1) := by decide +kernel
theorem kd_C_best_45 : decode kc_C_best 45 = .ok (.invokevirtual 71, 3) := by decide +kernel
theorem kd_C_best_48 : decode kc_C_best 48 = .ok (.ifCond .eq 17, 3) := by decide +kernel
theorem kd_C_best_51 : decode kc_C_best 51 = .ok (.iload_n 2, 1) := by decide +kernel
theorem kd_C_best_52 : decode kc_C_best 52 = .ok (.iconst (-1), 1) := by decide +kernel
theorem kd_C_best_53 : decode kc_C_best 53 = .ok (.if_icmp .eq 5, 3) := by decide +kernel
theorem kd_C_best_56 : decode kc_C_best 56 = .ok (.iconst (-1), 1) := by decide +kernel
theorem kd_C_best_57 : decode kc_C_best 57 = .ok (.ireturn, 1) := by decide +kernel
theorem kd_C_best_58 : decode kc_C_best 58 = .ok (.aload_n 0, 1) := by decide +kernel
theorem kd_C_best_59 : decode kc_C_best 59 = .ok (.getfield 9, 3) := by decide +kernel
theorem kd_C_best_62 : decode kc_C_best 62 = .ok (.iload_n 3, 1) := by decide +kernel
theorem kd_C_best_63 : decode kc_C_best 63 = .ok (.iaload, 1) := by decide +kernel
theorem kd_C_best_64 : decode kc_C_best 64 = .ok (.istore_n 2, 1) := by decide +kernel
theorem kd_C_best_65 : decode kc_C_best 65 = .ok (.iinc 3 1, 3) := by decide +kernel
theorem kd_C_best_68 : decode kc_C_best 68 = .ok (.goto (-39), 3) := by decide +kernel
theorem kd_C_best_71 : decode kc_C_best 71 = .ok (.iload_n 2, 1) := by decide +kernel
theorem kd_C_best_72 : decode kc_C_best 72 = .ok (.ireturn, 1) := by decide +kernel
theorem kd_C_lowestWeight_0 : decode kc_C_lowestWeight 0 = .ok (.aload_n 0, 1) := by decide +kernel
theorem kd_C_lowestWeight_1 : decode kc_C_lowestWeight 1 = .ok (.aload_n 0, 1) := by decide +kernel
theorem kd_C_lowestWeight_2 : decode kc_C_lowestWeight 2 = .ok (.getfield 9, 3) := by decide +kernel
theorem kd_C_lowestWeight_5 : decode kc_C_lowestWeight 5 = .ok (.iconst 0, 1) := by decide +kernel
theorem kd_C_lowestWeight_6 : decode kc_C_lowestWeight 6 = .ok (.iaload, 1) := by decide +kernel
theorem kd_C_lowestWeight_7 : decode kc_C_lowestWeight 7 = .ok (.iload_n 1, 1) := by decide +kernel
theorem kd_C_lowestWeight_8 : decode kc_C_lowestWeight 8 = .ok (.iload_n 2, 1) := by decide +kernel
theorem kd_C_lowestWeight_9 : decode kc_C_lowestWeight 9 = .ok (.invokevirtual 74, 3) := by decide +kernel
theorem kd_C_lowestWeight_12 : decode kc_C_lowestWeight 12 = .ok (.istore_n 3, 1) := by decide +kernel
theorem kd_C_lowestWeight_13 : decode kc_C_lowestWeight 13 = .ok (.iconst 1, 1) := by decide +kernel
theorem kd_C_lowestWeight_14 : decode kc_C_lowestWeight 14 = .ok (.istore 4, 2) := by decide +kernel
theorem kd_C_lowestWeight_16 : decode kc_C_lowestWeight 16 = .ok (.iload 4, 2) := by decide +kernel
theorem kd_C_lowestWeight_18 : decode kc_C_lowestWeight 18 = .ok (.aload_n 0, 1) := by decide +kernel
theorem kd_C_lowestWeight_19 : decode kc_C_lowestWeight 19 = .ok (.getfield 41, 3) := by decide +kernel
theorem kd_C_lowestWeight_22 : decode kc_C_lowestWeight 22 = .ok (.if_icmp .ge 27, 3) := by decide +kernel
theorem kd_C_lowestWeight_25 : decode kc_C_lowestWeight 25 = .ok (.iload_n 3, 1) := by decide +kernel
theorem kd_C_lowestWeight_26 : decode kc_C_lowestWeight 26 = .ok (.aload_n 0, 1) := by decide +kernel
theorem kd_C_lowestWeight_27 : decode kc_C_lowestWeight 27 = .ok (.aload_n 0, 1) := by decide +kernel
theorem kd_C_lowestWeight_28 : decode kc_C_lowestWeight 28 = .ok (.getfield 9, 3) := by decide +kernel
theorem kd_C_lowestWeight_31 : decode kc_C_lowestWeight 31 = .ok (.iload 4, 2) := by decide +kernel
theorem kd_C_lowestWeight_33 : decode kc_C_lowestWeight 33 = .ok (.iaload, 1) := by decide +kernel
theorem kd_C_lowestWeight_34 : decode kc_C_lowestWeight 34 = .ok (.iload_n 1, 1) := by decide +kernel
theorem kd_C_lowestWeight_35 : decode kc_C_lowestWeight 35 = .ok (.iload_n 2, 1) := by decide +kernel
theorem kd_C_lowestWeight_36 : decode kc_C_lowestWeight 36 = .ok (.invokevirtual 74, 3) := by decide +kernel
theorem kd_C_lowestWeight_39 : decode kc_C_lowestWeight 39 = .ok (.invokestatic 78, 3) := by decide +kernel
theorem kd_C_lowestWeight_42 : decode kc_C_lowestWeight 42 = .ok (.istore_n 3, 1) := by decide +kernel
theorem kd_C_lowestWeight_43 : decode kc_C_lowestWeight 43 = .ok (.iinc 4 1, 3) := by decide +kernel
theorem kd_C_lowestWeight_46 : decode kc_C_lowestWeight 46 = .ok (.goto (-30), 3) := by decide +kernel
theorem kd_C_lowestWeight_49 : decode kc_C_lowestWeight 49 = .ok (.iload_n 3, 1) := by decide +kernel
theorem kd_C_lowestWeight_50 : decode kc_C_lowestWeight 50 = .ok (.ireturn, 1) := by decide +kernel
theorem kd_C_weightIn_0 : decode kc_C_weightIn 0 = .ok (.aload_n 0, 1) := by decide +kernel
theorem kd_C_weightIn_1 : decode kc_C_weightIn 1 = .ok (.getfield 26, 3) := by decide +kernel
theorem kd_C_weightIn_4 : decode kc_C_weightIn 4 = .ok (.iload_n 2, 1) := by decide +kernel
theorem kd_C_weightIn_5 : decode kc_C_weightIn 5 = .ok (.aload_n 0, 1) := by decide +kernel
theorem kd_C_weightIn_6 : decode kc_C_weightIn 6 = .ok (.getfield 22, 3) := by decide +kernel
theorem kd_C_weightIn_9 : decode kc_C_weightIn 9 = .ok (.getfield 54, 3) := by decide +kernel
theorem kd_C_weightIn_12 : decode kc_C_weightIn 12 = .ok (.iload_n 1, 1) := by decide +kernel
theorem kd_C_weightIn_13 : decode kc_C_weightIn 13 = .ok (.iaload, 1) := by decide +kernel
theorem kd_C_weightIn_14 : decode kc_C_weightIn 14 = .ok (.iload_n 3, 1) := by decide +kernel
theorem kd_C_weightIn_15 : decode kc_C_weightIn 15 = .ok (.iload_n 2, 1) := by decide +kernel
theorem kd_C_weightIn_16 : decode kc_C_weightIn 16 = .ok (.invokestatic 83, 3) := by decide +kernel
theorem kd_C_weightIn_19 : decode kc_C_weightIn 19 = .ok (.invokevirtual 86, 3) := by decide +kernel
theorem kd_C_weightIn_22 : decode kc_C_weightIn 22 = .ok (.ireturn, 1) := by decide +kernel
theorem kd_J_min_0 : decode kc_J_min 0 = .ok (.iload_n 0, 1) := by decide +kernel
theorem kd_J_min_1 : decode kc_J_min 1 = .ok (.iload_n 1, 1) := by decide +kernel
theorem kd_J_min_2 : decode kc_J_min 2 = .ok (.if_icmp .gt 7, 3) := by decide +kernel
theorem kd_J_min_5 : decode kc_J_min 5 = .ok (.iload_n 0, 1) := by decide +kernel
theorem kd_J_min_6 : decode kc_J_min 6 = .ok (.goto 4, 3) := by decide +kernel
theorem kd_J_min_9 : decode kc_J_min 9 = .ok (.iload_n 1, 1) := by decide +kernel
theorem kd_J_min_10 : decode kc_J_min 10 = .ok (.ireturn, 1) := by decide +kernel
theorem kd_C_isLowest_0 : decode kc_C_isLowest 0 = .ok (.iconst 0, 1) := by decide +kernel
theorem kd_C_isLowest_1 : decode kc_C_isLowest 1 = .ok (.istore_n 3, 1) := by decide +kernel
theorem kd_C_isLowest_2 : decode kc_C_isLowest 2 = .ok (.iload_n 3, 1) := by decide +kernel
theorem kd_C_isLowest_3 : decode kc_C_isLowest 3 = .ok (.iload_n 2, 1) := by decide +kernel
theorem kd_C_isLowest_4 : decode kc_C_isLowest 4 = .ok (.if_icmp .ge 27, 3) := by decide +kernel
theorem kd_C_isLowest_7 : decode kc_C_isLowest 7 = .ok (.aload_n 0, 1) := by decide +kernel
theorem kd_C_isLowest_8 : decode kc_C_isLowest 8 = .ok (.iload_n 1, 1) := by decide +kernel
theorem kd_C_isLowest_9 : decode kc_C_isLowest 9 = .ok (.iload_n 3, 1) := by decide +kernel
theorem kd_C_isLowest_10 : decode kc_C_isLowest 10 = .ok (.iload_n 2, 1) := by decide +kernel
theorem kd_C_isLowest_11 : decode kc_C_isLowest 11 = .ok (.invokevirtual 74, 3) := by decide +kernel
theorem kd_C_isLowest_14 : decode kc_C_isLowest 14 = .ok (.aload_n 0, 1) := by decide +kernel
theorem kd_C_isLowest_15 : decode kc_C_isLowest 15 = .ok (.getfield 15, 3) := by decide +kernel
theorem kd_C_isLowest_18 : decode kc_C_isLowest 18 = .ok (.iload_n 3, 1) := by decide +kernel
theorem kd_C_isLowest_19 : decode kc_C_isLowest 19 = .ok (.iaload, 1) := by decide +kernel
theorem kd_C_isLowest_20 : decode kc_C_isLowest 20 = .ok (.if_icmp .le 5, 3) := by decide +kernel
theorem kd_C_isLowest_23 : decode kc_C_isLowest 23 = .ok (.iconst 0, 1) := by decide +kernel
theorem kd_C_isLowest_24 : decode kc_C_isLowest 24 = .ok (.ireturn, 1) := by decide +kernel
theorem kd_C_isLowest_25 : decode kc_C_isLowest 25 = .ok (.iinc 3 1, 3) := by decide +kernel
theorem kd_C_isLowest_28 : decode kc_C_isLowest 28 = .ok (.goto (-26), 3) := by decide +kernel
theorem kd_C_isLowest_31 : decode kc_C_isLowest 31 = .ok (.iconst 1, 1) := by decide +kernel
theorem kd_C_isLowest_32 : decode kc_C_isLowest 32 = .ok (.ireturn, 1) := by decide +kernel
theorem kd_D_open_0 : decode kc_D_open 0 = .ok (.aload_n 0, 1) := by decide +kernel
theorem kd_D_open_1 : decode kc_D_open 1 = .ok (.getfield 25, 3) := by decide +kernel
theorem kd_D_open_4 : decode kc_D_open 4 = .ok (.invokestatic 29, 3) := by decide +kernel
theorem kd_D_open_7 : decode kc_D_open 7 = .ok (.istore 4, 2) := by decide +kernel
theorem kd_D_open_9 : decode kc_D_open 9 = .ok (.aload_n 0, 1) := by decide +kernel
theorem kd_D_open_10 : decode kc_D_open 10 = .ok (.getfield 9, 3) := by decide +kernel
theorem kd_D_open_13 : decode kc_D_open 13 = .ok (.iload 4, 2) := by decide +kernel
theorem kd_D_open_15 : decode kc_D_open 15 = .ok (.iload_n 1, 1) := by decide +kernel
theorem kd_D_open_16 : decode kc_D_open 16 = .ok (.iastore, 1) := by decide +kernel
theorem kd_D_open_17 : decode kc_D_open 17 = .ok (.aload_n 0, 1) := by decide +kernel
theorem kd_D_open_18 : decode kc_D_open 18 = .ok (.getfield 15, 3) := by decide +kernel
theorem kd_D_open_21 : decode kc_D_open 21 = .ok (.iload 4, 2) := by decide +kernel
theorem kd_D_open_23 : decode kc_D_open 23 = .ok (.iload_n 2, 1) := by decide +kernel
theorem kd_D_open_24 : decode kc_D_open 24 = .ok (.iastore, 1) := by decide +kernel
theorem kd_D_open_25 : decode kc_D_open 25 = .ok (.aload_n 0, 1) := by decide +kernel
theorem kd_D_open_26 : decode kc_D_open 26 = .ok (.getfield 18, 3) := by decide +kernel
theorem kd_D_open_29 : decode kc_D_open 29 = .ok (.iload 4, 2) := by decide +kernel
theorem kd_D_open_31 : decode kc_D_open 31 = .ok (.iload_n 3, 1) := by decide +kernel
theorem kd_D_open_32 : decode kc_D_open 32 = .ok (.iastore, 1) := by decide +kernel
theorem kd_D_open_33 : decode kc_D_open 33 = .ok (.return_, 1) := by decide +kernel
theorem kd_D_rowOf_0 : decode kc_D_rowOf 0 = .ok (.iload_n 0, 1) := by decide +kernel
theorem kd_D_rowOf_1 : decode kc_D_rowOf 1 = .ok (.bipush 64, 2) := by decide +kernel
theorem kd_D_rowOf_3 : decode kc_D_rowOf 3 = .ok (.invokestatic 37, 3) := by decide +kernel
theorem kd_D_rowOf_6 : decode kc_D_rowOf 6 = .ok (.ireturn, 1) := by decide +kernel
theorem kd_J_floorMod_0 : decode kc_J_floorMod 0 = .ok (.iload_n 0, 1) := by decide +kernel
theorem kd_J_floorMod_1 : decode kc_J_floorMod 1 = .ok (.iload_n 1, 1) := by decide +kernel
theorem kd_J_floorMod_2 : decode kc_J_floorMod 2 = .ok (.irem, 1) := by decide +kernel
theorem kd_J_floorMod_3 : decode kc_J_floorMod 3 = .ok (.istore_n 2, 1) := by decide +kernel
theorem kd_J_floorMod_4 : decode kc_J_floorMod 4 = .ok (.iload_n 0, 1) := by decide +kernel
theorem kd_J_floorMod_5 : decode kc_J_floorMod 5 = .ok (.iload_n 1, 1) := by decide +kernel
theorem kd_J_floorMod_6 : decode kc_J_floorMod 6 = .ok (.ixor, 1) := by decide +kernel
theorem kd_J_floorMod_7 : decode kc_J_floorMod 7 = .ok (.ifCond .ge 11, 3) := by decide +kernel
theorem kd_J_floorMod_10 : decode kc_J_floorMod 10 = .ok (.iload_n 2, 1) := by decide +kernel
theorem kd_J_floorMod_11 : decode kc_J_floorMod 11 = .ok (.ifCond .eq 7, 3) := by decide +kernel
theorem kd_J_floorMod_14 : decode kc_J_floorMod 14 = .ok (.iload_n 2, 1) := by decide +kernel
theorem kd_J_floorMod_15 : decode kc_J_floorMod 15 = .ok (.iload_n 1, 1) := by decide +kernel
theorem kd_J_floorMod_16 : decode kc_J_floorMod 16 = .ok (.iadd, 1) := by decide +kernel
theorem kd_J_floorMod_17 : decode kc_J_floorMod 17 = .ok (.ireturn, 1) := by decide +kernel
theorem kd_J_floorMod_18 : decode kc_J_floorMod 18 = .ok (.iload_n 2, 1) := by decide +kernel
theorem kd_J_floorMod_19 : decode kc_J_floorMod 19 = .ok (.ireturn, 1) := by decide +kernel
theorem kd_A_convert_0 : decode kc_A_convert 0 = .ok (.iload_n 2, 1) := by decide +kernel
theorem kd_A_convert_1 : decode kc_A_convert 1 = .ok (.ifCond .ne 32, 3) := by decide +kernel
theorem kd_A_convert_4 : decode kc_A_convert 4 = .ok (.aload_n 0, 1) := by decide +kernel
theorem kd_A_convert_5 : decode kc_A_convert 5 = .ok (.getfield 9, 3) := by decide +kernel
theorem kd_A_convert_8 : decode kc_A_convert 8 = .ok (.iload_n 1, 1) := by decide +kernel
theorem kd_A_convert_9 : decode kc_A_convert 9 = .ok (.iaload, 1) := by decide +kernel
theorem kd_A_convert_10 : decode kc_A_convert 10 = .ok (.iconst 3, 1) := by decide +kernel
theorem kd_A_convert_11 : decode kc_A_convert 11 = .ok (.if_icmp .ne 15, 3) := by decide +kernel
theorem kd_A_convert_14 : decode kc_A_convert 14 = .ok (.aload_n 0, 1) := by decide +kernel
theorem kd_A_convert_15 : decode kc_A_convert 15 = .ok (.getfield 18, 3) := by decide +kernel
theorem kd_A_convert_18 : decode kc_A_convert 18 = .ok (.iload_n 1, 1) := by decide +kernel
theorem kd_A_convert_19 : decode kc_A_convert 19 = .ok (.laload, 1) := by decide +kernel
theorem kd_A_convert_20 : decode kc_A_convert 20 = .ok (.invokestatic 62, 3) := by decide +kernel
theorem kd_A_convert_23 : decode kc_A_convert 23 = .ok (.goto 9, 3) := by decide +kernel
theorem kd_A_convert_26 : decode kc_A_convert 26 = .ok (.aload_n 0, 1) := by decide +kernel
theorem kd_A_convert_27 : decode kc_A_convert 27 = .ok (.getfield 18, 3) := by decide +kernel
theorem kd_A_convert_30 : decode kc_A_convert 30 = .ok (.iload_n 1, 1) := by decide +kernel
theorem kd_A_convert_31 : decode kc_A_convert 31 = .ok (.laload, 1) := by decide +kernel
theorem kd_A_convert_32 : decode kc_A_convert 32 = .ok (.lreturn, 1) := by decide +kernel
theorem kd_A_convert_33 : decode kc_A_convert 33 = .ok (.iload_n 2, 1) := by decide +kernel
theorem kd_A_convert_34 : decode kc_A_convert 34 = .ok (.iconst 1, 1) := by decide +kernel
theorem kd_A_convert_35 : decode kc_A_convert 35 = .ok (.if_icmp .eq 8, 3) := by decide +kernel
theorem kd_A_convert_38 : decode kc_A_convert 38 = .ok (.iload_n 2, 1) := by decide +kernel
theorem kd_A_convert_39 : decode kc_A_convert 39 = .ok (.iconst 2, 1) := by decide +kernel
theorem kd_A_convert_40 : decode kc_A_convert 40 = .ok (.if_icmp .ne 13, 3) := by decide +kernel
theorem kd_A_convert_43 : decode kc_A_convert 43 = .ok (.aload_n 0, 1) := by decide +kernel
theorem kd_A_convert_44 : decode kc_A_convert 44 = .ok (.getfield 18, 3) := by decide +kernel
theorem kd_A_convert_47 : decode kc_A_convert 47 = .ok (.iload_n 1, 1) := by decide +kernel
theorem kd_A_convert_48 : decode kc_A_convert 48 = .ok (.laload, 1) := by decide +kernel
theorem kd_A_convert_49 : decode kc_A_convert 49 = .ok (.invokestatic 66, 3) := by decide +kernel
theorem kd_A_convert_52 : decode kc_A_convert 52 = .ok (.lreturn, 1) := by decide +kernel
theorem kd_A_convert_53 : decode kc_A_convert 53 = .ok (.iload_n 2, 1) := by decide +kernel
theorem kd_A_convert_54 : decode kc_A_convert 54 = .ok (.iconst 3, 1) := by decide +kernel
theorem kd_A_convert_55 : decode kc_A_convert 55 = .ok (.if_icmp .ne 10, 3) := by decide +kernel
theorem kd_A_convert_58 : decode kc_A_convert 58 = .ok (.aload_n 0, 1) := by decide +kernel
theorem kd_A_convert_59 : decode kc_A_convert 59 = .ok (.getfield 18, 3) := by decide +kernel
theorem kd_A_convert_62 : decode kc_A_convert 62 = .ok (.iload_n 1, 1) := by decide +kernel
theorem kd_A_convert_63 : decode kc_A_convert 63 = .ok (.laload, 1) := by decide +kernel
theorem kd_A_convert_64 : decode kc_A_convert 64 = .ok (.lreturn, 1) := by decide +kernel
theorem kd_A_convert_65 : decode kc_A_convert 65 = .ok (.iload_n 2, 1) := by decide +kernel
theorem kd_A_convert_66 : decode kc_A_convert 66 = .ok (.bipush 6, 2) := by decide +kernel
theorem kd_A_convert_68 : decode kc_A_convert 68 = .ok (.if_icmp .ge 11, 3) := by decide +kernel
theorem kd_A_convert_71 : decode kc_A_convert 71 = .ok (.aload_n 0, 1) := by decide +kernel
theorem kd_A_convert_72 : decode kc_A_convert 72 = .ok (.getfield 9, 3) := by decide +kernel
theorem kd_A_convert_75 : decode kc_A_convert 75 = .ok (.iload_n 1, 1) := by decide +kernel
theorem kd_A_convert_76 : decode kc_A_convert 76 = .ok (.iaload, 1) := by decide +kernel
theorem kd_A_convert_77 : decode kc_A_convert 77 = .ok (.i2l, 1) := by decide +kernel
theorem kd_A_convert_78 : decode kc_A_convert 78 = .ok (.lreturn, 1) := by decide +kernel
theorem kd_A_convert_79 : decode kc_A_convert 79 = .ok (.aload_n 0, 1) := by decide +kernel
theorem kd_A_convert_80 : decode kc_A_convert 80 = .ok (.getfield 9, 3) := by decide +kernel
theorem kd_A_convert_83 : decode kc_A_convert 83 = .ok (.iload_n 1, 1) := by decide +kernel
theorem kd_A_convert_84 : decode kc_A_convert 84 = .ok (.iaload, 1) := by decide +kernel
theorem kd_A_convert_85 : decode kc_A_convert 85 = .ok (.iconst 1, 1) := by decide +kernel
theorem kd_A_convert_86 : decode kc_A_convert 86 = .ok (.if_icmp .ne 9, 3) := by decide +kernel
theorem kd_A_convert_89 : decode kc_A_convert 89 = .ok (.ldc2_w 69, 3) := by decide +kernel
theorem kd_A_convert_92 : decode kc_A_convert 92 = .ok (.goto 9, 3) := by decide +kernel
theorem kd_A_convert_95 : decode kc_A_convert 95 = .ok (.aload_n 0, 1) := by decide +kernel
theorem kd_A_convert_96 : decode kc_A_convert 96 = .ok (.getfield 18, 3) := by decide +kernel
theorem kd_A_convert_99 : decode kc_A_convert 99 = .ok (.iload_n 1, 1) := by decide +kernel
theorem kd_A_convert_100 : decode kc_A_convert 100 = .ok (.laload, 1) := by decide +kernel
theorem kd_A_convert_101 : decode kc_A_convert 101 = .ok (.lreturn, 1) := by decide +kernel
theorem kd_N_truthOf_0 : decode kc_N_truthOf 0 = .ok (.lload_n 0, 1) := by decide +kernel
theorem kd_N_truthOf_1 : decode kc_N_truthOf 1 = .ok (.invokestatic 19, 3) := by decide +kernel
theorem kd_N_truthOf_4 : decode kc_N_truthOf 4 = .ok (.ifCond .ne 10, 3) := by decide +kernel
theorem kd_N_truthOf_7 : decode kc_N_truthOf 7 = .ok (.lload_n 0, 1) := by decide +kernel
theorem kd_N_truthOf_8 : decode kc_N_truthOf 8 = .ok (.invokestatic 31, 3) := by decide +kernel
theorem kd_N_truthOf_11 : decode kc_N_truthOf 11 = .ok (.ifCond .eq 7, 3) := by decide +kernel
theorem kd_N_truthOf_14 : decode kc_N_truthOf 14 = .ok (.lconst 0, 1) := by decide +kernel
theorem kd_N_truthOf_15 : decode kc_N_truthOf 15 = .ok (.goto 4, 3) := by decide +kernel
theorem kd_N_truthOf_18 : decode kc_N_truthOf 18 = .ok (.lconst 1, 1) := by decide +kernel
theorem kd_N_truthOf_19 : decode kc_N_truthOf 19 = .ok (.lreturn, 1) := by decide +kernel
theorem kd_N_isNan_0 : decode kc_N_isNan 0 = .ok (.lload_n 0, 1) := by decide +kernel
theorem kd_N_isNan_1 : decode kc_N_isNan 1 = .ok (.invokestatic 34, 3) := by decide +kernel
theorem kd_N_isNan_4 : decode kc_N_isNan 4 = .ok (.ldc2_w 37, 3) := by decide +kernel
theorem kd_N_isNan_7 : decode kc_N_isNan 7 = .ok (.lcmp, 1) := by decide +kernel
theorem kd_N_isNan_8 : decode kc_N_isNan 8 = .ok (.ifCond .le 7, 3) := by decide +kernel
theorem kd_N_isNan_11 : decode kc_N_isNan 11 = .ok (.iconst 1, 1) := by decide +kernel
theorem kd_N_isNan_12 : decode kc_N_isNan 12 = .ok (.goto 4, 3) := by decide +kernel
theorem kd_N_isNan_15 : decode kc_N_isNan 15 = .ok (.iconst 0, 1) := by decide +kernel
theorem kd_N_isNan_16 : decode kc_N_isNan 16 = .ok (.ireturn, 1) := by decide +kernel
theorem kd_D_setValue_0 : decode kc_D_setValue 0 = .ok (.aload_n 0, 1) := by decide +kernel
theorem kd_D_setValue_1 : decode kc_D_setValue 1 = .ok (.getfield 21, 3) := by decide +kernel
theorem kd_D_setValue_4 : decode kc_D_setValue 4 = .ok (.aload_n 0, 1) := by decide +kernel
theorem kd_D_setValue_5 : decode kc_D_setValue 5 = .ok (.getfield 25, 3) := by decide +kernel
theorem kd_D_setValue_8 : decode kc_D_setValue 8 = .ok (.invokestatic 29, 3) := by decide +kernel
theorem kd_D_setValue_11 : decode kc_D_setValue 11 = .ok (.iconst 4, 1) := by decide +kernel
theorem kd_D_setValue_12 : decode kc_D_setValue 12 = .ok (.imul, 1) := by decide +kernel
theorem kd_D_setValue_13 : decode kc_D_setValue 13 = .ok (.iload_n 1, 1) := by decide +kernel
theorem kd_D_setValue_14 : decode kc_D_setValue 14 = .ok (.iadd, 1) := by decide +kernel
theorem kd_D_setValue_15 : decode kc_D_setValue 15 = .ok (.lload_n 2, 1) := by decide +kernel
theorem kd_D_setValue_16 : decode kc_D_setValue 16 = .ok (.lastore, 1) := by decide +kernel
theorem kd_D_setValue_17 : decode kc_D_setValue 17 = .ok (.return_, 1) := by decide +kernel
theorem kd_S_next_0 : decode kc_S_next 0 = .ok (.aload_n 0, 1) := by decide +kernel
theorem kd_S_next_1 : decode kc_S_next 1 = .ok (.getfield 19, 3) := by decide +kernel
theorem kd_S_next_4 : decode kc_S_next 4 = .ok (.ifCond .ne 5, 3) := by decide +kernel
theorem kd_S_next_7 : decode kc_S_next 7 = .ok (.lconst 0, 1) := by decide +kernel
theorem kd_S_next_8 : decode kc_S_next 8 = .ok (.lreturn, 1) := by decide +kernel
theorem kd_S_next_9 : decode kc_S_next 9 = .ok (.aload_n 0, 1) := by decide +kernel
theorem kd_S_next_10 : decode kc_S_next 10 = .ok (.getfield 9, 3) := by decide +kernel
theorem kd_S_next_13 : decode kc_S_next 13 = .ok (.aload_n 0, 1) := by decide +kernel
theorem kd_S_next_14 : decode kc_S_next 14 = .ok (.getfield 15, 3) := by decide +kernel
theorem kd_S_next_17 : decode kc_S_next 17 = .ok (.laload, 1) := by decide +kernel
theorem kd_S_next_18 : decode kc_S_next 18 = .ok (.lstore_n 1, 1) := by decide +kernel
theorem kd_S_next_19 : decode kc_S_next 19 = .ok (.aload_n 0, 1) := by decide +kernel
theorem kd_S_next_20 : decode kc_S_next 20 = .ok (.aload_n 0, 1) := by decide +kernel
theorem kd_S_next_21 : decode kc_S_next 21 = .ok (.getfield 15, 3) := by decide +kernel
theorem kd_S_next_24 : decode kc_S_next 24 = .ok (.iconst 1, 1) := by decide +kernel
theorem kd_S_next_25 : decode kc_S_next 25 = .ok (.iadd, 1) := by decide +kernel
theorem kd_S_next_26 : decode kc_S_next 26 = .ok (.bipush 64, 2) := by decide +kernel
theorem kd_S_next_28 : decode kc_S_next 28 = .ok (.irem, 1) := by decide +kernel
theorem kd_S_next_29 : decode kc_S_next 29 = .ok (.putfield 15, 3) := by decide +kernel
theorem kd_S_next_32 : decode kc_S_next 32 = .ok (.aload_n 0, 1) := by decide +kernel
theorem kd_S_next_33 : decode kc_S_next 33 = .ok (.dup, 1) := by decide +kernel
theorem kd_S_next_34 : decode kc_S_next 34 = .ok (.getfield 19, 3) := by decide +kernel
theorem kd_S_next_37 : decode kc_S_next 37 = .ok (.iconst 1, 1) := by decide +kernel
theorem kd_S_next_38 : decode kc_S_next 38 = .ok (.isub, 1) := by decide +kernel
theorem kd_S_next_39 : decode kc_S_next 39 = .ok (.putfield 19, 3) := by decide +kernel
theorem kd_S_next_42 : decode kc_S_next 42 = .ok (.lload_n 1, 1) := by decide +kernel
theorem kd_S_next_43 : decode kc_S_next 43 = .ok (.lreturn, 1) := by decide +kernel
theorem kd_D_close_0 : decode kc_D_close 0 = .ok (.aload_n 0, 1) := by decide +kernel
theorem kd_D_close_1 : decode kc_D_close 1 = .ok (.lload_n 1, 1) := by decide +kernel
theorem kd_D_close_2 : decode kc_D_close 2 = .ok (.putfield 33, 3) := by decide +kernel
theorem kd_D_close_5 : decode kc_D_close 5 = .ok (.aload_n 0, 1) := by decide +kernel
theorem kd_D_close_6 : decode kc_D_close 6 = .ok (.dup, 1) := by decide +kernel
theorem kd_D_close_7 : decode kc_D_close 7 = .ok (.getfield 25, 3) := by decide +kernel
theorem kd_D_close_10 : decode kc_D_close 10 = .ok (.iconst 1, 1) := by decide +kernel
theorem kd_D_close_11 : decode kc_D_close 11 = .ok (.iadd, 1) := by decide +kernel
theorem kd_D_close_12 : decode kc_D_close 12 = .ok (.putfield 25, 3) := by decide +kernel
theorem kd_D_close_15 : decode kc_D_close 15 = .ok (.return_, 1) := by decide +kernel
theorem kd_C_first_0 : decode kc_C_first 0 = .ok (.iload_n 1, 1) := by decide +kernel
theorem kd_C_first_1 : decode kc_C_first 1 = .ok (.istore 5, 2) := by decide +kernel
theorem kd_C_first_3 : decode kc_C_first 3 = .ok (.iconst 0, 1) := by decide +kernel
theorem kd_C_first_4 : decode kc_C_first 4 = .ok (.istore 6, 2) := by decide +kernel
theorem kd_C_first_6 : decode kc_C_first 6 = .ok (.iload 6, 2) := by decide +kernel
theorem kd_C_first_8 : decode kc_C_first 8 = .ok (.bipush 16, 2) := by decide +kernel
theorem kd_C_first_10 : decode kc_C_first 10 = .ok (.if_icmp .ge 51, 3) := by decide +kernel
theorem kd_C_first_13 : decode kc_C_first 13 = .ok (.iload 5, 2) := by decide +kernel
theorem kd_C_first_15 : decode kc_C_first 15 = .ok (.iconst (-1), 1) := by decide +kernel
theorem kd_C_first_16 : decode kc_C_first 16 = .ok (.if_icmp .eq 45, 3) := by decide +kernel
theorem kd_C_first_19 : decode kc_C_first 19 = .ok (.aload_n 0, 1) := by decide +kernel
theorem kd_C_first_20 : decode kc_C_first 20 = .ok (.getfield 22, 3) := by decide +kernel
theorem kd_C_first_23 : decode kc_C_first 23 = .ok (.iload 5, 2) := by decide +kernel
theorem kd_C_first_25 : decode kc_C_first 25 = .ok (.iload_n 2, 1) := by decide +kernel
theorem kd_C_first_26 : decode kc_C_first 26 = .ok (.iload_n 3, 1) := by decide +kernel
theorem kd_C_first_27 : decode kc_C_first 27 = .ok (.iload 4, 2) := by decide +kernel
theorem kd_C_first_29 : decode kc_C_first 29 = .ok (.invokevirtual 30, 3) := by decide +kernel
theorem kd_C_first_32 : decode kc_C_first 32 = .ok (.istore 7, 2) := by decide +kernel
theorem kd_C_first_34 : decode kc_C_first 34 = .ok (.iload 7, 2) := by decide +kernel
theorem kd_C_first_36 : decode kc_C_first 36 = .ok (.iconst (-1), 1) := by decide +kernel
theorem kd_C_first_37 : decode kc_C_first 37 = .ok (.if_icmp .eq 6, 3) := by decide +kernel
theorem kd_C_first_40 : decode kc_C_first 40 = .ok (.iload 7, 2) := by decide +kernel
theorem kd_C_first_42 : decode kc_C_first 42 = .ok (.ireturn, 1) := by decide +kernel
theorem kd_C_first_43 : decode kc_C_first 43 = .ok (.aload_n 0, 1) := by decide +kernel
theorem kd_C_first_44 : decode kc_C_first 44 = .ok (.getfield 18, 3) := by decide +kernel
theorem kd_C_first_47 : decode kc_C_first 47 = .ok (.getfield 36, 3) := by decide +kernel
theorem kd_C_first_50 : decode kc_C_first 50 = .ok (.iload 5, 2) := by decide +kernel
theorem kd_C_first_52 : decode kc_C_first 52 = .ok (.iaload, 1) := by decide +kernel
theorem kd_C_first_53 : decode kc_C_first 53 = .ok (.istore 5, 2) := by decide +kernel
theorem kd_C_first_55 : decode kc_C_first 55 = .ok (.iinc 6 1, 3) := by decide +kernel
theorem kd_C_first_58 : decode kc_C_first 58 = .ok (.goto (-52), 3) := by decide +kernel
theorem kd_C_first_61 : decode kc_C_first 61 = .ok (.iconst (-1), 1) := by decide +kernel
theorem kd_C_first_62 : decode kc_C_first 62 = .ok (.ireturn, 1) := by decide +kernel
theorem kd_S_add_0 : decode kc_S_add 0 = .ok (.aload_n 0, 1) := by decide +kernel
theorem kd_S_add_1 : decode kc_S_add 1 = .ok (.getfield 9, 3) := by decide +kernel
theorem kd_S_add_4 : decode kc_S_add 4 = .ok (.aload_n 0, 1) := by decide +kernel
theorem kd_S_add_5 : decode kc_S_add 5 = .ok (.getfield 15, 3) := by decide +kernel
theorem kd_S_add_8 : decode kc_S_add 8 = .ok (.aload_n 0, 1) := by decide +kernel
theorem kd_S_add_9 : decode kc_S_add 9 = .ok (.getfield 19, 3) := by decide +kernel
theorem kd_S_add_12 : decode kc_S_add 12 = .ok (.iadd, 1) := by decide +kernel
theorem kd_S_add_13 : decode kc_S_add 13 = .ok (.bipush 64, 2) := by decide +kernel
theorem kd_S_add_15 : decode kc_S_add 15 = .ok (.irem, 1) := by decide +kernel
theorem kd_S_add_16 : decode kc_S_add 16 = .ok (.lload_n 1, 1) := by decide +kernel
theorem kd_S_add_17 : decode kc_S_add 17 = .ok (.lastore, 1) := by decide +kernel
theorem kd_S_add_18 : decode kc_S_add 18 = .ok (.aload_n 0, 1) := by decide +kernel
theorem kd_S_add_19 : decode kc_S_add 19 = .ok (.dup, 1) := by decide +kernel
theorem kd_S_add_20 : decode kc_S_add 20 = .ok (.getfield 19, 3) := by decide +kernel
theorem kd_S_add_23 : decode kc_S_add 23 = .ok (.iconst 1, 1) := by decide +kernel
theorem kd_S_add_24 : decode kc_S_add 24 = .ok (.iadd, 1) := by decide +kernel
theorem kd_S_add_25 : decode kc_S_add 25 = .ok (.putfield 19, 3) := by decide +kernel
theorem kd_S_add_28 : decode kc_S_add 28 = .ok (.return_, 1) := by decide +kernel
theorem kd_D_keeps_0 : decode kc_D_keeps 0 = .ok (.iload_n 1, 1) := by decide +kernel
theorem kd_D_keeps_1 : decode kc_D_keeps 1 = .ok (.ifCond .lt 26, 3) := by decide +kernel
theorem kd_D_keeps_4 : decode kc_D_keeps 4 = .ok (.iload_n 1, 1) := by decide +kernel
theorem kd_D_keeps_5 : decode kc_D_keeps 5 = .ok (.aload_n 0, 1) := by decide +kernel
theorem kd_D_keeps_6 : decode kc_D_keeps 6 = .ok (.getfield 25, 3) := by decide +kernel
theorem kd_D_keeps_9 : decode kc_D_keeps 9 = .ok (.if_icmp .ge 18, 3) := by decide +kernel
theorem kd_D_keeps_12 : decode kc_D_keeps 12 = .ok (.aload_n 0, 1) := by decide +kernel
theorem kd_D_keeps_13 : decode kc_D_keeps 13 = .ok (.getfield 25, 3) := by decide +kernel
theorem kd_D_keeps_16 : decode kc_D_keeps 16 = .ok (.iload_n 1, 1) := by decide +kernel
theorem kd_D_keeps_17 : decode kc_D_keeps 17 = .ok (.isub, 1) := by decide +kernel
theorem kd_D_keeps_18 : decode kc_D_keeps 18 = .ok (.bipush 64, 2) := by decide +kernel
theorem kd_D_keeps_20 : decode kc_D_keeps 20 = .ok (.if_icmp .gt 7, 3) := by decide +kernel
theorem kd_D_keeps_23 : decode kc_D_keeps 23 = .ok (.iconst 1, 1) := by decide +kernel
theorem kd_D_keeps_24 : decode kc_D_keeps 24 = .ok (.goto 4, 3) := by decide +kernel
theorem kd_D_keeps_27 : decode kc_D_keeps 27 = .ok (.iconst 0, 1) := by decide +kernel
theorem kd_D_keeps_28 : decode kc_D_keeps 28 = .ok (.ireturn, 1) := by decide +kernel
theorem kd_D_objectOf_0 : decode kc_D_objectOf 0 = .ok (.aload_n 0, 1) := by decide +kernel
theorem kd_D_objectOf_1 : decode kc_D_objectOf 1 = .ok (.getfield 9, 3) := by decide +kernel
theorem kd_D_objectOf_4 : decode kc_D_objectOf 4 = .ok (.iload_n 1, 1) := by decide +kernel
theorem kd_D_objectOf_5 : decode kc_D_objectOf 5 = .ok (.invokestatic 29, 3) := by decide +kernel
theorem kd_D_objectOf_8 : decode kc_D_objectOf 8 = .ok (.iaload, 1) := by decide +kernel
theorem kd_D_objectOf_9 : decode kc_D_objectOf 9 = .ok (.ireturn, 1) := by decide +kernel
theorem kd_D_methodOf_0 : decode kc_D_methodOf 0 = .ok (.aload_n 0, 1) := by decide +kernel
theorem kd_D_methodOf_1 : decode kc_D_methodOf 1 = .ok (.getfield 15, 3) := by decide +kernel
theorem kd_D_methodOf_4 : decode kc_D_methodOf 4 = .ok (.iload_n 1, 1) := by decide +kernel
theorem kd_D_methodOf_5 : decode kc_D_methodOf 5 = .ok (.invokestatic 29, 3) := by decide +kernel
theorem kd_D_methodOf_8 : decode kc_D_methodOf 8 = .ok (.iaload, 1) := by decide +kernel
theorem kd_D_methodOf_9 : decode kc_D_methodOf 9 = .ok (.ireturn, 1) := by decide +kernel
theorem kd_D_argumentsOf_0 : decode kc_D_argumentsOf 0 = .ok (.aload_n 0, 1) := by decide +kernel
theorem kd_D_argumentsOf_1 : decode kc_D_argumentsOf 1 = .ok (.getfield 18, 3) := by decide +kernel
theorem kd_D_argumentsOf_4 : decode kc_D_argumentsOf 4 = .ok (.iload_n 1, 1) := by decide +kernel
theorem kd_D_argumentsOf_5 : decode kc_D_argumentsOf 5 = .ok (.invokestatic 29, 3) := by decide +kernel
theorem kd_D_argumentsOf_8 : decode kc_D_argumentsOf 8 = .ok (.iaload, 1) := by decide +kernel
theorem kd_D_argumentsOf_9 : decode kc_D_argumentsOf 9 = .ok (.ireturn, 1) := by decide +kernel
theorem kd_D_valueOf_0 : decode kc_D_valueOf 0 = .ok (.aload_n 0, 1) := by decide +kernel
theorem kd_D_valueOf_1 : decode kc_D_valueOf 1 = .ok (.getfield 21, 3) := by decide +kernel
theorem kd_D_valueOf_4 : decode kc_D_valueOf 4 = .ok (.iload_n 1, 1) := by decide +kernel
theorem kd_D_valueOf_5 : decode kc_D_valueOf 5 = .ok (.invokestatic 29, 3) := by decide +kernel
theorem kd_D_valueOf_8 : decode kc_D_valueOf 8 = .ok (.iconst 4, 1) := by decide +kernel
theorem kd_D_valueOf_9 : decode kc_D_valueOf 9 = .ok (.imul, 1) := by decide +kernel
theorem kd_D_valueOf_10 : decode kc_D_valueOf 10 = .ok (.iload_n 2, 1) := by decide +kernel
theorem kd_D_valueOf_11 : decode kc_D_valueOf 11 = .ok (.iadd, 1) := by decide +kernel
theorem kd_D_valueOf_12 : decode kc_D_valueOf 12 = .ok (.laload, 1) := by decide +kernel
theorem kd_D_valueOf_13 : decode kc_D_valueOf 13 = .ok (.lreturn, 1) := by decide +kernel
end
section
/-! DECODE ROWS (written by wip/gen/names.py) -/
theorem kd_R_init_0 : decode kc_R_init 0 = .ok (.aload_n 0, 1) := by decide +kernel
theorem kd_R_init_1 : decode kc_R_init 1 = .ok (.invokespecial 1, 3) := by decide +kernel
theorem kd_R_init_4 : decode kc_R_init 4 = .ok (.aload_n 0, 1) := by decide +kernel
theorem kd_R_init_5 : decode kc_R_init 5 = .ok (.bipush 16, 2) := by decide +kernel
theorem kd_R_init_7 : decode kc_R_init 7 = .ok (.newarray .int, 2) := by decide +kernel
theorem kd_R_init_9 : decode kc_R_init 9 = .ok (.putfield 7, 3) := by decide +kernel
theorem kd_R_init_12 : decode kc_R_init 12 = .ok (.aload_n 0, 1) := by decide +kernel
theorem kd_R_init_13 : decode kc_R_init 13 = .ok (.bipush 64, 2) := by decide +kernel
theorem kd_R_init_15 : decode kc_R_init 15 = .ok (.newarray .int, 2) := by decide +kernel
theorem kd_R_init_17 : decode kc_R_init 17 = .ok (.putfield 13, 3) := by decide +kernel
theorem kd_R_init_20 : decode kc_R_init 20 = .ok (.aload_n 0, 1) := by decide +kernel
theorem kd_R_init_21 : decode kc_R_init 21 = .ok (.bipush 64, 2) := by decide +kernel
theorem kd_R_init_23 : decode kc_R_init 23 = .ok (.newarray .int, 2) := by decide +kernel
theorem kd_R_init_25 : decode kc_R_init 25 = .ok (.putfield 16, 3) := by decide +kernel
theorem kd_R_init_28 : decode kc_R_init 28 = .ok (.aload_n 0, 1) := by decide +kernel
theorem kd_R_init_29 : decode kc_R_init 29 = .ok (.bipush 64, 2) := by decide +kernel
theorem kd_R_init_31 : decode kc_R_init 31 = .ok (.newarray .int, 2) := by decide +kernel
theorem kd_R_init_33 : decode kc_R_init 33 = .ok (.putfield 19, 3) := by decide +kernel
theorem kd_R_init_36 : decode kc_R_init 36 = .ok (.aload_n 0, 1) := by decide +kernel
theorem kd_R_init_37 : decode kc_R_init 37 = .ok (.bipush 64, 2) := by decide +kernel
theorem kd_R_init_39 : decode kc_R_init 39 = .ok (.newarray .int, 2) := by decide +kernel
theorem kd_R_init_41 : decode kc_R_init 41 = .ok (.putfield 22, 3) := by decide +kernel
theorem kd_R_init_44 : decode kc_R_init 44 = .ok (.aload_n 0, 1) := by decide +kernel
theorem kd_R_init_45 : decode kc_R_init 45 = .ok (.sipush 256, 3) := by decide +kernel
theorem kd_R_init_48 : decode kc_R_init 48 = .ok (.newarray .int, 2) := by decide +kernel
theorem kd_R_init_50 : decode kc_R_init 50 = .ok (.putfield 25, 3) := by decide +kernel
theorem kd_R_init_53 : decode kc_R_init 53 = .ok (.aload_n 0, 1) := by decide +kernel
theorem kd_R_init_54 : decode kc_R_init 54 = .ok (.iconst 4, 1) := by decide +kernel
theorem kd_R_init_55 : decode kc_R_init 55 = .ok (.newarray .int, 2) := by decide +kernel
theorem kd_R_init_57 : decode kc_R_init 57 = .ok (.putfield 28, 3) := by decide +kernel
theorem kd_R_init_60 : decode kc_R_init 60 = .ok (.aload_n 0, 1) := by decide +kernel
theorem kd_R_init_61 : decode kc_R_init 61 = .ok (.iconst 4, 1) := by decide +kernel
theorem kd_R_init_62 : decode kc_R_init 62 = .ok (.newarray .long, 2) := by decide +kernel
theorem kd_R_init_64 : decode kc_R_init 64 = .ok (.putfield 31, 3) := by decide +kernel
theorem kd_R_init_67 : decode kc_R_init 67 = .ok (.aload_n 0, 1) := by decide +kernel
theorem kd_R_init_68 : decode kc_R_init 68 = .ok (.iconst 4, 1) := by decide +kernel
theorem kd_R_init_69 : decode kc_R_init 69 = .ok (.newarray .int, 2) := by decide +kernel
theorem kd_R_init_71 : decode kc_R_init 71 = .ok (.putfield 35, 3) := by decide +kernel
theorem kd_R_init_74 : decode kc_R_init 74 = .ok (.aload_n 0, 1) := by decide +kernel
theorem kd_R_init_75 : decode kc_R_init 75 = .ok (.bipush 64, 2) := by decide +kernel
theorem kd_R_init_77 : decode kc_R_init 77 = .ok (.newarray .boolean, 2) := by decide +kernel
theorem kd_R_init_79 : decode kc_R_init 79 = .ok (.putfield 38, 3) := by decide +kernel
theorem kd_R_init_82 : decode kc_R_init 82 = .ok (.aload_n 0, 1) := by decide +kernel
theorem kd_R_init_83 : decode kc_R_init 83 = .ok (.bipush 64, 2) := by decide +kernel
theorem kd_R_init_85 : decode kc_R_init 85 = .ok (.newarray .int, 2) := by decide +kernel
theorem kd_R_init_87 : decode kc_R_init 87 = .ok (.putfield 42, 3) := by decide +kernel
theorem kd_R_init_90 : decode kc_R_init 90 = .ok (.aload_n 0, 1) := by decide +kernel
theorem kd_R_init_91 : decode kc_R_init 91 = .ok (.bipush 64, 2) := by decide +kernel
theorem kd_R_init_93 : decode kc_R_init 93 = .ok (.newarray .int, 2) := by decide +kernel
theorem kd_R_init_95 : decode kc_R_init 95 = .ok (.putfield 45, 3) := by decide +kernel
theorem kd_R_init_98 : decode kc_R_init 98 = .ok (.aload_n 0, 1) := by decide +kernel
theorem kd_R_init_99 : decode kc_R_init 99 = .ok (.bipush 64, 2) := by decide +kernel
theorem kd_R_init_101 : decode kc_R_init 101 = .ok (.newarray .int, 2) := by decide +kernel
theorem kd_R_init_103 : decode kc_R_init 103 = .ok (.putfield 48, 3) := by decide +kernel
theorem kd_R_init_106 : decode kc_R_init 106 = .ok (.aload_n 0, 1) := by decide +kernel
theorem kd_R_init_107 : decode kc_R_init 107 = .ok (.sipush 256, 3) := by decide +kernel
theorem kd_R_init_110 : decode kc_R_init 110 = .ok (.newarray .long, 2) := by decide +kernel
theorem kd_R_init_112 : decode kc_R_init 112 = .ok (.putfield 51, 3) := by decide +kernel
theorem kd_R_init_115 : decode kc_R_init 115 = .ok (.aload_n 0, 1) := by decide +kernel
theorem kd_R_init_116 : decode kc_R_init 116 = .ok (.bipush 64, 2) := by decide +kernel
theorem kd_R_init_118 : decode kc_R_init 118 = .ok (.newarray .long, 2) := by decide +kernel
theorem kd_R_init_120 : decode kc_R_init 120 = .ok (.putfield 54, 3) := by decide +kernel
theorem kd_R_init_123 : decode kc_R_init 123 = .ok (.return_, 1) := by decide +kernel
theorem kd_R_thrown_0 : decode kc_R_thrown 0 = .ok (.aload_n 0, 1) := by decide +kernel
theorem kd_R_thrown_1 : decode kc_R_thrown 1 = .ok (.getfield 57, 3) := by decide +kernel
theorem kd_R_thrown_4 : decode kc_R_thrown 4 = .ok (.ireturn, 1) := by decide +kernel
theorem kd_R_klass_0 : decode kc_R_klass 0 = .ok (.iload_n 1, 1) := by decide +kernel
theorem kd_R_klass_1 : decode kc_R_klass 1 = .ok (.iconst (-1), 1) := by decide +kernel
theorem kd_R_klass_2 : decode kc_R_klass 2 = .ok (.if_icmp .eq 18, 3) := by decide +kernel
theorem kd_R_klass_5 : decode kc_R_klass 5 = .ok (.iload_n 1, 1) := by decide +kernel
theorem kd_R_klass_6 : decode kc_R_klass 6 = .ok (.aload_n 0, 1) := by decide +kernel
theorem kd_R_klass_7 : decode kc_R_klass 7 = .ok (.getfield 61, 3) := by decide +kernel
theorem kd_R_klass_10 : decode kc_R_klass 10 = .ok (.invokestatic 64, 3) := by decide +kernel
theorem kd_R_klass_13 : decode kc_R_klass 13 = .ok (.ifCond .eq 7, 3) := by decide +kernel
theorem kd_R_klass_16 : decode kc_R_klass 16 = .ok (.iconst 1, 1) := by decide +kernel
theorem kd_R_klass_17 : decode kc_R_klass 17 = .ok (.goto 4, 3) := by decide +kernel
theorem kd_R_klass_20 : decode kc_R_klass 20 = .ok (.iconst 0, 1) := by decide +kernel
theorem kd_R_klass_21 : decode kc_R_klass 21 = .ok (.istore_n 2, 1) := by decide +kernel
theorem kd_R_klass_22 : decode kc_R_klass 22 = .ok (.aload_n 0, 1) := by decide +kernel
theorem kd_R_klass_23 : decode kc_R_klass 23 = .ok (.iload_n 2, 1) := by decide +kernel
theorem kd_R_klass_24 : decode kc_R_klass 24 = .ok (.iload_n 2, 1) := by decide +kernel
theorem kd_R_klass_25 : decode kc_R_klass 25 = .ok (.ifCond .ne 16, 3) := by decide +kernel
theorem kd_R_klass_28 : decode kc_R_klass 28 = .ok (.aload_n 0, 1) := by decide +kernel
theorem kd_R_klass_29 : decode kc_R_klass 29 = .ok (.getfield 61, 3) := by decide +kernel
theorem kd_R_klass_32 : decode kc_R_klass 32 = .ok (.bipush 16, 2) := by decide +kernel
theorem kd_R_klass_34 : decode kc_R_klass 34 = .ok (.if_icmp .ne 7, 3) := by decide +kernel
theorem kd_R_klass_37 : decode kc_R_klass 37 = .ok (.iconst 1, 1) := by decide +kernel
theorem kd_R_klass_38 : decode kc_R_klass 38 = .ok (.goto 4, 3) := by decide +kernel
theorem kd_R_klass_41 : decode kc_R_klass 41 = .ok (.iconst 0, 1) := by decide +kernel
theorem kd_R_klass_42 : decode kc_R_klass 42 = .ok (.iconst 0, 1) := by decide +kernel
theorem kd_R_klass_43 : decode kc_R_klass 43 = .ok (.invokevirtual 68, 3) := by decide +kernel
theorem kd_R_klass_46 : decode kc_R_klass 46 = .ok (.ifCond .eq 5, 3) := by decide +kernel
theorem kd_R_klass_49 : decode kc_R_klass 49 = .ok (.iconst 0, 1) := by decide +kernel
theorem kd_R_klass_50 : decode kc_R_klass 50 = .ok (.ireturn, 1) := by decide +kernel
theorem kd_R_klass_51 : decode kc_R_klass 51 = .ok (.aload_n 0, 1) := by decide +kernel
theorem kd_R_klass_52 : decode kc_R_klass 52 = .ok (.getfield 7, 3) := by decide +kernel
theorem kd_R_klass_55 : decode kc_R_klass 55 = .ok (.aload_n 0, 1) := by decide +kernel
theorem kd_R_klass_56 : decode kc_R_klass 56 = .ok (.getfield 61, 3) := by decide +kernel
theorem kd_R_klass_59 : decode kc_R_klass 59 = .ok (.iload_n 1, 1) := by decide +kernel
theorem kd_R_klass_60 : decode kc_R_klass 60 = .ok (.iastore, 1) := by decide +kernel
theorem kd_R_klass_61 : decode kc_R_klass 61 = .ok (.aload_n 0, 1) := by decide +kernel
theorem kd_R_klass_62 : decode kc_R_klass 62 = .ok (.dup, 1) := by decide +kernel
theorem kd_R_klass_63 : decode kc_R_klass 63 = .ok (.getfield 61, 3) := by decide +kernel
theorem kd_R_klass_66 : decode kc_R_klass 66 = .ok (.iconst 1, 1) := by decide +kernel
theorem kd_R_klass_67 : decode kc_R_klass 67 = .ok (.iadd, 1) := by decide +kernel
theorem kd_R_klass_68 : decode kc_R_klass 68 = .ok (.putfield 61, 3) := by decide +kernel
theorem kd_R_klass_71 : decode kc_R_klass 71 = .ok (.aload_n 0, 1) := by decide +kernel
theorem kd_R_klass_72 : decode kc_R_klass 72 = .ok (.getfield 61, 3) := by decide +kernel
theorem kd_R_klass_75 : decode kc_R_klass 75 = .ok (.iconst 1, 1) := by decide +kernel
theorem kd_R_klass_76 : decode kc_R_klass 76 = .ok (.isub, 1) := by decide +kernel
theorem kd_R_klass_77 : decode kc_R_klass 77 = .ok (.ireturn, 1) := by decide +kernel
theorem kd_R_isNo_0 : decode kc_R_isNo 0 = .ok (.iload_n 0, 1) := by decide +kernel
theorem kd_R_isNo_1 : decode kc_R_isNo 1 = .ok (.ifCond .lt 8, 3) := by decide +kernel
theorem kd_R_isNo_4 : decode kc_R_isNo 4 = .ok (.iload_n 0, 1) := by decide +kernel
theorem kd_R_isNo_5 : decode kc_R_isNo 5 = .ok (.iload_n 1, 1) := by decide +kernel
theorem kd_R_isNo_6 : decode kc_R_isNo 6 = .ok (.if_icmp .lt 7, 3) := by decide +kernel
theorem kd_R_isNo_9 : decode kc_R_isNo 9 = .ok (.iconst 1, 1) := by decide +kernel
theorem kd_R_isNo_10 : decode kc_R_isNo 10 = .ok (.goto 4, 3) := by decide +kernel
theorem kd_R_isNo_13 : decode kc_R_isNo 13 = .ok (.iconst 0, 1) := by decide +kernel
theorem kd_R_isNo_14 : decode kc_R_isNo 14 = .ok (.ireturn, 1) := by decide +kernel
theorem kd_R_throwing_0 : decode kc_R_throwing 0 = .ok (.aload_n 0, 1) := by decide +kernel
theorem kd_R_throwing_1 : decode kc_R_throwing 1 = .ok (.iload_n 1, 1) := by decide +kernel
theorem kd_R_throwing_2 : decode kc_R_throwing 2 = .ok (.ifCond .eq 7, 3) := by decide +kernel
theorem kd_R_throwing_5 : decode kc_R_throwing 5 = .ok (.iconst 1, 1) := by decide +kernel
theorem kd_R_throwing_6 : decode kc_R_throwing 6 = .ok (.goto 20, 3) := by decide +kernel
theorem kd_R_throwing_9 : decode kc_R_throwing 9 = .ok (.iload_n 2, 1) := by decide +kernel
theorem kd_R_throwing_10 : decode kc_R_throwing 10 = .ok (.ifCond .eq 7, 3) := by decide +kernel
theorem kd_R_throwing_13 : decode kc_R_throwing 13 = .ok (.iconst 2, 1) := by decide +kernel
theorem kd_R_throwing_14 : decode kc_R_throwing 14 = .ok (.goto 12, 3) := by decide +kernel
theorem kd_R_throwing_17 : decode kc_R_throwing 17 = .ok (.iload_n 3, 1) := by decide +kernel
theorem kd_R_throwing_18 : decode kc_R_throwing 18 = .ok (.ifCond .eq 7, 3) := by decide +kernel
theorem kd_R_throwing_21 : decode kc_R_throwing 21 = .ok (.iconst 3, 1) := by decide +kernel
theorem kd_R_throwing_22 : decode kc_R_throwing 22 = .ok (.goto 4, 3) := by decide +kernel
theorem kd_R_throwing_25 : decode kc_R_throwing 25 = .ok (.iconst 0, 1) := by decide +kernel
theorem kd_R_throwing_26 : decode kc_R_throwing 26 = .ok (.putfield 57, 3) := by decide +kernel
theorem kd_R_throwing_29 : decode kc_R_throwing 29 = .ok (.aload_n 0, 1) := by decide +kernel
theorem kd_R_throwing_30 : decode kc_R_throwing 30 = .ok (.getfield 57, 3) := by decide +kernel
theorem kd_R_throwing_33 : decode kc_R_throwing 33 = .ok (.ifCond .le 7, 3) := by decide +kernel
theorem kd_R_throwing_36 : decode kc_R_throwing 36 = .ok (.iconst 1, 1) := by decide +kernel
theorem kd_R_throwing_37 : decode kc_R_throwing 37 = .ok (.goto 4, 3) := by decide +kernel
theorem kd_R_throwing_40 : decode kc_R_throwing 40 = .ok (.iconst 0, 1) := by decide +kernel
theorem kd_R_throwing_41 : decode kc_R_throwing 41 = .ok (.ireturn, 1) := by decide +kernel
theorem kd_R_method_0 : decode kc_R_method 0 = .ok (.iload_n 1, 1) := by decide +kernel
theorem kd_R_method_1 : decode kc_R_method 1 = .ok (.aload_n 0, 1) := by decide +kernel
theorem kd_R_method_2 : decode kc_R_method 2 = .ok (.getfield 61, 3) := by decide +kernel
theorem kd_R_method_5 : decode kc_R_method 5 = .ok (.invokestatic 64, 3) := by decide +kernel
theorem kd_R_method_8 : decode kc_R_method 8 = .ok (.ifCond .ne 36, 3) := by decide +kernel
theorem kd_R_method_11 : decode kc_R_method 11 = .ok (.iload_n 2, 1) := by decide +kernel
theorem kd_R_method_12 : decode kc_R_method 12 = .ok (.sipush 1000, 3) := by decide +kernel
theorem kd_R_method_15 : decode kc_R_method 15 = .ok (.invokestatic 64, 3) := by decide +kernel
theorem kd_R_method_18 : decode kc_R_method 18 = .ok (.ifCond .ne 26, 3) := by decide +kernel
theorem kd_R_method_21 : decode kc_R_method 21 = .ok (.iload_n 3, 1) := by decide +kernel
theorem kd_R_method_22 : decode kc_R_method 22 = .ok (.iconst 5, 1) := by decide +kernel
theorem kd_R_method_23 : decode kc_R_method 23 = .ok (.invokestatic 64, 3) := by decide +kernel
theorem kd_R_method_26 : decode kc_R_method 26 = .ok (.ifCond .ne 18, 3) := by decide +kernel
theorem kd_R_method_29 : decode kc_R_method 29 = .ok (.iload 5, 2) := by decide +kernel
theorem kd_R_method_31 : decode kc_R_method 31 = .ok (.bipush 6, 2) := by decide +kernel
theorem kd_R_method_33 : decode kc_R_method 33 = .ok (.aload_n 0, 1) := by decide +kernel
theorem kd_R_method_34 : decode kc_R_method 34 = .ok (.getfield 61, 3) := by decide +kernel
theorem kd_R_method_37 : decode kc_R_method 37 = .ok (.iadd, 1) := by decide +kernel
theorem kd_R_method_38 : decode kc_R_method 38 = .ok (.invokestatic 64, 3) := by decide +kernel
theorem kd_R_method_41 : decode kc_R_method 41 = .ok (.ifCond .eq 7, 3) := by decide +kernel
theorem kd_R_method_44 : decode kc_R_method 44 = .ok (.iconst 1, 1) := by decide +kernel
theorem kd_R_method_45 : decode kc_R_method 45 = .ok (.goto 4, 3) := by decide +kernel
theorem kd_R_method_48 : decode kc_R_method 48 = .ok (.iconst 0, 1) := by decide +kernel
theorem kd_R_method_49 : decode kc_R_method 49 = .ok (.istore 6, 2) := by decide +kernel
theorem kd_R_method_51 : decode kc_R_method 51 = .ok (.iload 6, 2) := by decide +kernel
theorem kd_R_method_53 : decode kc_R_method 53 = .ok (.ifCond .ne 13, 3) := by decide +kernel
theorem kd_R_method_56 : decode kc_R_method 56 = .ok (.aload_n 0, 1) := by decide +kernel
theorem kd_R_method_57 : decode kc_R_method 57 = .ok (.iload_n 3, 1) := by decide +kernel
theorem kd_R_method_58 : decode kc_R_method 58 = .ok (.iload 4, 2) := by decide +kernel
theorem kd_R_method_60 : decode kc_R_method 60 = .ok (.invokevirtual 75, 3) := by decide +kernel
theorem kd_R_method_63 : decode kc_R_method 63 = .ok (.ifCond .ne 7, 3) := by decide +kernel
theorem kd_R_method_66 : decode kc_R_method 66 = .ok (.iconst 1, 1) := by decide +kernel
theorem kd_R_method_67 : decode kc_R_method 67 = .ok (.goto 4, 3) := by decide +kernel
theorem kd_R_method_70 : decode kc_R_method 70 = .ok (.iconst 0, 1) := by decide +kernel
theorem kd_R_method_71 : decode kc_R_method 71 = .ok (.istore 6, 2) := by decide +kernel
theorem kd_R_method_73 : decode kc_R_method 73 = .ok (.iload 6, 2) := by decide +kernel
theorem kd_R_method_75 : decode kc_R_method 75 = .ok (.ifCond .ne 26, 3) := by decide +kernel
theorem kd_R_method_78 : decode kc_R_method 78 = .ok (.aload_n 0, 1) := by decide +kernel
theorem kd_R_method_79 : decode kc_R_method 79 = .ok (.getfield 72, 3) := by decide +kernel
theorem kd_R_method_82 : decode kc_R_method 82 = .ok (.bipush 64, 2) := by decide +kernel
theorem kd_R_method_84 : decode kc_R_method 84 = .ok (.if_icmp .eq 13, 3) := by decide +kernel
theorem kd_R_method_87 : decode kc_R_method 87 = .ok (.aload_n 0, 1) := by decide +kernel
theorem kd_R_method_88 : decode kc_R_method 88 = .ok (.iload_n 1, 1) := by decide +kernel
theorem kd_R_method_89 : decode kc_R_method 89 = .ok (.iload_n 2, 1) := by decide +kernel
theorem kd_R_method_90 : decode kc_R_method 90 = .ok (.iload_n 3, 1) := by decide +kernel
theorem kd_R_method_91 : decode kc_R_method 91 = .ok (.invokevirtual 78, 3) := by decide +kernel
theorem kd_R_method_94 : decode kc_R_method 94 = .ok (.ifCond .lt 7, 3) := by decide +kernel
theorem kd_R_method_97 : decode kc_R_method 97 = .ok (.iconst 1, 1) := by decide +kernel
theorem kd_R_method_98 : decode kc_R_method 98 = .ok (.goto 4, 3) := by decide +kernel
theorem kd_R_method_101 : decode kc_R_method 101 = .ok (.iconst 0, 1) := by decide +kernel
theorem kd_R_method_102 : decode kc_R_method 102 = .ok (.istore 7, 2) := by decide +kernel
theorem kd_R_method_104 : decode kc_R_method 104 = .ok (.aload_n 0, 1) := by decide +kernel
theorem kd_R_method_105 : decode kc_R_method 105 = .ok (.iload 6, 2) := by decide +kernel
theorem kd_R_method_107 : decode kc_R_method 107 = .ok (.iload 7, 2) := by decide +kernel
theorem kd_R_method_109 : decode kc_R_method 109 = .ok (.iconst 0, 1) := by decide +kernel
theorem kd_R_method_110 : decode kc_R_method 110 = .ok (.invokevirtual 68, 3) := by decide +kernel
theorem kd_R_method_113 : decode kc_R_method 113 = .ok (.ifCond .eq 5, 3) := by decide +kernel
theorem kd_R_method_116 : decode kc_R_method 116 = .ok (.iconst 0, 1) := by decide +kernel
theorem kd_R_method_117 : decode kc_R_method 117 = .ok (.ireturn, 1) := by decide +kernel
theorem kd_R_method_118 : decode kc_R_method 118 = .ok (.aload_n 0, 1) := by decide +kernel
theorem kd_R_method_119 : decode kc_R_method 119 = .ok (.getfield 16, 3) := by decide +kernel
theorem kd_R_method_122 : decode kc_R_method 122 = .ok (.aload_n 0, 1) := by decide +kernel
theorem kd_R_method_123 : decode kc_R_method 123 = .ok (.getfield 72, 3) := by decide +kernel
theorem kd_R_method_126 : decode kc_R_method 126 = .ok (.iload_n 1, 1) := by decide +kernel
theorem kd_R_method_127 : decode kc_R_method 127 = .ok (.iastore, 1) := by decide +kernel
theorem kd_R_method_128 : decode kc_R_method 128 = .ok (.aload_n 0, 1) := by decide +kernel
theorem kd_R_method_129 : decode kc_R_method 129 = .ok (.getfield 19, 3) := by decide +kernel
theorem kd_R_method_132 : decode kc_R_method 132 = .ok (.aload_n 0, 1) := by decide +kernel
theorem kd_R_method_133 : decode kc_R_method 133 = .ok (.getfield 72, 3) := by decide +kernel
theorem kd_R_method_136 : decode kc_R_method 136 = .ok (.iload_n 2, 1) := by decide +kernel
theorem kd_R_method_137 : decode kc_R_method 137 = .ok (.iastore, 1) := by decide +kernel
theorem kd_R_method_138 : decode kc_R_method 138 = .ok (.aload_n 0, 1) := by decide +kernel
theorem kd_R_method_139 : decode kc_R_method 139 = .ok (.getfield 22, 3) := by decide +kernel
theorem kd_R_method_142 : decode kc_R_method 142 = .ok (.aload_n 0, 1) := by decide +kernel
theorem kd_R_method_143 : decode kc_R_method 143 = .ok (.getfield 72, 3) := by decide +kernel
theorem kd_R_method_146 : decode kc_R_method 146 = .ok (.iload_n 3, 1) := by decide +kernel
theorem kd_R_method_147 : decode kc_R_method 147 = .ok (.iastore, 1) := by decide +kernel
theorem kd_R_method_148 : decode kc_R_method 148 = .ok (.iconst 0, 1) := by decide +kernel
theorem kd_R_method_149 : decode kc_R_method 149 = .ok (.istore 8, 2) := by decide +kernel
theorem kd_R_method_151 : decode kc_R_method 151 = .ok (.iload 8, 2) := by decide +kernel
theorem kd_R_method_153 : decode kc_R_method 153 = .ok (.iload_n 3, 1) := by decide +kernel
theorem kd_R_method_154 : decode kc_R_method 154 = .ok (.if_icmp .ge 30, 3) := by decide +kernel
theorem kd_R_method_157 : decode kc_R_method 157 = .ok (.aload_n 0, 1) := by decide +kernel
theorem kd_R_method_158 : decode kc_R_method 158 = .ok (.getfield 25, 3) := by decide +kernel
theorem kd_R_method_161 : decode kc_R_method 161 = .ok (.iconst 4, 1) := by decide +kernel
theorem kd_R_method_162 : decode kc_R_method 162 = .ok (.aload_n 0, 1) := by decide +kernel
theorem kd_R_method_163 : decode kc_R_method 163 = .ok (.getfield 72, 3) := by decide +kernel
theorem kd_R_method_166 : decode kc_R_method 166 = .ok (.imul, 1) := by decide +kernel
theorem kd_R_method_167 : decode kc_R_method 167 = .ok (.iload 8, 2) := by decide +kernel
theorem kd_R_method_169 : decode kc_R_method 169 = .ok (.iadd, 1) := by decide +kernel
theorem kd_R_method_170 : decode kc_R_method 170 = .ok (.aload_n 0, 1) := by decide +kernel
theorem kd_R_method_171 : decode kc_R_method 171 = .ok (.getfield 35, 3) := by decide +kernel
theorem kd_R_method_174 : decode kc_R_method 174 = .ok (.iload 8, 2) := by decide +kernel
theorem kd_R_method_176 : decode kc_R_method 176 = .ok (.iaload, 1) := by decide +kernel
theorem kd_R_method_177 : decode kc_R_method 177 = .ok (.iastore, 1) := by decide +kernel
theorem kd_R_method_178 : decode kc_R_method 178 = .ok (.iinc 8 1, 3) := by decide +kernel
theorem kd_R_method_181 : decode kc_R_method 181 = .ok (.goto (-30), 3) := by decide +kernel
theorem kd_R_method_184 : decode kc_R_method 184 = .ok (.aload_n 0, 1) := by decide +kernel
theorem kd_R_method_185 : decode kc_R_method 185 = .ok (.dup, 1) := by decide +kernel
theorem kd_R_method_186 : decode kc_R_method 186 = .ok (.getfield 72, 3) := by decide +kernel
theorem kd_R_method_189 : decode kc_R_method 189 = .ok (.iconst 1, 1) := by decide +kernel
theorem kd_R_method_190 : decode kc_R_method 190 = .ok (.iadd, 1) := by decide +kernel
theorem kd_R_method_191 : decode kc_R_method 191 = .ok (.putfield 72, 3) := by decide +kernel
theorem kd_R_method_194 : decode kc_R_method 194 = .ok (.aload_n 0, 1) := by decide +kernel
theorem kd_R_method_195 : decode kc_R_method 195 = .ok (.getfield 72, 3) := by decide +kernel
theorem kd_R_method_198 : decode kc_R_method 198 = .ok (.iconst 1, 1) := by decide +kernel
theorem kd_R_method_199 : decode kc_R_method 199 = .ok (.isub, 1) := by decide +kernel
theorem kd_R_method_200 : decode kc_R_method 200 = .ok (.ireturn, 1) := by decide +kernel
theorem kd_R_asks_0 : decode kc_R_asks 0 = .ok (.iconst 1, 1) := by decide +kernel
theorem kd_R_asks_1 : decode kc_R_asks 1 = .ok (.istore_n 3, 1) := by decide +kernel
theorem kd_R_asks_2 : decode kc_R_asks 2 = .ok (.iconst 0, 1) := by decide +kernel
theorem kd_R_asks_3 : decode kc_R_asks 3 = .ok (.istore 4, 2) := by decide +kernel
theorem kd_R_asks_5 : decode kc_R_asks 5 = .ok (.iload 4, 2) := by decide +kernel
theorem kd_R_asks_7 : decode kc_R_asks 7 = .ok (.iconst 4, 1) := by decide +kernel
theorem kd_R_asks_8 : decode kc_R_asks 8 = .ok (.if_icmp .ge 91, 3) := by decide +kernel
theorem kd_R_asks_11 : decode kc_R_asks 11 = .ok (.iload_n 2, 1) := by decide +kernel
theorem kd_R_asks_12 : decode kc_R_asks 12 = .ok (.bipush 8, 2) := by decide +kernel
theorem kd_R_asks_14 : decode kc_R_asks 14 = .ok (.iconst 3, 1) := by decide +kernel
theorem kd_R_asks_15 : decode kc_R_asks 15 = .ok (.iload 4, 2) := by decide +kernel
theorem kd_R_asks_17 : decode kc_R_asks 17 = .ok (.isub, 1) := by decide +kernel
theorem kd_R_asks_18 : decode kc_R_asks 18 = .ok (.imul, 1) := by decide +kernel
theorem kd_R_asks_19 : decode kc_R_asks 19 = .ok (.iushr, 1) := by decide +kernel
theorem kd_R_asks_20 : decode kc_R_asks 20 = .ok (.sipush 255, 3) := by decide +kernel
theorem kd_R_asks_23 : decode kc_R_asks 23 = .ok (.iand, 1) := by decide +kernel
theorem kd_R_asks_24 : decode kc_R_asks 24 = .ok (.istore 5, 2) := by decide +kernel
theorem kd_R_asks_26 : decode kc_R_asks 26 = .ok (.iload 4, 2) := by decide +kernel
theorem kd_R_asks_28 : decode kc_R_asks 28 = .ok (.iconst 4, 1) := by decide +kernel
theorem kd_R_asks_29 : decode kc_R_asks 29 = .ok (.iload_n 1, 1) := by decide +kernel
theorem kd_R_asks_30 : decode kc_R_asks 30 = .ok (.isub, 1) := by decide +kernel
theorem kd_R_asks_31 : decode kc_R_asks 31 = .ok (.isub, 1) := by decide +kernel
theorem kd_R_asks_32 : decode kc_R_asks 32 = .ok (.istore 6, 2) := by decide +kernel
theorem kd_R_asks_34 : decode kc_R_asks 34 = .ok (.iload 6, 2) := by decide +kernel
theorem kd_R_asks_36 : decode kc_R_asks 36 = .ok (.ifCond .ge 21, 3) := by decide +kernel
theorem kd_R_asks_39 : decode kc_R_asks 39 = .ok (.iload_n 3, 1) := by decide +kernel
theorem kd_R_asks_40 : decode kc_R_asks 40 = .ok (.ifCond .eq 12, 3) := by decide +kernel
theorem kd_R_asks_43 : decode kc_R_asks 43 = .ok (.iload 5, 2) := by decide +kernel
theorem kd_R_asks_45 : decode kc_R_asks 45 = .ok (.ifCond .ne 7, 3) := by decide +kernel
theorem kd_R_asks_48 : decode kc_R_asks 48 = .ok (.iconst 1, 1) := by decide +kernel
theorem kd_R_asks_49 : decode kc_R_asks 49 = .ok (.goto 4, 3) := by decide +kernel
theorem kd_R_asks_52 : decode kc_R_asks 52 = .ok (.iconst 0, 1) := by decide +kernel
theorem kd_R_asks_53 : decode kc_R_asks 53 = .ok (.istore_n 3, 1) := by decide +kernel
theorem kd_R_asks_54 : decode kc_R_asks 54 = .ok (.goto 12, 3) := by decide +kernel
theorem kd_R_asks_57 : decode kc_R_asks 57 = .ok (.aload_n 0, 1) := by decide +kernel
theorem kd_R_asks_58 : decode kc_R_asks 58 = .ok (.getfield 35, 3) := by decide +kernel
theorem kd_R_asks_61 : decode kc_R_asks 61 = .ok (.iload 6, 2) := by decide +kernel
theorem kd_R_asks_63 : decode kc_R_asks 63 = .ok (.iload 5, 2) := by decide +kernel
theorem kd_R_asks_65 : decode kc_R_asks 65 = .ok (.iastore, 1) := by decide +kernel
theorem kd_R_asks_66 : decode kc_R_asks 66 = .ok (.iload_n 3, 1) := by decide +kernel
theorem kd_R_asks_67 : decode kc_R_asks 67 = .ok (.ifCond .eq 24, 3) := by decide +kernel
theorem kd_R_asks_70 : decode kc_R_asks 70 = .ok (.iload 6, 2) := by decide +kernel
theorem kd_R_asks_72 : decode kc_R_asks 72 = .ok (.ifCond .lt 15, 3) := by decide +kernel
theorem kd_R_asks_75 : decode kc_R_asks 75 = .ok (.iload 5, 2) := by decide +kernel
theorem kd_R_asks_77 : decode kc_R_asks 77 = .ok (.bipush 6, 2) := by decide +kernel
theorem kd_R_asks_79 : decode kc_R_asks 79 = .ok (.aload_n 0, 1) := by decide +kernel
theorem kd_R_asks_80 : decode kc_R_asks 80 = .ok (.getfield 61, 3) := by decide +kernel
theorem kd_R_asks_83 : decode kc_R_asks 83 = .ok (.iadd, 1) := by decide +kernel
theorem kd_R_asks_84 : decode kc_R_asks 84 = .ok (.if_icmp .ge 7, 3) := by decide +kernel
theorem kd_R_asks_87 : decode kc_R_asks 87 = .ok (.iconst 1, 1) := by decide +kernel
theorem kd_R_asks_88 : decode kc_R_asks 88 = .ok (.goto 4, 3) := by decide +kernel
theorem kd_R_asks_91 : decode kc_R_asks 91 = .ok (.iconst 0, 1) := by decide +kernel
theorem kd_R_asks_92 : decode kc_R_asks 92 = .ok (.istore_n 3, 1) := by decide +kernel
theorem kd_R_asks_93 : decode kc_R_asks 93 = .ok (.iinc 4 1, 3) := by decide +kernel
theorem kd_R_asks_96 : decode kc_R_asks 96 = .ok (.goto (-91), 3) := by decide +kernel
theorem kd_R_asks_99 : decode kc_R_asks 99 = .ok (.iload_n 3, 1) := by decide +kernel
theorem kd_R_asks_100 : decode kc_R_asks 100 = .ok (.ireturn, 1) := by decide +kernel
theorem kd_R_methodOf_0 : decode kc_R_methodOf 0 = .ok (.iconst (-1), 1) := by decide +kernel
theorem kd_R_methodOf_1 : decode kc_R_methodOf 1 = .ok (.istore 4, 2) := by decide +kernel
theorem kd_R_methodOf_3 : decode kc_R_methodOf 3 = .ok (.iconst 0, 1) := by decide +kernel
theorem kd_R_methodOf_4 : decode kc_R_methodOf 4 = .ok (.istore 5, 2) := by decide +kernel
theorem kd_R_methodOf_6 : decode kc_R_methodOf 6 = .ok (.iload 5, 2) := by decide +kernel
theorem kd_R_methodOf_8 : decode kc_R_methodOf 8 = .ok (.aload_n 0, 1) := by decide +kernel
theorem kd_R_methodOf_9 : decode kc_R_methodOf 9 = .ok (.getfield 72, 3) := by decide +kernel
theorem kd_R_methodOf_12 : decode kc_R_methodOf 12 = .ok (.if_icmp .ge 112, 3) := by decide +kernel
theorem kd_R_methodOf_15 : decode kc_R_methodOf 15 = .ok (.aload_n 0, 1) := by decide +kernel
theorem kd_R_methodOf_16 : decode kc_R_methodOf 16 = .ok (.getfield 16, 3) := by decide +kernel
theorem kd_R_methodOf_19 : decode kc_R_methodOf 19 = .ok (.iload 5, 2) := by decide +kernel
theorem kd_R_methodOf_21 : decode kc_R_methodOf 21 = .ok (.iaload, 1) := by decide +kernel
theorem kd_R_methodOf_22 : decode kc_R_methodOf 22 = .ok (.iload_n 1, 1) := by decide +kernel
theorem kd_R_methodOf_23 : decode kc_R_methodOf 23 = .ok (.if_icmp .ne 29, 3) := by decide +kernel
theorem kd_R_methodOf_26 : decode kc_R_methodOf 26 = .ok (.aload_n 0, 1) := by decide +kernel
theorem kd_R_methodOf_27 : decode kc_R_methodOf 27 = .ok (.getfield 19, 3) := by decide +kernel
theorem kd_R_methodOf_30 : decode kc_R_methodOf 30 = .ok (.iload 5, 2) := by decide +kernel
theorem kd_R_methodOf_32 : decode kc_R_methodOf 32 = .ok (.iaload, 1) := by decide +kernel
theorem kd_R_methodOf_33 : decode kc_R_methodOf 33 = .ok (.iload_n 2, 1) := by decide +kernel
theorem kd_R_methodOf_34 : decode kc_R_methodOf 34 = .ok (.if_icmp .ne 18, 3) := by decide +kernel
theorem kd_R_methodOf_37 : decode kc_R_methodOf 37 = .ok (.aload_n 0, 1) := by decide +kernel
theorem kd_R_methodOf_38 : decode kc_R_methodOf 38 = .ok (.getfield 22, 3) := by decide +kernel
theorem kd_R_methodOf_41 : decode kc_R_methodOf 41 = .ok (.iload 5, 2) := by decide +kernel
theorem kd_R_methodOf_43 : decode kc_R_methodOf 43 = .ok (.iaload, 1) := by decide +kernel
theorem kd_R_methodOf_44 : decode kc_R_methodOf 44 = .ok (.iload_n 3, 1) := by decide +kernel
theorem kd_R_methodOf_45 : decode kc_R_methodOf 45 = .ok (.if_icmp .ne 7, 3) := by decide +kernel
theorem kd_R_methodOf_48 : decode kc_R_methodOf 48 = .ok (.iconst 1, 1) := by decide +kernel
theorem kd_R_methodOf_49 : decode kc_R_methodOf 49 = .ok (.goto 4, 3) := by decide +kernel
theorem kd_R_methodOf_52 : decode kc_R_methodOf 52 = .ok (.iconst 0, 1) := by decide +kernel
theorem kd_R_methodOf_53 : decode kc_R_methodOf 53 = .ok (.istore 6, 2) := by decide +kernel
theorem kd_R_methodOf_55 : decode kc_R_methodOf 55 = .ok (.iconst 0, 1) := by decide +kernel
theorem kd_R_methodOf_56 : decode kc_R_methodOf 56 = .ok (.istore 7, 2) := by decide +kernel
theorem kd_R_methodOf_58 : decode kc_R_methodOf 58 = .ok (.iload 7, 2) := by decide +kernel
theorem kd_R_methodOf_60 : decode kc_R_methodOf 60 = .ok (.iload_n 3, 1) := by decide +kernel
theorem kd_R_methodOf_61 : decode kc_R_methodOf 61 = .ok (.if_icmp .ge 43, 3) := by decide +kernel
theorem kd_R_methodOf_64 : decode kc_R_methodOf 64 = .ok (.iload 6, 2) := by decide +kernel
theorem kd_R_methodOf_66 : decode kc_R_methodOf 66 = .ok (.ifCond .eq 29, 3) := by decide +kernel
theorem kd_R_methodOf_69 : decode kc_R_methodOf 69 = .ok (.aload_n 0, 1) := by decide +kernel
theorem kd_R_methodOf_70 : decode kc_R_methodOf 70 = .ok (.getfield 25, 3) := by decide +kernel
theorem kd_R_methodOf_73 : decode kc_R_methodOf 73 = .ok (.iconst 4, 1) := by decide +kernel
theorem kd_R_methodOf_74 : decode kc_R_methodOf 74 = .ok (.iload 5, 2) := by decide +kernel
theorem kd_R_methodOf_76 : decode kc_R_methodOf 76 = .ok (.imul, 1) := by decide +kernel
theorem kd_R_methodOf_77 : decode kc_R_methodOf 77 = .ok (.iload 7, 2) := by decide +kernel
theorem kd_R_methodOf_79 : decode kc_R_methodOf 79 = .ok (.iadd, 1) := by decide +kernel
theorem kd_R_methodOf_80 : decode kc_R_methodOf 80 = .ok (.iaload, 1) := by decide +kernel
theorem kd_R_methodOf_81 : decode kc_R_methodOf 81 = .ok (.aload_n 0, 1) := by decide +kernel
theorem kd_R_methodOf_82 : decode kc_R_methodOf 82 = .ok (.getfield 35, 3) := by decide +kernel
theorem kd_R_methodOf_85 : decode kc_R_methodOf 85 = .ok (.iload 7, 2) := by decide +kernel
theorem kd_R_methodOf_87 : decode kc_R_methodOf 87 = .ok (.iaload, 1) := by decide +kernel
theorem kd_R_methodOf_88 : decode kc_R_methodOf 88 = .ok (.if_icmp .ne 7, 3) := by decide +kernel
theorem kd_R_methodOf_91 : decode kc_R_methodOf 91 = .ok (.iconst 1, 1) := by decide +kernel
theorem kd_R_methodOf_92 : decode kc_R_methodOf 92 = .ok (.goto 4, 3) := by decide +kernel
theorem kd_R_methodOf_95 : decode kc_R_methodOf 95 = .ok (.iconst 0, 1) := by decide +kernel
theorem kd_R_methodOf_96 : decode kc_R_methodOf 96 = .ok (.istore 6, 2) := by decide +kernel
theorem kd_R_methodOf_98 : decode kc_R_methodOf 98 = .ok (.iinc 7 1, 3) := by decide +kernel
theorem kd_R_methodOf_101 : decode kc_R_methodOf 101 = .ok (.goto (-43), 3) := by decide +kernel
theorem kd_R_methodOf_104 : decode kc_R_methodOf 104 = .ok (.iload 6, 2) := by decide +kernel
theorem kd_R_methodOf_106 : decode kc_R_methodOf 106 = .ok (.ifCond .eq 8, 3) := by decide +kernel
theorem kd_R_methodOf_109 : decode kc_R_methodOf 109 = .ok (.iload 5, 2) := by decide +kernel
theorem kd_R_methodOf_111 : decode kc_R_methodOf 111 = .ok (.goto 5, 3) := by decide +kernel
theorem kd_R_methodOf_114 : decode kc_R_methodOf 114 = .ok (.iload 4, 2) := by decide +kernel
theorem kd_R_methodOf_116 : decode kc_R_methodOf 116 = .ok (.istore 4, 2) := by decide +kernel
theorem kd_R_methodOf_118 : decode kc_R_methodOf 118 = .ok (.iinc 5 1, 3) := by decide +kernel
theorem kd_R_methodOf_121 : decode kc_R_methodOf 121 = .ok (.goto (-115), 3) := by decide +kernel
theorem kd_R_methodOf_124 : decode kc_R_methodOf 124 = .ok (.iload 4, 2) := by decide +kernel
theorem kd_R_methodOf_126 : decode kc_R_methodOf 126 = .ok (.ireturn, 1) := by decide +kernel
theorem kd_R_object_0 : decode kc_R_object 0 = .ok (.iload_n 1, 1) := by decide +kernel
theorem kd_R_object_1 : decode kc_R_object 1 = .ok (.aload_n 0, 1) := by decide +kernel
theorem kd_R_object_2 : decode kc_R_object 2 = .ok (.getfield 61, 3) := by decide +kernel
theorem kd_R_object_5 : decode kc_R_object 5 = .ok (.invokestatic 64, 3) := by decide +kernel
theorem kd_R_object_8 : decode kc_R_object 8 = .ok (.istore_n 2, 1) := by decide +kernel
theorem kd_R_object_9 : decode kc_R_object 9 = .ok (.aload_n 0, 1) := by decide +kernel
theorem kd_R_object_10 : decode kc_R_object 10 = .ok (.iload_n 2, 1) := by decide +kernel
theorem kd_R_object_11 : decode kc_R_object 11 = .ok (.iload_n 2, 1) := by decide +kernel
theorem kd_R_object_12 : decode kc_R_object 12 = .ok (.ifCond .ne 16, 3) := by decide +kernel
theorem kd_R_object_15 : decode kc_R_object 15 = .ok (.aload_n 0, 1) := by decide +kernel
theorem kd_R_object_16 : decode kc_R_object 16 = .ok (.getfield 82, 3) := by decide +kernel
theorem kd_R_object_19 : decode kc_R_object 19 = .ok (.bipush 64, 2) := by decide +kernel
theorem kd_R_object_21 : decode kc_R_object 21 = .ok (.if_icmp .ne 7, 3) := by decide +kernel
theorem kd_R_object_24 : decode kc_R_object 24 = .ok (.iconst 1, 1) := by decide +kernel
theorem kd_R_object_25 : decode kc_R_object 25 = .ok (.goto 4, 3) := by decide +kernel
theorem kd_R_object_28 : decode kc_R_object 28 = .ok (.iconst 0, 1) := by decide +kernel
theorem kd_R_object_29 : decode kc_R_object 29 = .ok (.iconst 0, 1) := by decide +kernel
theorem kd_R_object_30 : decode kc_R_object 30 = .ok (.invokevirtual 68, 3) := by decide +kernel
theorem kd_R_object_33 : decode kc_R_object 33 = .ok (.ifCond .eq 5, 3) := by decide +kernel
theorem kd_R_object_36 : decode kc_R_object 36 = .ok (.iconst 0, 1) := by decide +kernel
theorem kd_R_object_37 : decode kc_R_object 37 = .ok (.ireturn, 1) := by decide +kernel
theorem kd_R_object_38 : decode kc_R_object 38 = .ok (.aload_n 0, 1) := by decide +kernel
theorem kd_R_object_39 : decode kc_R_object 39 = .ok (.getfield 13, 3) := by decide +kernel
theorem kd_R_object_42 : decode kc_R_object 42 = .ok (.aload_n 0, 1) := by decide +kernel
theorem kd_R_object_43 : decode kc_R_object 43 = .ok (.getfield 82, 3) := by decide +kernel
theorem kd_R_object_46 : decode kc_R_object 46 = .ok (.iload_n 1, 1) := by decide +kernel
theorem kd_R_object_47 : decode kc_R_object 47 = .ok (.iastore, 1) := by decide +kernel
theorem kd_R_object_48 : decode kc_R_object 48 = .ok (.aload_n 0, 1) := by decide +kernel
theorem kd_R_object_49 : decode kc_R_object 49 = .ok (.dup, 1) := by decide +kernel
theorem kd_R_object_50 : decode kc_R_object 50 = .ok (.getfield 82, 3) := by decide +kernel
theorem kd_R_object_53 : decode kc_R_object 53 = .ok (.iconst 1, 1) := by decide +kernel
theorem kd_R_object_54 : decode kc_R_object 54 = .ok (.iadd, 1) := by decide +kernel
theorem kd_R_object_55 : decode kc_R_object 55 = .ok (.putfield 82, 3) := by decide +kernel
theorem kd_R_object_58 : decode kc_R_object 58 = .ok (.aload_n 0, 1) := by decide +kernel
theorem kd_R_object_59 : decode kc_R_object 59 = .ok (.getfield 82, 3) := by decide +kernel
theorem kd_R_object_62 : decode kc_R_object 62 = .ok (.iconst 1, 1) := by decide +kernel
theorem kd_R_object_63 : decode kc_R_object 63 = .ok (.isub, 1) := by decide +kernel
theorem kd_R_object_64 : decode kc_R_object 64 = .ok (.ireturn, 1) := by decide +kernel
theorem kd_R_argument_0 : decode kc_R_argument 0 = .ok (.iload_n 1, 1) := by decide +kernel
theorem kd_R_argument_1 : decode kc_R_argument 1 = .ok (.bipush 7, 2) := by decide +kernel
theorem kd_R_argument_3 : decode kc_R_argument 3 = .ok (.invokestatic 64, 3) := by decide +kernel
theorem kd_R_argument_6 : decode kc_R_argument 6 = .ok (.ifCond .ne 58, 3) := by decide +kernel
theorem kd_R_argument_9 : decode kc_R_argument 9 = .ok (.iload_n 1, 1) := by decide +kernel
theorem kd_R_argument_10 : decode kc_R_argument 10 = .ok (.iconst 2, 1) := by decide +kernel
theorem kd_R_argument_11 : decode kc_R_argument 11 = .ok (.if_icmp .ne 15, 3) := by decide +kernel
theorem kd_R_argument_14 : decode kc_R_argument 14 = .ok (.lload_n 2, 1) := by decide +kernel
theorem kd_R_argument_15 : decode kc_R_argument 15 = .ok (.lconst 0, 1) := by decide +kernel
theorem kd_R_argument_16 : decode kc_R_argument 16 = .ok (.lcmp, 1) := by decide +kernel
theorem kd_R_argument_17 : decode kc_R_argument 17 = .ok (.ifCond .eq 9, 3) := by decide +kernel
theorem kd_R_argument_20 : decode kc_R_argument 20 = .ok (.lload_n 2, 1) := by decide +kernel
theorem kd_R_argument_21 : decode kc_R_argument 21 = .ok (.lconst 1, 1) := by decide +kernel
theorem kd_R_argument_22 : decode kc_R_argument 22 = .ok (.lcmp, 1) := by decide +kernel
theorem kd_R_argument_23 : decode kc_R_argument 23 = .ok (.ifCond .ne 41, 3) := by decide +kernel
theorem kd_R_argument_26 : decode kc_R_argument 26 = .ok (.iload_n 1, 1) := by decide +kernel
theorem kd_R_argument_27 : decode kc_R_argument 27 = .ok (.iconst 4, 1) := by decide +kernel
theorem kd_R_argument_28 : decode kc_R_argument 28 = .ok (.if_icmp .eq 9, 3) := by decide +kernel
theorem kd_R_argument_31 : decode kc_R_argument 31 = .ok (.iload_n 1, 1) := by decide +kernel
theorem kd_R_argument_32 : decode kc_R_argument 32 = .ok (.bipush 6, 2) := by decide +kernel
theorem kd_R_argument_34 : decode kc_R_argument 34 = .ok (.if_icmp .ne 9, 3) := by decide +kernel
theorem kd_R_argument_37 : decode kc_R_argument 37 = .ok (.lload_n 2, 1) := by decide +kernel
theorem kd_R_argument_38 : decode kc_R_argument 38 = .ok (.lconst 0, 1) := by decide +kernel
theorem kd_R_argument_39 : decode kc_R_argument 39 = .ok (.lcmp, 1) := by decide +kernel
theorem kd_R_argument_40 : decode kc_R_argument 40 = .ok (.ifCond .lt 24, 3) := by decide +kernel
theorem kd_R_argument_43 : decode kc_R_argument 43 = .ok (.iload_n 1, 1) := by decide +kernel
theorem kd_R_argument_44 : decode kc_R_argument 44 = .ok (.iconst 5, 1) := by decide +kernel
theorem kd_R_argument_45 : decode kc_R_argument 45 = .ok (.if_icmp .ne 23, 3) := by decide +kernel
theorem kd_R_argument_48 : decode kc_R_argument 48 = .ok (.lload_n 2, 1) := by decide +kernel
theorem kd_R_argument_49 : decode kc_R_argument 49 = .ok (.lconst 0, 1) := by decide +kernel
theorem kd_R_argument_50 : decode kc_R_argument 50 = .ok (.lcmp, 1) := by decide +kernel
theorem kd_R_argument_51 : decode kc_R_argument 51 = .ok (.ifCond .lt 13, 3) := by decide +kernel
theorem kd_R_argument_54 : decode kc_R_argument 54 = .ok (.lload_n 2, 1) := by decide +kernel
theorem kd_R_argument_55 : decode kc_R_argument 55 = .ok (.aload_n 0, 1) := by decide +kernel
theorem kd_R_argument_56 : decode kc_R_argument 56 = .ok (.getfield 82, 3) := by decide +kernel
theorem kd_R_argument_59 : decode kc_R_argument 59 = .ok (.i2l, 1) := by decide +kernel
theorem kd_R_argument_60 : decode kc_R_argument 60 = .ok (.lcmp, 1) := by decide +kernel
theorem kd_R_argument_61 : decode kc_R_argument 61 = .ok (.ifCond .lt 7, 3) := by decide +kernel
theorem kd_R_argument_64 : decode kc_R_argument 64 = .ok (.iconst 1, 1) := by decide +kernel
theorem kd_R_argument_65 : decode kc_R_argument 65 = .ok (.goto 4, 3) := by decide +kernel
theorem kd_R_argument_68 : decode kc_R_argument 68 = .ok (.iconst 0, 1) := by decide +kernel
theorem kd_R_argument_69 : decode kc_R_argument 69 = .ok (.istore 4, 2) := by decide +kernel
theorem kd_R_argument_71 : decode kc_R_argument 71 = .ok (.aload_n 0, 1) := by decide +kernel
theorem kd_R_argument_72 : decode kc_R_argument 72 = .ok (.iload 4, 2) := by decide +kernel
theorem kd_R_argument_74 : decode kc_R_argument 74 = .ok (.iload 4, 2) := by decide +kernel
theorem kd_R_argument_76 : decode kc_R_argument 76 = .ok (.ifCond .ne 15, 3) := by decide +kernel
theorem kd_R_argument_79 : decode kc_R_argument 79 = .ok (.aload_n 0, 1) := by decide +kernel
theorem kd_R_argument_80 : decode kc_R_argument 80 = .ok (.getfield 85, 3) := by decide +kernel
theorem kd_R_argument_83 : decode kc_R_argument 83 = .ok (.iconst 4, 1) := by decide +kernel
theorem kd_R_argument_84 : decode kc_R_argument 84 = .ok (.if_icmp .ne 7, 3) := by decide +kernel
theorem kd_R_argument_87 : decode kc_R_argument 87 = .ok (.iconst 1, 1) := by decide +kernel
theorem kd_R_argument_88 : decode kc_R_argument 88 = .ok (.goto 4, 3) := by decide +kernel
theorem kd_R_argument_91 : decode kc_R_argument 91 = .ok (.iconst 0, 1) := by decide +kernel
theorem kd_R_argument_92 : decode kc_R_argument 92 = .ok (.iconst 0, 1) := by decide +kernel
theorem kd_R_argument_93 : decode kc_R_argument 93 = .ok (.invokevirtual 68, 3) := by decide +kernel
theorem kd_R_argument_96 : decode kc_R_argument 96 = .ok (.ifCond .eq 5, 3) := by decide +kernel
theorem kd_R_argument_99 : decode kc_R_argument 99 = .ok (.iconst 0, 1) := by decide +kernel
theorem kd_R_argument_100 : decode kc_R_argument 100 = .ok (.ireturn, 1) := by decide +kernel
theorem kd_R_argument_101 : decode kc_R_argument 101 = .ok (.aload_n 0, 1) := by decide +kernel
theorem kd_R_argument_102 : decode kc_R_argument 102 = .ok (.getfield 28, 3) := by decide +kernel
theorem kd_R_argument_105 : decode kc_R_argument 105 = .ok (.aload_n 0, 1) := by decide +kernel
theorem kd_R_argument_106 : decode kc_R_argument 106 = .ok (.getfield 85, 3) := by decide +kernel
theorem kd_R_argument_109 : decode kc_R_argument 109 = .ok (.iload_n 1, 1) := by decide +kernel
theorem kd_R_argument_110 : decode kc_R_argument 110 = .ok (.iastore, 1) := by decide +kernel
theorem kd_R_argument_111 : decode kc_R_argument 111 = .ok (.aload_n 0, 1) := by decide +kernel
theorem kd_R_argument_112 : decode kc_R_argument 112 = .ok (.getfield 31, 3) := by decide +kernel
theorem kd_R_argument_115 : decode kc_R_argument 115 = .ok (.aload_n 0, 1) := by decide +kernel
theorem kd_R_argument_116 : decode kc_R_argument 116 = .ok (.getfield 85, 3) := by decide +kernel
theorem kd_R_argument_119 : decode kc_R_argument 119 = .ok (.lload_n 2, 1) := by decide +kernel
theorem kd_R_argument_120 : decode kc_R_argument 120 = .ok (.lastore, 1) := by decide +kernel
theorem kd_R_argument_121 : decode kc_R_argument 121 = .ok (.aload_n 0, 1) := by decide +kernel
theorem kd_R_argument_122 : decode kc_R_argument 122 = .ok (.dup, 1) := by decide +kernel
theorem kd_R_argument_123 : decode kc_R_argument 123 = .ok (.getfield 85, 3) := by decide +kernel
theorem kd_R_argument_126 : decode kc_R_argument 126 = .ok (.iconst 1, 1) := by decide +kernel
theorem kd_R_argument_127 : decode kc_R_argument 127 = .ok (.iadd, 1) := by decide +kernel
theorem kd_R_argument_128 : decode kc_R_argument 128 = .ok (.putfield 85, 3) := by decide +kernel
theorem kd_R_argument_131 : decode kc_R_argument 131 = .ok (.aload_n 0, 1) := by decide +kernel
theorem kd_R_argument_132 : decode kc_R_argument 132 = .ok (.getfield 85, 3) := by decide +kernel
theorem kd_R_argument_135 : decode kc_R_argument 135 = .ok (.ireturn, 1) := by decide +kernel
theorem kd_R_weight_0 : decode kc_R_weight 0 = .ok (.aload_n 0, 1) := by decide +kernel
theorem kd_R_weight_1 : decode kc_R_weight 1 = .ok (.iload_n 1, 1) := by decide +kernel
theorem kd_R_weight_2 : decode kc_R_weight 2 = .ok (.aload_n 0, 1) := by decide +kernel
theorem kd_R_weight_3 : decode kc_R_weight 3 = .ok (.getfield 85, 3) := by decide +kernel
theorem kd_R_weight_6 : decode kc_R_weight 6 = .ok (.invokestatic 64, 3) := by decide +kernel
theorem kd_R_weight_9 : decode kc_R_weight 9 = .ok (.ifCond .ne 17, 3) := by decide +kernel
theorem kd_R_weight_12 : decode kc_R_weight 12 = .ok (.iload_n 2, 1) := by decide +kernel
theorem kd_R_weight_13 : decode kc_R_weight 13 = .ok (.bipush 6, 2) := by decide +kernel
theorem kd_R_weight_15 : decode kc_R_weight 15 = .ok (.aload_n 0, 1) := by decide +kernel
theorem kd_R_weight_16 : decode kc_R_weight 16 = .ok (.getfield 61, 3) := by decide +kernel
theorem kd_R_weight_19 : decode kc_R_weight 19 = .ok (.iadd, 1) := by decide +kernel
theorem kd_R_weight_20 : decode kc_R_weight 20 = .ok (.invokestatic 64, 3) := by decide +kernel
theorem kd_R_weight_23 : decode kc_R_weight 23 = .ok (.ifCond .eq 7, 3) := by decide +kernel
theorem kd_R_weight_26 : decode kc_R_weight 26 = .ok (.iconst 1, 1) := by decide +kernel
theorem kd_R_weight_27 : decode kc_R_weight 27 = .ok (.goto 4, 3) := by decide +kernel
theorem kd_R_weight_30 : decode kc_R_weight 30 = .ok (.iconst 0, 1) := by decide +kernel
theorem kd_R_weight_31 : decode kc_R_weight 31 = .ok (.iconst 0, 1) := by decide +kernel
theorem kd_R_weight_32 : decode kc_R_weight 32 = .ok (.iconst 0, 1) := by decide +kernel
theorem kd_R_weight_33 : decode kc_R_weight 33 = .ok (.invokevirtual 68, 3) := by decide +kernel
theorem kd_R_weight_36 : decode kc_R_weight 36 = .ok (.ifCond .eq 7, 3) := by decide +kernel
theorem kd_R_weight_39 : decode kc_R_weight 39 = .ok (.iconst 0, 1) := by decide +kernel
theorem kd_R_weight_40 : decode kc_R_weight 40 = .ok (.goto 9, 3) := by decide +kernel
theorem kd_R_weight_43 : decode kc_R_weight 43 = .ok (.aload_n 0, 1) := by decide +kernel
theorem kd_R_weight_44 : decode kc_R_weight 44 = .ok (.iload_n 1, 1) := by decide +kernel
theorem kd_R_weight_45 : decode kc_R_weight 45 = .ok (.iload_n 2, 1) := by decide +kernel
theorem kd_R_weight_46 : decode kc_R_weight 46 = .ok (.invokevirtual 118, 3) := by decide +kernel
theorem kd_R_weight_49 : decode kc_R_weight 49 = .ok (.ireturn, 1) := by decide +kernel
theorem kd_R_weightOf_0 : decode kc_R_weightOf 0 = .ok (.aload_n 0, 1) := by decide +kernel
theorem kd_R_weightOf_1 : decode kc_R_weightOf 1 = .ok (.getfield 28, 3) := by decide +kernel
theorem kd_R_weightOf_4 : decode kc_R_weightOf 4 = .ok (.iload_n 1, 1) := by decide +kernel
theorem kd_R_weightOf_5 : decode kc_R_weightOf 5 = .ok (.iaload, 1) := by decide +kernel
theorem kd_R_weightOf_6 : decode kc_R_weightOf 6 = .ok (.istore_n 3, 1) := by decide +kernel
theorem kd_R_weightOf_7 : decode kc_R_weightOf 7 = .ok (.iload_n 3, 1) := by decide +kernel
theorem kd_R_weightOf_8 : decode kc_R_weightOf 8 = .ok (.iconst 3, 1) := by decide +kernel
theorem kd_R_weightOf_9 : decode kc_R_weightOf 9 = .ok (.if_icmp .ne 14, 3) := by decide +kernel
theorem kd_R_weightOf_12 : decode kc_R_weightOf 12 = .ok (.aload_n 0, 1) := by decide +kernel
theorem kd_R_weightOf_13 : decode kc_R_weightOf 13 = .ok (.getfield 31, 3) := by decide +kernel
theorem kd_R_weightOf_16 : decode kc_R_weightOf 16 = .ok (.iload_n 1, 1) := by decide +kernel
theorem kd_R_weightOf_17 : decode kc_R_weightOf 17 = .ok (.laload, 1) := by decide +kernel
theorem kd_R_weightOf_18 : decode kc_R_weightOf 18 = .ok (.iload_n 2, 1) := by decide +kernel
theorem kd_R_weightOf_19 : decode kc_R_weightOf 19 = .ok (.invokestatic 114, 3) := by decide +kernel
theorem kd_R_weightOf_22 : decode kc_R_weightOf 22 = .ok (.ireturn, 1) := by decide +kernel
theorem kd_R_weightOf_23 : decode kc_R_weightOf 23 = .ok (.iload_n 2, 1) := by decide +kernel
theorem kd_R_weightOf_24 : decode kc_R_weightOf 24 = .ok (.iconst 4, 1) := by decide +kernel
theorem kd_R_weightOf_25 : decode kc_R_weightOf 25 = .ok (.if_icmp .ne 42, 3) := by decide +kernel
theorem kd_R_weightOf_28 : decode kc_R_weightOf 28 = .ok (.iload_n 3, 1) := by decide +kernel
theorem kd_R_weightOf_29 : decode kc_R_weightOf 29 = .ok (.ifCond .ne 8, 3) := by decide +kernel
theorem kd_R_weightOf_32 : decode kc_R_weightOf 32 = .ok (.bipush 41, 2) := by decide +kernel
theorem kd_R_weightOf_34 : decode kc_R_weightOf 34 = .ok (.goto 32, 3) := by decide +kernel
theorem kd_R_weightOf_37 : decode kc_R_weightOf 37 = .ok (.iload_n 3, 1) := by decide +kernel
theorem kd_R_weightOf_38 : decode kc_R_weightOf 38 = .ok (.iconst 1, 1) := by decide +kernel
theorem kd_R_weightOf_39 : decode kc_R_weightOf 39 = .ok (.if_icmp .ne 7, 3) := by decide +kernel
theorem kd_R_weightOf_42 : decode kc_R_weightOf 42 = .ok (.iconst 2, 1) := by decide +kernel
theorem kd_R_weightOf_43 : decode kc_R_weightOf 43 = .ok (.goto 23, 3) := by decide +kernel
theorem kd_R_weightOf_46 : decode kc_R_weightOf 46 = .ok (.iload_n 3, 1) := by decide +kernel
theorem kd_R_weightOf_47 : decode kc_R_weightOf 47 = .ok (.iconst 2, 1) := by decide +kernel
theorem kd_R_weightOf_48 : decode kc_R_weightOf 48 = .ok (.if_icmp .ne 7, 3) := by decide +kernel
theorem kd_R_weightOf_51 : decode kc_R_weightOf 51 = .ok (.iconst 3, 1) := by decide +kernel
theorem kd_R_weightOf_52 : decode kc_R_weightOf 52 = .ok (.goto 14, 3) := by decide +kernel
theorem kd_R_weightOf_55 : decode kc_R_weightOf 55 = .ok (.iload_n 3, 1) := by decide +kernel
theorem kd_R_weightOf_56 : decode kc_R_weightOf 56 = .ok (.iconst 4, 1) := by decide +kernel
theorem kd_R_weightOf_57 : decode kc_R_weightOf 57 = .ok (.if_icmp .ne 7, 3) := by decide +kernel
theorem kd_R_weightOf_60 : decode kc_R_weightOf 60 = .ok (.iconst 0, 1) := by decide +kernel
theorem kd_R_weightOf_61 : decode kc_R_weightOf 61 = .ok (.goto 5, 3) := by decide +kernel
theorem kd_R_weightOf_64 : decode kc_R_weightOf 64 = .ok (.bipush 40, 2) := by decide +kernel
theorem kd_R_weightOf_66 : decode kc_R_weightOf 66 = .ok (.ireturn, 1) := by decide +kernel
theorem kd_R_weightOf_67 : decode kc_R_weightOf 67 = .ok (.iload_n 2, 1) := by decide +kernel
theorem kd_R_weightOf_68 : decode kc_R_weightOf 68 = .ok (.iconst 5, 1) := by decide +kernel
theorem kd_R_weightOf_69 : decode kc_R_weightOf 69 = .ok (.if_icmp .ne 29, 3) := by decide +kernel
theorem kd_R_weightOf_72 : decode kc_R_weightOf 72 = .ok (.iload_n 3, 1) := by decide +kernel
theorem kd_R_weightOf_73 : decode kc_R_weightOf 73 = .ok (.iconst 2, 1) := by decide +kernel
theorem kd_R_weightOf_74 : decode kc_R_weightOf 74 = .ok (.if_icmp .eq 8, 3) := by decide +kernel
theorem kd_R_weightOf_77 : decode kc_R_weightOf 77 = .ok (.iload_n 3, 1) := by decide +kernel
theorem kd_R_weightOf_78 : decode kc_R_weightOf 78 = .ok (.iconst 4, 1) := by decide +kernel
theorem kd_R_weightOf_79 : decode kc_R_weightOf 79 = .ok (.if_icmp .ne 7, 3) := by decide +kernel
theorem kd_R_weightOf_82 : decode kc_R_weightOf 82 = .ok (.iconst 2, 1) := by decide +kernel
theorem kd_R_weightOf_83 : decode kc_R_weightOf 83 = .ok (.goto 14, 3) := by decide +kernel
theorem kd_R_weightOf_86 : decode kc_R_weightOf 86 = .ok (.iload_n 3, 1) := by decide +kernel
theorem kd_R_weightOf_87 : decode kc_R_weightOf 87 = .ok (.iconst 5, 1) := by decide +kernel
theorem kd_R_weightOf_88 : decode kc_R_weightOf 88 = .ok (.if_icmp .ne 8, 3) := by decide +kernel
theorem kd_R_weightOf_91 : decode kc_R_weightOf 91 = .ok (.bipush 20, 2) := by decide +kernel
theorem kd_R_weightOf_93 : decode kc_R_weightOf 93 = .ok (.goto 4, 3) := by decide +kernel
theorem kd_R_weightOf_96 : decode kc_R_weightOf 96 = .ok (.iconst 0, 1) := by decide +kernel
theorem kd_R_weightOf_97 : decode kc_R_weightOf 97 = .ok (.ireturn, 1) := by decide +kernel
theorem kd_R_weightOf_98 : decode kc_R_weightOf 98 = .ok (.iload_n 2, 1) := by decide +kernel
theorem kd_R_weightOf_99 : decode kc_R_weightOf 99 = .ok (.ifCond .ne 14, 3) := by decide +kernel
theorem kd_R_weightOf_102 : decode kc_R_weightOf 102 = .ok (.iload_n 3, 1) := by decide +kernel
theorem kd_R_weightOf_103 : decode kc_R_weightOf 103 = .ok (.iconst 2, 1) := by decide +kernel
theorem kd_R_weightOf_104 : decode kc_R_weightOf 104 = .ok (.if_icmp .ne 7, 3) := by decide +kernel
theorem kd_R_weightOf_107 : decode kc_R_weightOf 107 = .ok (.iconst 0, 1) := by decide +kernel
theorem kd_R_weightOf_108 : decode kc_R_weightOf 108 = .ok (.goto 4, 3) := by decide +kernel
theorem kd_R_weightOf_111 : decode kc_R_weightOf 111 = .ok (.iconst (-1), 1) := by decide +kernel
theorem kd_R_weightOf_112 : decode kc_R_weightOf 112 = .ok (.ireturn, 1) := by decide +kernel
theorem kd_R_weightOf_113 : decode kc_R_weightOf 113 = .ok (.iload_n 2, 1) := by decide +kernel
theorem kd_R_weightOf_114 : decode kc_R_weightOf 114 = .ok (.bipush 6, 2) := by decide +kernel
theorem kd_R_weightOf_116 : decode kc_R_weightOf 116 = .ok (.if_icmp .lt 13, 3) := by decide +kernel
theorem kd_R_weightOf_119 : decode kc_R_weightOf 119 = .ok (.iload_n 3, 1) := by decide +kernel
theorem kd_R_weightOf_120 : decode kc_R_weightOf 120 = .ok (.iconst 1, 1) := by decide +kernel
theorem kd_R_weightOf_121 : decode kc_R_weightOf 121 = .ok (.if_icmp .eq 10, 3) := by decide +kernel
theorem kd_R_weightOf_124 : decode kc_R_weightOf 124 = .ok (.iload_n 3, 1) := by decide +kernel
theorem kd_R_weightOf_125 : decode kc_R_weightOf 125 = .ok (.iconst 5, 1) := by decide +kernel
theorem kd_R_weightOf_126 : decode kc_R_weightOf 126 = .ok (.if_icmp .eq 5, 3) := by decide +kernel
theorem kd_R_weightOf_129 : decode kc_R_weightOf 129 = .ok (.iconst (-1), 1) := by decide +kernel
theorem kd_R_weightOf_130 : decode kc_R_weightOf 130 = .ok (.ireturn, 1) := by decide +kernel
theorem kd_R_weightOf_131 : decode kc_R_weightOf 131 = .ok (.iload_n 3, 1) := by decide +kernel
theorem kd_R_weightOf_132 : decode kc_R_weightOf 132 = .ok (.iconst 1, 1) := by decide +kernel
theorem kd_R_weightOf_133 : decode kc_R_weightOf 133 = .ok (.if_icmp .ne 5, 3) := by decide +kernel
theorem kd_R_weightOf_136 : decode kc_R_weightOf 136 = .ok (.iconst 1, 1) := by decide +kernel
theorem kd_R_weightOf_137 : decode kc_R_weightOf 137 = .ok (.ireturn, 1) := by decide +kernel
theorem kd_R_weightOf_138 : decode kc_R_weightOf 138 = .ok (.iconst 0, 1) := by decide +kernel
theorem kd_R_weightOf_139 : decode kc_R_weightOf 139 = .ok (.istore 4, 2) := by decide +kernel
theorem kd_R_weightOf_141 : decode kc_R_weightOf 141 = .ok (.aload_n 0, 1) := by decide +kernel
theorem kd_R_weightOf_142 : decode kc_R_weightOf 142 = .ok (.getfield 13, 3) := by decide +kernel
theorem kd_R_weightOf_145 : decode kc_R_weightOf 145 = .ok (.aload_n 0, 1) := by decide +kernel
theorem kd_R_weightOf_146 : decode kc_R_weightOf 146 = .ok (.getfield 31, 3) := by decide +kernel
theorem kd_R_weightOf_149 : decode kc_R_weightOf 149 = .ok (.iload_n 1, 1) := by decide +kernel
theorem kd_R_weightOf_150 : decode kc_R_weightOf 150 = .ok (.laload, 1) := by decide +kernel
theorem kd_R_weightOf_151 : decode kc_R_weightOf 151 = .ok (.l2i, 1) := by decide +kernel
theorem kd_R_weightOf_152 : decode kc_R_weightOf 152 = .ok (.iaload, 1) := by decide +kernel
theorem kd_R_weightOf_153 : decode kc_R_weightOf 153 = .ok (.istore 5, 2) := by decide +kernel
theorem kd_R_weightOf_155 : decode kc_R_weightOf 155 = .ok (.iload 5, 2) := by decide +kernel
theorem kd_R_weightOf_157 : decode kc_R_weightOf 157 = .ok (.ifCond .lt 27, 3) := by decide +kernel
theorem kd_R_weightOf_160 : decode kc_R_weightOf 160 = .ok (.iload 5, 2) := by decide +kernel
theorem kd_R_weightOf_162 : decode kc_R_weightOf 162 = .ok (.iload_n 2, 1) := by decide +kernel
theorem kd_R_weightOf_163 : decode kc_R_weightOf 163 = .ok (.bipush 6, 2) := by decide +kernel
theorem kd_R_weightOf_165 : decode kc_R_weightOf 165 = .ok (.isub, 1) := by decide +kernel
theorem kd_R_weightOf_166 : decode kc_R_weightOf 166 = .ok (.if_icmp .eq 18, 3) := by decide +kernel
theorem kd_R_weightOf_169 : decode kc_R_weightOf 169 = .ok (.aload_n 0, 1) := by decide +kernel
theorem kd_R_weightOf_170 : decode kc_R_weightOf 170 = .ok (.getfield 7, 3) := by decide +kernel
theorem kd_R_weightOf_173 : decode kc_R_weightOf 173 = .ok (.iload 5, 2) := by decide +kernel
theorem kd_R_weightOf_175 : decode kc_R_weightOf 175 = .ok (.iaload, 1) := by decide +kernel
theorem kd_R_weightOf_176 : decode kc_R_weightOf 176 = .ok (.istore 5, 2) := by decide +kernel
theorem kd_R_weightOf_178 : decode kc_R_weightOf 178 = .ok (.iinc 4 1, 3) := by decide +kernel
theorem kd_R_weightOf_181 : decode kc_R_weightOf 181 = .ok (.goto (-26), 3) := by decide +kernel
theorem kd_R_weightOf_184 : decode kc_R_weightOf 184 = .ok (.iload 5, 2) := by decide +kernel
theorem kd_R_weightOf_186 : decode kc_R_weightOf 186 = .ok (.ifCond .ge 7, 3) := by decide +kernel
theorem kd_R_weightOf_189 : decode kc_R_weightOf 189 = .ok (.iconst (-1), 1) := by decide +kernel
theorem kd_R_weightOf_190 : decode kc_R_weightOf 190 = .ok (.goto 5, 3) := by decide +kernel
theorem kd_R_weightOf_193 : decode kc_R_weightOf 193 = .ok (.iload 4, 2) := by decide +kernel
theorem kd_R_weightOf_195 : decode kc_R_weightOf 195 = .ok (.ireturn, 1) := by decide +kernel
theorem kd_R_weightOfNumber_0 : decode kc_R_weightOfNumber 0 = .ok (.iload_n 2, 1) := by decide +kernel
theorem kd_R_weightOfNumber_1 : decode kc_R_weightOfNumber 1 = .ok (.ifCond .ne 6, 3) := by decide +kernel
theorem kd_R_weightOfNumber_4 : decode kc_R_weightOfNumber 4 = .ok (.bipush 6, 2) := by decide +kernel
theorem kd_R_weightOfNumber_6 : decode kc_R_weightOfNumber 6 = .ok (.ireturn, 1) := by decide +kernel
theorem kd_R_weightOfNumber_7 : decode kc_R_weightOfNumber 7 = .ok (.iload_n 2, 1) := by decide +kernel
theorem kd_R_weightOfNumber_8 : decode kc_R_weightOfNumber 8 = .ok (.iconst 3, 1) := by decide +kernel
theorem kd_R_weightOfNumber_9 : decode kc_R_weightOfNumber 9 = .ok (.if_icmp .le 23, 3) := by decide +kernel
theorem kd_R_weightOfNumber_12 : decode kc_R_weightOfNumber 12 = .ok (.iload_n 2, 1) := by decide +kernel
theorem kd_R_weightOfNumber_13 : decode kc_R_weightOfNumber 13 = .ok (.iconst 4, 1) := by decide +kernel
theorem kd_R_weightOfNumber_14 : decode kc_R_weightOfNumber 14 = .ok (.if_icmp .ne 7, 3) := by decide +kernel
theorem kd_R_weightOfNumber_17 : decode kc_R_weightOfNumber 17 = .ok (.iconst 5, 1) := by decide +kernel
theorem kd_R_weightOfNumber_18 : decode kc_R_weightOfNumber 18 = .ok (.goto 13, 3) := by decide +kernel
theorem kd_R_weightOfNumber_21 : decode kc_R_weightOfNumber 21 = .ok (.iload_n 2, 1) := by decide +kernel
theorem kd_R_weightOfNumber_22 : decode kc_R_weightOfNumber 22 = .ok (.iconst 5, 1) := by decide +kernel
theorem kd_R_weightOfNumber_23 : decode kc_R_weightOfNumber 23 = .ok (.if_icmp .ne 7, 3) := by decide +kernel
theorem kd_R_weightOfNumber_26 : decode kc_R_weightOfNumber 26 = .ok (.iconst 4, 1) := by decide +kernel
theorem kd_R_weightOfNumber_27 : decode kc_R_weightOfNumber 27 = .ok (.goto 4, 3) := by decide +kernel
theorem kd_R_weightOfNumber_30 : decode kc_R_weightOfNumber 30 = .ok (.iconst (-1), 1) := by decide +kernel
theorem kd_R_weightOfNumber_31 : decode kc_R_weightOfNumber 31 = .ok (.ireturn, 1) := by decide +kernel
theorem kd_R_weightOfNumber_32 : decode kc_R_weightOfNumber 32 = .ok (.lload_n 0, 1) := by decide +kernel
theorem kd_R_weightOfNumber_33 : decode kc_R_weightOfNumber 33 = .ok (.invokestatic 102, 3) := by decide +kernel
theorem kd_R_weightOfNumber_36 : decode kc_R_weightOfNumber 36 = .ok (.lstore_n 3, 1) := by decide +kernel
theorem kd_R_weightOfNumber_37 : decode kc_R_weightOfNumber 37 = .ok (.lload_n 3, 1) := by decide +kernel
theorem kd_R_weightOfNumber_38 : decode kc_R_weightOfNumber 38 = .ok (.ldc2_w 94, 3) := by decide +kernel
theorem kd_R_weightOfNumber_41 : decode kc_R_weightOfNumber 41 = .ok (.lcmp, 1) := by decide +kernel
theorem kd_R_weightOfNumber_42 : decode kc_R_weightOfNumber 42 = .ok (.ifCond .eq 30, 3) := by decide +kernel
theorem kd_R_weightOfNumber_45 : decode kc_R_weightOfNumber 45 = .ok (.lload_n 3, 1) := by decide +kernel
theorem kd_R_weightOfNumber_46 : decode kc_R_weightOfNumber 46 = .ok (.ldc2_w 106, 3) := by decide +kernel
theorem kd_R_weightOfNumber_49 : decode kc_R_weightOfNumber 49 = .ok (.lcmp, 1) := by decide +kernel
theorem kd_R_weightOfNumber_50 : decode kc_R_weightOfNumber 50 = .ok (.ifCond .lt 22, 3) := by decide +kernel
theorem kd_R_weightOfNumber_53 : decode kc_R_weightOfNumber 53 = .ok (.lload_n 3, 1) := by decide +kernel
theorem kd_R_weightOfNumber_54 : decode kc_R_weightOfNumber 54 = .ok (.ldc2_w 108, 3) := by decide +kernel
theorem kd_R_weightOfNumber_57 : decode kc_R_weightOfNumber 57 = .ok (.lcmp, 1) := by decide +kernel
theorem kd_R_weightOfNumber_58 : decode kc_R_weightOfNumber 58 = .ok (.ifCond .gt 14, 3) := by decide +kernel
theorem kd_R_weightOfNumber_61 : decode kc_R_weightOfNumber 61 = .ok (.lload_n 0, 1) := by decide +kernel
theorem kd_R_weightOfNumber_62 : decode kc_R_weightOfNumber 62 = .ok (.invokestatic 110, 3) := by decide +kernel
theorem kd_R_weightOfNumber_65 : decode kc_R_weightOfNumber 65 = .ok (.ifCond .ne 7, 3) := by decide +kernel
theorem kd_R_weightOfNumber_68 : decode kc_R_weightOfNumber 68 = .ok (.iconst 1, 1) := by decide +kernel
theorem kd_R_weightOfNumber_69 : decode kc_R_weightOfNumber 69 = .ok (.goto 4, 3) := by decide +kernel
theorem kd_R_weightOfNumber_72 : decode kc_R_weightOfNumber 72 = .ok (.iconst 0, 1) := by decide +kernel
theorem kd_R_weightOfNumber_73 : decode kc_R_weightOfNumber 73 = .ok (.istore 5, 2) := by decide +kernel
theorem kd_R_weightOfNumber_75 : decode kc_R_weightOfNumber 75 = .ok (.iload 5, 2) := by decide +kernel
theorem kd_R_weightOfNumber_77 : decode kc_R_weightOfNumber 77 = .ok (.ifCond .eq 7, 3) := by decide +kernel
theorem kd_R_weightOfNumber_80 : decode kc_R_weightOfNumber 80 = .ok (.iload_n 2, 1) := by decide +kernel
theorem kd_R_weightOfNumber_81 : decode kc_R_weightOfNumber 81 = .ok (.iconst 1, 1) := by decide +kernel
theorem kd_R_weightOfNumber_82 : decode kc_R_weightOfNumber 82 = .ok (.isub, 1) := by decide +kernel
theorem kd_R_weightOfNumber_83 : decode kc_R_weightOfNumber 83 = .ok (.ireturn, 1) := by decide +kernel
theorem kd_R_weightOfNumber_84 : decode kc_R_weightOfNumber 84 = .ok (.lload_n 3, 1) := by decide +kernel
theorem kd_R_weightOfNumber_85 : decode kc_R_weightOfNumber 85 = .ok (.ldc2_w 94, 3) := by decide +kernel
theorem kd_R_weightOfNumber_88 : decode kc_R_weightOfNumber 88 = .ok (.lcmp, 1) := by decide +kernel
theorem kd_R_weightOfNumber_89 : decode kc_R_weightOfNumber 89 = .ok (.ifCond .eq 16, 3) := by decide +kernel
theorem kd_R_weightOfNumber_92 : decode kc_R_weightOfNumber 92 = .ok (.iload_n 2, 1) := by decide +kernel
theorem kd_R_weightOfNumber_93 : decode kc_R_weightOfNumber 93 = .ok (.iconst 1, 1) := by decide +kernel
theorem kd_R_weightOfNumber_94 : decode kc_R_weightOfNumber 94 = .ok (.if_icmp .ne 7, 3) := by decide +kernel
theorem kd_R_weightOfNumber_97 : decode kc_R_weightOfNumber 97 = .ok (.iconst (-1), 1) := by decide +kernel
theorem kd_R_weightOfNumber_98 : decode kc_R_weightOfNumber 98 = .ok (.goto 6, 3) := by decide +kernel
theorem kd_R_weightOfNumber_101 : decode kc_R_weightOfNumber 101 = .ok (.iload_n 2, 1) := by decide +kernel
theorem kd_R_weightOfNumber_102 : decode kc_R_weightOfNumber 102 = .ok (.iconst 2, 1) := by decide +kernel
theorem kd_R_weightOfNumber_103 : decode kc_R_weightOfNumber 103 = .ok (.isub, 1) := by decide +kernel
theorem kd_R_weightOfNumber_104 : decode kc_R_weightOfNumber 104 = .ok (.ireturn, 1) := by decide +kernel
theorem kd_R_weightOfNumber_105 : decode kc_R_weightOfNumber 105 = .ok (.iload_n 2, 1) := by decide +kernel
theorem kd_R_weightOfNumber_106 : decode kc_R_weightOfNumber 106 = .ok (.iconst 3, 1) := by decide +kernel
theorem kd_R_weightOfNumber_107 : decode kc_R_weightOfNumber 107 = .ok (.if_icmp .ne 7, 3) := by decide +kernel
theorem kd_R_weightOfNumber_110 : decode kc_R_weightOfNumber 110 = .ok (.iconst 0, 1) := by decide +kernel
theorem kd_R_weightOfNumber_111 : decode kc_R_weightOfNumber 111 = .ok (.goto 4, 3) := by decide +kernel
theorem kd_R_weightOfNumber_114 : decode kc_R_weightOfNumber 114 = .ok (.iconst (-1), 1) := by decide +kernel
theorem kd_R_weightOfNumber_115 : decode kc_R_weightOfNumber 115 = .ok (.ireturn, 1) := by decide +kernel
theorem kd_R_wholeOf_0 : decode kc_R_wholeOf 0 = .ok (.ldc2_w 88, 3) := by decide +kernel
theorem kd_R_wholeOf_3 : decode kc_R_wholeOf 3 = .ok (.lstore_n 2, 1) := by decide +kernel
theorem kd_R_wholeOf_4 : decode kc_R_wholeOf 4 = .ok (.lload_n 0, 1) := by decide +kernel
theorem kd_R_wholeOf_5 : decode kc_R_wholeOf 5 = .ok (.bipush 52, 2) := by decide +kernel
theorem kd_R_wholeOf_7 : decode kc_R_wholeOf 7 = .ok (.lushr, 1) := by decide +kernel
theorem kd_R_wholeOf_8 : decode kc_R_wholeOf 8 = .ok (.ldc2_w 90, 3) := by decide +kernel
theorem kd_R_wholeOf_11 : decode kc_R_wholeOf 11 = .ok (.land, 1) := by decide +kernel
theorem kd_R_wholeOf_12 : decode kc_R_wholeOf 12 = .ok (.l2i, 1) := by decide +kernel
theorem kd_R_wholeOf_13 : decode kc_R_wholeOf 13 = .ok (.istore 4, 2) := by decide +kernel
theorem kd_R_wholeOf_15 : decode kc_R_wholeOf 15 = .ok (.lload_n 0, 1) := by decide +kernel
theorem kd_R_wholeOf_16 : decode kc_R_wholeOf 16 = .ok (.ldc2_w 92, 3) := by decide +kernel
theorem kd_R_wholeOf_19 : decode kc_R_wholeOf 19 = .ok (.land, 1) := by decide +kernel
theorem kd_R_wholeOf_20 : decode kc_R_wholeOf 20 = .ok (.lstore 5, 2) := by decide +kernel
theorem kd_R_wholeOf_22 : decode kc_R_wholeOf 22 = .ok (.iload 4, 2) := by decide +kernel
theorem kd_R_wholeOf_24 : decode kc_R_wholeOf 24 = .ok (.ifCond .ne 18, 3) := by decide +kernel
theorem kd_R_wholeOf_27 : decode kc_R_wholeOf 27 = .ok (.lload 5, 2) := by decide +kernel
theorem kd_R_wholeOf_29 : decode kc_R_wholeOf 29 = .ok (.lconst 0, 1) := by decide +kernel
theorem kd_R_wholeOf_30 : decode kc_R_wholeOf 30 = .ok (.lcmp, 1) := by decide +kernel
theorem kd_R_wholeOf_31 : decode kc_R_wholeOf 31 = .ok (.ifCond .ne 7, 3) := by decide +kernel
theorem kd_R_wholeOf_34 : decode kc_R_wholeOf 34 = .ok (.lconst 0, 1) := by decide +kernel
theorem kd_R_wholeOf_35 : decode kc_R_wholeOf 35 = .ok (.goto 6, 3) := by decide +kernel
theorem kd_R_wholeOf_38 : decode kc_R_wholeOf 38 = .ok (.ldc2_w 94, 3) := by decide +kernel
theorem kd_R_wholeOf_41 : decode kc_R_wholeOf 41 = .ok (.lreturn, 1) := by decide +kernel
theorem kd_R_wholeOf_42 : decode kc_R_wholeOf 42 = .ok (.lload 5, 2) := by decide +kernel
theorem kd_R_wholeOf_44 : decode kc_R_wholeOf 44 = .ok (.ldc2_w 96, 3) := by decide +kernel
theorem kd_R_wholeOf_47 : decode kc_R_wholeOf 47 = .ok (.ladd, 1) := by decide +kernel
theorem kd_R_wholeOf_48 : decode kc_R_wholeOf 48 = .ok (.lstore 5, 2) := by decide +kernel
theorem kd_R_wholeOf_50 : decode kc_R_wholeOf 50 = .ok (.iload 4, 2) := by decide +kernel
theorem kd_R_wholeOf_52 : decode kc_R_wholeOf 52 = .ok (.sipush 1075, 3) := by decide +kernel
theorem kd_R_wholeOf_55 : decode kc_R_wholeOf 55 = .ok (.if_icmp .ge 32, 3) := by decide +kernel
theorem kd_R_wholeOf_58 : decode kc_R_wholeOf 58 = .ok (.lload 5, 2) := by decide +kernel
theorem kd_R_wholeOf_60 : decode kc_R_wholeOf 60 = .ok (.ldc2_w 98, 3) := by decide +kernel
theorem kd_R_wholeOf_63 : decode kc_R_wholeOf 63 = .ok (.lrem, 1) := by decide +kernel
theorem kd_R_wholeOf_64 : decode kc_R_wholeOf 64 = .ok (.lconst 0, 1) := by decide +kernel
theorem kd_R_wholeOf_65 : decode kc_R_wholeOf 65 = .ok (.lcmp, 1) := by decide +kernel
theorem kd_R_wholeOf_66 : decode kc_R_wholeOf 66 = .ok (.ifCond .eq 7, 3) := by decide +kernel
theorem kd_R_wholeOf_69 : decode kc_R_wholeOf 69 = .ok (.ldc2_w 94, 3) := by decide +kernel
theorem kd_R_wholeOf_72 : decode kc_R_wholeOf 72 = .ok (.lreturn, 1) := by decide +kernel
theorem kd_R_wholeOf_73 : decode kc_R_wholeOf 73 = .ok (.lload 5, 2) := by decide +kernel
theorem kd_R_wholeOf_75 : decode kc_R_wholeOf 75 = .ok (.ldc2_w 98, 3) := by decide +kernel
theorem kd_R_wholeOf_78 : decode kc_R_wholeOf 78 = .ok (.ldiv, 1) := by decide +kernel
theorem kd_R_wholeOf_79 : decode kc_R_wholeOf 79 = .ok (.lstore 5, 2) := by decide +kernel
theorem kd_R_wholeOf_81 : decode kc_R_wholeOf 81 = .ok (.iinc 4 1, 3) := by decide +kernel
theorem kd_R_wholeOf_84 : decode kc_R_wholeOf 84 = .ok (.goto (-34), 3) := by decide +kernel
theorem kd_R_wholeOf_87 : decode kc_R_wholeOf 87 = .ok (.iload 4, 2) := by decide +kernel
theorem kd_R_wholeOf_89 : decode kc_R_wholeOf 89 = .ok (.sipush 1075, 3) := by decide +kernel
theorem kd_R_wholeOf_92 : decode kc_R_wholeOf 92 = .ok (.if_icmp .le 28, 3) := by decide +kernel
theorem kd_R_wholeOf_95 : decode kc_R_wholeOf 95 = .ok (.ldc2_w 98, 3) := by decide +kernel
theorem kd_R_wholeOf_98 : decode kc_R_wholeOf 98 = .ok (.lload 5, 2) := by decide +kernel
theorem kd_R_wholeOf_100 : decode kc_R_wholeOf 100 = .ok (.lmul, 1) := by decide +kernel
theorem kd_R_wholeOf_101 : decode kc_R_wholeOf 101 = .ok (.lstore 5, 2) := by decide +kernel
theorem kd_R_wholeOf_103 : decode kc_R_wholeOf 103 = .ok (.lload 5, 2) := by decide +kernel
theorem kd_R_wholeOf_105 : decode kc_R_wholeOf 105 = .ok (.lload_n 2, 1) := by decide +kernel
theorem kd_R_wholeOf_106 : decode kc_R_wholeOf 106 = .ok (.lcmp, 1) := by decide +kernel
theorem kd_R_wholeOf_107 : decode kc_R_wholeOf 107 = .ok (.ifCond .le 7, 3) := by decide +kernel
theorem kd_R_wholeOf_110 : decode kc_R_wholeOf 110 = .ok (.ldc2_w 94, 3) := by decide +kernel
theorem kd_R_wholeOf_113 : decode kc_R_wholeOf 113 = .ok (.lreturn, 1) := by decide +kernel
theorem kd_R_wholeOf_114 : decode kc_R_wholeOf 114 = .ok (.iinc 4 (-1), 3) := by decide +kernel
theorem kd_R_wholeOf_117 : decode kc_R_wholeOf 117 = .ok (.goto (-30), 3) := by decide +kernel
theorem kd_R_wholeOf_120 : decode kc_R_wholeOf 120 = .ok (.lload_n 0, 1) := by decide +kernel
theorem kd_R_wholeOf_121 : decode kc_R_wholeOf 121 = .ok (.lconst 0, 1) := by decide +kernel
theorem kd_R_wholeOf_122 : decode kc_R_wholeOf 122 = .ok (.lcmp, 1) := by decide +kernel
theorem kd_R_wholeOf_123 : decode kc_R_wholeOf 123 = .ok (.ifCond .ge 9, 3) := by decide +kernel
theorem kd_R_wholeOf_126 : decode kc_R_wholeOf 126 = .ok (.lload 5, 2) := by decide +kernel
theorem kd_R_wholeOf_128 : decode kc_R_wholeOf 128 = .ok (.lneg, 1) := by decide +kernel
theorem kd_R_wholeOf_129 : decode kc_R_wholeOf 129 = .ok (.goto 5, 3) := by decide +kernel
theorem kd_R_wholeOf_132 : decode kc_R_wholeOf 132 = .ok (.lload 5, 2) := by decide +kernel
theorem kd_R_wholeOf_134 : decode kc_R_wholeOf 134 = .ok (.lreturn, 1) := by decide +kernel
theorem kd_R_isMinusZero_0 : decode kc_R_isMinusZero 0 = .ok (.lload_n 0, 1) := by decide +kernel
theorem kd_R_isMinusZero_1 : decode kc_R_isMinusZero 1 = .ok (.ldc2_w 100, 3) := by decide +kernel
theorem kd_R_isMinusZero_4 : decode kc_R_isMinusZero 4 = .ok (.lcmp, 1) := by decide +kernel
theorem kd_R_isMinusZero_5 : decode kc_R_isMinusZero 5 = .ok (.ifCond .ne 7, 3) := by decide +kernel
theorem kd_R_isMinusZero_8 : decode kc_R_isMinusZero 8 = .ok (.iconst 1, 1) := by decide +kernel
theorem kd_R_isMinusZero_9 : decode kc_R_isMinusZero 9 = .ok (.goto 4, 3) := by decide +kernel
theorem kd_R_isMinusZero_12 : decode kc_R_isMinusZero 12 = .ok (.iconst 0, 1) := by decide +kernel
theorem kd_R_isMinusZero_13 : decode kc_R_isMinusZero 13 = .ok (.ireturn, 1) := by decide +kernel
theorem kd_R_call_0 : decode kc_R_call 0 = .ok (.iload_n 1, 1) := by decide +kernel
theorem kd_R_call_1 : decode kc_R_call 1 = .ok (.aload_n 0, 1) := by decide +kernel
theorem kd_R_call_2 : decode kc_R_call 2 = .ok (.getfield 82, 3) := by decide +kernel
theorem kd_R_call_5 : decode kc_R_call 5 = .ok (.invokestatic 64, 3) := by decide +kernel
theorem kd_R_call_8 : decode kc_R_call 8 = .ok (.ifCond .ne 13, 3) := by decide +kernel
theorem kd_R_call_11 : decode kc_R_call 11 = .ok (.iload_n 2, 1) := by decide +kernel
theorem kd_R_call_12 : decode kc_R_call 12 = .ok (.sipush 1000, 3) := by decide +kernel
theorem kd_R_call_15 : decode kc_R_call 15 = .ok (.invokestatic 64, 3) := by decide +kernel
theorem kd_R_call_18 : decode kc_R_call 18 = .ok (.ifCond .eq 7, 3) := by decide +kernel
theorem kd_R_call_21 : decode kc_R_call 21 = .ok (.iconst 1, 1) := by decide +kernel
theorem kd_R_call_22 : decode kc_R_call 22 = .ok (.goto 4, 3) := by decide +kernel
theorem kd_R_call_25 : decode kc_R_call 25 = .ok (.iconst 0, 1) := by decide +kernel
theorem kd_R_call_26 : decode kc_R_call 26 = .ok (.istore_n 3, 1) := by decide +kernel
theorem kd_R_call_27 : decode kc_R_call 27 = .ok (.iconst 0, 1) := by decide +kernel
theorem kd_R_call_28 : decode kc_R_call 28 = .ok (.istore 4, 2) := by decide +kernel
theorem kd_R_call_30 : decode kc_R_call 30 = .ok (.iconst (-1), 1) := by decide +kernel
theorem kd_R_call_31 : decode kc_R_call 31 = .ok (.istore 5, 2) := by decide +kernel
theorem kd_R_call_33 : decode kc_R_call 33 = .ok (.iconst 0, 1) := by decide +kernel
theorem kd_R_call_34 : decode kc_R_call 34 = .ok (.istore 6, 2) := by decide +kernel
theorem kd_R_call_36 : decode kc_R_call 36 = .ok (.iconst 0, 1) := by decide +kernel
theorem kd_R_call_37 : decode kc_R_call 37 = .ok (.istore 7, 2) := by decide +kernel
theorem kd_R_call_39 : decode kc_R_call 39 = .ok (.iload 7, 2) := by decide +kernel
theorem kd_R_call_41 : decode kc_R_call 41 = .ok (.aload_n 0, 1) := by decide +kernel
theorem kd_R_call_42 : decode kc_R_call 42 = .ok (.getfield 72, 3) := by decide +kernel
theorem kd_R_call_45 : decode kc_R_call 45 = .ok (.if_icmp .ge 93, 3) := by decide +kernel
theorem kd_R_call_48 : decode kc_R_call 48 = .ok (.iload_n 3, 1) := by decide +kernel
theorem kd_R_call_49 : decode kc_R_call 49 = .ok (.ifCond .ne 89, 3) := by decide +kernel
theorem kd_R_call_52 : decode kc_R_call 52 = .ok (.aload_n 0, 1) := by decide +kernel
theorem kd_R_call_53 : decode kc_R_call 53 = .ok (.getfield 38, 3) := by decide +kernel
theorem kd_R_call_56 : decode kc_R_call 56 = .ok (.iload 7, 2) := by decide +kernel
theorem kd_R_call_58 : decode kc_R_call 58 = .ok (.aload_n 0, 1) := by decide +kernel
theorem kd_R_call_59 : decode kc_R_call 59 = .ok (.getfield 19, 3) := by decide +kernel
theorem kd_R_call_62 : decode kc_R_call 62 = .ok (.iload 7, 2) := by decide +kernel
theorem kd_R_call_64 : decode kc_R_call 64 = .ok (.iaload, 1) := by decide +kernel
theorem kd_R_call_65 : decode kc_R_call 65 = .ok (.iload_n 2, 1) := by decide +kernel
theorem kd_R_call_66 : decode kc_R_call 66 = .ok (.if_icmp .ne 43, 3) := by decide +kernel
theorem kd_R_call_69 : decode kc_R_call 69 = .ok (.aload_n 0, 1) := by decide +kernel
theorem kd_R_call_70 : decode kc_R_call 70 = .ok (.iload_n 1, 1) := by decide +kernel
theorem kd_R_call_71 : decode kc_R_call 71 = .ok (.aload_n 0, 1) := by decide +kernel
theorem kd_R_call_72 : decode kc_R_call 72 = .ok (.getfield 16, 3) := by decide +kernel
theorem kd_R_call_75 : decode kc_R_call 75 = .ok (.iload 7, 2) := by decide +kernel
theorem kd_R_call_77 : decode kc_R_call 77 = .ok (.iaload, 1) := by decide +kernel
theorem kd_R_call_78 : decode kc_R_call 78 = .ok (.invokevirtual 131, 3) := by decide +kernel
theorem kd_R_call_81 : decode kc_R_call 81 = .ok (.bipush 99, 2) := by decide +kernel
theorem kd_R_call_83 : decode kc_R_call 83 = .ok (.if_icmp .ge 26, 3) := by decide +kernel
theorem kd_R_call_86 : decode kc_R_call 86 = .ok (.aload_n 0, 1) := by decide +kernel
theorem kd_R_call_87 : decode kc_R_call 87 = .ok (.iload 7, 2) := by decide +kernel
theorem kd_R_call_89 : decode kc_R_call 89 = .ok (.invokevirtual 148, 3) := by decide +kernel
theorem kd_R_call_92 : decode kc_R_call 92 = .ok (.ifCond .eq 17, 3) := by decide +kernel
theorem kd_R_call_95 : decode kc_R_call 95 = .ok (.aload_n 0, 1) := by decide +kernel
theorem kd_R_call_96 : decode kc_R_call 96 = .ok (.iload_n 1, 1) := by decide +kernel
theorem kd_R_call_97 : decode kc_R_call 97 = .ok (.iload 7, 2) := by decide +kernel
theorem kd_R_call_99 : decode kc_R_call 99 = .ok (.invokevirtual 152, 3) := by decide +kernel
theorem kd_R_call_102 : decode kc_R_call 102 = .ok (.ifCond .ne 7, 3) := by decide +kernel
theorem kd_R_call_105 : decode kc_R_call 105 = .ok (.iconst 1, 1) := by decide +kernel
theorem kd_R_call_106 : decode kc_R_call 106 = .ok (.goto 4, 3) := by decide +kernel
theorem kd_R_call_109 : decode kc_R_call 109 = .ok (.iconst 0, 1) := by decide +kernel
theorem kd_R_call_110 : decode kc_R_call 110 = .ok (.bastore, 1) := by decide +kernel
theorem kd_R_call_111 : decode kc_R_call 111 = .ok (.aload_n 0, 1) := by decide +kernel
theorem kd_R_call_112 : decode kc_R_call 112 = .ok (.getfield 38, 3) := by decide +kernel
theorem kd_R_call_115 : decode kc_R_call 115 = .ok (.iload 7, 2) := by decide +kernel
theorem kd_R_call_117 : decode kc_R_call 117 = .ok (.baload, 1) := by decide +kernel
theorem kd_R_call_118 : decode kc_R_call 118 = .ok (.ifCond .eq 10, 3) := by decide +kernel
theorem kd_R_call_121 : decode kc_R_call 121 = .ok (.iload 4, 2) := by decide +kernel
theorem kd_R_call_123 : decode kc_R_call 123 = .ok (.iconst 1, 1) := by decide +kernel
theorem kd_R_call_124 : decode kc_R_call 124 = .ok (.iadd, 1) := by decide +kernel
theorem kd_R_call_125 : decode kc_R_call 125 = .ok (.goto 5, 3) := by decide +kernel
theorem kd_R_call_128 : decode kc_R_call 128 = .ok (.iload 4, 2) := by decide +kernel
theorem kd_R_call_130 : decode kc_R_call 130 = .ok (.istore 4, 2) := by decide +kernel
theorem kd_R_call_132 : decode kc_R_call 132 = .ok (.iinc 7 1, 3) := by decide +kernel
theorem kd_R_call_135 : decode kc_R_call 135 = .ok (.goto (-96), 3) := by decide +kernel
theorem kd_R_call_138 : decode kc_R_call 138 = .ok (.iconst 0, 1) := by decide +kernel
theorem kd_R_call_139 : decode kc_R_call 139 = .ok (.istore 7, 2) := by decide +kernel
theorem kd_R_call_141 : decode kc_R_call 141 = .ok (.iload 7, 2) := by decide +kernel
theorem kd_R_call_143 : decode kc_R_call 143 = .ok (.aload_n 0, 1) := by decide +kernel
theorem kd_R_call_144 : decode kc_R_call 144 = .ok (.getfield 72, 3) := by decide +kernel
theorem kd_R_call_147 : decode kc_R_call 147 = .ok (.if_icmp .ge 32, 3) := by decide +kernel
theorem kd_R_call_150 : decode kc_R_call 150 = .ok (.iload_n 3, 1) := by decide +kernel
theorem kd_R_call_151 : decode kc_R_call 151 = .ok (.ifCond .ne 28, 3) := by decide +kernel
theorem kd_R_call_154 : decode kc_R_call 154 = .ok (.aload_n 0, 1) := by decide +kernel
theorem kd_R_call_155 : decode kc_R_call 155 = .ok (.iload 7, 2) := by decide +kernel
theorem kd_R_call_157 : decode kc_R_call 157 = .ok (.invokevirtual 155, 3) := by decide +kernel
theorem kd_R_call_160 : decode kc_R_call 160 = .ok (.ifCond .ne 6, 3) := by decide +kernel
theorem kd_R_call_163 : decode kc_R_call 163 = .ok (.goto 10, 3) := by decide +kernel
theorem kd_R_call_166 : decode kc_R_call 166 = .ok (.iload 7, 2) := by decide +kernel
theorem kd_R_call_168 : decode kc_R_call 168 = .ok (.istore 5, 2) := by decide +kernel
theorem kd_R_call_170 : decode kc_R_call 170 = .ok (.iinc 6 1, 3) := by decide +kernel
theorem kd_R_call_173 : decode kc_R_call 173 = .ok (.iinc 7 1, 3) := by decide +kernel
theorem kd_R_call_176 : decode kc_R_call 176 = .ok (.goto (-35), 3) := by decide +kernel
theorem kd_R_call_179 : decode kc_R_call 179 = .ok (.aload_n 0, 1) := by decide +kernel
theorem kd_R_call_180 : decode kc_R_call 180 = .ok (.iload_n 3, 1) := by decide +kernel
theorem kd_R_call_181 : decode kc_R_call 181 = .ok (.iload_n 3, 1) := by decide +kernel
theorem kd_R_call_182 : decode kc_R_call 182 = .ok (.ifCond .ne 12, 3) := by decide +kernel
theorem kd_R_call_185 : decode kc_R_call 185 = .ok (.iload 4, 2) := by decide +kernel
theorem kd_R_call_187 : decode kc_R_call 187 = .ok (.ifCond .ne 7, 3) := by decide +kernel
theorem kd_R_call_190 : decode kc_R_call 190 = .ok (.iconst 1, 1) := by decide +kernel
theorem kd_R_call_191 : decode kc_R_call 191 = .ok (.goto 4, 3) := by decide +kernel
theorem kd_R_call_194 : decode kc_R_call 194 = .ok (.iconst 0, 1) := by decide +kernel
theorem kd_R_call_195 : decode kc_R_call 195 = .ok (.iload 4, 2) := by decide +kernel
theorem kd_R_call_197 : decode kc_R_call 197 = .ok (.ifCond .le 13, 3) := by decide +kernel
theorem kd_R_call_200 : decode kc_R_call 200 = .ok (.iload 6, 2) := by decide +kernel
theorem kd_R_call_202 : decode kc_R_call 202 = .ok (.iconst 1, 1) := by decide +kernel
theorem kd_R_call_203 : decode kc_R_call 203 = .ok (.if_icmp .eq 7, 3) := by decide +kernel
theorem kd_R_call_206 : decode kc_R_call 206 = .ok (.iconst 1, 1) := by decide +kernel
theorem kd_R_call_207 : decode kc_R_call 207 = .ok (.goto 4, 3) := by decide +kernel
theorem kd_R_call_210 : decode kc_R_call 210 = .ok (.iconst 0, 1) := by decide +kernel
theorem kd_R_call_211 : decode kc_R_call 211 = .ok (.invokevirtual 68, 3) := by decide +kernel
theorem kd_R_call_214 : decode kc_R_call 214 = .ok (.ifCond .eq 10, 3) := by decide +kernel
theorem kd_R_call_217 : decode kc_R_call 217 = .ok (.aload_n 0, 1) := by decide +kernel
theorem kd_R_call_218 : decode kc_R_call 218 = .ok (.iconst 0, 1) := by decide +kernel
theorem kd_R_call_219 : decode kc_R_call 219 = .ok (.putfield 85, 3) := by decide +kernel
theorem kd_R_call_222 : decode kc_R_call 222 = .ok (.iconst 0, 1) := by decide +kernel
theorem kd_R_call_223 : decode kc_R_call 223 = .ok (.ireturn, 1) := by decide +kernel
theorem kd_R_call_224 : decode kc_R_call 224 = .ok (.aload_n 0, 1) := by decide +kernel
theorem kd_R_call_225 : decode kc_R_call 225 = .ok (.iload_n 1, 1) := by decide +kernel
theorem kd_R_call_226 : decode kc_R_call 226 = .ok (.iload 5, 2) := by decide +kernel
theorem kd_R_call_228 : decode kc_R_call 228 = .ok (.invokevirtual 158, 3) := by decide +kernel
theorem kd_R_call_231 : decode kc_R_call 231 = .ok (.ireturn, 1) := by decide +kernel
theorem kd_R_far_0 : decode kc_R_far 0 = .ok (.iconst 0, 1) := by decide +kernel
theorem kd_R_far_1 : decode kc_R_far 1 = .ok (.istore_n 3, 1) := by decide +kernel
theorem kd_R_far_2 : decode kc_R_far 2 = .ok (.aload_n 0, 1) := by decide +kernel
theorem kd_R_far_3 : decode kc_R_far 3 = .ok (.getfield 13, 3) := by decide +kernel
theorem kd_R_far_6 : decode kc_R_far 6 = .ok (.iload_n 1, 1) := by decide +kernel
theorem kd_R_far_7 : decode kc_R_far 7 = .ok (.iaload, 1) := by decide +kernel
theorem kd_R_far_8 : decode kc_R_far 8 = .ok (.istore 4, 2) := by decide +kernel
theorem kd_R_far_10 : decode kc_R_far 10 = .ok (.iload 4, 2) := by decide +kernel
theorem kd_R_far_12 : decode kc_R_far 12 = .ok (.ifCond .lt 24, 3) := by decide +kernel
theorem kd_R_far_15 : decode kc_R_far 15 = .ok (.iload 4, 2) := by decide +kernel
theorem kd_R_far_17 : decode kc_R_far 17 = .ok (.iload_n 2, 1) := by decide +kernel
theorem kd_R_far_18 : decode kc_R_far 18 = .ok (.if_icmp .eq 18, 3) := by decide +kernel
theorem kd_R_far_21 : decode kc_R_far 21 = .ok (.aload_n 0, 1) := by decide +kernel
theorem kd_R_far_22 : decode kc_R_far 22 = .ok (.getfield 7, 3) := by decide +kernel
theorem kd_R_far_25 : decode kc_R_far 25 = .ok (.iload 4, 2) := by decide +kernel
theorem kd_R_far_27 : decode kc_R_far 27 = .ok (.iaload, 1) := by decide +kernel
theorem kd_R_far_28 : decode kc_R_far 28 = .ok (.istore 4, 2) := by decide +kernel
theorem kd_R_far_30 : decode kc_R_far 30 = .ok (.iinc 3 1, 3) := by decide +kernel
theorem kd_R_far_33 : decode kc_R_far 33 = .ok (.goto (-23), 3) := by decide +kernel
theorem kd_R_far_36 : decode kc_R_far 36 = .ok (.iload 4, 2) := by decide +kernel
theorem kd_R_far_38 : decode kc_R_far 38 = .ok (.ifCond .ge 8, 3) := by decide +kernel
theorem kd_R_far_41 : decode kc_R_far 41 = .ok (.bipush 99, 2) := by decide +kernel
theorem kd_R_far_43 : decode kc_R_far 43 = .ok (.goto 4, 3) := by decide +kernel
theorem kd_R_far_46 : decode kc_R_far 46 = .ok (.iload_n 3, 1) := by decide +kernel
theorem kd_R_far_47 : decode kc_R_far 47 = .ok (.ireturn, 1) := by decide +kernel
theorem kd_R_fits_0 : decode kc_R_fits 0 = .ok (.aload_n 0, 1) := by decide +kernel
theorem kd_R_fits_1 : decode kc_R_fits 1 = .ok (.getfield 22, 3) := by decide +kernel
theorem kd_R_fits_4 : decode kc_R_fits 4 = .ok (.iload_n 1, 1) := by decide +kernel
theorem kd_R_fits_5 : decode kc_R_fits 5 = .ok (.iaload, 1) := by decide +kernel
theorem kd_R_fits_6 : decode kc_R_fits 6 = .ok (.aload_n 0, 1) := by decide +kernel
theorem kd_R_fits_7 : decode kc_R_fits 7 = .ok (.getfield 85, 3) := by decide +kernel
theorem kd_R_fits_10 : decode kc_R_fits 10 = .ok (.if_icmp .ne 7, 3) := by decide +kernel
theorem kd_R_fits_13 : decode kc_R_fits 13 = .ok (.iconst 1, 1) := by decide +kernel
theorem kd_R_fits_14 : decode kc_R_fits 14 = .ok (.goto 4, 3) := by decide +kernel
theorem kd_R_fits_17 : decode kc_R_fits 17 = .ok (.iconst 0, 1) := by decide +kernel
theorem kd_R_fits_18 : decode kc_R_fits 18 = .ok (.istore_n 2, 1) := by decide +kernel
theorem kd_R_fits_19 : decode kc_R_fits 19 = .ok (.iconst 0, 1) := by decide +kernel
theorem kd_R_fits_20 : decode kc_R_fits 20 = .ok (.istore_n 3, 1) := by decide +kernel
theorem kd_R_fits_21 : decode kc_R_fits 21 = .ok (.iload_n 3, 1) := by decide +kernel
theorem kd_R_fits_22 : decode kc_R_fits 22 = .ok (.aload_n 0, 1) := by decide +kernel
theorem kd_R_fits_23 : decode kc_R_fits 23 = .ok (.getfield 85, 3) := by decide +kernel
theorem kd_R_fits_26 : decode kc_R_fits 26 = .ok (.if_icmp .ge 37, 3) := by decide +kernel
theorem kd_R_fits_29 : decode kc_R_fits 29 = .ok (.iload_n 2, 1) := by decide +kernel
theorem kd_R_fits_30 : decode kc_R_fits 30 = .ok (.ifCond .eq 33, 3) := by decide +kernel
theorem kd_R_fits_33 : decode kc_R_fits 33 = .ok (.aload_n 0, 1) := by decide +kernel
theorem kd_R_fits_34 : decode kc_R_fits 34 = .ok (.iload_n 3, 1) := by decide +kernel
theorem kd_R_fits_35 : decode kc_R_fits 35 = .ok (.aload_n 0, 1) := by decide +kernel
theorem kd_R_fits_36 : decode kc_R_fits 36 = .ok (.getfield 25, 3) := by decide +kernel
theorem kd_R_fits_39 : decode kc_R_fits 39 = .ok (.iconst 4, 1) := by decide +kernel
theorem kd_R_fits_40 : decode kc_R_fits 40 = .ok (.iload_n 1, 1) := by decide +kernel
theorem kd_R_fits_41 : decode kc_R_fits 41 = .ok (.imul, 1) := by decide +kernel
theorem kd_R_fits_42 : decode kc_R_fits 42 = .ok (.iload_n 3, 1) := by decide +kernel
theorem kd_R_fits_43 : decode kc_R_fits 43 = .ok (.iadd, 1) := by decide +kernel
theorem kd_R_fits_44 : decode kc_R_fits 44 = .ok (.iaload, 1) := by decide +kernel
theorem kd_R_fits_45 : decode kc_R_fits 45 = .ok (.invokevirtual 118, 3) := by decide +kernel
theorem kd_R_fits_48 : decode kc_R_fits 48 = .ok (.ifCond .lt 7, 3) := by decide +kernel
theorem kd_R_fits_51 : decode kc_R_fits 51 = .ok (.iconst 1, 1) := by decide +kernel
theorem kd_R_fits_52 : decode kc_R_fits 52 = .ok (.goto 4, 3) := by decide +kernel
theorem kd_R_fits_55 : decode kc_R_fits 55 = .ok (.iconst 0, 1) := by decide +kernel
theorem kd_R_fits_56 : decode kc_R_fits 56 = .ok (.istore_n 2, 1) := by decide +kernel
theorem kd_R_fits_57 : decode kc_R_fits 57 = .ok (.iinc 3 1, 3) := by decide +kernel
theorem kd_R_fits_60 : decode kc_R_fits 60 = .ok (.goto (-39), 3) := by decide +kernel
theorem kd_R_fits_63 : decode kc_R_fits 63 = .ok (.iload_n 2, 1) := by decide +kernel
theorem kd_R_fits_64 : decode kc_R_fits 64 = .ok (.ireturn, 1) := by decide +kernel
theorem kd_R_isHidden_0 : decode kc_R_isHidden 0 = .ok (.iconst 0, 1) := by decide +kernel
theorem kd_R_isHidden_1 : decode kc_R_isHidden 1 = .ok (.istore_n 3, 1) := by decide +kernel
theorem kd_R_isHidden_2 : decode kc_R_isHidden 2 = .ok (.iconst 0, 1) := by decide +kernel
theorem kd_R_isHidden_3 : decode kc_R_isHidden 3 = .ok (.istore 4, 2) := by decide +kernel
theorem kd_R_isHidden_5 : decode kc_R_isHidden 5 = .ok (.iload 4, 2) := by decide +kernel
theorem kd_R_isHidden_7 : decode kc_R_isHidden 7 = .ok (.aload_n 0, 1) := by decide +kernel
theorem kd_R_isHidden_8 : decode kc_R_isHidden 8 = .ok (.getfield 72, 3) := by decide +kernel
theorem kd_R_isHidden_11 : decode kc_R_isHidden 11 = .ok (.if_icmp .ge 147, 3) := by decide +kernel
theorem kd_R_isHidden_14 : decode kc_R_isHidden 14 = .ok (.aload_n 0, 1) := by decide +kernel
theorem kd_R_isHidden_15 : decode kc_R_isHidden 15 = .ok (.getfield 19, 3) := by decide +kernel
theorem kd_R_isHidden_18 : decode kc_R_isHidden 18 = .ok (.iload 4, 2) := by decide +kernel
theorem kd_R_isHidden_20 : decode kc_R_isHidden 20 = .ok (.iaload, 1) := by decide +kernel
theorem kd_R_isHidden_21 : decode kc_R_isHidden 21 = .ok (.aload_n 0, 1) := by decide +kernel
theorem kd_R_isHidden_22 : decode kc_R_isHidden 22 = .ok (.getfield 19, 3) := by decide +kernel
theorem kd_R_isHidden_25 : decode kc_R_isHidden 25 = .ok (.iload_n 2, 1) := by decide +kernel
theorem kd_R_isHidden_26 : decode kc_R_isHidden 26 = .ok (.iaload, 1) := by decide +kernel
theorem kd_R_isHidden_27 : decode kc_R_isHidden 27 = .ok (.if_icmp .ne 49, 3) := by decide +kernel
theorem kd_R_isHidden_30 : decode kc_R_isHidden 30 = .ok (.aload_n 0, 1) := by decide +kernel
theorem kd_R_isHidden_31 : decode kc_R_isHidden 31 = .ok (.getfield 22, 3) := by decide +kernel
theorem kd_R_isHidden_34 : decode kc_R_isHidden 34 = .ok (.iload 4, 2) := by decide +kernel
theorem kd_R_isHidden_36 : decode kc_R_isHidden 36 = .ok (.iaload, 1) := by decide +kernel
theorem kd_R_isHidden_37 : decode kc_R_isHidden 37 = .ok (.aload_n 0, 1) := by decide +kernel
theorem kd_R_isHidden_38 : decode kc_R_isHidden 38 = .ok (.getfield 22, 3) := by decide +kernel
theorem kd_R_isHidden_41 : decode kc_R_isHidden 41 = .ok (.iload_n 2, 1) := by decide +kernel
theorem kd_R_isHidden_42 : decode kc_R_isHidden 42 = .ok (.iaload, 1) := by decide +kernel
theorem kd_R_isHidden_43 : decode kc_R_isHidden 43 = .ok (.if_icmp .ne 33, 3) := by decide +kernel
theorem kd_R_isHidden_46 : decode kc_R_isHidden 46 = .ok (.aload_n 0, 1) := by decide +kernel
theorem kd_R_isHidden_47 : decode kc_R_isHidden 47 = .ok (.iload_n 1, 1) := by decide +kernel
theorem kd_R_isHidden_48 : decode kc_R_isHidden 48 = .ok (.aload_n 0, 1) := by decide +kernel
theorem kd_R_isHidden_49 : decode kc_R_isHidden 49 = .ok (.getfield 16, 3) := by decide +kernel
theorem kd_R_isHidden_52 : decode kc_R_isHidden 52 = .ok (.iload 4, 2) := by decide +kernel
theorem kd_R_isHidden_54 : decode kc_R_isHidden 54 = .ok (.iaload, 1) := by decide +kernel
theorem kd_R_isHidden_55 : decode kc_R_isHidden 55 = .ok (.invokevirtual 131, 3) := by decide +kernel
theorem kd_R_isHidden_58 : decode kc_R_isHidden 58 = .ok (.aload_n 0, 1) := by decide +kernel
theorem kd_R_isHidden_59 : decode kc_R_isHidden 59 = .ok (.iload_n 1, 1) := by decide +kernel
theorem kd_R_isHidden_60 : decode kc_R_isHidden 60 = .ok (.aload_n 0, 1) := by decide +kernel
theorem kd_R_isHidden_61 : decode kc_R_isHidden 61 = .ok (.getfield 16, 3) := by decide +kernel
theorem kd_R_isHidden_64 : decode kc_R_isHidden 64 = .ok (.iload_n 2, 1) := by decide +kernel
theorem kd_R_isHidden_65 : decode kc_R_isHidden 65 = .ok (.iaload, 1) := by decide +kernel
theorem kd_R_isHidden_66 : decode kc_R_isHidden 66 = .ok (.invokevirtual 131, 3) := by decide +kernel
theorem kd_R_isHidden_69 : decode kc_R_isHidden 69 = .ok (.if_icmp .ge 7, 3) := by decide +kernel
theorem kd_R_isHidden_72 : decode kc_R_isHidden 72 = .ok (.iconst 1, 1) := by decide +kernel
theorem kd_R_isHidden_73 : decode kc_R_isHidden 73 = .ok (.goto 4, 3) := by decide +kernel
theorem kd_R_isHidden_76 : decode kc_R_isHidden 76 = .ok (.iconst 0, 1) := by decide +kernel
theorem kd_R_isHidden_77 : decode kc_R_isHidden 77 = .ok (.istore 5, 2) := by decide +kernel
theorem kd_R_isHidden_79 : decode kc_R_isHidden 79 = .ok (.iconst 0, 1) := by decide +kernel
theorem kd_R_isHidden_80 : decode kc_R_isHidden 80 = .ok (.istore 6, 2) := by decide +kernel
theorem kd_R_isHidden_82 : decode kc_R_isHidden 82 = .ok (.iload 6, 2) := by decide +kernel
theorem kd_R_isHidden_84 : decode kc_R_isHidden 84 = .ok (.aload_n 0, 1) := by decide +kernel
theorem kd_R_isHidden_85 : decode kc_R_isHidden 85 = .ok (.getfield 22, 3) := by decide +kernel
theorem kd_R_isHidden_88 : decode kc_R_isHidden 88 = .ok (.iload_n 2, 1) := by decide +kernel
theorem kd_R_isHidden_89 : decode kc_R_isHidden 89 = .ok (.iaload, 1) := by decide +kernel
theorem kd_R_isHidden_90 : decode kc_R_isHidden 90 = .ok (.if_icmp .ge 47, 3) := by decide +kernel
theorem kd_R_isHidden_93 : decode kc_R_isHidden 93 = .ok (.iload 5, 2) := by decide +kernel
theorem kd_R_isHidden_95 : decode kc_R_isHidden 95 = .ok (.ifCond .eq 33, 3) := by decide +kernel
theorem kd_R_isHidden_98 : decode kc_R_isHidden 98 = .ok (.aload_n 0, 1) := by decide +kernel
theorem kd_R_isHidden_99 : decode kc_R_isHidden 99 = .ok (.getfield 25, 3) := by decide +kernel
theorem kd_R_isHidden_102 : decode kc_R_isHidden 102 = .ok (.iconst 4, 1) := by decide +kernel
theorem kd_R_isHidden_103 : decode kc_R_isHidden 103 = .ok (.iload 4, 2) := by decide +kernel
theorem kd_R_isHidden_105 : decode kc_R_isHidden 105 = .ok (.imul, 1) := by decide +kernel
theorem kd_R_isHidden_106 : decode kc_R_isHidden 106 = .ok (.iload 6, 2) := by decide +kernel
theorem kd_R_isHidden_108 : decode kc_R_isHidden 108 = .ok (.iadd, 1) := by decide +kernel
theorem kd_R_isHidden_109 : decode kc_R_isHidden 109 = .ok (.iaload, 1) := by decide +kernel
theorem kd_R_isHidden_110 : decode kc_R_isHidden 110 = .ok (.aload_n 0, 1) := by decide +kernel
theorem kd_R_isHidden_111 : decode kc_R_isHidden 111 = .ok (.getfield 25, 3) := by decide +kernel
theorem kd_R_isHidden_114 : decode kc_R_isHidden 114 = .ok (.iconst 4, 1) := by decide +kernel
theorem kd_R_isHidden_115 : decode kc_R_isHidden 115 = .ok (.iload_n 2, 1) := by decide +kernel
theorem kd_R_isHidden_116 : decode kc_R_isHidden 116 = .ok (.imul, 1) := by decide +kernel
theorem kd_R_isHidden_117 : decode kc_R_isHidden 117 = .ok (.iload 6, 2) := by decide +kernel
theorem kd_R_isHidden_119 : decode kc_R_isHidden 119 = .ok (.iadd, 1) := by decide +kernel
theorem kd_R_isHidden_120 : decode kc_R_isHidden 120 = .ok (.iaload, 1) := by decide +kernel
theorem kd_R_isHidden_121 : decode kc_R_isHidden 121 = .ok (.if_icmp .ne 7, 3) := by decide +kernel
theorem kd_R_isHidden_124 : decode kc_R_isHidden 124 = .ok (.iconst 1, 1) := by decide +kernel
theorem kd_R_isHidden_125 : decode kc_R_isHidden 125 = .ok (.goto 4, 3) := by decide +kernel
theorem kd_R_isHidden_128 : decode kc_R_isHidden 128 = .ok (.iconst 0, 1) := by decide +kernel
theorem kd_R_isHidden_129 : decode kc_R_isHidden 129 = .ok (.istore 5, 2) := by decide +kernel
theorem kd_R_isHidden_131 : decode kc_R_isHidden 131 = .ok (.iinc 6 1, 3) := by decide +kernel
theorem kd_R_isHidden_134 : decode kc_R_isHidden 134 = .ok (.goto (-52), 3) := by decide +kernel
theorem kd_R_isHidden_137 : decode kc_R_isHidden 137 = .ok (.iload_n 3, 1) := by decide +kernel
theorem kd_R_isHidden_138 : decode kc_R_isHidden 138 = .ok (.ifCond .ne 8, 3) := by decide +kernel
theorem kd_R_isHidden_141 : decode kc_R_isHidden 141 = .ok (.iload 5, 2) := by decide +kernel
theorem kd_R_isHidden_143 : decode kc_R_isHidden 143 = .ok (.ifCond .eq 7, 3) := by decide +kernel
theorem kd_R_isHidden_146 : decode kc_R_isHidden 146 = .ok (.iconst 1, 1) := by decide +kernel
theorem kd_R_isHidden_147 : decode kc_R_isHidden 147 = .ok (.goto 4, 3) := by decide +kernel
theorem kd_R_isHidden_150 : decode kc_R_isHidden 150 = .ok (.iconst 0, 1) := by decide +kernel
theorem kd_R_isHidden_151 : decode kc_R_isHidden 151 = .ok (.istore_n 3, 1) := by decide +kernel
theorem kd_R_isHidden_152 : decode kc_R_isHidden 152 = .ok (.iinc 4 1, 3) := by decide +kernel
theorem kd_R_isHidden_155 : decode kc_R_isHidden 155 = .ok (.goto (-150), 3) := by decide +kernel
theorem kd_R_isHidden_158 : decode kc_R_isHidden 158 = .ok (.iload_n 3, 1) := by decide +kernel
theorem kd_R_isHidden_159 : decode kc_R_isHidden 159 = .ok (.ireturn, 1) := by decide +kernel
theorem kd_R_isBest_0 : decode kc_R_isBest 0 = .ok (.aload_n 0, 1) := by decide +kernel
theorem kd_R_isBest_1 : decode kc_R_isBest 1 = .ok (.getfield 38, 3) := by decide +kernel
theorem kd_R_isBest_4 : decode kc_R_isBest 4 = .ok (.iload_n 1, 1) := by decide +kernel
theorem kd_R_isBest_5 : decode kc_R_isBest 5 = .ok (.baload, 1) := by decide +kernel
theorem kd_R_isBest_6 : decode kc_R_isBest 6 = .ok (.istore_n 2, 1) := by decide +kernel
theorem kd_R_isBest_7 : decode kc_R_isBest 7 = .ok (.iconst 0, 1) := by decide +kernel
theorem kd_R_isBest_8 : decode kc_R_isBest 8 = .ok (.istore_n 3, 1) := by decide +kernel
theorem kd_R_isBest_9 : decode kc_R_isBest 9 = .ok (.iload_n 3, 1) := by decide +kernel
theorem kd_R_isBest_10 : decode kc_R_isBest 10 = .ok (.aload_n 0, 1) := by decide +kernel
theorem kd_R_isBest_11 : decode kc_R_isBest 11 = .ok (.getfield 72, 3) := by decide +kernel
theorem kd_R_isBest_14 : decode kc_R_isBest 14 = .ok (.if_icmp .ge 83, 3) := by decide +kernel
theorem kd_R_isBest_17 : decode kc_R_isBest 17 = .ok (.iconst 0, 1) := by decide +kernel
theorem kd_R_isBest_18 : decode kc_R_isBest 18 = .ok (.istore 4, 2) := by decide +kernel
theorem kd_R_isBest_20 : decode kc_R_isBest 20 = .ok (.iload 4, 2) := by decide +kernel
theorem kd_R_isBest_22 : decode kc_R_isBest 22 = .ok (.aload_n 0, 1) := by decide +kernel
theorem kd_R_isBest_23 : decode kc_R_isBest 23 = .ok (.getfield 85, 3) := by decide +kernel
theorem kd_R_isBest_26 : decode kc_R_isBest 26 = .ok (.if_icmp .ge 65, 3) := by decide +kernel
theorem kd_R_isBest_29 : decode kc_R_isBest 29 = .ok (.aload_n 0, 1) := by decide +kernel
theorem kd_R_isBest_30 : decode kc_R_isBest 30 = .ok (.getfield 38, 3) := by decide +kernel
theorem kd_R_isBest_33 : decode kc_R_isBest 33 = .ok (.iload_n 3, 1) := by decide +kernel
theorem kd_R_isBest_34 : decode kc_R_isBest 34 = .ok (.baload, 1) := by decide +kernel
theorem kd_R_isBest_35 : decode kc_R_isBest 35 = .ok (.ifCond .eq 56, 3) := by decide +kernel
theorem kd_R_isBest_38 : decode kc_R_isBest 38 = .ok (.iload_n 2, 1) := by decide +kernel
theorem kd_R_isBest_39 : decode kc_R_isBest 39 = .ok (.ifCond .eq 44, 3) := by decide +kernel
theorem kd_R_isBest_42 : decode kc_R_isBest 42 = .ok (.aload_n 0, 1) := by decide +kernel
theorem kd_R_isBest_43 : decode kc_R_isBest 43 = .ok (.iload 4, 2) := by decide +kernel
theorem kd_R_isBest_45 : decode kc_R_isBest 45 = .ok (.aload_n 0, 1) := by decide +kernel
theorem kd_R_isBest_46 : decode kc_R_isBest 46 = .ok (.getfield 25, 3) := by decide +kernel
theorem kd_R_isBest_49 : decode kc_R_isBest 49 = .ok (.iconst 4, 1) := by decide +kernel
theorem kd_R_isBest_50 : decode kc_R_isBest 50 = .ok (.iload_n 1, 1) := by decide +kernel
theorem kd_R_isBest_51 : decode kc_R_isBest 51 = .ok (.imul, 1) := by decide +kernel
theorem kd_R_isBest_52 : decode kc_R_isBest 52 = .ok (.iload 4, 2) := by decide +kernel
theorem kd_R_isBest_54 : decode kc_R_isBest 54 = .ok (.iadd, 1) := by decide +kernel
theorem kd_R_isBest_55 : decode kc_R_isBest 55 = .ok (.iaload, 1) := by decide +kernel
theorem kd_R_isBest_56 : decode kc_R_isBest 56 = .ok (.invokevirtual 118, 3) := by decide +kernel
theorem kd_R_isBest_59 : decode kc_R_isBest 59 = .ok (.aload_n 0, 1) := by decide +kernel
theorem kd_R_isBest_60 : decode kc_R_isBest 60 = .ok (.iload 4, 2) := by decide +kernel
theorem kd_R_isBest_62 : decode kc_R_isBest 62 = .ok (.aload_n 0, 1) := by decide +kernel
theorem kd_R_isBest_63 : decode kc_R_isBest 63 = .ok (.getfield 25, 3) := by decide +kernel
theorem kd_R_isBest_66 : decode kc_R_isBest 66 = .ok (.iconst 4, 1) := by decide +kernel
theorem kd_R_isBest_67 : decode kc_R_isBest 67 = .ok (.iload_n 3, 1) := by decide +kernel
theorem kd_R_isBest_68 : decode kc_R_isBest 68 = .ok (.imul, 1) := by decide +kernel
theorem kd_R_isBest_69 : decode kc_R_isBest 69 = .ok (.iload 4, 2) := by decide +kernel
theorem kd_R_isBest_71 : decode kc_R_isBest 71 = .ok (.iadd, 1) := by decide +kernel
theorem kd_R_isBest_72 : decode kc_R_isBest 72 = .ok (.iaload, 1) := by decide +kernel
theorem kd_R_isBest_73 : decode kc_R_isBest 73 = .ok (.invokevirtual 118, 3) := by decide +kernel
theorem kd_R_isBest_76 : decode kc_R_isBest 76 = .ok (.if_icmp .gt 7, 3) := by decide +kernel
theorem kd_R_isBest_79 : decode kc_R_isBest 79 = .ok (.iconst 1, 1) := by decide +kernel
theorem kd_R_isBest_80 : decode kc_R_isBest 80 = .ok (.goto 4, 3) := by decide +kernel
theorem kd_R_isBest_83 : decode kc_R_isBest 83 = .ok (.iconst 0, 1) := by decide +kernel
theorem kd_R_isBest_84 : decode kc_R_isBest 84 = .ok (.istore_n 2, 1) := by decide +kernel
theorem kd_R_isBest_85 : decode kc_R_isBest 85 = .ok (.iinc 4 1, 3) := by decide +kernel
theorem kd_R_isBest_88 : decode kc_R_isBest 88 = .ok (.goto (-68), 3) := by decide +kernel
theorem kd_R_isBest_91 : decode kc_R_isBest 91 = .ok (.iinc 3 1, 3) := by decide +kernel
theorem kd_R_isBest_94 : decode kc_R_isBest 94 = .ok (.goto (-85), 3) := by decide +kernel
theorem kd_R_isBest_97 : decode kc_R_isBest 97 = .ok (.iload_n 2, 1) := by decide +kernel
theorem kd_R_isBest_98 : decode kc_R_isBest 98 = .ok (.ireturn, 1) := by decide +kernel
theorem kd_R_make_0 : decode kc_R_make 0 = .ok (.aload_n 0, 1) := by decide +kernel
theorem kd_R_make_1 : decode kc_R_make 1 = .ok (.getfield 134, 3) := by decide +kernel
theorem kd_R_make_4 : decode kc_R_make 4 = .ok (.bipush 64, 2) := by decide +kernel
theorem kd_R_make_6 : decode kc_R_make 6 = .ok (.irem, 1) := by decide +kernel
theorem kd_R_make_7 : decode kc_R_make 7 = .ok (.istore_n 3, 1) := by decide +kernel
theorem kd_R_make_8 : decode kc_R_make 8 = .ok (.aload_n 0, 1) := by decide +kernel
theorem kd_R_make_9 : decode kc_R_make 9 = .ok (.getfield 42, 3) := by decide +kernel
theorem kd_R_make_12 : decode kc_R_make 12 = .ok (.iload_n 3, 1) := by decide +kernel
theorem kd_R_make_13 : decode kc_R_make 13 = .ok (.iload_n 1, 1) := by decide +kernel
theorem kd_R_make_14 : decode kc_R_make 14 = .ok (.iastore, 1) := by decide +kernel
theorem kd_R_make_15 : decode kc_R_make 15 = .ok (.aload_n 0, 1) := by decide +kernel
theorem kd_R_make_16 : decode kc_R_make 16 = .ok (.getfield 45, 3) := by decide +kernel
theorem kd_R_make_19 : decode kc_R_make 19 = .ok (.iload_n 3, 1) := by decide +kernel
theorem kd_R_make_20 : decode kc_R_make 20 = .ok (.iload_n 2, 1) := by decide +kernel
theorem kd_R_make_21 : decode kc_R_make 21 = .ok (.iastore, 1) := by decide +kernel
theorem kd_R_make_22 : decode kc_R_make 22 = .ok (.aload_n 0, 1) := by decide +kernel
theorem kd_R_make_23 : decode kc_R_make 23 = .ok (.getfield 48, 3) := by decide +kernel
theorem kd_R_make_26 : decode kc_R_make 26 = .ok (.iload_n 3, 1) := by decide +kernel
theorem kd_R_make_27 : decode kc_R_make 27 = .ok (.aload_n 0, 1) := by decide +kernel
theorem kd_R_make_28 : decode kc_R_make 28 = .ok (.getfield 85, 3) := by decide +kernel
theorem kd_R_make_31 : decode kc_R_make 31 = .ok (.iastore, 1) := by decide +kernel
theorem kd_R_make_32 : decode kc_R_make 32 = .ok (.iconst 0, 1) := by decide +kernel
theorem kd_R_make_33 : decode kc_R_make 33 = .ok (.istore 4, 2) := by decide +kernel
theorem kd_R_make_35 : decode kc_R_make 35 = .ok (.iload 4, 2) := by decide +kernel
theorem kd_R_make_37 : decode kc_R_make 37 = .ok (.aload_n 0, 1) := by decide +kernel
theorem kd_R_make_38 : decode kc_R_make 38 = .ok (.getfield 85, 3) := by decide +kernel
theorem kd_R_make_41 : decode kc_R_make 41 = .ok (.if_icmp .ge 37, 3) := by decide +kernel
theorem kd_R_make_44 : decode kc_R_make 44 = .ok (.aload_n 0, 1) := by decide +kernel
theorem kd_R_make_45 : decode kc_R_make 45 = .ok (.getfield 51, 3) := by decide +kernel
theorem kd_R_make_48 : decode kc_R_make 48 = .ok (.iconst 4, 1) := by decide +kernel
theorem kd_R_make_49 : decode kc_R_make 49 = .ok (.iload_n 3, 1) := by decide +kernel
theorem kd_R_make_50 : decode kc_R_make 50 = .ok (.imul, 1) := by decide +kernel
theorem kd_R_make_51 : decode kc_R_make 51 = .ok (.iload 4, 2) := by decide +kernel
theorem kd_R_make_53 : decode kc_R_make 53 = .ok (.iadd, 1) := by decide +kernel
theorem kd_R_make_54 : decode kc_R_make 54 = .ok (.aload_n 0, 1) := by decide +kernel
theorem kd_R_make_55 : decode kc_R_make 55 = .ok (.iload 4, 2) := by decide +kernel
theorem kd_R_make_57 : decode kc_R_make 57 = .ok (.aload_n 0, 1) := by decide +kernel
theorem kd_R_make_58 : decode kc_R_make 58 = .ok (.getfield 25, 3) := by decide +kernel
theorem kd_R_make_61 : decode kc_R_make 61 = .ok (.iconst 4, 1) := by decide +kernel
theorem kd_R_make_62 : decode kc_R_make 62 = .ok (.iload_n 2, 1) := by decide +kernel
theorem kd_R_make_63 : decode kc_R_make 63 = .ok (.imul, 1) := by decide +kernel
theorem kd_R_make_64 : decode kc_R_make 64 = .ok (.iload 4, 2) := by decide +kernel
theorem kd_R_make_66 : decode kc_R_make 66 = .ok (.iadd, 1) := by decide +kernel
theorem kd_R_make_67 : decode kc_R_make 67 = .ok (.iaload, 1) := by decide +kernel
theorem kd_R_make_68 : decode kc_R_make 68 = .ok (.invokevirtual 137, 3) := by decide +kernel
theorem kd_R_make_71 : decode kc_R_make 71 = .ok (.lastore, 1) := by decide +kernel
theorem kd_R_make_72 : decode kc_R_make 72 = .ok (.iinc 4 1, 3) := by decide +kernel
theorem kd_R_make_75 : decode kc_R_make 75 = .ok (.goto (-40), 3) := by decide +kernel
theorem kd_R_make_78 : decode kc_R_make 78 = .ok (.aload_n 0, 1) := by decide +kernel
theorem kd_R_make_79 : decode kc_R_make 79 = .ok (.dup, 1) := by decide +kernel
theorem kd_R_make_80 : decode kc_R_make 80 = .ok (.getfield 134, 3) := by decide +kernel
theorem kd_R_make_83 : decode kc_R_make 83 = .ok (.iconst 1, 1) := by decide +kernel
theorem kd_R_make_84 : decode kc_R_make 84 = .ok (.iadd, 1) := by decide +kernel
theorem kd_R_make_85 : decode kc_R_make 85 = .ok (.putfield 134, 3) := by decide +kernel
theorem kd_R_make_88 : decode kc_R_make 88 = .ok (.aload_n 0, 1) := by decide +kernel
theorem kd_R_make_89 : decode kc_R_make 89 = .ok (.iconst 0, 1) := by decide +kernel
theorem kd_R_make_90 : decode kc_R_make 90 = .ok (.putfield 85, 3) := by decide +kernel
theorem kd_R_make_93 : decode kc_R_make 93 = .ok (.aload_n 0, 1) := by decide +kernel
theorem kd_R_make_94 : decode kc_R_make 94 = .ok (.aload_n 0, 1) := by decide +kernel
theorem kd_R_make_95 : decode kc_R_make 95 = .ok (.getfield 141, 3) := by decide +kernel
theorem kd_R_make_98 : decode kc_R_make 98 = .ok (.ifCond .le 12, 3) := by decide +kernel
theorem kd_R_make_101 : decode kc_R_make 101 = .ok (.aload_n 0, 1) := by decide +kernel
theorem kd_R_make_102 : decode kc_R_make 102 = .ok (.getfield 54, 3) := by decide +kernel
theorem kd_R_make_105 : decode kc_R_make 105 = .ok (.iconst 0, 1) := by decide +kernel
theorem kd_R_make_106 : decode kc_R_make 106 = .ok (.laload, 1) := by decide +kernel
theorem kd_R_make_107 : decode kc_R_make 107 = .ok (.goto 4, 3) := by decide +kernel
theorem kd_R_make_110 : decode kc_R_make 110 = .ok (.lconst 0, 1) := by decide +kernel
theorem kd_R_make_111 : decode kc_R_make 111 = .ok (.putfield 144, 3) := by decide +kernel
theorem kd_R_make_114 : decode kc_R_make 114 = .ok (.iconst 1, 1) := by decide +kernel
theorem kd_R_make_115 : decode kc_R_make 115 = .ok (.istore 4, 2) := by decide +kernel
theorem kd_R_make_117 : decode kc_R_make 117 = .ok (.iload 4, 2) := by decide +kernel
theorem kd_R_make_119 : decode kc_R_make 119 = .ok (.aload_n 0, 1) := by decide +kernel
theorem kd_R_make_120 : decode kc_R_make 120 = .ok (.getfield 141, 3) := by decide +kernel
theorem kd_R_make_123 : decode kc_R_make 123 = .ok (.if_icmp .ge 25, 3) := by decide +kernel
theorem kd_R_make_126 : decode kc_R_make 126 = .ok (.aload_n 0, 1) := by decide +kernel
theorem kd_R_make_127 : decode kc_R_make 127 = .ok (.getfield 54, 3) := by decide +kernel
theorem kd_R_make_130 : decode kc_R_make 130 = .ok (.iload 4, 2) := by decide +kernel
theorem kd_R_make_132 : decode kc_R_make 132 = .ok (.iconst 1, 1) := by decide +kernel
theorem kd_R_make_133 : decode kc_R_make 133 = .ok (.isub, 1) := by decide +kernel
theorem kd_R_make_134 : decode kc_R_make 134 = .ok (.aload_n 0, 1) := by decide +kernel
theorem kd_R_make_135 : decode kc_R_make 135 = .ok (.getfield 54, 3) := by decide +kernel
theorem kd_R_make_138 : decode kc_R_make 138 = .ok (.iload 4, 2) := by decide +kernel
theorem kd_R_make_140 : decode kc_R_make 140 = .ok (.laload, 1) := by decide +kernel
theorem kd_R_make_141 : decode kc_R_make 141 = .ok (.lastore, 1) := by decide +kernel
theorem kd_R_make_142 : decode kc_R_make 142 = .ok (.iinc 4 1, 3) := by decide +kernel
theorem kd_R_make_145 : decode kc_R_make 145 = .ok (.goto (-28), 3) := by decide +kernel
theorem kd_R_make_148 : decode kc_R_make 148 = .ok (.aload_n 0, 1) := by decide +kernel
theorem kd_R_make_149 : decode kc_R_make 149 = .ok (.aload_n 0, 1) := by decide +kernel
theorem kd_R_make_150 : decode kc_R_make 150 = .ok (.getfield 141, 3) := by decide +kernel
theorem kd_R_make_153 : decode kc_R_make 153 = .ok (.ifCond .le 12, 3) := by decide +kernel
theorem kd_R_make_156 : decode kc_R_make 156 = .ok (.aload_n 0, 1) := by decide +kernel
theorem kd_R_make_157 : decode kc_R_make 157 = .ok (.getfield 141, 3) := by decide +kernel
theorem kd_R_make_160 : decode kc_R_make 160 = .ok (.iconst 1, 1) := by decide +kernel
theorem kd_R_make_161 : decode kc_R_make 161 = .ok (.isub, 1) := by decide +kernel
theorem kd_R_make_162 : decode kc_R_make 162 = .ok (.goto 4, 3) := by decide +kernel
theorem kd_R_make_165 : decode kc_R_make 165 = .ok (.iconst 0, 1) := by decide +kernel
theorem kd_R_make_166 : decode kc_R_make 166 = .ok (.putfield 141, 3) := by decide +kernel
theorem kd_R_make_169 : decode kc_R_make 169 = .ok (.iload_n 2, 1) := by decide +kernel
theorem kd_R_make_170 : decode kc_R_make 170 = .ok (.ireturn, 1) := by decide +kernel
theorem kd_R_turned_0 : decode kc_R_turned 0 = .ok (.iload_n 2, 1) := by decide +kernel
theorem kd_R_turned_1 : decode kc_R_turned 1 = .ok (.iconst 4, 1) := by decide +kernel
theorem kd_R_turned_2 : decode kc_R_turned 2 = .ok (.if_icmp .eq 8, 3) := by decide +kernel
theorem kd_R_turned_5 : decode kc_R_turned 5 = .ok (.iload_n 2, 1) := by decide +kernel
theorem kd_R_turned_6 : decode kc_R_turned 6 = .ok (.iconst 5, 1) := by decide +kernel
theorem kd_R_turned_7 : decode kc_R_turned 7 = .ok (.if_icmp .ne 11, 3) := by decide +kernel
theorem kd_R_turned_10 : decode kc_R_turned 10 = .ok (.aload_n 0, 1) := by decide +kernel
theorem kd_R_turned_11 : decode kc_R_turned 11 = .ok (.getfield 28, 3) := by decide +kernel
theorem kd_R_turned_14 : decode kc_R_turned 14 = .ok (.iload_n 1, 1) := by decide +kernel
theorem kd_R_turned_15 : decode kc_R_turned 15 = .ok (.iaload, 1) := by decide +kernel
theorem kd_R_turned_16 : decode kc_R_turned 16 = .ok (.i2l, 1) := by decide +kernel
theorem kd_R_turned_17 : decode kc_R_turned 17 = .ok (.lreturn, 1) := by decide +kernel
theorem kd_R_turned_18 : decode kc_R_turned 18 = .ok (.aload_n 0, 1) := by decide +kernel
theorem kd_R_turned_19 : decode kc_R_turned 19 = .ok (.getfield 28, 3) := by decide +kernel
theorem kd_R_turned_22 : decode kc_R_turned 22 = .ok (.iload_n 1, 1) := by decide +kernel
theorem kd_R_turned_23 : decode kc_R_turned 23 = .ok (.iaload, 1) := by decide +kernel
theorem kd_R_turned_24 : decode kc_R_turned 24 = .ok (.iconst 1, 1) := by decide +kernel
theorem kd_R_turned_25 : decode kc_R_turned 25 = .ok (.if_icmp .ne 7, 3) := by decide +kernel
theorem kd_R_turned_28 : decode kc_R_turned 28 = .ok (.ldc2_w 126, 3) := by decide +kernel
theorem kd_R_turned_31 : decode kc_R_turned 31 = .ok (.lreturn, 1) := by decide +kernel
theorem kd_R_turned_32 : decode kc_R_turned 32 = .ok (.aload_n 0, 1) := by decide +kernel
theorem kd_R_turned_33 : decode kc_R_turned 33 = .ok (.getfield 28, 3) := by decide +kernel
theorem kd_R_turned_36 : decode kc_R_turned 36 = .ok (.iload_n 1, 1) := by decide +kernel
theorem kd_R_turned_37 : decode kc_R_turned 37 = .ok (.iaload, 1) := by decide +kernel
theorem kd_R_turned_38 : decode kc_R_turned 38 = .ok (.iconst 3, 1) := by decide +kernel
theorem kd_R_turned_39 : decode kc_R_turned 39 = .ok (.if_icmp .ne 8, 3) := by decide +kernel
theorem kd_R_turned_42 : decode kc_R_turned 42 = .ok (.iload_n 2, 1) := by decide +kernel
theorem kd_R_turned_43 : decode kc_R_turned 43 = .ok (.iconst 3, 1) := by decide +kernel
theorem kd_R_turned_44 : decode kc_R_turned 44 = .ok (.if_icmp .ne 10, 3) := by decide +kernel
theorem kd_R_turned_47 : decode kc_R_turned 47 = .ok (.aload_n 0, 1) := by decide +kernel
theorem kd_R_turned_48 : decode kc_R_turned 48 = .ok (.getfield 31, 3) := by decide +kernel
theorem kd_R_turned_51 : decode kc_R_turned 51 = .ok (.iload_n 1, 1) := by decide +kernel
theorem kd_R_turned_52 : decode kc_R_turned 52 = .ok (.laload, 1) := by decide +kernel
theorem kd_R_turned_53 : decode kc_R_turned 53 = .ok (.lreturn, 1) := by decide +kernel
theorem kd_R_turned_54 : decode kc_R_turned 54 = .ok (.iload_n 2, 1) := by decide +kernel
theorem kd_R_turned_55 : decode kc_R_turned 55 = .ok (.ifCond .ne 23, 3) := by decide +kernel
theorem kd_R_turned_58 : decode kc_R_turned 58 = .ok (.aload_n 0, 1) := by decide +kernel
theorem kd_R_turned_59 : decode kc_R_turned 59 = .ok (.getfield 31, 3) := by decide +kernel
theorem kd_R_turned_62 : decode kc_R_turned 62 = .ok (.iload_n 1, 1) := by decide +kernel
theorem kd_R_turned_63 : decode kc_R_turned 63 = .ok (.laload, 1) := by decide +kernel
theorem kd_R_turned_64 : decode kc_R_turned 64 = .ok (.invokestatic 128, 3) := by decide +kernel
theorem kd_R_turned_67 : decode kc_R_turned 67 = .ok (.ifCond .eq 7, 3) := by decide +kernel
theorem kd_R_turned_70 : decode kc_R_turned 70 = .ok (.lconst 1, 1) := by decide +kernel
theorem kd_R_turned_71 : decode kc_R_turned 71 = .ok (.goto 16, 3) := by decide +kernel
theorem kd_R_turned_74 : decode kc_R_turned 74 = .ok (.lconst 0, 1) := by decide +kernel
theorem kd_R_turned_75 : decode kc_R_turned 75 = .ok (.goto 12, 3) := by decide +kernel
theorem kd_R_turned_78 : decode kc_R_turned 78 = .ok (.aload_n 0, 1) := by decide +kernel
theorem kd_R_turned_79 : decode kc_R_turned 79 = .ok (.getfield 31, 3) := by decide +kernel
theorem kd_R_turned_82 : decode kc_R_turned 82 = .ok (.iload_n 1, 1) := by decide +kernel
theorem kd_R_turned_83 : decode kc_R_turned 83 = .ok (.laload, 1) := by decide +kernel
theorem kd_R_turned_84 : decode kc_R_turned 84 = .ok (.invokestatic 102, 3) := by decide +kernel
theorem kd_R_turned_87 : decode kc_R_turned 87 = .ok (.lreturn, 1) := by decide +kernel
theorem kd_R_isTrue_0 : decode kc_R_isTrue 0 = .ok (.lload_n 0, 1) := by decide +kernel
theorem kd_R_isTrue_1 : decode kc_R_isTrue 1 = .ok (.ldc2_w 122, 3) := by decide +kernel
theorem kd_R_isTrue_4 : decode kc_R_isTrue 4 = .ok (.land, 1) := by decide +kernel
theorem kd_R_isTrue_5 : decode kc_R_isTrue 5 = .ok (.lstore_n 2, 1) := by decide +kernel
theorem kd_R_isTrue_6 : decode kc_R_isTrue 6 = .ok (.lload_n 2, 1) := by decide +kernel
theorem kd_R_isTrue_7 : decode kc_R_isTrue 7 = .ok (.lconst 0, 1) := by decide +kernel
theorem kd_R_isTrue_8 : decode kc_R_isTrue 8 = .ok (.lcmp, 1) := by decide +kernel
theorem kd_R_isTrue_9 : decode kc_R_isTrue 9 = .ok (.ifCond .le 15, 3) := by decide +kernel
theorem kd_R_isTrue_12 : decode kc_R_isTrue 12 = .ok (.lload_n 2, 1) := by decide +kernel
theorem kd_R_isTrue_13 : decode kc_R_isTrue 13 = .ok (.ldc2_w 124, 3) := by decide +kernel
theorem kd_R_isTrue_16 : decode kc_R_isTrue 16 = .ok (.lcmp, 1) := by decide +kernel
theorem kd_R_isTrue_17 : decode kc_R_isTrue 17 = .ok (.ifCond .gt 7, 3) := by decide +kernel
theorem kd_R_isTrue_20 : decode kc_R_isTrue 20 = .ok (.iconst 1, 1) := by decide +kernel
theorem kd_R_isTrue_21 : decode kc_R_isTrue 21 = .ok (.goto 4, 3) := by decide +kernel
theorem kd_R_isTrue_24 : decode kc_R_isTrue 24 = .ok (.iconst 0, 1) := by decide +kernel
theorem kd_R_isTrue_25 : decode kc_R_isTrue 25 = .ok (.ireturn, 1) := by decide +kernel
theorem kd_R_exact_0 : decode kc_R_exact 0 = .ok (.iload_n 1, 1) := by decide +kernel
theorem kd_R_exact_1 : decode kc_R_exact 1 = .ok (.aload_n 0, 1) := by decide +kernel
theorem kd_R_exact_2 : decode kc_R_exact 2 = .ok (.getfield 82, 3) := by decide +kernel
theorem kd_R_exact_5 : decode kc_R_exact 5 = .ok (.invokestatic 64, 3) := by decide +kernel
theorem kd_R_exact_8 : decode kc_R_exact 8 = .ok (.ifCond .ne 25, 3) := by decide +kernel
theorem kd_R_exact_11 : decode kc_R_exact 11 = .ok (.iload_n 2, 1) := by decide +kernel
theorem kd_R_exact_12 : decode kc_R_exact 12 = .ok (.sipush 1000, 3) := by decide +kernel
theorem kd_R_exact_15 : decode kc_R_exact 15 = .ok (.invokestatic 64, 3) := by decide +kernel
theorem kd_R_exact_18 : decode kc_R_exact 18 = .ok (.ifCond .ne 15, 3) := by decide +kernel
theorem kd_R_exact_21 : decode kc_R_exact 21 = .ok (.aload_n 0, 1) := by decide +kernel
theorem kd_R_exact_22 : decode kc_R_exact 22 = .ok (.aload_n 0, 1) := by decide +kernel
theorem kd_R_exact_23 : decode kc_R_exact 23 = .ok (.getfield 85, 3) := by decide +kernel
theorem kd_R_exact_26 : decode kc_R_exact 26 = .ok (.iload_n 3, 1) := by decide +kernel
theorem kd_R_exact_27 : decode kc_R_exact 27 = .ok (.invokevirtual 75, 3) := by decide +kernel
theorem kd_R_exact_30 : decode kc_R_exact 30 = .ok (.ifCond .ne 7, 3) := by decide +kernel
theorem kd_R_exact_33 : decode kc_R_exact 33 = .ok (.iconst 1, 1) := by decide +kernel
theorem kd_R_exact_34 : decode kc_R_exact 34 = .ok (.goto 4, 3) := by decide +kernel
theorem kd_R_exact_37 : decode kc_R_exact 37 = .ok (.iconst 0, 1) := by decide +kernel
theorem kd_R_exact_38 : decode kc_R_exact 38 = .ok (.istore 4, 2) := by decide +kernel
theorem kd_R_exact_40 : decode kc_R_exact 40 = .ok (.iconst (-1), 1) := by decide +kernel
theorem kd_R_exact_41 : decode kc_R_exact 41 = .ok (.istore 5, 2) := by decide +kernel
theorem kd_R_exact_43 : decode kc_R_exact 43 = .ok (.iload 4, 2) := by decide +kernel
theorem kd_R_exact_45 : decode kc_R_exact 45 = .ok (.ifCond .eq 7, 3) := by decide +kernel
theorem kd_R_exact_48 : decode kc_R_exact 48 = .ok (.iconst (-1), 1) := by decide +kernel
theorem kd_R_exact_49 : decode kc_R_exact 49 = .ok (.goto 9, 3) := by decide +kernel
theorem kd_R_exact_52 : decode kc_R_exact 52 = .ok (.aload_n 0, 1) := by decide +kernel
theorem kd_R_exact_53 : decode kc_R_exact 53 = .ok (.getfield 13, 3) := by decide +kernel
theorem kd_R_exact_56 : decode kc_R_exact 56 = .ok (.iload_n 1, 1) := by decide +kernel
theorem kd_R_exact_57 : decode kc_R_exact 57 = .ok (.iaload, 1) := by decide +kernel
theorem kd_R_exact_58 : decode kc_R_exact 58 = .ok (.istore 6, 2) := by decide +kernel
theorem kd_R_exact_60 : decode kc_R_exact 60 = .ok (.iload 6, 2) := by decide +kernel
theorem kd_R_exact_62 : decode kc_R_exact 62 = .ok (.ifCond .lt 33, 3) := by decide +kernel
theorem kd_R_exact_65 : decode kc_R_exact 65 = .ok (.iload 5, 2) := by decide +kernel
theorem kd_R_exact_67 : decode kc_R_exact 67 = .ok (.ifCond .ge 28, 3) := by decide +kernel
theorem kd_R_exact_70 : decode kc_R_exact 70 = .ok (.aload_n 0, 1) := by decide +kernel
theorem kd_R_exact_71 : decode kc_R_exact 71 = .ok (.iload 6, 2) := by decide +kernel
theorem kd_R_exact_73 : decode kc_R_exact 73 = .ok (.iload_n 2, 1) := by decide +kernel
theorem kd_R_exact_74 : decode kc_R_exact 74 = .ok (.aload_n 0, 1) := by decide +kernel
theorem kd_R_exact_75 : decode kc_R_exact 75 = .ok (.getfield 85, 3) := by decide +kernel
theorem kd_R_exact_78 : decode kc_R_exact 78 = .ok (.invokevirtual 78, 3) := by decide +kernel
theorem kd_R_exact_81 : decode kc_R_exact 81 = .ok (.istore 5, 2) := by decide +kernel
theorem kd_R_exact_83 : decode kc_R_exact 83 = .ok (.aload_n 0, 1) := by decide +kernel
theorem kd_R_exact_84 : decode kc_R_exact 84 = .ok (.getfield 7, 3) := by decide +kernel
theorem kd_R_exact_87 : decode kc_R_exact 87 = .ok (.iload 6, 2) := by decide +kernel
theorem kd_R_exact_89 : decode kc_R_exact 89 = .ok (.iaload, 1) := by decide +kernel
theorem kd_R_exact_90 : decode kc_R_exact 90 = .ok (.istore 6, 2) := by decide +kernel
theorem kd_R_exact_92 : decode kc_R_exact 92 = .ok (.goto (-32), 3) := by decide +kernel
theorem kd_R_exact_95 : decode kc_R_exact 95 = .ok (.aload_n 0, 1) := by decide +kernel
theorem kd_R_exact_96 : decode kc_R_exact 96 = .ok (.iload 4, 2) := by decide +kernel
theorem kd_R_exact_98 : decode kc_R_exact 98 = .ok (.iload 4, 2) := by decide +kernel
theorem kd_R_exact_100 : decode kc_R_exact 100 = .ok (.ifCond .ne 21, 3) := by decide +kernel
theorem kd_R_exact_103 : decode kc_R_exact 103 = .ok (.iload 5, 2) := by decide +kernel
theorem kd_R_exact_105 : decode kc_R_exact 105 = .ok (.ifCond .lt 12, 3) := by decide +kernel
theorem kd_R_exact_108 : decode kc_R_exact 108 = .ok (.aload_n 0, 1) := by decide +kernel
theorem kd_R_exact_109 : decode kc_R_exact 109 = .ok (.iload 5, 2) := by decide +kernel
theorem kd_R_exact_111 : decode kc_R_exact 111 = .ok (.invokevirtual 148, 3) := by decide +kernel
theorem kd_R_exact_114 : decode kc_R_exact 114 = .ok (.ifCond .ne 7, 3) := by decide +kernel
theorem kd_R_exact_117 : decode kc_R_exact 117 = .ok (.iconst 1, 1) := by decide +kernel
theorem kd_R_exact_118 : decode kc_R_exact 118 = .ok (.goto 4, 3) := by decide +kernel
theorem kd_R_exact_121 : decode kc_R_exact 121 = .ok (.iconst 0, 1) := by decide +kernel
theorem kd_R_exact_122 : decode kc_R_exact 122 = .ok (.iconst 0, 1) := by decide +kernel
theorem kd_R_exact_123 : decode kc_R_exact 123 = .ok (.invokevirtual 68, 3) := by decide +kernel
theorem kd_R_exact_126 : decode kc_R_exact 126 = .ok (.ifCond .eq 10, 3) := by decide +kernel
theorem kd_R_exact_129 : decode kc_R_exact 129 = .ok (.aload_n 0, 1) := by decide +kernel
theorem kd_R_exact_130 : decode kc_R_exact 130 = .ok (.iconst 0, 1) := by decide +kernel
theorem kd_R_exact_131 : decode kc_R_exact 131 = .ok (.putfield 85, 3) := by decide +kernel
theorem kd_R_exact_134 : decode kc_R_exact 134 = .ok (.iconst 0, 1) := by decide +kernel
theorem kd_R_exact_135 : decode kc_R_exact 135 = .ok (.ireturn, 1) := by decide +kernel
theorem kd_R_exact_136 : decode kc_R_exact 136 = .ok (.aload_n 0, 1) := by decide +kernel
theorem kd_R_exact_137 : decode kc_R_exact 137 = .ok (.iload_n 1, 1) := by decide +kernel
theorem kd_R_exact_138 : decode kc_R_exact 138 = .ok (.iload 5, 2) := by decide +kernel
theorem kd_R_exact_140 : decode kc_R_exact 140 = .ok (.invokevirtual 158, 3) := by decide +kernel
theorem kd_R_exact_143 : decode kc_R_exact 143 = .ok (.ireturn, 1) := by decide +kernel
theorem kd_R_answer_0 : decode kc_R_answer 0 = .ok (.aload_n 0, 1) := by decide +kernel
theorem kd_R_answer_1 : decode kc_R_answer 1 = .ok (.aload_n 0, 1) := by decide +kernel
theorem kd_R_answer_2 : decode kc_R_answer 2 = .ok (.getfield 141, 3) := by decide +kernel
theorem kd_R_answer_5 : decode kc_R_answer 5 = .ok (.bipush 64, 2) := by decide +kernel
theorem kd_R_answer_7 : decode kc_R_answer 7 = .ok (.if_icmp .ne 7, 3) := by decide +kernel
theorem kd_R_answer_10 : decode kc_R_answer 10 = .ok (.iconst 1, 1) := by decide +kernel
theorem kd_R_answer_11 : decode kc_R_answer 11 = .ok (.goto 4, 3) := by decide +kernel
theorem kd_R_answer_14 : decode kc_R_answer 14 = .ok (.iconst 0, 1) := by decide +kernel
theorem kd_R_answer_15 : decode kc_R_answer 15 = .ok (.iconst 0, 1) := by decide +kernel
theorem kd_R_answer_16 : decode kc_R_answer 16 = .ok (.iconst 0, 1) := by decide +kernel
theorem kd_R_answer_17 : decode kc_R_answer 17 = .ok (.invokevirtual 68, 3) := by decide +kernel
theorem kd_R_answer_20 : decode kc_R_answer 20 = .ok (.ifCond .eq 4, 3) := by decide +kernel
theorem kd_R_answer_23 : decode kc_R_answer 23 = .ok (.return_, 1) := by decide +kernel
theorem kd_R_answer_24 : decode kc_R_answer 24 = .ok (.aload_n 0, 1) := by decide +kernel
theorem kd_R_answer_25 : decode kc_R_answer 25 = .ok (.getfield 54, 3) := by decide +kernel
theorem kd_R_answer_28 : decode kc_R_answer 28 = .ok (.aload_n 0, 1) := by decide +kernel
theorem kd_R_answer_29 : decode kc_R_answer 29 = .ok (.getfield 141, 3) := by decide +kernel
theorem kd_R_answer_32 : decode kc_R_answer 32 = .ok (.lload_n 1, 1) := by decide +kernel
theorem kd_R_answer_33 : decode kc_R_answer 33 = .ok (.lastore, 1) := by decide +kernel
theorem kd_R_answer_34 : decode kc_R_answer 34 = .ok (.aload_n 0, 1) := by decide +kernel
theorem kd_R_answer_35 : decode kc_R_answer 35 = .ok (.dup, 1) := by decide +kernel
theorem kd_R_answer_36 : decode kc_R_answer 36 = .ok (.getfield 141, 3) := by decide +kernel
theorem kd_R_answer_39 : decode kc_R_answer 39 = .ok (.iconst 1, 1) := by decide +kernel
theorem kd_R_answer_40 : decode kc_R_answer 40 = .ok (.iadd, 1) := by decide +kernel
theorem kd_R_answer_41 : decode kc_R_answer 41 = .ok (.putfield 141, 3) := by decide +kernel
theorem kd_R_answer_44 : decode kc_R_answer 44 = .ok (.return_, 1) := by decide +kernel
theorem kd_R_given_0 : decode kc_R_given 0 = .ok (.aload_n 0, 1) := by decide +kernel
theorem kd_R_given_1 : decode kc_R_given 1 = .ok (.aload_n 0, 1) := by decide +kernel
theorem kd_R_given_2 : decode kc_R_given 2 = .ok (.getfield 134, 3) := by decide +kernel
theorem kd_R_given_5 : decode kc_R_given 5 = .ok (.ifCond .ne 7, 3) := by decide +kernel
theorem kd_R_given_8 : decode kc_R_given 8 = .ok (.iconst 1, 1) := by decide +kernel
theorem kd_R_given_9 : decode kc_R_given 9 = .ok (.goto 4, 3) := by decide +kernel
theorem kd_R_given_12 : decode kc_R_given 12 = .ok (.iconst 0, 1) := by decide +kernel
theorem kd_R_given_13 : decode kc_R_given 13 = .ok (.iconst 0, 1) := by decide +kernel
theorem kd_R_given_14 : decode kc_R_given 14 = .ok (.iconst 0, 1) := by decide +kernel
theorem kd_R_given_15 : decode kc_R_given 15 = .ok (.invokevirtual 68, 3) := by decide +kernel
theorem kd_R_given_18 : decode kc_R_given 18 = .ok (.ifCond .eq 7, 3) := by decide +kernel
theorem kd_R_given_21 : decode kc_R_given 21 = .ok (.lconst 0, 1) := by decide +kernel
theorem kd_R_given_22 : decode kc_R_given 22 = .ok (.goto 7, 3) := by decide +kernel
theorem kd_R_given_25 : decode kc_R_given 25 = .ok (.aload_n 0, 1) := by decide +kernel
theorem kd_R_given_26 : decode kc_R_given 26 = .ok (.getfield 144, 3) := by decide +kernel
theorem kd_R_given_29 : decode kc_R_given 29 = .ok (.lreturn, 1) := by decide +kernel
theorem kd_R_calls_0 : decode kc_R_calls 0 = .ok (.aload_n 0, 1) := by decide +kernel
theorem kd_R_calls_1 : decode kc_R_calls 1 = .ok (.iconst 0, 1) := by decide +kernel
theorem kd_R_calls_2 : decode kc_R_calls 2 = .ok (.putfield 57, 3) := by decide +kernel
theorem kd_R_calls_5 : decode kc_R_calls 5 = .ok (.aload_n 0, 1) := by decide +kernel
theorem kd_R_calls_6 : decode kc_R_calls 6 = .ok (.getfield 134, 3) := by decide +kernel
theorem kd_R_calls_9 : decode kc_R_calls 9 = .ok (.ireturn, 1) := by decide +kernel
theorem kd_R_look_0 : decode kc_R_look 0 = .ok (.iload_n 2, 1) := by decide +kernel
theorem kd_R_look_1 : decode kc_R_look 1 = .ok (.iconst 3, 1) := by decide +kernel
theorem kd_R_look_2 : decode kc_R_look 2 = .ok (.invokestatic 64, 3) := by decide +kernel
theorem kd_R_look_5 : decode kc_R_look 5 = .ok (.istore_n 3, 1) := by decide +kernel
theorem kd_R_look_6 : decode kc_R_look 6 = .ok (.aload_n 0, 1) := by decide +kernel
theorem kd_R_look_7 : decode kc_R_look 7 = .ok (.iload_n 3, 1) := by decide +kernel
theorem kd_R_look_8 : decode kc_R_look 8 = .ok (.iload_n 3, 1) := by decide +kernel
theorem kd_R_look_9 : decode kc_R_look 9 = .ok (.ifCond .ne 15, 3) := by decide +kernel
theorem kd_R_look_12 : decode kc_R_look 12 = .ok (.aload_n 0, 1) := by decide +kernel
theorem kd_R_look_13 : decode kc_R_look 13 = .ok (.iload_n 1, 1) := by decide +kernel
theorem kd_R_look_14 : decode kc_R_look 14 = .ok (.invokevirtual 161, 3) := by decide +kernel
theorem kd_R_look_17 : decode kc_R_look 17 = .ok (.ifCond .eq 7, 3) := by decide +kernel
theorem kd_R_look_20 : decode kc_R_look 20 = .ok (.iconst 1, 1) := by decide +kernel
theorem kd_R_look_21 : decode kc_R_look 21 = .ok (.goto 4, 3) := by decide +kernel
theorem kd_R_look_24 : decode kc_R_look 24 = .ok (.iconst 0, 1) := by decide +kernel
theorem kd_R_look_25 : decode kc_R_look 25 = .ok (.iconst 0, 1) := by decide +kernel
theorem kd_R_look_26 : decode kc_R_look 26 = .ok (.invokevirtual 68, 3) := by decide +kernel
theorem kd_R_look_29 : decode kc_R_look 29 = .ok (.ifCond .eq 5, 3) := by decide +kernel
theorem kd_R_look_32 : decode kc_R_look 32 = .ok (.iconst 0, 1) := by decide +kernel
theorem kd_R_look_33 : decode kc_R_look 33 = .ok (.ireturn, 1) := by decide +kernel
theorem kd_R_look_34 : decode kc_R_look 34 = .ok (.iload_n 2, 1) := by decide +kernel
theorem kd_R_look_35 : decode kc_R_look 35 = .ok (.ifCond .ne 15, 3) := by decide +kernel
theorem kd_R_look_38 : decode kc_R_look 38 = .ok (.aload_n 0, 1) := by decide +kernel
theorem kd_R_look_39 : decode kc_R_look 39 = .ok (.getfield 42, 3) := by decide +kernel
theorem kd_R_look_42 : decode kc_R_look 42 = .ok (.iload_n 1, 1) := by decide +kernel
theorem kd_R_look_43 : decode kc_R_look 43 = .ok (.bipush 64, 2) := by decide +kernel
theorem kd_R_look_45 : decode kc_R_look 45 = .ok (.irem, 1) := by decide +kernel
theorem kd_R_look_46 : decode kc_R_look 46 = .ok (.iaload, 1) := by decide +kernel
theorem kd_R_look_47 : decode kc_R_look 47 = .ok (.goto 29, 3) := by decide +kernel
theorem kd_R_look_50 : decode kc_R_look 50 = .ok (.iload_n 2, 1) := by decide +kernel
theorem kd_R_look_51 : decode kc_R_look 51 = .ok (.iconst 1, 1) := by decide +kernel
theorem kd_R_look_52 : decode kc_R_look 52 = .ok (.if_icmp .ne 15, 3) := by decide +kernel
theorem kd_R_look_55 : decode kc_R_look 55 = .ok (.aload_n 0, 1) := by decide +kernel
theorem kd_R_look_56 : decode kc_R_look 56 = .ok (.getfield 45, 3) := by decide +kernel
theorem kd_R_look_59 : decode kc_R_look 59 = .ok (.iload_n 1, 1) := by decide +kernel
theorem kd_R_look_60 : decode kc_R_look 60 = .ok (.bipush 64, 2) := by decide +kernel
theorem kd_R_look_62 : decode kc_R_look 62 = .ok (.irem, 1) := by decide +kernel
theorem kd_R_look_63 : decode kc_R_look 63 = .ok (.iaload, 1) := by decide +kernel
theorem kd_R_look_64 : decode kc_R_look 64 = .ok (.goto 12, 3) := by decide +kernel
theorem kd_R_look_67 : decode kc_R_look 67 = .ok (.aload_n 0, 1) := by decide +kernel
theorem kd_R_look_68 : decode kc_R_look 68 = .ok (.getfield 48, 3) := by decide +kernel
theorem kd_R_look_71 : decode kc_R_look 71 = .ok (.iload_n 1, 1) := by decide +kernel
theorem kd_R_look_72 : decode kc_R_look 72 = .ok (.bipush 64, 2) := by decide +kernel
theorem kd_R_look_74 : decode kc_R_look 74 = .ok (.irem, 1) := by decide +kernel
theorem kd_R_look_75 : decode kc_R_look 75 = .ok (.iaload, 1) := by decide +kernel
theorem kd_R_look_76 : decode kc_R_look 76 = .ok (.ireturn, 1) := by decide +kernel
theorem kd_R_isGone_0 : decode kc_R_isGone 0 = .ok (.iload_n 1, 1) := by decide +kernel
theorem kd_R_isGone_1 : decode kc_R_isGone 1 = .ok (.ifCond .lt 22, 3) := by decide +kernel
theorem kd_R_isGone_4 : decode kc_R_isGone 4 = .ok (.iload_n 1, 1) := by decide +kernel
theorem kd_R_isGone_5 : decode kc_R_isGone 5 = .ok (.aload_n 0, 1) := by decide +kernel
theorem kd_R_isGone_6 : decode kc_R_isGone 6 = .ok (.getfield 134, 3) := by decide +kernel
theorem kd_R_isGone_9 : decode kc_R_isGone 9 = .ok (.if_icmp .ge 14, 3) := by decide +kernel
theorem kd_R_isGone_12 : decode kc_R_isGone 12 = .ok (.iload_n 1, 1) := by decide +kernel
theorem kd_R_isGone_13 : decode kc_R_isGone 13 = .ok (.bipush 64, 2) := by decide +kernel
theorem kd_R_isGone_15 : decode kc_R_isGone 15 = .ok (.iadd, 1) := by decide +kernel
theorem kd_R_isGone_16 : decode kc_R_isGone 16 = .ok (.aload_n 0, 1) := by decide +kernel
theorem kd_R_isGone_17 : decode kc_R_isGone 17 = .ok (.getfield 134, 3) := by decide +kernel
theorem kd_R_isGone_20 : decode kc_R_isGone 20 = .ok (.if_icmp .ge 7, 3) := by decide +kernel
theorem kd_R_isGone_23 : decode kc_R_isGone 23 = .ok (.iconst 1, 1) := by decide +kernel
theorem kd_R_isGone_24 : decode kc_R_isGone 24 = .ok (.goto 4, 3) := by decide +kernel
theorem kd_R_isGone_27 : decode kc_R_isGone 27 = .ok (.iconst 0, 1) := by decide +kernel
theorem kd_R_isGone_28 : decode kc_R_isGone 28 = .ok (.ireturn, 1) := by decide +kernel
theorem kd_R_converted_0 : decode kc_R_converted 0 = .ok (.aload_n 0, 1) := by decide +kernel
theorem kd_R_converted_1 : decode kc_R_converted 1 = .ok (.aload_n 0, 1) := by decide +kernel
theorem kd_R_converted_2 : decode kc_R_converted 2 = .ok (.iload_n 1, 1) := by decide +kernel
theorem kd_R_converted_3 : decode kc_R_converted 3 = .ok (.invokevirtual 161, 3) := by decide +kernel
theorem kd_R_converted_6 : decode kc_R_converted 6 = .ok (.ifCond .ne 19, 3) := by decide +kernel
theorem kd_R_converted_9 : decode kc_R_converted 9 = .ok (.iload_n 2, 1) := by decide +kernel
theorem kd_R_converted_10 : decode kc_R_converted 10 = .ok (.aload_n 0, 1) := by decide +kernel
theorem kd_R_converted_11 : decode kc_R_converted 11 = .ok (.getfield 48, 3) := by decide +kernel
theorem kd_R_converted_14 : decode kc_R_converted 14 = .ok (.iload_n 1, 1) := by decide +kernel
theorem kd_R_converted_15 : decode kc_R_converted 15 = .ok (.bipush 64, 2) := by decide +kernel
theorem kd_R_converted_17 : decode kc_R_converted 17 = .ok (.irem, 1) := by decide +kernel
theorem kd_R_converted_18 : decode kc_R_converted 18 = .ok (.iaload, 1) := by decide +kernel
theorem kd_R_converted_19 : decode kc_R_converted 19 = .ok (.invokestatic 64, 3) := by decide +kernel
theorem kd_R_converted_22 : decode kc_R_converted 22 = .ok (.ifCond .eq 7, 3) := by decide +kernel
theorem kd_R_converted_25 : decode kc_R_converted 25 = .ok (.iconst 1, 1) := by decide +kernel
theorem kd_R_converted_26 : decode kc_R_converted 26 = .ok (.goto 4, 3) := by decide +kernel
theorem kd_R_converted_29 : decode kc_R_converted 29 = .ok (.iconst 0, 1) := by decide +kernel
theorem kd_R_converted_30 : decode kc_R_converted 30 = .ok (.iconst 0, 1) := by decide +kernel
theorem kd_R_converted_31 : decode kc_R_converted 31 = .ok (.iconst 0, 1) := by decide +kernel
theorem kd_R_converted_32 : decode kc_R_converted 32 = .ok (.invokevirtual 68, 3) := by decide +kernel
theorem kd_R_converted_35 : decode kc_R_converted 35 = .ok (.ifCond .eq 7, 3) := by decide +kernel
theorem kd_R_converted_38 : decode kc_R_converted 38 = .ok (.lconst 0, 1) := by decide +kernel
theorem kd_R_converted_39 : decode kc_R_converted 39 = .ok (.goto 16, 3) := by decide +kernel
theorem kd_R_converted_42 : decode kc_R_converted 42 = .ok (.aload_n 0, 1) := by decide +kernel
theorem kd_R_converted_43 : decode kc_R_converted 43 = .ok (.getfield 51, 3) := by decide +kernel
theorem kd_R_converted_46 : decode kc_R_converted 46 = .ok (.iconst 4, 1) := by decide +kernel
theorem kd_R_converted_47 : decode kc_R_converted 47 = .ok (.iload_n 1, 1) := by decide +kernel
theorem kd_R_converted_48 : decode kc_R_converted 48 = .ok (.bipush 64, 2) := by decide +kernel
theorem kd_R_converted_50 : decode kc_R_converted 50 = .ok (.irem, 1) := by decide +kernel
theorem kd_R_converted_51 : decode kc_R_converted 51 = .ok (.imul, 1) := by decide +kernel
theorem kd_R_converted_52 : decode kc_R_converted 52 = .ok (.iload_n 2, 1) := by decide +kernel
theorem kd_R_converted_53 : decode kc_R_converted 53 = .ok (.iadd, 1) := by decide +kernel
theorem kd_R_converted_54 : decode kc_R_converted 54 = .ok (.laload, 1) := by decide +kernel
theorem kd_R_converted_55 : decode kc_R_converted 55 = .ok (.lreturn, 1) := by decide +kernel
end
section
/-! DECODE ROWS (written by wip/gen/names.py) -/
theorem kd_L_klass_0 : decode kc_L_klass 0 = .ok (.aload_n 2, 1) := by decide +kernel
theorem kd_L_klass_1 : decode kc_L_klass 1 = .ok (.iconst 0, 1) := by decide +kernel
theorem kd_L_klass_2 : decode kc_L_klass 2 = .ok (.aload_n 0, 1) := by decide +kernel
theorem kd_L_klass_3 : decode kc_L_klass 3 = .ok (.iload_n 1, 1) := by decide +kernel
theorem kd_L_klass_4 : decode kc_L_klass 4 = .ok (.invokevirtual 7, 3) := by decide +kernel
theorem kd_L_klass_7 : decode kc_L_klass 7 = .ok (.i2l, 1) := by decide +kernel
theorem kd_L_klass_8 : decode kc_L_klass 8 = .ok (.lastore, 1) := by decide +kernel
theorem kd_L_klass_9 : decode kc_L_klass 9 = .ok (.goto 9, 3) := by decide +kernel
theorem kd_L_klass_12 : decode kc_L_klass 12 = .ok (.astore_n 3, 1) := by decide +kernel
theorem kd_L_klass_13 : decode kc_L_klass 13 = .ok (.iconst 1, 1) := by decide +kernel
theorem kd_L_klass_14 : decode kc_L_klass 14 = .ok (.ireturn, 1) := by decide +kernel
theorem kd_L_klass_15 : decode kc_L_klass 15 = .ok (.astore_n 3, 1) := by decide +kernel
theorem kd_L_klass_16 : decode kc_L_klass 16 = .ok (.iconst 2, 1) := by decide +kernel
theorem kd_L_klass_17 : decode kc_L_klass 17 = .ok (.ireturn, 1) := by decide +kernel
theorem kd_L_klass_18 : decode kc_L_klass 18 = .ok (.iconst 0, 1) := by decide +kernel
theorem kd_L_klass_19 : decode kc_L_klass 19 = .ok (.ireturn, 1) := by decide +kernel
theorem kd_L_method_0 : decode kc_L_method 0 = .ok (.aload 6, 2) := by decide +kernel
theorem kd_L_method_2 : decode kc_L_method 2 = .ok (.iconst 0, 1) := by decide +kernel
theorem kd_L_method_3 : decode kc_L_method 3 = .ok (.aload_n 0, 1) := by decide +kernel
theorem kd_L_method_4 : decode kc_L_method 4 = .ok (.iload_n 1, 1) := by decide +kernel
theorem kd_L_method_5 : decode kc_L_method 5 = .ok (.iload_n 2, 1) := by decide +kernel
theorem kd_L_method_6 : decode kc_L_method 6 = .ok (.iload_n 3, 1) := by decide +kernel
theorem kd_L_method_7 : decode kc_L_method 7 = .ok (.iload 4, 2) := by decide +kernel
theorem kd_L_method_9 : decode kc_L_method 9 = .ok (.iload 5, 2) := by decide +kernel
theorem kd_L_method_11 : decode kc_L_method 11 = .ok (.invokevirtual 17, 3) := by decide +kernel
theorem kd_L_method_14 : decode kc_L_method 14 = .ok (.i2l, 1) := by decide +kernel
theorem kd_L_method_15 : decode kc_L_method 15 = .ok (.lastore, 1) := by decide +kernel
theorem kd_L_method_16 : decode kc_L_method 16 = .ok (.goto 11, 3) := by decide +kernel
theorem kd_L_method_19 : decode kc_L_method 19 = .ok (.astore 7, 2) := by decide +kernel
theorem kd_L_method_21 : decode kc_L_method 21 = .ok (.iconst 1, 1) := by decide +kernel
theorem kd_L_method_22 : decode kc_L_method 22 = .ok (.ireturn, 1) := by decide +kernel
theorem kd_L_method_23 : decode kc_L_method 23 = .ok (.astore 7, 2) := by decide +kernel
theorem kd_L_method_25 : decode kc_L_method 25 = .ok (.iconst 2, 1) := by decide +kernel
theorem kd_L_method_26 : decode kc_L_method 26 = .ok (.ireturn, 1) := by decide +kernel
theorem kd_L_method_27 : decode kc_L_method 27 = .ok (.iconst 0, 1) := by decide +kernel
theorem kd_L_method_28 : decode kc_L_method 28 = .ok (.ireturn, 1) := by decide +kernel
theorem kd_L_object_0 : decode kc_L_object 0 = .ok (.aload_n 2, 1) := by decide +kernel
theorem kd_L_object_1 : decode kc_L_object 1 = .ok (.iconst 0, 1) := by decide +kernel
theorem kd_L_object_2 : decode kc_L_object 2 = .ok (.aload_n 0, 1) := by decide +kernel
theorem kd_L_object_3 : decode kc_L_object 3 = .ok (.iload_n 1, 1) := by decide +kernel
theorem kd_L_object_4 : decode kc_L_object 4 = .ok (.invokevirtual 21, 3) := by decide +kernel
theorem kd_L_object_7 : decode kc_L_object 7 = .ok (.i2l, 1) := by decide +kernel
theorem kd_L_object_8 : decode kc_L_object 8 = .ok (.lastore, 1) := by decide +kernel
theorem kd_L_object_9 : decode kc_L_object 9 = .ok (.goto 9, 3) := by decide +kernel
theorem kd_L_object_12 : decode kc_L_object 12 = .ok (.astore_n 3, 1) := by decide +kernel
theorem kd_L_object_13 : decode kc_L_object 13 = .ok (.iconst 1, 1) := by decide +kernel
theorem kd_L_object_14 : decode kc_L_object 14 = .ok (.ireturn, 1) := by decide +kernel
theorem kd_L_object_15 : decode kc_L_object 15 = .ok (.astore_n 3, 1) := by decide +kernel
theorem kd_L_object_16 : decode kc_L_object 16 = .ok (.iconst 2, 1) := by decide +kernel
theorem kd_L_object_17 : decode kc_L_object 17 = .ok (.ireturn, 1) := by decide +kernel
theorem kd_L_object_18 : decode kc_L_object 18 = .ok (.iconst 0, 1) := by decide +kernel
theorem kd_L_object_19 : decode kc_L_object 19 = .ok (.ireturn, 1) := by decide +kernel
theorem kd_L_argument_0 : decode kc_L_argument 0 = .ok (.aload 4, 2) := by decide +kernel
theorem kd_L_argument_2 : decode kc_L_argument 2 = .ok (.iconst 0, 1) := by decide +kernel
theorem kd_L_argument_3 : decode kc_L_argument 3 = .ok (.aload_n 0, 1) := by decide +kernel
theorem kd_L_argument_4 : decode kc_L_argument 4 = .ok (.iload_n 1, 1) := by decide +kernel
theorem kd_L_argument_5 : decode kc_L_argument 5 = .ok (.lload_n 2, 1) := by decide +kernel
theorem kd_L_argument_6 : decode kc_L_argument 6 = .ok (.invokevirtual 24, 3) := by decide +kernel
theorem kd_L_argument_9 : decode kc_L_argument 9 = .ok (.i2l, 1) := by decide +kernel
theorem kd_L_argument_10 : decode kc_L_argument 10 = .ok (.lastore, 1) := by decide +kernel
theorem kd_L_argument_11 : decode kc_L_argument 11 = .ok (.goto 11, 3) := by decide +kernel
theorem kd_L_argument_14 : decode kc_L_argument 14 = .ok (.astore 5, 2) := by decide +kernel
theorem kd_L_argument_16 : decode kc_L_argument 16 = .ok (.iconst 1, 1) := by decide +kernel
theorem kd_L_argument_17 : decode kc_L_argument 17 = .ok (.ireturn, 1) := by decide +kernel
theorem kd_L_argument_18 : decode kc_L_argument 18 = .ok (.astore 5, 2) := by decide +kernel
theorem kd_L_argument_20 : decode kc_L_argument 20 = .ok (.iconst 2, 1) := by decide +kernel
theorem kd_L_argument_21 : decode kc_L_argument 21 = .ok (.ireturn, 1) := by decide +kernel
theorem kd_L_argument_22 : decode kc_L_argument 22 = .ok (.iconst 0, 1) := by decide +kernel
theorem kd_L_argument_23 : decode kc_L_argument 23 = .ok (.ireturn, 1) := by decide +kernel
theorem kd_L_weight_0 : decode kc_L_weight 0 = .ok (.aload_n 3, 1) := by decide +kernel
theorem kd_L_weight_1 : decode kc_L_weight 1 = .ok (.iconst 0, 1) := by decide +kernel
theorem kd_L_weight_2 : decode kc_L_weight 2 = .ok (.aload_n 0, 1) := by decide +kernel
theorem kd_L_weight_3 : decode kc_L_weight 3 = .ok (.iload_n 1, 1) := by decide +kernel
theorem kd_L_weight_4 : decode kc_L_weight 4 = .ok (.iload_n 2, 1) := by decide +kernel
theorem kd_L_weight_5 : decode kc_L_weight 5 = .ok (.invokevirtual 28, 3) := by decide +kernel
theorem kd_L_weight_8 : decode kc_L_weight 8 = .ok (.i2l, 1) := by decide +kernel
theorem kd_L_weight_9 : decode kc_L_weight 9 = .ok (.lastore, 1) := by decide +kernel
theorem kd_L_weight_10 : decode kc_L_weight 10 = .ok (.goto 7, 3) := by decide +kernel
theorem kd_L_weight_13 : decode kc_L_weight 13 = .ok (.astore 4, 2) := by decide +kernel
theorem kd_L_weight_15 : decode kc_L_weight 15 = .ok (.iconst 1, 1) := by decide +kernel
theorem kd_L_weight_16 : decode kc_L_weight 16 = .ok (.ireturn, 1) := by decide +kernel
theorem kd_L_weight_17 : decode kc_L_weight 17 = .ok (.iconst 0, 1) := by decide +kernel
theorem kd_L_weight_18 : decode kc_L_weight 18 = .ok (.ireturn, 1) := by decide +kernel
theorem kd_L_call_0 : decode kc_L_call 0 = .ok (.aload_n 3, 1) := by decide +kernel
theorem kd_L_call_1 : decode kc_L_call 1 = .ok (.iconst 0, 1) := by decide +kernel
theorem kd_L_call_2 : decode kc_L_call 2 = .ok (.aload_n 0, 1) := by decide +kernel
theorem kd_L_call_3 : decode kc_L_call 3 = .ok (.iload_n 1, 1) := by decide +kernel
theorem kd_L_call_4 : decode kc_L_call 4 = .ok (.iload_n 2, 1) := by decide +kernel
theorem kd_L_call_5 : decode kc_L_call 5 = .ok (.invokevirtual 32, 3) := by decide +kernel
theorem kd_L_call_8 : decode kc_L_call 8 = .ok (.i2l, 1) := by decide +kernel
theorem kd_L_call_9 : decode kc_L_call 9 = .ok (.lastore, 1) := by decide +kernel
theorem kd_L_call_10 : decode kc_L_call 10 = .ok (.goto 15, 3) := by decide +kernel
theorem kd_L_call_13 : decode kc_L_call 13 = .ok (.astore 4, 2) := by decide +kernel
theorem kd_L_call_15 : decode kc_L_call 15 = .ok (.iconst 1, 1) := by decide +kernel
theorem kd_L_call_16 : decode kc_L_call 16 = .ok (.ireturn, 1) := by decide +kernel
theorem kd_L_call_17 : decode kc_L_call 17 = .ok (.astore 4, 2) := by decide +kernel
theorem kd_L_call_19 : decode kc_L_call 19 = .ok (.iconst 2, 1) := by decide +kernel
theorem kd_L_call_20 : decode kc_L_call 20 = .ok (.ireturn, 1) := by decide +kernel
theorem kd_L_call_21 : decode kc_L_call 21 = .ok (.astore 4, 2) := by decide +kernel
theorem kd_L_call_23 : decode kc_L_call 23 = .ok (.iconst 3, 1) := by decide +kernel
theorem kd_L_call_24 : decode kc_L_call 24 = .ok (.ireturn, 1) := by decide +kernel
theorem kd_L_call_25 : decode kc_L_call 25 = .ok (.iconst 0, 1) := by decide +kernel
theorem kd_L_call_26 : decode kc_L_call 26 = .ok (.ireturn, 1) := by decide +kernel
theorem kd_L_exact_0 : decode kc_L_exact 0 = .ok (.aload 4, 2) := by decide +kernel
theorem kd_L_exact_2 : decode kc_L_exact 2 = .ok (.iconst 0, 1) := by decide +kernel
theorem kd_L_exact_3 : decode kc_L_exact 3 = .ok (.aload_n 0, 1) := by decide +kernel
theorem kd_L_exact_4 : decode kc_L_exact 4 = .ok (.iload_n 1, 1) := by decide +kernel
theorem kd_L_exact_5 : decode kc_L_exact 5 = .ok (.iload_n 2, 1) := by decide +kernel
theorem kd_L_exact_6 : decode kc_L_exact 6 = .ok (.iload_n 3, 1) := by decide +kernel
theorem kd_L_exact_7 : decode kc_L_exact 7 = .ok (.invokevirtual 37, 3) := by decide +kernel
theorem kd_L_exact_10 : decode kc_L_exact 10 = .ok (.i2l, 1) := by decide +kernel
theorem kd_L_exact_11 : decode kc_L_exact 11 = .ok (.lastore, 1) := by decide +kernel
theorem kd_L_exact_12 : decode kc_L_exact 12 = .ok (.goto 11, 3) := by decide +kernel
theorem kd_L_exact_15 : decode kc_L_exact 15 = .ok (.astore 5, 2) := by decide +kernel
theorem kd_L_exact_17 : decode kc_L_exact 17 = .ok (.iconst 1, 1) := by decide +kernel
theorem kd_L_exact_18 : decode kc_L_exact 18 = .ok (.ireturn, 1) := by decide +kernel
theorem kd_L_exact_19 : decode kc_L_exact 19 = .ok (.astore 5, 2) := by decide +kernel
theorem kd_L_exact_21 : decode kc_L_exact 21 = .ok (.iconst 2, 1) := by decide +kernel
theorem kd_L_exact_22 : decode kc_L_exact 22 = .ok (.ireturn, 1) := by decide +kernel
theorem kd_L_exact_23 : decode kc_L_exact 23 = .ok (.iconst 0, 1) := by decide +kernel
theorem kd_L_exact_24 : decode kc_L_exact 24 = .ok (.ireturn, 1) := by decide +kernel
theorem kd_L_answer_0 : decode kc_L_answer 0 = .ok (.aload_n 0, 1) := by decide +kernel
theorem kd_L_answer_1 : decode kc_L_answer 1 = .ok (.lload_n 1, 1) := by decide +kernel
theorem kd_L_answer_2 : decode kc_L_answer 2 = .ok (.invokevirtual 41, 3) := by decide +kernel
theorem kd_L_answer_5 : decode kc_L_answer 5 = .ok (.goto 6, 3) := by decide +kernel
theorem kd_L_answer_8 : decode kc_L_answer 8 = .ok (.astore_n 3, 1) := by decide +kernel
theorem kd_L_answer_9 : decode kc_L_answer 9 = .ok (.iconst 1, 1) := by decide +kernel
theorem kd_L_answer_10 : decode kc_L_answer 10 = .ok (.ireturn, 1) := by decide +kernel
theorem kd_L_answer_11 : decode kc_L_answer 11 = .ok (.iconst 0, 1) := by decide +kernel
theorem kd_L_answer_12 : decode kc_L_answer 12 = .ok (.ireturn, 1) := by decide +kernel
theorem kd_L_given_0 : decode kc_L_given 0 = .ok (.aload_n 1, 1) := by decide +kernel
theorem kd_L_given_1 : decode kc_L_given 1 = .ok (.iconst 0, 1) := by decide +kernel
theorem kd_L_given_2 : decode kc_L_given 2 = .ok (.aload_n 0, 1) := by decide +kernel
theorem kd_L_given_3 : decode kc_L_given 3 = .ok (.invokevirtual 45, 3) := by decide +kernel
theorem kd_L_given_6 : decode kc_L_given 6 = .ok (.lastore, 1) := by decide +kernel
theorem kd_L_given_7 : decode kc_L_given 7 = .ok (.goto 6, 3) := by decide +kernel
theorem kd_L_given_10 : decode kc_L_given 10 = .ok (.astore_n 2, 1) := by decide +kernel
theorem kd_L_given_11 : decode kc_L_given 11 = .ok (.iconst 1, 1) := by decide +kernel
theorem kd_L_given_12 : decode kc_L_given 12 = .ok (.ireturn, 1) := by decide +kernel
theorem kd_L_given_13 : decode kc_L_given 13 = .ok (.iconst 0, 1) := by decide +kernel
theorem kd_L_given_14 : decode kc_L_given 14 = .ok (.ireturn, 1) := by decide +kernel
theorem kd_L_look_0 : decode kc_L_look 0 = .ok (.aload_n 3, 1) := by decide +kernel
theorem kd_L_look_1 : decode kc_L_look 1 = .ok (.iconst 0, 1) := by decide +kernel
theorem kd_L_look_2 : decode kc_L_look 2 = .ok (.aload_n 0, 1) := by decide +kernel
theorem kd_L_look_3 : decode kc_L_look 3 = .ok (.iload_n 1, 1) := by decide +kernel
theorem kd_L_look_4 : decode kc_L_look 4 = .ok (.iload_n 2, 1) := by decide +kernel
theorem kd_L_look_5 : decode kc_L_look 5 = .ok (.invokevirtual 49, 3) := by decide +kernel
theorem kd_L_look_8 : decode kc_L_look 8 = .ok (.i2l, 1) := by decide +kernel
theorem kd_L_look_9 : decode kc_L_look 9 = .ok (.lastore, 1) := by decide +kernel
theorem kd_L_look_10 : decode kc_L_look 10 = .ok (.goto 11, 3) := by decide +kernel
theorem kd_L_look_13 : decode kc_L_look 13 = .ok (.astore 4, 2) := by decide +kernel
theorem kd_L_look_15 : decode kc_L_look 15 = .ok (.iconst 1, 1) := by decide +kernel
theorem kd_L_look_16 : decode kc_L_look 16 = .ok (.ireturn, 1) := by decide +kernel
theorem kd_L_look_17 : decode kc_L_look 17 = .ok (.astore 4, 2) := by decide +kernel
theorem kd_L_look_19 : decode kc_L_look 19 = .ok (.iconst 2, 1) := by decide +kernel
theorem kd_L_look_20 : decode kc_L_look 20 = .ok (.ireturn, 1) := by decide +kernel
theorem kd_L_look_21 : decode kc_L_look 21 = .ok (.iconst 0, 1) := by decide +kernel
theorem kd_L_look_22 : decode kc_L_look 22 = .ok (.ireturn, 1) := by decide +kernel
theorem kd_L_converted_0 : decode kc_L_converted 0 = .ok (.aload_n 3, 1) := by decide +kernel
theorem kd_L_converted_1 : decode kc_L_converted 1 = .ok (.iconst 0, 1) := by decide +kernel
theorem kd_L_converted_2 : decode kc_L_converted 2 = .ok (.aload_n 0, 1) := by decide +kernel
theorem kd_L_converted_3 : decode kc_L_converted 3 = .ok (.iload_n 1, 1) := by decide +kernel
theorem kd_L_converted_4 : decode kc_L_converted 4 = .ok (.iload_n 2, 1) := by decide +kernel
theorem kd_L_converted_5 : decode kc_L_converted 5 = .ok (.invokevirtual 54, 3) := by decide +kernel
theorem kd_L_converted_8 : decode kc_L_converted 8 = .ok (.lastore, 1) := by decide +kernel
theorem kd_L_converted_9 : decode kc_L_converted 9 = .ok (.goto 7, 3) := by decide +kernel
theorem kd_L_converted_12 : decode kc_L_converted 12 = .ok (.astore 4, 2) := by decide +kernel
theorem kd_L_converted_14 : decode kc_L_converted 14 = .ok (.iconst 1, 1) := by decide +kernel
theorem kd_L_converted_15 : decode kc_L_converted 15 = .ok (.ireturn, 1) := by decide +kernel
theorem kd_L_converted_16 : decode kc_L_converted 16 = .ok (.iconst 0, 1) := by decide +kernel
theorem kd_L_converted_17 : decode kc_L_converted 17 = .ok (.ireturn, 1) := by decide +kernel
theorem kd_L_law_0 : decode kc_L_law 0 = .ok (.new 8, 3) := by decide +kernel
theorem kd_L_law_3 : decode kc_L_law 3 = .ok (.dup, 1) := by decide +kernel
theorem kd_L_law_4 : decode kc_L_law 4 = .ok (.invokespecial 58, 3) := by decide +kernel
theorem kd_L_law_7 : decode kc_L_law 7 = .ok (.astore_n 1, 1) := by decide +kernel
theorem kd_L_law_8 : decode kc_L_law 8 = .ok (.new 59, 3) := by decide +kernel
theorem kd_L_law_11 : decode kc_L_law 11 = .ok (.dup, 1) := by decide +kernel
theorem kd_L_law_12 : decode kc_L_law 12 = .ok (.invokespecial 61, 3) := by decide +kernel
theorem kd_L_law_15 : decode kc_L_law 15 = .ok (.astore_n 2, 1) := by decide +kernel
theorem kd_L_law_16 : decode kc_L_law 16 = .ok (.iconst 1, 1) := by decide +kernel
theorem kd_L_law_17 : decode kc_L_law 17 = .ok (.newarray .long, 2) := by decide +kernel
theorem kd_L_law_19 : decode kc_L_law 19 = .ok (.astore_n 3, 1) := by decide +kernel
theorem kd_L_law_20 : decode kc_L_law 20 = .ok (.iconst 0, 1) := by decide +kernel
theorem kd_L_law_21 : decode kc_L_law 21 = .ok (.istore 4, 2) := by decide +kernel
theorem kd_L_law_23 : decode kc_L_law 23 = .ok (.iload 4, 2) := by decide +kernel
theorem kd_L_law_25 : decode kc_L_law 25 = .ok (.aload_n 0, 1) := by decide +kernel
theorem kd_L_law_26 : decode kc_L_law 26 = .ok (.arraylength, 1) := by decide +kernel
theorem kd_L_law_27 : decode kc_L_law 27 = .ok (.bipush 6, 2) := by decide +kernel
theorem kd_L_law_29 : decode kc_L_law 29 = .ok (.isub, 1) := by decide +kernel
theorem kd_L_law_30 : decode kc_L_law 30 = .ok (.if_icmp .gt 871, 3) := by decide +kernel
theorem kd_L_law_33 : decode kc_L_law 33 = .ok (.aload_n 0, 1) := by decide +kernel
theorem kd_L_law_34 : decode kc_L_law 34 = .ok (.iload 4, 2) := by decide +kernel
theorem kd_L_law_36 : decode kc_L_law 36 = .ok (.iaload, 1) := by decide +kernel
theorem kd_L_law_37 : decode kc_L_law 37 = .ok (.bipush 15, 2) := by decide +kernel
theorem kd_L_law_39 : decode kc_L_law 39 = .ok (.iand, 1) := by decide +kernel
theorem kd_L_law_40 : decode kc_L_law 40 = .ok (.tableswitch 855 0 11 #[64, 120, 224, 280, 380, 448, 516, 596, 664, 707, 720, 788], 64) := by decide +kernel
theorem kd_L_law_104 : decode kc_L_law 104 = .ok (.aload_n 1, 1) := by decide +kernel
theorem kd_L_law_105 : decode kc_L_law 105 = .ok (.aload_n 0, 1) := by decide +kernel
theorem kd_L_law_106 : decode kc_L_law 106 = .ok (.iload 4, 2) := by decide +kernel
theorem kd_L_law_108 : decode kc_L_law 108 = .ok (.iconst 1, 1) := by decide +kernel
theorem kd_L_law_109 : decode kc_L_law 109 = .ok (.iadd, 1) := by decide +kernel
theorem kd_L_law_110 : decode kc_L_law 110 = .ok (.iaload, 1) := by decide +kernel
theorem kd_L_law_111 : decode kc_L_law 111 = .ok (.aload_n 3, 1) := by decide +kernel
theorem kd_L_law_112 : decode kc_L_law 112 = .ok (.invokestatic 62, 3) := by decide +kernel
theorem kd_L_law_115 : decode kc_L_law 115 = .ok (.istore 5, 2) := by decide +kernel
theorem kd_L_law_117 : decode kc_L_law 117 = .ok (.aload_n 2, 1) := by decide +kernel
theorem kd_L_law_118 : decode kc_L_law 118 = .ok (.aload_n 0, 1) := by decide +kernel
theorem kd_L_law_119 : decode kc_L_law 119 = .ok (.iload 4, 2) := by decide +kernel
theorem kd_L_law_121 : decode kc_L_law 121 = .ok (.iconst 1, 1) := by decide +kernel
theorem kd_L_law_122 : decode kc_L_law 122 = .ok (.iadd, 1) := by decide +kernel
theorem kd_L_law_123 : decode kc_L_law 123 = .ok (.iaload, 1) := by decide +kernel
theorem kd_L_law_124 : decode kc_L_law 124 = .ok (.invokevirtual 67, 3) := by decide +kernel
theorem kd_L_law_127 : decode kc_L_law 127 = .ok (.istore 6, 2) := by decide +kernel
theorem kd_L_law_129 : decode kc_L_law 129 = .ok (.aload_n 2, 1) := by decide +kernel
theorem kd_L_law_130 : decode kc_L_law 130 = .ok (.invokevirtual 68, 3) := by decide +kernel
theorem kd_L_law_133 : decode kc_L_law 133 = .ok (.iload 5, 2) := by decide +kernel
theorem kd_L_law_135 : decode kc_L_law 135 = .ok (.if_icmp .eq 5, 3) := by decide +kernel
theorem kd_L_law_138 : decode kc_L_law 138 = .ok (.iconst 0, 1) := by decide +kernel
theorem kd_L_law_139 : decode kc_L_law 139 = .ok (.ireturn, 1) := by decide +kernel
theorem kd_L_law_140 : decode kc_L_law 140 = .ok (.iload 5, 2) := by decide +kernel
theorem kd_L_law_142 : decode kc_L_law 142 = .ok (.ifCond .ne 15, 3) := by decide +kernel
theorem kd_L_law_145 : decode kc_L_law 145 = .ok (.aload_n 3, 1) := by decide +kernel
theorem kd_L_law_146 : decode kc_L_law 146 = .ok (.iconst 0, 1) := by decide +kernel
theorem kd_L_law_147 : decode kc_L_law 147 = .ok (.laload, 1) := by decide +kernel
theorem kd_L_law_148 : decode kc_L_law 148 = .ok (.iload 6, 2) := by decide +kernel
theorem kd_L_law_150 : decode kc_L_law 150 = .ok (.i2l, 1) := by decide +kernel
theorem kd_L_law_151 : decode kc_L_law 151 = .ok (.lcmp, 1) := by decide +kernel
theorem kd_L_law_152 : decode kc_L_law 152 = .ok (.ifCond .eq 5, 3) := by decide +kernel
theorem kd_L_law_155 : decode kc_L_law 155 = .ok (.iconst 0, 1) := by decide +kernel
theorem kd_L_law_156 : decode kc_L_law 156 = .ok (.ireturn, 1) := by decide +kernel
theorem kd_L_law_157 : decode kc_L_law 157 = .ok (.goto 738, 3) := by decide +kernel
theorem kd_L_law_160 : decode kc_L_law 160 = .ok (.aload_n 1, 1) := by decide +kernel
theorem kd_L_law_161 : decode kc_L_law 161 = .ok (.aload_n 0, 1) := by decide +kernel
theorem kd_L_law_162 : decode kc_L_law 162 = .ok (.iload 4, 2) := by decide +kernel
theorem kd_L_law_164 : decode kc_L_law 164 = .ok (.iconst 1, 1) := by decide +kernel
theorem kd_L_law_165 : decode kc_L_law 165 = .ok (.iadd, 1) := by decide +kernel
theorem kd_L_law_166 : decode kc_L_law 166 = .ok (.iaload, 1) := by decide +kernel
theorem kd_L_law_167 : decode kc_L_law 167 = .ok (.aload_n 0, 1) := by decide +kernel
theorem kd_L_law_168 : decode kc_L_law 168 = .ok (.iload 4, 2) := by decide +kernel
theorem kd_L_law_170 : decode kc_L_law 170 = .ok (.iconst 2, 1) := by decide +kernel
theorem kd_L_law_171 : decode kc_L_law 171 = .ok (.iadd, 1) := by decide +kernel
theorem kd_L_law_172 : decode kc_L_law 172 = .ok (.iaload, 1) := by decide +kernel
theorem kd_L_law_173 : decode kc_L_law 173 = .ok (.aload_n 0, 1) := by decide +kernel
theorem kd_L_law_174 : decode kc_L_law 174 = .ok (.iload 4, 2) := by decide +kernel
theorem kd_L_law_176 : decode kc_L_law 176 = .ok (.iconst 3, 1) := by decide +kernel
theorem kd_L_law_177 : decode kc_L_law 177 = .ok (.iadd, 1) := by decide +kernel
theorem kd_L_law_178 : decode kc_L_law 178 = .ok (.iaload, 1) := by decide +kernel
theorem kd_L_law_179 : decode kc_L_law 179 = .ok (.aload_n 0, 1) := by decide +kernel
theorem kd_L_law_180 : decode kc_L_law 180 = .ok (.iload 4, 2) := by decide +kernel
theorem kd_L_law_182 : decode kc_L_law 182 = .ok (.iconst 4, 1) := by decide +kernel
theorem kd_L_law_183 : decode kc_L_law 183 = .ok (.iadd, 1) := by decide +kernel
theorem kd_L_law_184 : decode kc_L_law 184 = .ok (.iaload, 1) := by decide +kernel
theorem kd_L_law_185 : decode kc_L_law 185 = .ok (.aload_n 0, 1) := by decide +kernel
theorem kd_L_law_186 : decode kc_L_law 186 = .ok (.iload 4, 2) := by decide +kernel
theorem kd_L_law_188 : decode kc_L_law 188 = .ok (.iconst 5, 1) := by decide +kernel
theorem kd_L_law_189 : decode kc_L_law 189 = .ok (.iadd, 1) := by decide +kernel
theorem kd_L_law_190 : decode kc_L_law 190 = .ok (.iaload, 1) := by decide +kernel
theorem kd_L_law_191 : decode kc_L_law 191 = .ok (.aload_n 3, 1) := by decide +kernel
theorem kd_L_law_192 : decode kc_L_law 192 = .ok (.invokestatic 72, 3) := by decide +kernel
theorem kd_L_law_195 : decode kc_L_law 195 = .ok (.istore 5, 2) := by decide +kernel
theorem kd_L_law_197 : decode kc_L_law 197 = .ok (.aload_n 2, 1) := by decide +kernel
theorem kd_L_law_198 : decode kc_L_law 198 = .ok (.aload_n 0, 1) := by decide +kernel
theorem kd_L_law_199 : decode kc_L_law 199 = .ok (.iload 4, 2) := by decide +kernel
theorem kd_L_law_201 : decode kc_L_law 201 = .ok (.iconst 1, 1) := by decide +kernel
theorem kd_L_law_202 : decode kc_L_law 202 = .ok (.iadd, 1) := by decide +kernel
theorem kd_L_law_203 : decode kc_L_law 203 = .ok (.iaload, 1) := by decide +kernel
theorem kd_L_law_204 : decode kc_L_law 204 = .ok (.aload_n 0, 1) := by decide +kernel
theorem kd_L_law_205 : decode kc_L_law 205 = .ok (.iload 4, 2) := by decide +kernel
theorem kd_L_law_207 : decode kc_L_law 207 = .ok (.iconst 2, 1) := by decide +kernel
theorem kd_L_law_208 : decode kc_L_law 208 = .ok (.iadd, 1) := by decide +kernel
theorem kd_L_law_209 : decode kc_L_law 209 = .ok (.iaload, 1) := by decide +kernel
theorem kd_L_law_210 : decode kc_L_law 210 = .ok (.aload_n 0, 1) := by decide +kernel
theorem kd_L_law_211 : decode kc_L_law 211 = .ok (.iload 4, 2) := by decide +kernel
theorem kd_L_law_213 : decode kc_L_law 213 = .ok (.iconst 3, 1) := by decide +kernel
theorem kd_L_law_214 : decode kc_L_law 214 = .ok (.iadd, 1) := by decide +kernel
theorem kd_L_law_215 : decode kc_L_law 215 = .ok (.iaload, 1) := by decide +kernel
theorem kd_L_law_216 : decode kc_L_law 216 = .ok (.aload_n 0, 1) := by decide +kernel
theorem kd_L_law_217 : decode kc_L_law 217 = .ok (.iload 4, 2) := by decide +kernel
theorem kd_L_law_219 : decode kc_L_law 219 = .ok (.iconst 4, 1) := by decide +kernel
theorem kd_L_law_220 : decode kc_L_law 220 = .ok (.iadd, 1) := by decide +kernel
theorem kd_L_law_221 : decode kc_L_law 221 = .ok (.iaload, 1) := by decide +kernel
theorem kd_L_law_222 : decode kc_L_law 222 = .ok (.aload_n 0, 1) := by decide +kernel
theorem kd_L_law_223 : decode kc_L_law 223 = .ok (.iload 4, 2) := by decide +kernel
theorem kd_L_law_225 : decode kc_L_law 225 = .ok (.iconst 5, 1) := by decide +kernel
theorem kd_L_law_226 : decode kc_L_law 226 = .ok (.iadd, 1) := by decide +kernel
theorem kd_L_law_227 : decode kc_L_law 227 = .ok (.iaload, 1) := by decide +kernel
theorem kd_L_law_228 : decode kc_L_law 228 = .ok (.invokevirtual 75, 3) := by decide +kernel
theorem kd_L_law_231 : decode kc_L_law 231 = .ok (.istore 6, 2) := by decide +kernel
theorem kd_L_law_233 : decode kc_L_law 233 = .ok (.aload_n 2, 1) := by decide +kernel
theorem kd_L_law_234 : decode kc_L_law 234 = .ok (.invokevirtual 68, 3) := by decide +kernel
theorem kd_L_law_237 : decode kc_L_law 237 = .ok (.iload 5, 2) := by decide +kernel
theorem kd_L_law_239 : decode kc_L_law 239 = .ok (.if_icmp .eq 5, 3) := by decide +kernel
theorem kd_L_law_242 : decode kc_L_law 242 = .ok (.iconst 0, 1) := by decide +kernel
theorem kd_L_law_243 : decode kc_L_law 243 = .ok (.ireturn, 1) := by decide +kernel
theorem kd_L_law_244 : decode kc_L_law 244 = .ok (.iload 5, 2) := by decide +kernel
theorem kd_L_law_246 : decode kc_L_law 246 = .ok (.ifCond .ne 15, 3) := by decide +kernel
theorem kd_L_law_249 : decode kc_L_law 249 = .ok (.aload_n 3, 1) := by decide +kernel
theorem kd_L_law_250 : decode kc_L_law 250 = .ok (.iconst 0, 1) := by decide +kernel
theorem kd_L_law_251 : decode kc_L_law 251 = .ok (.laload, 1) := by decide +kernel
theorem kd_L_law_252 : decode kc_L_law 252 = .ok (.iload 6, 2) := by decide +kernel
theorem kd_L_law_254 : decode kc_L_law 254 = .ok (.i2l, 1) := by decide +kernel
theorem kd_L_law_255 : decode kc_L_law 255 = .ok (.lcmp, 1) := by decide +kernel
theorem kd_L_law_256 : decode kc_L_law 256 = .ok (.ifCond .eq 5, 3) := by decide +kernel
theorem kd_L_law_259 : decode kc_L_law 259 = .ok (.iconst 0, 1) := by decide +kernel
theorem kd_L_law_260 : decode kc_L_law 260 = .ok (.ireturn, 1) := by decide +kernel
theorem kd_L_law_261 : decode kc_L_law 261 = .ok (.goto 634, 3) := by decide +kernel
theorem kd_L_law_264 : decode kc_L_law 264 = .ok (.aload_n 1, 1) := by decide +kernel
theorem kd_L_law_265 : decode kc_L_law 265 = .ok (.aload_n 0, 1) := by decide +kernel
theorem kd_L_law_266 : decode kc_L_law 266 = .ok (.iload 4, 2) := by decide +kernel
theorem kd_L_law_268 : decode kc_L_law 268 = .ok (.iconst 1, 1) := by decide +kernel
theorem kd_L_law_269 : decode kc_L_law 269 = .ok (.iadd, 1) := by decide +kernel
theorem kd_L_law_270 : decode kc_L_law 270 = .ok (.iaload, 1) := by decide +kernel
theorem kd_L_law_271 : decode kc_L_law 271 = .ok (.aload_n 3, 1) := by decide +kernel
theorem kd_L_law_272 : decode kc_L_law 272 = .ok (.invokestatic 76, 3) := by decide +kernel
theorem kd_L_law_275 : decode kc_L_law 275 = .ok (.istore 5, 2) := by decide +kernel
theorem kd_L_law_277 : decode kc_L_law 277 = .ok (.aload_n 2, 1) := by decide +kernel
theorem kd_L_law_278 : decode kc_L_law 278 = .ok (.aload_n 0, 1) := by decide +kernel
theorem kd_L_law_279 : decode kc_L_law 279 = .ok (.iload 4, 2) := by decide +kernel
theorem kd_L_law_281 : decode kc_L_law 281 = .ok (.iconst 1, 1) := by decide +kernel
theorem kd_L_law_282 : decode kc_L_law 282 = .ok (.iadd, 1) := by decide +kernel
theorem kd_L_law_283 : decode kc_L_law 283 = .ok (.iaload, 1) := by decide +kernel
theorem kd_L_law_284 : decode kc_L_law 284 = .ok (.invokevirtual 78, 3) := by decide +kernel
theorem kd_L_law_287 : decode kc_L_law 287 = .ok (.istore 6, 2) := by decide +kernel
theorem kd_L_law_289 : decode kc_L_law 289 = .ok (.aload_n 2, 1) := by decide +kernel
theorem kd_L_law_290 : decode kc_L_law 290 = .ok (.invokevirtual 68, 3) := by decide +kernel
theorem kd_L_law_293 : decode kc_L_law 293 = .ok (.iload 5, 2) := by decide +kernel
theorem kd_L_law_295 : decode kc_L_law 295 = .ok (.if_icmp .eq 5, 3) := by decide +kernel
theorem kd_L_law_298 : decode kc_L_law 298 = .ok (.iconst 0, 1) := by decide +kernel
theorem kd_L_law_299 : decode kc_L_law 299 = .ok (.ireturn, 1) := by decide +kernel
theorem kd_L_law_300 : decode kc_L_law 300 = .ok (.iload 5, 2) := by decide +kernel
theorem kd_L_law_302 : decode kc_L_law 302 = .ok (.ifCond .ne 15, 3) := by decide +kernel
theorem kd_L_law_305 : decode kc_L_law 305 = .ok (.aload_n 3, 1) := by decide +kernel
theorem kd_L_law_306 : decode kc_L_law 306 = .ok (.iconst 0, 1) := by decide +kernel
theorem kd_L_law_307 : decode kc_L_law 307 = .ok (.laload, 1) := by decide +kernel
theorem kd_L_law_308 : decode kc_L_law 308 = .ok (.iload 6, 2) := by decide +kernel
theorem kd_L_law_310 : decode kc_L_law 310 = .ok (.i2l, 1) := by decide +kernel
theorem kd_L_law_311 : decode kc_L_law 311 = .ok (.lcmp, 1) := by decide +kernel
theorem kd_L_law_312 : decode kc_L_law 312 = .ok (.ifCond .eq 5, 3) := by decide +kernel
theorem kd_L_law_315 : decode kc_L_law 315 = .ok (.iconst 0, 1) := by decide +kernel
theorem kd_L_law_316 : decode kc_L_law 316 = .ok (.ireturn, 1) := by decide +kernel
theorem kd_L_law_317 : decode kc_L_law 317 = .ok (.goto 578, 3) := by decide +kernel
theorem kd_L_law_320 : decode kc_L_law 320 = .ok (.aload_n 1, 1) := by decide +kernel
theorem kd_L_law_321 : decode kc_L_law 321 = .ok (.aload_n 0, 1) := by decide +kernel
theorem kd_L_law_322 : decode kc_L_law 322 = .ok (.iload 4, 2) := by decide +kernel
theorem kd_L_law_324 : decode kc_L_law 324 = .ok (.iconst 1, 1) := by decide +kernel
theorem kd_L_law_325 : decode kc_L_law 325 = .ok (.iadd, 1) := by decide +kernel
theorem kd_L_law_326 : decode kc_L_law 326 = .ok (.iaload, 1) := by decide +kernel
theorem kd_L_law_327 : decode kc_L_law 327 = .ok (.aload_n 0, 1) := by decide +kernel
theorem kd_L_law_328 : decode kc_L_law 328 = .ok (.iload 4, 2) := by decide +kernel
theorem kd_L_law_330 : decode kc_L_law 330 = .ok (.iconst 2, 1) := by decide +kernel
theorem kd_L_law_331 : decode kc_L_law 331 = .ok (.iadd, 1) := by decide +kernel
theorem kd_L_law_332 : decode kc_L_law 332 = .ok (.iaload, 1) := by decide +kernel
theorem kd_L_law_333 : decode kc_L_law 333 = .ok (.i2l, 1) := by decide +kernel
theorem kd_L_law_334 : decode kc_L_law 334 = .ok (.bipush 32, 2) := by decide +kernel
theorem kd_L_law_336 : decode kc_L_law 336 = .ok (.lshl, 1) := by decide +kernel
theorem kd_L_law_337 : decode kc_L_law 337 = .ok (.aload_n 0, 1) := by decide +kernel
theorem kd_L_law_338 : decode kc_L_law 338 = .ok (.iload 4, 2) := by decide +kernel
theorem kd_L_law_340 : decode kc_L_law 340 = .ok (.iconst 3, 1) := by decide +kernel
theorem kd_L_law_341 : decode kc_L_law 341 = .ok (.iadd, 1) := by decide +kernel
theorem kd_L_law_342 : decode kc_L_law 342 = .ok (.iaload, 1) := by decide +kernel
theorem kd_L_law_343 : decode kc_L_law 343 = .ok (.i2l, 1) := by decide +kernel
theorem kd_L_law_344 : decode kc_L_law 344 = .ok (.ldc2_w 79, 3) := by decide +kernel
theorem kd_L_law_347 : decode kc_L_law 347 = .ok (.land, 1) := by decide +kernel
theorem kd_L_law_348 : decode kc_L_law 348 = .ok (.lor, 1) := by decide +kernel
theorem kd_L_law_349 : decode kc_L_law 349 = .ok (.aload_n 3, 1) := by decide +kernel
theorem kd_L_law_350 : decode kc_L_law 350 = .ok (.invokestatic 81, 3) := by decide +kernel
theorem kd_L_law_353 : decode kc_L_law 353 = .ok (.istore 5, 2) := by decide +kernel
theorem kd_L_law_355 : decode kc_L_law 355 = .ok (.aload_n 2, 1) := by decide +kernel
theorem kd_L_law_356 : decode kc_L_law 356 = .ok (.aload_n 0, 1) := by decide +kernel
theorem kd_L_law_357 : decode kc_L_law 357 = .ok (.iload 4, 2) := by decide +kernel
theorem kd_L_law_359 : decode kc_L_law 359 = .ok (.iconst 1, 1) := by decide +kernel
theorem kd_L_law_360 : decode kc_L_law 360 = .ok (.iadd, 1) := by decide +kernel
theorem kd_L_law_361 : decode kc_L_law 361 = .ok (.iaload, 1) := by decide +kernel
theorem kd_L_law_362 : decode kc_L_law 362 = .ok (.aload_n 0, 1) := by decide +kernel
theorem kd_L_law_363 : decode kc_L_law 363 = .ok (.iload 4, 2) := by decide +kernel
theorem kd_L_law_365 : decode kc_L_law 365 = .ok (.iconst 2, 1) := by decide +kernel
theorem kd_L_law_366 : decode kc_L_law 366 = .ok (.iadd, 1) := by decide +kernel
theorem kd_L_law_367 : decode kc_L_law 367 = .ok (.iaload, 1) := by decide +kernel
theorem kd_L_law_368 : decode kc_L_law 368 = .ok (.i2l, 1) := by decide +kernel
theorem kd_L_law_369 : decode kc_L_law 369 = .ok (.bipush 32, 2) := by decide +kernel
theorem kd_L_law_371 : decode kc_L_law 371 = .ok (.lshl, 1) := by decide +kernel
theorem kd_L_law_372 : decode kc_L_law 372 = .ok (.aload_n 0, 1) := by decide +kernel
theorem kd_L_law_373 : decode kc_L_law 373 = .ok (.iload 4, 2) := by decide +kernel
theorem kd_L_law_375 : decode kc_L_law 375 = .ok (.iconst 3, 1) := by decide +kernel
theorem kd_L_law_376 : decode kc_L_law 376 = .ok (.iadd, 1) := by decide +kernel
theorem kd_L_law_377 : decode kc_L_law 377 = .ok (.iaload, 1) := by decide +kernel
theorem kd_L_law_378 : decode kc_L_law 378 = .ok (.i2l, 1) := by decide +kernel
theorem kd_L_law_379 : decode kc_L_law 379 = .ok (.ldc2_w 79, 3) := by decide +kernel
theorem kd_L_law_382 : decode kc_L_law 382 = .ok (.land, 1) := by decide +kernel
theorem kd_L_law_383 : decode kc_L_law 383 = .ok (.lor, 1) := by decide +kernel
theorem kd_L_law_384 : decode kc_L_law 384 = .ok (.invokevirtual 84, 3) := by decide +kernel
theorem kd_L_law_387 : decode kc_L_law 387 = .ok (.istore 6, 2) := by decide +kernel
theorem kd_L_law_389 : decode kc_L_law 389 = .ok (.aload_n 2, 1) := by decide +kernel
theorem kd_L_law_390 : decode kc_L_law 390 = .ok (.invokevirtual 68, 3) := by decide +kernel
theorem kd_L_law_393 : decode kc_L_law 393 = .ok (.iload 5, 2) := by decide +kernel
theorem kd_L_law_395 : decode kc_L_law 395 = .ok (.if_icmp .eq 5, 3) := by decide +kernel
theorem kd_L_law_398 : decode kc_L_law 398 = .ok (.iconst 0, 1) := by decide +kernel
theorem kd_L_law_399 : decode kc_L_law 399 = .ok (.ireturn, 1) := by decide +kernel
theorem kd_L_law_400 : decode kc_L_law 400 = .ok (.iload 5, 2) := by decide +kernel
theorem kd_L_law_402 : decode kc_L_law 402 = .ok (.ifCond .ne 15, 3) := by decide +kernel
theorem kd_L_law_405 : decode kc_L_law 405 = .ok (.aload_n 3, 1) := by decide +kernel
theorem kd_L_law_406 : decode kc_L_law 406 = .ok (.iconst 0, 1) := by decide +kernel
theorem kd_L_law_407 : decode kc_L_law 407 = .ok (.laload, 1) := by decide +kernel
theorem kd_L_law_408 : decode kc_L_law 408 = .ok (.iload 6, 2) := by decide +kernel
theorem kd_L_law_410 : decode kc_L_law 410 = .ok (.i2l, 1) := by decide +kernel
theorem kd_L_law_411 : decode kc_L_law 411 = .ok (.lcmp, 1) := by decide +kernel
theorem kd_L_law_412 : decode kc_L_law 412 = .ok (.ifCond .eq 5, 3) := by decide +kernel
theorem kd_L_law_415 : decode kc_L_law 415 = .ok (.iconst 0, 1) := by decide +kernel
theorem kd_L_law_416 : decode kc_L_law 416 = .ok (.ireturn, 1) := by decide +kernel
theorem kd_L_law_417 : decode kc_L_law 417 = .ok (.goto 478, 3) := by decide +kernel
theorem kd_L_law_420 : decode kc_L_law 420 = .ok (.aload_n 1, 1) := by decide +kernel
theorem kd_L_law_421 : decode kc_L_law 421 = .ok (.aload_n 0, 1) := by decide +kernel
theorem kd_L_law_422 : decode kc_L_law 422 = .ok (.iload 4, 2) := by decide +kernel
theorem kd_L_law_424 : decode kc_L_law 424 = .ok (.iconst 1, 1) := by decide +kernel
theorem kd_L_law_425 : decode kc_L_law 425 = .ok (.iadd, 1) := by decide +kernel
theorem kd_L_law_426 : decode kc_L_law 426 = .ok (.iaload, 1) := by decide +kernel
theorem kd_L_law_427 : decode kc_L_law 427 = .ok (.aload_n 0, 1) := by decide +kernel
theorem kd_L_law_428 : decode kc_L_law 428 = .ok (.iload 4, 2) := by decide +kernel
theorem kd_L_law_430 : decode kc_L_law 430 = .ok (.iconst 2, 1) := by decide +kernel
theorem kd_L_law_431 : decode kc_L_law 431 = .ok (.iadd, 1) := by decide +kernel
theorem kd_L_law_432 : decode kc_L_law 432 = .ok (.iaload, 1) := by decide +kernel
theorem kd_L_law_433 : decode kc_L_law 433 = .ok (.aload_n 3, 1) := by decide +kernel
theorem kd_L_law_434 : decode kc_L_law 434 = .ok (.invokestatic 85, 3) := by decide +kernel
theorem kd_L_law_437 : decode kc_L_law 437 = .ok (.istore 5, 2) := by decide +kernel
theorem kd_L_law_439 : decode kc_L_law 439 = .ok (.aload_n 2, 1) := by decide +kernel
theorem kd_L_law_440 : decode kc_L_law 440 = .ok (.aload_n 0, 1) := by decide +kernel
theorem kd_L_law_441 : decode kc_L_law 441 = .ok (.iload 4, 2) := by decide +kernel
theorem kd_L_law_443 : decode kc_L_law 443 = .ok (.iconst 1, 1) := by decide +kernel
theorem kd_L_law_444 : decode kc_L_law 444 = .ok (.iadd, 1) := by decide +kernel
theorem kd_L_law_445 : decode kc_L_law 445 = .ok (.iaload, 1) := by decide +kernel
theorem kd_L_law_446 : decode kc_L_law 446 = .ok (.aload_n 0, 1) := by decide +kernel
theorem kd_L_law_447 : decode kc_L_law 447 = .ok (.iload 4, 2) := by decide +kernel
theorem kd_L_law_449 : decode kc_L_law 449 = .ok (.iconst 2, 1) := by decide +kernel
theorem kd_L_law_450 : decode kc_L_law 450 = .ok (.iadd, 1) := by decide +kernel
theorem kd_L_law_451 : decode kc_L_law 451 = .ok (.iaload, 1) := by decide +kernel
theorem kd_L_law_452 : decode kc_L_law 452 = .ok (.invokevirtual 88, 3) := by decide +kernel
theorem kd_L_law_455 : decode kc_L_law 455 = .ok (.istore 6, 2) := by decide +kernel
theorem kd_L_law_457 : decode kc_L_law 457 = .ok (.aload_n 2, 1) := by decide +kernel
theorem kd_L_law_458 : decode kc_L_law 458 = .ok (.invokevirtual 68, 3) := by decide +kernel
theorem kd_L_law_461 : decode kc_L_law 461 = .ok (.iload 5, 2) := by decide +kernel
theorem kd_L_law_463 : decode kc_L_law 463 = .ok (.if_icmp .eq 5, 3) := by decide +kernel
theorem kd_L_law_466 : decode kc_L_law 466 = .ok (.iconst 0, 1) := by decide +kernel
theorem kd_L_law_467 : decode kc_L_law 467 = .ok (.ireturn, 1) := by decide +kernel
theorem kd_L_law_468 : decode kc_L_law 468 = .ok (.iload 5, 2) := by decide +kernel
theorem kd_L_law_470 : decode kc_L_law 470 = .ok (.ifCond .ne 15, 3) := by decide +kernel
theorem kd_L_law_473 : decode kc_L_law 473 = .ok (.aload_n 3, 1) := by decide +kernel
theorem kd_L_law_474 : decode kc_L_law 474 = .ok (.iconst 0, 1) := by decide +kernel
theorem kd_L_law_475 : decode kc_L_law 475 = .ok (.laload, 1) := by decide +kernel
theorem kd_L_law_476 : decode kc_L_law 476 = .ok (.iload 6, 2) := by decide +kernel
theorem kd_L_law_478 : decode kc_L_law 478 = .ok (.i2l, 1) := by decide +kernel
theorem kd_L_law_479 : decode kc_L_law 479 = .ok (.lcmp, 1) := by decide +kernel
theorem kd_L_law_480 : decode kc_L_law 480 = .ok (.ifCond .eq 5, 3) := by decide +kernel
theorem kd_L_law_483 : decode kc_L_law 483 = .ok (.iconst 0, 1) := by decide +kernel
theorem kd_L_law_484 : decode kc_L_law 484 = .ok (.ireturn, 1) := by decide +kernel
theorem kd_L_law_485 : decode kc_L_law 485 = .ok (.goto 410, 3) := by decide +kernel
theorem kd_L_law_488 : decode kc_L_law 488 = .ok (.aload_n 1, 1) := by decide +kernel
theorem kd_L_law_489 : decode kc_L_law 489 = .ok (.aload_n 0, 1) := by decide +kernel
theorem kd_L_law_490 : decode kc_L_law 490 = .ok (.iload 4, 2) := by decide +kernel
theorem kd_L_law_492 : decode kc_L_law 492 = .ok (.iconst 1, 1) := by decide +kernel
theorem kd_L_law_493 : decode kc_L_law 493 = .ok (.iadd, 1) := by decide +kernel
theorem kd_L_law_494 : decode kc_L_law 494 = .ok (.iaload, 1) := by decide +kernel
theorem kd_L_law_495 : decode kc_L_law 495 = .ok (.aload_n 0, 1) := by decide +kernel
theorem kd_L_law_496 : decode kc_L_law 496 = .ok (.iload 4, 2) := by decide +kernel
theorem kd_L_law_498 : decode kc_L_law 498 = .ok (.iconst 2, 1) := by decide +kernel
theorem kd_L_law_499 : decode kc_L_law 499 = .ok (.iadd, 1) := by decide +kernel
theorem kd_L_law_500 : decode kc_L_law 500 = .ok (.iaload, 1) := by decide +kernel
theorem kd_L_law_501 : decode kc_L_law 501 = .ok (.aload_n 3, 1) := by decide +kernel
theorem kd_L_law_502 : decode kc_L_law 502 = .ok (.invokestatic 89, 3) := by decide +kernel
theorem kd_L_law_505 : decode kc_L_law 505 = .ok (.istore 5, 2) := by decide +kernel
theorem kd_L_law_507 : decode kc_L_law 507 = .ok (.aload_n 2, 1) := by decide +kernel
theorem kd_L_law_508 : decode kc_L_law 508 = .ok (.aload_n 0, 1) := by decide +kernel
theorem kd_L_law_509 : decode kc_L_law 509 = .ok (.iload 4, 2) := by decide +kernel
theorem kd_L_law_511 : decode kc_L_law 511 = .ok (.iconst 1, 1) := by decide +kernel
theorem kd_L_law_512 : decode kc_L_law 512 = .ok (.iadd, 1) := by decide +kernel
theorem kd_L_law_513 : decode kc_L_law 513 = .ok (.iaload, 1) := by decide +kernel
theorem kd_L_law_514 : decode kc_L_law 514 = .ok (.aload_n 0, 1) := by decide +kernel
theorem kd_L_law_515 : decode kc_L_law 515 = .ok (.iload 4, 2) := by decide +kernel
theorem kd_L_law_517 : decode kc_L_law 517 = .ok (.iconst 2, 1) := by decide +kernel
theorem kd_L_law_518 : decode kc_L_law 518 = .ok (.iadd, 1) := by decide +kernel
theorem kd_L_law_519 : decode kc_L_law 519 = .ok (.iaload, 1) := by decide +kernel
theorem kd_L_law_520 : decode kc_L_law 520 = .ok (.invokevirtual 91, 3) := by decide +kernel
theorem kd_L_law_523 : decode kc_L_law 523 = .ok (.istore 6, 2) := by decide +kernel
theorem kd_L_law_525 : decode kc_L_law 525 = .ok (.aload_n 2, 1) := by decide +kernel
theorem kd_L_law_526 : decode kc_L_law 526 = .ok (.invokevirtual 68, 3) := by decide +kernel
theorem kd_L_law_529 : decode kc_L_law 529 = .ok (.iload 5, 2) := by decide +kernel
theorem kd_L_law_531 : decode kc_L_law 531 = .ok (.if_icmp .eq 5, 3) := by decide +kernel
theorem kd_L_law_534 : decode kc_L_law 534 = .ok (.iconst 0, 1) := by decide +kernel
theorem kd_L_law_535 : decode kc_L_law 535 = .ok (.ireturn, 1) := by decide +kernel
theorem kd_L_law_536 : decode kc_L_law 536 = .ok (.iload 5, 2) := by decide +kernel
theorem kd_L_law_538 : decode kc_L_law 538 = .ok (.ifCond .ne 15, 3) := by decide +kernel
theorem kd_L_law_541 : decode kc_L_law 541 = .ok (.aload_n 3, 1) := by decide +kernel
theorem kd_L_law_542 : decode kc_L_law 542 = .ok (.iconst 0, 1) := by decide +kernel
theorem kd_L_law_543 : decode kc_L_law 543 = .ok (.laload, 1) := by decide +kernel
theorem kd_L_law_544 : decode kc_L_law 544 = .ok (.iload 6, 2) := by decide +kernel
theorem kd_L_law_546 : decode kc_L_law 546 = .ok (.i2l, 1) := by decide +kernel
theorem kd_L_law_547 : decode kc_L_law 547 = .ok (.lcmp, 1) := by decide +kernel
theorem kd_L_law_548 : decode kc_L_law 548 = .ok (.ifCond .eq 5, 3) := by decide +kernel
theorem kd_L_law_551 : decode kc_L_law 551 = .ok (.iconst 0, 1) := by decide +kernel
theorem kd_L_law_552 : decode kc_L_law 552 = .ok (.ireturn, 1) := by decide +kernel
theorem kd_L_law_553 : decode kc_L_law 553 = .ok (.goto 342, 3) := by decide +kernel
theorem kd_L_law_556 : decode kc_L_law 556 = .ok (.aload_n 1, 1) := by decide +kernel
theorem kd_L_law_557 : decode kc_L_law 557 = .ok (.aload_n 0, 1) := by decide +kernel
theorem kd_L_law_558 : decode kc_L_law 558 = .ok (.iload 4, 2) := by decide +kernel
theorem kd_L_law_560 : decode kc_L_law 560 = .ok (.iconst 1, 1) := by decide +kernel
theorem kd_L_law_561 : decode kc_L_law 561 = .ok (.iadd, 1) := by decide +kernel
theorem kd_L_law_562 : decode kc_L_law 562 = .ok (.iaload, 1) := by decide +kernel
theorem kd_L_law_563 : decode kc_L_law 563 = .ok (.aload_n 0, 1) := by decide +kernel
theorem kd_L_law_564 : decode kc_L_law 564 = .ok (.iload 4, 2) := by decide +kernel
theorem kd_L_law_566 : decode kc_L_law 566 = .ok (.iconst 2, 1) := by decide +kernel
theorem kd_L_law_567 : decode kc_L_law 567 = .ok (.iadd, 1) := by decide +kernel
theorem kd_L_law_568 : decode kc_L_law 568 = .ok (.iaload, 1) := by decide +kernel
theorem kd_L_law_569 : decode kc_L_law 569 = .ok (.aload_n 0, 1) := by decide +kernel
theorem kd_L_law_570 : decode kc_L_law 570 = .ok (.iload 4, 2) := by decide +kernel
theorem kd_L_law_572 : decode kc_L_law 572 = .ok (.iconst 3, 1) := by decide +kernel
theorem kd_L_law_573 : decode kc_L_law 573 = .ok (.iadd, 1) := by decide +kernel
theorem kd_L_law_574 : decode kc_L_law 574 = .ok (.iaload, 1) := by decide +kernel
theorem kd_L_law_575 : decode kc_L_law 575 = .ok (.aload_n 3, 1) := by decide +kernel
theorem kd_L_law_576 : decode kc_L_law 576 = .ok (.invokestatic 92, 3) := by decide +kernel
theorem kd_L_law_579 : decode kc_L_law 579 = .ok (.istore 5, 2) := by decide +kernel
theorem kd_L_law_581 : decode kc_L_law 581 = .ok (.aload_n 2, 1) := by decide +kernel
theorem kd_L_law_582 : decode kc_L_law 582 = .ok (.aload_n 0, 1) := by decide +kernel
theorem kd_L_law_583 : decode kc_L_law 583 = .ok (.iload 4, 2) := by decide +kernel
theorem kd_L_law_585 : decode kc_L_law 585 = .ok (.iconst 1, 1) := by decide +kernel
theorem kd_L_law_586 : decode kc_L_law 586 = .ok (.iadd, 1) := by decide +kernel
theorem kd_L_law_587 : decode kc_L_law 587 = .ok (.iaload, 1) := by decide +kernel
theorem kd_L_law_588 : decode kc_L_law 588 = .ok (.aload_n 0, 1) := by decide +kernel
theorem kd_L_law_589 : decode kc_L_law 589 = .ok (.iload 4, 2) := by decide +kernel
theorem kd_L_law_591 : decode kc_L_law 591 = .ok (.iconst 2, 1) := by decide +kernel
theorem kd_L_law_592 : decode kc_L_law 592 = .ok (.iadd, 1) := by decide +kernel
theorem kd_L_law_593 : decode kc_L_law 593 = .ok (.iaload, 1) := by decide +kernel
theorem kd_L_law_594 : decode kc_L_law 594 = .ok (.aload_n 0, 1) := by decide +kernel
theorem kd_L_law_595 : decode kc_L_law 595 = .ok (.iload 4, 2) := by decide +kernel
theorem kd_L_law_597 : decode kc_L_law 597 = .ok (.iconst 3, 1) := by decide +kernel
theorem kd_L_law_598 : decode kc_L_law 598 = .ok (.iadd, 1) := by decide +kernel
theorem kd_L_law_599 : decode kc_L_law 599 = .ok (.iaload, 1) := by decide +kernel
theorem kd_L_law_600 : decode kc_L_law 600 = .ok (.invokevirtual 95, 3) := by decide +kernel
theorem kd_L_law_603 : decode kc_L_law 603 = .ok (.istore 6, 2) := by decide +kernel
theorem kd_L_law_605 : decode kc_L_law 605 = .ok (.aload_n 2, 1) := by decide +kernel
theorem kd_L_law_606 : decode kc_L_law 606 = .ok (.invokevirtual 68, 3) := by decide +kernel
theorem kd_L_law_609 : decode kc_L_law 609 = .ok (.iload 5, 2) := by decide +kernel
theorem kd_L_law_611 : decode kc_L_law 611 = .ok (.if_icmp .eq 5, 3) := by decide +kernel
theorem kd_L_law_614 : decode kc_L_law 614 = .ok (.iconst 0, 1) := by decide +kernel
theorem kd_L_law_615 : decode kc_L_law 615 = .ok (.ireturn, 1) := by decide +kernel
theorem kd_L_law_616 : decode kc_L_law 616 = .ok (.iload 5, 2) := by decide +kernel
theorem kd_L_law_618 : decode kc_L_law 618 = .ok (.ifCond .ne 15, 3) := by decide +kernel
theorem kd_L_law_621 : decode kc_L_law 621 = .ok (.aload_n 3, 1) := by decide +kernel
theorem kd_L_law_622 : decode kc_L_law 622 = .ok (.iconst 0, 1) := by decide +kernel
theorem kd_L_law_623 : decode kc_L_law 623 = .ok (.laload, 1) := by decide +kernel
theorem kd_L_law_624 : decode kc_L_law 624 = .ok (.iload 6, 2) := by decide +kernel
theorem kd_L_law_626 : decode kc_L_law 626 = .ok (.i2l, 1) := by decide +kernel
theorem kd_L_law_627 : decode kc_L_law 627 = .ok (.lcmp, 1) := by decide +kernel
theorem kd_L_law_628 : decode kc_L_law 628 = .ok (.ifCond .eq 5, 3) := by decide +kernel
theorem kd_L_law_631 : decode kc_L_law 631 = .ok (.iconst 0, 1) := by decide +kernel
theorem kd_L_law_632 : decode kc_L_law 632 = .ok (.ireturn, 1) := by decide +kernel
theorem kd_L_law_633 : decode kc_L_law 633 = .ok (.goto 262, 3) := by decide +kernel
theorem kd_L_law_636 : decode kc_L_law 636 = .ok (.aload_n 1, 1) := by decide +kernel
theorem kd_L_law_637 : decode kc_L_law 637 = .ok (.aload_n 0, 1) := by decide +kernel
theorem kd_L_law_638 : decode kc_L_law 638 = .ok (.iload 4, 2) := by decide +kernel
theorem kd_L_law_640 : decode kc_L_law 640 = .ok (.iconst 1, 1) := by decide +kernel
theorem kd_L_law_641 : decode kc_L_law 641 = .ok (.iadd, 1) := by decide +kernel
theorem kd_L_law_642 : decode kc_L_law 642 = .ok (.iaload, 1) := by decide +kernel
theorem kd_L_law_643 : decode kc_L_law 643 = .ok (.i2l, 1) := by decide +kernel
theorem kd_L_law_644 : decode kc_L_law 644 = .ok (.bipush 32, 2) := by decide +kernel
theorem kd_L_law_646 : decode kc_L_law 646 = .ok (.lshl, 1) := by decide +kernel
theorem kd_L_law_647 : decode kc_L_law 647 = .ok (.aload_n 0, 1) := by decide +kernel
theorem kd_L_law_648 : decode kc_L_law 648 = .ok (.iload 4, 2) := by decide +kernel
theorem kd_L_law_650 : decode kc_L_law 650 = .ok (.iconst 2, 1) := by decide +kernel
theorem kd_L_law_651 : decode kc_L_law 651 = .ok (.iadd, 1) := by decide +kernel
theorem kd_L_law_652 : decode kc_L_law 652 = .ok (.iaload, 1) := by decide +kernel
theorem kd_L_law_653 : decode kc_L_law 653 = .ok (.i2l, 1) := by decide +kernel
theorem kd_L_law_654 : decode kc_L_law 654 = .ok (.ldc2_w 79, 3) := by decide +kernel
theorem kd_L_law_657 : decode kc_L_law 657 = .ok (.land, 1) := by decide +kernel
theorem kd_L_law_658 : decode kc_L_law 658 = .ok (.lor, 1) := by decide +kernel
theorem kd_L_law_659 : decode kc_L_law 659 = .ok (.invokestatic 96, 3) := by decide +kernel
theorem kd_L_law_662 : decode kc_L_law 662 = .ok (.istore 5, 2) := by decide +kernel
theorem kd_L_law_664 : decode kc_L_law 664 = .ok (.aload_n 2, 1) := by decide +kernel
theorem kd_L_law_665 : decode kc_L_law 665 = .ok (.aload_n 0, 1) := by decide +kernel
theorem kd_L_law_666 : decode kc_L_law 666 = .ok (.iload 4, 2) := by decide +kernel
theorem kd_L_law_668 : decode kc_L_law 668 = .ok (.iconst 1, 1) := by decide +kernel
theorem kd_L_law_669 : decode kc_L_law 669 = .ok (.iadd, 1) := by decide +kernel
theorem kd_L_law_670 : decode kc_L_law 670 = .ok (.iaload, 1) := by decide +kernel
theorem kd_L_law_671 : decode kc_L_law 671 = .ok (.i2l, 1) := by decide +kernel
theorem kd_L_law_672 : decode kc_L_law 672 = .ok (.bipush 32, 2) := by decide +kernel
theorem kd_L_law_674 : decode kc_L_law 674 = .ok (.lshl, 1) := by decide +kernel
theorem kd_L_law_675 : decode kc_L_law 675 = .ok (.aload_n 0, 1) := by decide +kernel
theorem kd_L_law_676 : decode kc_L_law 676 = .ok (.iload 4, 2) := by decide +kernel
theorem kd_L_law_678 : decode kc_L_law 678 = .ok (.iconst 2, 1) := by decide +kernel
theorem kd_L_law_679 : decode kc_L_law 679 = .ok (.iadd, 1) := by decide +kernel
theorem kd_L_law_680 : decode kc_L_law 680 = .ok (.iaload, 1) := by decide +kernel
theorem kd_L_law_681 : decode kc_L_law 681 = .ok (.i2l, 1) := by decide +kernel
theorem kd_L_law_682 : decode kc_L_law 682 = .ok (.ldc2_w 79, 3) := by decide +kernel
theorem kd_L_law_685 : decode kc_L_law 685 = .ok (.land, 1) := by decide +kernel
theorem kd_L_law_686 : decode kc_L_law 686 = .ok (.lor, 1) := by decide +kernel
theorem kd_L_law_687 : decode kc_L_law 687 = .ok (.invokevirtual 99, 3) := by decide +kernel
theorem kd_L_law_690 : decode kc_L_law 690 = .ok (.aload_n 2, 1) := by decide +kernel
theorem kd_L_law_691 : decode kc_L_law 691 = .ok (.invokevirtual 68, 3) := by decide +kernel
theorem kd_L_law_694 : decode kc_L_law 694 = .ok (.iload 5, 2) := by decide +kernel
theorem kd_L_law_696 : decode kc_L_law 696 = .ok (.if_icmp .eq 5, 3) := by decide +kernel
theorem kd_L_law_699 : decode kc_L_law 699 = .ok (.iconst 0, 1) := by decide +kernel
theorem kd_L_law_700 : decode kc_L_law 700 = .ok (.ireturn, 1) := by decide +kernel
theorem kd_L_law_701 : decode kc_L_law 701 = .ok (.goto 194, 3) := by decide +kernel
theorem kd_L_law_704 : decode kc_L_law 704 = .ok (.aload_n 1, 1) := by decide +kernel
theorem kd_L_law_705 : decode kc_L_law 705 = .ok (.aload_n 3, 1) := by decide +kernel
theorem kd_L_law_706 : decode kc_L_law 706 = .ok (.invokestatic 100, 3) := by decide +kernel
theorem kd_L_law_709 : decode kc_L_law 709 = .ok (.istore 5, 2) := by decide +kernel
theorem kd_L_law_711 : decode kc_L_law 711 = .ok (.aload_n 2, 1) := by decide +kernel
theorem kd_L_law_712 : decode kc_L_law 712 = .ok (.invokevirtual 103, 3) := by decide +kernel
theorem kd_L_law_715 : decode kc_L_law 715 = .ok (.lstore 6, 2) := by decide +kernel
theorem kd_L_law_717 : decode kc_L_law 717 = .ok (.aload_n 2, 1) := by decide +kernel
theorem kd_L_law_718 : decode kc_L_law 718 = .ok (.invokevirtual 68, 3) := by decide +kernel
theorem kd_L_law_721 : decode kc_L_law 721 = .ok (.iload 5, 2) := by decide +kernel
theorem kd_L_law_723 : decode kc_L_law 723 = .ok (.if_icmp .eq 5, 3) := by decide +kernel
theorem kd_L_law_726 : decode kc_L_law 726 = .ok (.iconst 0, 1) := by decide +kernel
theorem kd_L_law_727 : decode kc_L_law 727 = .ok (.ireturn, 1) := by decide +kernel
theorem kd_L_law_728 : decode kc_L_law 728 = .ok (.iload 5, 2) := by decide +kernel
theorem kd_L_law_730 : decode kc_L_law 730 = .ok (.ifCond .ne 14, 3) := by decide +kernel
theorem kd_L_law_733 : decode kc_L_law 733 = .ok (.aload_n 3, 1) := by decide +kernel
theorem kd_L_law_734 : decode kc_L_law 734 = .ok (.iconst 0, 1) := by decide +kernel
theorem kd_L_law_735 : decode kc_L_law 735 = .ok (.laload, 1) := by decide +kernel
theorem kd_L_law_736 : decode kc_L_law 736 = .ok (.lload 6, 2) := by decide +kernel
theorem kd_L_law_738 : decode kc_L_law 738 = .ok (.lcmp, 1) := by decide +kernel
theorem kd_L_law_739 : decode kc_L_law 739 = .ok (.ifCond .eq 5, 3) := by decide +kernel
theorem kd_L_law_742 : decode kc_L_law 742 = .ok (.iconst 0, 1) := by decide +kernel
theorem kd_L_law_743 : decode kc_L_law 743 = .ok (.ireturn, 1) := by decide +kernel
theorem kd_L_law_744 : decode kc_L_law 744 = .ok (.goto 151, 3) := by decide +kernel
theorem kd_L_law_747 : decode kc_L_law 747 = .ok (.aload_n 1, 1) := by decide +kernel
theorem kd_L_law_748 : decode kc_L_law 748 = .ok (.invokevirtual 104, 3) := by decide +kernel
theorem kd_L_law_751 : decode kc_L_law 751 = .ok (.aload_n 2, 1) := by decide +kernel
theorem kd_L_law_752 : decode kc_L_law 752 = .ok (.invokevirtual 107, 3) := by decide +kernel
theorem kd_L_law_755 : decode kc_L_law 755 = .ok (.if_icmp .eq 140, 3) := by decide +kernel
theorem kd_L_law_758 : decode kc_L_law 758 = .ok (.iconst 0, 1) := by decide +kernel
theorem kd_L_law_759 : decode kc_L_law 759 = .ok (.ireturn, 1) := by decide +kernel
theorem kd_L_law_760 : decode kc_L_law 760 = .ok (.aload_n 1, 1) := by decide +kernel
theorem kd_L_law_761 : decode kc_L_law 761 = .ok (.aload_n 0, 1) := by decide +kernel
theorem kd_L_law_762 : decode kc_L_law 762 = .ok (.iload 4, 2) := by decide +kernel
theorem kd_L_law_764 : decode kc_L_law 764 = .ok (.iconst 1, 1) := by decide +kernel
theorem kd_L_law_765 : decode kc_L_law 765 = .ok (.iadd, 1) := by decide +kernel
theorem kd_L_law_766 : decode kc_L_law 766 = .ok (.iaload, 1) := by decide +kernel
theorem kd_L_law_767 : decode kc_L_law 767 = .ok (.aload_n 0, 1) := by decide +kernel
theorem kd_L_law_768 : decode kc_L_law 768 = .ok (.iload 4, 2) := by decide +kernel
theorem kd_L_law_770 : decode kc_L_law 770 = .ok (.iconst 2, 1) := by decide +kernel
theorem kd_L_law_771 : decode kc_L_law 771 = .ok (.iadd, 1) := by decide +kernel
theorem kd_L_law_772 : decode kc_L_law 772 = .ok (.iaload, 1) := by decide +kernel
theorem kd_L_law_773 : decode kc_L_law 773 = .ok (.aload_n 3, 1) := by decide +kernel
theorem kd_L_law_774 : decode kc_L_law 774 = .ok (.invokestatic 108, 3) := by decide +kernel
theorem kd_L_law_777 : decode kc_L_law 777 = .ok (.istore 5, 2) := by decide +kernel
theorem kd_L_law_779 : decode kc_L_law 779 = .ok (.aload_n 2, 1) := by decide +kernel
theorem kd_L_law_780 : decode kc_L_law 780 = .ok (.aload_n 0, 1) := by decide +kernel
theorem kd_L_law_781 : decode kc_L_law 781 = .ok (.iload 4, 2) := by decide +kernel
theorem kd_L_law_783 : decode kc_L_law 783 = .ok (.iconst 1, 1) := by decide +kernel
theorem kd_L_law_784 : decode kc_L_law 784 = .ok (.iadd, 1) := by decide +kernel
theorem kd_L_law_785 : decode kc_L_law 785 = .ok (.iaload, 1) := by decide +kernel
theorem kd_L_law_786 : decode kc_L_law 786 = .ok (.aload_n 0, 1) := by decide +kernel
theorem kd_L_law_787 : decode kc_L_law 787 = .ok (.iload 4, 2) := by decide +kernel
theorem kd_L_law_789 : decode kc_L_law 789 = .ok (.iconst 2, 1) := by decide +kernel
theorem kd_L_law_790 : decode kc_L_law 790 = .ok (.iadd, 1) := by decide +kernel
theorem kd_L_law_791 : decode kc_L_law 791 = .ok (.iaload, 1) := by decide +kernel
theorem kd_L_law_792 : decode kc_L_law 792 = .ok (.invokevirtual 110, 3) := by decide +kernel
theorem kd_L_law_795 : decode kc_L_law 795 = .ok (.istore 6, 2) := by decide +kernel
theorem kd_L_law_797 : decode kc_L_law 797 = .ok (.aload_n 2, 1) := by decide +kernel
theorem kd_L_law_798 : decode kc_L_law 798 = .ok (.invokevirtual 68, 3) := by decide +kernel
theorem kd_L_law_801 : decode kc_L_law 801 = .ok (.iload 5, 2) := by decide +kernel
theorem kd_L_law_803 : decode kc_L_law 803 = .ok (.if_icmp .eq 5, 3) := by decide +kernel
theorem kd_L_law_806 : decode kc_L_law 806 = .ok (.iconst 0, 1) := by decide +kernel
theorem kd_L_law_807 : decode kc_L_law 807 = .ok (.ireturn, 1) := by decide +kernel
theorem kd_L_law_808 : decode kc_L_law 808 = .ok (.iload 5, 2) := by decide +kernel
theorem kd_L_law_810 : decode kc_L_law 810 = .ok (.ifCond .ne 15, 3) := by decide +kernel
theorem kd_L_law_813 : decode kc_L_law 813 = .ok (.aload_n 3, 1) := by decide +kernel
theorem kd_L_law_814 : decode kc_L_law 814 = .ok (.iconst 0, 1) := by decide +kernel
theorem kd_L_law_815 : decode kc_L_law 815 = .ok (.laload, 1) := by decide +kernel
theorem kd_L_law_816 : decode kc_L_law 816 = .ok (.iload 6, 2) := by decide +kernel
theorem kd_L_law_818 : decode kc_L_law 818 = .ok (.i2l, 1) := by decide +kernel
theorem kd_L_law_819 : decode kc_L_law 819 = .ok (.lcmp, 1) := by decide +kernel
theorem kd_L_law_820 : decode kc_L_law 820 = .ok (.ifCond .eq 5, 3) := by decide +kernel
theorem kd_L_law_823 : decode kc_L_law 823 = .ok (.iconst 0, 1) := by decide +kernel
theorem kd_L_law_824 : decode kc_L_law 824 = .ok (.ireturn, 1) := by decide +kernel
theorem kd_L_law_825 : decode kc_L_law 825 = .ok (.goto 70, 3) := by decide +kernel
theorem kd_L_law_828 : decode kc_L_law 828 = .ok (.aload_n 1, 1) := by decide +kernel
theorem kd_L_law_829 : decode kc_L_law 829 = .ok (.aload_n 0, 1) := by decide +kernel
theorem kd_L_law_830 : decode kc_L_law 830 = .ok (.iload 4, 2) := by decide +kernel
theorem kd_L_law_832 : decode kc_L_law 832 = .ok (.iconst 1, 1) := by decide +kernel
theorem kd_L_law_833 : decode kc_L_law 833 = .ok (.iadd, 1) := by decide +kernel
theorem kd_L_law_834 : decode kc_L_law 834 = .ok (.iaload, 1) := by decide +kernel
theorem kd_L_law_835 : decode kc_L_law 835 = .ok (.aload_n 0, 1) := by decide +kernel
theorem kd_L_law_836 : decode kc_L_law 836 = .ok (.iload 4, 2) := by decide +kernel
theorem kd_L_law_838 : decode kc_L_law 838 = .ok (.iconst 2, 1) := by decide +kernel
theorem kd_L_law_839 : decode kc_L_law 839 = .ok (.iadd, 1) := by decide +kernel
theorem kd_L_law_840 : decode kc_L_law 840 = .ok (.iaload, 1) := by decide +kernel
theorem kd_L_law_841 : decode kc_L_law 841 = .ok (.aload_n 3, 1) := by decide +kernel
theorem kd_L_law_842 : decode kc_L_law 842 = .ok (.invokestatic 111, 3) := by decide +kernel
theorem kd_L_law_845 : decode kc_L_law 845 = .ok (.istore 5, 2) := by decide +kernel
theorem kd_L_law_847 : decode kc_L_law 847 = .ok (.aload_n 2, 1) := by decide +kernel
theorem kd_L_law_848 : decode kc_L_law 848 = .ok (.aload_n 0, 1) := by decide +kernel
theorem kd_L_law_849 : decode kc_L_law 849 = .ok (.iload 4, 2) := by decide +kernel
theorem kd_L_law_851 : decode kc_L_law 851 = .ok (.iconst 1, 1) := by decide +kernel
theorem kd_L_law_852 : decode kc_L_law 852 = .ok (.iadd, 1) := by decide +kernel
theorem kd_L_law_853 : decode kc_L_law 853 = .ok (.iaload, 1) := by decide +kernel
theorem kd_L_law_854 : decode kc_L_law 854 = .ok (.aload_n 0, 1) := by decide +kernel
theorem kd_L_law_855 : decode kc_L_law 855 = .ok (.iload 4, 2) := by decide +kernel
theorem kd_L_law_857 : decode kc_L_law 857 = .ok (.iconst 2, 1) := by decide +kernel
theorem kd_L_law_858 : decode kc_L_law 858 = .ok (.iadd, 1) := by decide +kernel
theorem kd_L_law_859 : decode kc_L_law 859 = .ok (.iaload, 1) := by decide +kernel
theorem kd_L_law_860 : decode kc_L_law 860 = .ok (.invokevirtual 113, 3) := by decide +kernel
theorem kd_L_law_863 : decode kc_L_law 863 = .ok (.lstore 6, 2) := by decide +kernel
theorem kd_L_law_865 : decode kc_L_law 865 = .ok (.aload_n 2, 1) := by decide +kernel
theorem kd_L_law_866 : decode kc_L_law 866 = .ok (.invokevirtual 68, 3) := by decide +kernel
theorem kd_L_law_869 : decode kc_L_law 869 = .ok (.iload 5, 2) := by decide +kernel
theorem kd_L_law_871 : decode kc_L_law 871 = .ok (.if_icmp .eq 5, 3) := by decide +kernel
theorem kd_L_law_874 : decode kc_L_law 874 = .ok (.iconst 0, 1) := by decide +kernel
theorem kd_L_law_875 : decode kc_L_law 875 = .ok (.ireturn, 1) := by decide +kernel
theorem kd_L_law_876 : decode kc_L_law 876 = .ok (.iload 5, 2) := by decide +kernel
theorem kd_L_law_878 : decode kc_L_law 878 = .ok (.ifCond .ne 14, 3) := by decide +kernel
theorem kd_L_law_881 : decode kc_L_law 881 = .ok (.aload_n 3, 1) := by decide +kernel
theorem kd_L_law_882 : decode kc_L_law 882 = .ok (.iconst 0, 1) := by decide +kernel
theorem kd_L_law_883 : decode kc_L_law 883 = .ok (.laload, 1) := by decide +kernel
theorem kd_L_law_884 : decode kc_L_law 884 = .ok (.lload 6, 2) := by decide +kernel
theorem kd_L_law_886 : decode kc_L_law 886 = .ok (.lcmp, 1) := by decide +kernel
theorem kd_L_law_887 : decode kc_L_law 887 = .ok (.ifCond .eq 5, 3) := by decide +kernel
theorem kd_L_law_890 : decode kc_L_law 890 = .ok (.iconst 0, 1) := by decide +kernel
theorem kd_L_law_891 : decode kc_L_law 891 = .ok (.ireturn, 1) := by decide +kernel
theorem kd_L_law_892 : decode kc_L_law 892 = .ok (.goto 3, 3) := by decide +kernel
theorem kd_L_law_895 : decode kc_L_law 895 = .ok (.iinc 4 6, 3) := by decide +kernel
theorem kd_L_law_898 : decode kc_L_law 898 = .ok (.goto (-875), 3) := by decide +kernel
theorem kd_L_law_901 : decode kc_L_law 901 = .ok (.iconst 1, 1) := by decide +kernel
theorem kd_L_law_902 : decode kc_L_law 902 = .ok (.ireturn, 1) := by decide +kernel
end
section
/-! CALL ROWS by the kind of the answer; roads that come together -/
section HY
variable {p : Program} {l : Launch} {e : Env} {R : Room} {s : State} {m : MethodId} {args : Array Value} {below : List Frame} {meth : Method} {c : Code} {H : Heap} {locs : List Loc} {cells slots : Nat} {Q : State → Prop}
variable {pc : Nat} {ls : Array Slot} {rest st0 : List Value} {a : Array Value} {cc : ByteArray}
theorem hx_callRi {r : Int32} (hr : va_Run p l e R s m args below meth c H locs cells slots 0 0 (F0 m pc ls st0) rest (hx_QR (some (.int r)) a) (fun _ => False)) (kk : W p l e R s m args below meth c H locs cells slots Q (F0 m (pc + 3) ls (.int r :: rest))) : W p l e R s m args below meth c H locs cells slots Q (F0 m pc ls st0) := hx_callR hr kk
theorem hx_callRl {r : Int64} (hr : va_Run p l e R s m args below meth c H locs cells slots 0 0 (F0 m pc ls st0) rest (hx_QR (some (.long r)) a) (fun _ => False)) (kk : W p l e R s m args below meth c H locs cells slots Q (F0 m (pc + 3) ls (.long r :: rest))) : W p l e R s m args below meth c H locs cells slots Q (F0 m pc ls st0) := hx_callR hr kk
theorem hx_callWi {D : va_G} {r : Int32} {ws wc w1 : va_W} {A0 : Nat → Prop} {mc ms : Nat} (hr : va_Run p l e R s m args below meth c H locs cells slots mc ms (F0 m pc ls st0) rest (hx_QW D (some (.int r)) w1 (va_A wc H.size) a) (va_A wc H.size)) (hP : va_P D cl_all ws H) (hD : va_D A0 ws) (hS : va_S A0 s.heap H locs) (hA : ∀ q, s.heap.size ≤ q → A0 q) (is : List Nat) (hC : is.map (fun i => ws[i]?) = wc.map some) (ha : w1.map (fun q => q.1) = wc.map (fun q => q.1))
    (kk : ∀ (H1 : Heap) (locs1 : List Loc), va_P D cl_all (hx_put ws is w1) H1 → va_D A0 (hx_put ws is w1) → va_S A0 s.heap H1 locs1 → (∀ q : Nat, q < H.size → ¬ va_A wc H.size q → H1[q]? = H[q]?) → W p l e R s m args below meth c H1 locs1 (cells + mc) (slots + ms) Q (F0 m (pc + 3) ls (.int r :: rest))) : W p l e R s m args below meth c H locs cells slots Q (F0 m pc ls st0) := hx_callW hr hP hD hS hA is hC ha kk
theorem hx_callWl {D : va_G} {r : Int64} {ws wc w1 : va_W} {A0 : Nat → Prop} {mc ms : Nat} (hr : va_Run p l e R s m args below meth c H locs cells slots mc ms (F0 m pc ls st0) rest (hx_QW D (some (.long r)) w1 (va_A wc H.size) a) (va_A wc H.size)) (hP : va_P D cl_all ws H) (hD : va_D A0 ws) (hS : va_S A0 s.heap H locs) (hA : ∀ q, s.heap.size ≤ q → A0 q) (is : List Nat) (hC : is.map (fun i => ws[i]?) = wc.map some) (ha : w1.map (fun q => q.1) = wc.map (fun q => q.1))
    (kk : ∀ (H1 : Heap) (locs1 : List Loc), va_P D cl_all (hx_put ws is w1) H1 → va_D A0 (hx_put ws is w1) → va_S A0 s.heap H1 locs1 → (∀ q : Nat, q < H.size → ¬ va_A wc H.size q → H1[q]? = H[q]?) → W p l e R s m args below meth c H1 locs1 (cells + mc) (slots + ms) Q (F0 m (pc + 3) ls (.long r :: rest))) : W p l e R s m args below meth c H locs cells slots Q (F0 m pc ls st0) := hx_callW hr hP hD hS hA is hC ha kk
theorem hx_callWv {D : va_G} {ws wc w1 : va_W} {A0 : Nat → Prop} {mc ms : Nat} (hr : va_Run p l e R s m args below meth c H locs cells slots mc ms (F0 m pc ls st0) rest (hx_QW D none w1 (va_A wc H.size) a) (va_A wc H.size)) (hP : va_P D cl_all ws H) (hD : va_D A0 ws) (hS : va_S A0 s.heap H locs) (hA : ∀ q, s.heap.size ≤ q → A0 q) (is : List Nat) (hC : is.map (fun i => ws[i]?) = wc.map some) (ha : w1.map (fun q => q.1) = wc.map (fun q => q.1))
    (kk : ∀ (H1 : Heap) (locs1 : List Loc), va_P D cl_all (hx_put ws is w1) H1 → va_D A0 (hx_put ws is w1) → va_S A0 s.heap H1 locs1 → (∀ q : Nat, q < H.size → ¬ va_A wc H.size q → H1[q]? = H[q]?) → W p l e R s m args below meth c H1 locs1 (cells + mc) (slots + ms) Q (F0 m (pc + 3) ls rest)) : W p l e R s m args below meth c H locs cells slots Q (F0 m pc ls st0) := hx_callW hr hP hD hS hA is hC ha kk
/-- where two roads come together with a number on the stack: the road behind is walked once -/
theorem hx_cut {g : JFrame} {pc2 : Nat} {ls2 : Array Slot} {rest2 : List Value} {P : Int32 → Prop} (k : ∀ x : Int32, P x → W p l e R s m args below meth c H locs cells slots Q (F0 m pc2 ls2 (.int x :: rest2))) (h : (∀ x : Int32, P x → W p l e R s m args below meth c H locs cells slots Q (F0 m pc2 ls2 (.int x :: rest2))) → W p l e R s m args below meth c H locs cells slots Q g) : W p l e R s m args below meth c H locs cells slots Q g := h k
theorem hx_cutl {g : JFrame} {pc2 : Nat} {ls2 : Array Slot} {rest2 : List Value} {P : Int64 → Prop} (k : ∀ x : Int64, P x → W p l e R s m args below meth c H locs cells slots Q (F0 m pc2 ls2 (.long x :: rest2))) (h : (∀ x : Int64, P x → W p l e R s m args below meth c H locs cells slots Q (F0 m pc2 ls2 (.long x :: rest2))) → W p l e R s m args below meth c H locs cells slots Q g) : W p l e R s m args below meth c H locs cells slots Q g := h k
end HY
theorem hx_m1 {T : List Cond} {a : Cond} (ha : a ∈ T) : ∀ w ∈ [a], w ∈ T := fun w h => by rw [List.mem_singleton.mp h]; exact ha
theorem hx_m4 {T : List Cond} {a b c d : Cond} (ha : a ∈ T) (hb : b ∈ T) (hc : c ∈ T) (hd : d ∈ T) : ∀ w ∈ [a, b, c, d], w ∈ T := List.forall_mem_cons.mpr ⟨ha, List.forall_mem_cons.mpr ⟨hb, List.forall_mem_cons.mpr ⟨hc, hx_m1 hd⟩⟩⟩
theorem hx_m5 {T : List Cond} {a b c d e : Cond} (ha : a ∈ T) (hb : b ∈ T) (hc : c ∈ T) (hd : d ∈ T) (he : e ∈ T) : ∀ w ∈ [a, b, c, d, e], w ∈ T := List.forall_mem_cons.mpr ⟨ha, hx_m4 hb hc hd he⟩
end
section
/-! LOOPS -/
section HL
variable {p : Program} {l : Launch} {e : Env} {R : Room} {s : State} {m : MethodId} {args : Array Value} {below : List Frame} {meth : Method} {c : Code} {H : Heap} {locs : List Loc} {cells slots : Nat} {Q : State → Prop}
theorem hx_loopR {σ : Type} {pc2 : Nat} {I : σ → Array Slot → Prop} {μ : σ → Nat} (body : ∀ (x : σ) (ls : Array Slot), I x ls → (∀ (y : σ) (ls' : Array Slot), μ y < μ x → I y ls' → W p l e R s m args below meth c H locs cells slots Q (F0 m pc2 ls' [])) → W p l e R s m args below meth c H locs cells slots Q (F0 m pc2 ls [])) (x0 : σ) {ls : Array Slot} (h0 : I x0 ls) : W p l e R s m args below meth c H locs cells slots Q (F0 m pc2 ls []) := by
  have key : ∀ (n : Nat) (x : σ) (ls : Array Slot), μ x < n → I x ls → W p l e R s m args below meth c H locs cells slots Q (F0 m pc2 ls []) := by
    intro n
    induction n with
    | zero => intro x ls h; omega
    | succ n ih => intro x ls h hI; exact body x ls hI (fun y ls' hy hI' => ih y ls' (by omega) hI')
  exact key (μ x0 + 1) x0 ls (by omega) h0
theorem hx_loopW {σ : Type} {pc2 : Nat} {I : σ → Array Slot → Heap → List Loc → Prop} {μ : σ → Nat} (body : ∀ (x : σ) (ls : Array Slot) (H : Heap) (locs : List Loc), I x ls H locs → (∀ (y : σ) (ls' : Array Slot) (H' : Heap) (locs' : List Loc), μ y < μ x → I y ls' H' locs' → W p l e R s m args below meth c H' locs' cells slots Q (F0 m pc2 ls' [])) → W p l e R s m args below meth c H locs cells slots Q (F0 m pc2 ls [])) (x0 : σ) {ls : Array Slot} (h0 : I x0 ls H locs) : W p l e R s m args below meth c H locs cells slots Q (F0 m pc2 ls []) := by
  have key : ∀ (n : Nat) (x : σ) (ls : Array Slot) (H : Heap) (locs : List Loc), μ x < n → I x ls H locs → W p l e R s m args below meth c H locs cells slots Q (F0 m pc2 ls []) := by
    intro n
    induction n with
    | zero => intro x ls H locs h; omega
    | succ n ih => intro x ls H locs h hI; exact body x ls H locs hI (fun y ls' H' locs' hy hI' => ih y ls' H' locs' (by omega) hI')
  exact key (μ x0 + 1) x0 ls H locs (by omega) h0
theorem hx_cut0 {g : JFrame} {pc2 : Nat} {ls2 : Array Slot} {rest2 : List Value} {P : Prop} (k : P → W p l e R s m args below meth c H locs cells slots Q (F0 m pc2 ls2 rest2)) (h : (P → W p l e R s m args below meth c H locs cells slots Q (F0 m pc2 ls2 rest2)) → W p l e R s m args below meth c H locs cells slots Q g) : W p l e R s m args below meth c H locs cells slots Q g := h k
end HL
/-! SHIFTS -/
theorem sh_u : ∀ n, n < 32 → (((nI n).toUInt32 &&& Int32.toUInt32 31).toBitVec % 32).toNat = n := by decide
theorem sh_b {n : Nat} (hn : n < 32) (x : Int32) : ((x.toUInt32 >>> ((nI n).toUInt32 &&& Int32.toUInt32 31)).toInt32 &&& 255) = nI (x.toBitVec.toNat / 2 ^ n % 256) := by
  rw [pk_and _ 8 (by decide), pk_ushr x (nI n) n (sh_u n hn)]
theorem sh_0 {n : Nat} (hn : n < 32) (x : Int32) : (x.toUInt32 >>> ((nI n).toUInt32 &&& Int32.toUInt32 31)).toInt32 = 0 ↔ x.toBitVec.toNat < 2 ^ n := by
  have h := pk_ushr x (nI n) n (sh_u n hn)
  constructor
  · intro h0
    rw [h0] at h
    have h1 : (0 : Int32).toBitVec.toNat = 0 := rfl
    rw [h1] at h
    have h2 : 0 < 2 ^ n := Nat.pos_of_ne_zero (by simp)
    rcases Nat.lt_or_ge x.toBitVec.toNat (2 ^ n) with h3 | h3
    · exact h3
    · have := Nat.div_pos h3 h2
      omega
  · intro h0
    rw [Nat.div_eq_of_lt h0] at h
    apply Int32.toBitVec_inj.mp
    apply BitVec.eq_of_toNat_eq
    rw [h]
    rfl
/-- the type of parameter i of n, in a word with a byte each -/
def ty_N (ty : Int32) (n i : Nat) : Nat := ty.toBitVec.toNat / 2 ^ (8 * (n - 1 - i)) % 256
theorem ty_lt (ty : Int32) (n i : Nat) : ty_N ty n i < 256 := Nat.mod_lt _ (by decide)
/-- a word of n types, all of them there, zeros above -/
def ty_ok (nc : Nat) (ty : Int32) (n : Nat) : Bool := decide (ty.toBitVec.toNat < 2 ^ (8 * n)) && decide (∀ i, i < n → ty_N ty n i < 6 + nc)
/-- how far c comes behind k in its line, by at most so many steps -/
def ds_ (pa : Nat → Int32) (c : Int32) : Nat → Int32 → Nat → Int32
  | 0, _, _ => -1
  | f + 1, k, n => if k = -1 then -1 else if k = c then nI n else ds_ pa c f (pa k.toNatClampNeg) (n + 1)
/-- a class or none -/
def ln_k (nc : Nat) (k : Int32) : Prop := k = -1 ∨ ∃ j : Nat, j < nc ∧ k = nI j
/-- parents: none, or one of a lower number -/
def ln_ok (nc : Nat) (pa : Nat → Int32) : Prop := nc ≤ 16 ∧ ∀ j, j < nc → ln_k j (pa j)
theorem ln_k.mono {a b : Nat} {k : Int32} (h : ln_k a k) (hab : a ≤ b) : ln_k b k := h.elim Or.inl (fun ⟨j, h1, h2⟩ => Or.inr ⟨j, by omega, h2⟩)
theorem ln_ok.at {nc : Nat} {pa : Nat → Int32} (h : ln_ok nc pa) {j : Nat} (hj : j < nc) : ln_k nc (pa j) := (h.2 j hj).mono (by omega)
theorem nI_nm1 {j : Nat} (h : j < 2 ^ 31) : ¬ nI j = -1 := by
  intro h1
  have h2 := nI_toInt h
  rw [h1] at h2
  have h3 : (-1 : Int32).toInt = -1 := rfl
  omega
end
section
/-! THE CLASSES AND OBJECTS OF THE CLASS (HostBridge$World), names and types -/
/-- a number is a place below n -/
def fb_in (k : Int32) (n : Nat) : Bool := !decide (k < 0) && !decide (nI n ≤ k)
theorem fb_in_iff {k : Int32} {n : Nat} (hn : n < 2 ^ 31) : fb_in k n = true ↔ ∃ j : Nat, j < n ∧ k = nI j := by
  constructor
  · intro h
    simp only [fb_in, Bool.and_eq_true, Bool.not_eq_true', decide_eq_false_iff_not] at h
    rcases pk_ix k hn with h1 | h1 | h1
    · exact absurd h1 h.1
    · exact absurd h1 h.2
    · exact h1
  · rintro ⟨j, h1, rfl⟩
    simp [fb_in, nI_pos (show j < 2 ^ 31 by omega), nI_ge h1 hn]
theorem fb_lt {j n : Nat} (hj : j < 2 ^ 31) (hn : n < 2 ^ 31) (h : fb_in (nI j) n = true) : j < n := by
  obtain ⟨i, h1, h2⟩ := (fb_in_iff hn).mp h
  rw [nI_eq hj (by omega)] at h2
  omega
theorem fb_nlt {j n : Nat} (hn : n < 2 ^ 31) (h : fb_in (nI j) n = false) : ¬ j < n := fun h9 => by
  rw [(fb_in_iff hn).mpr ⟨j, h9, rfl⟩] at h
  cases h
theorem b2_t {b : Bool} (h : ¬ b2_ b = 0) : b = true := by
  cases b
  · exact absurd rfl h
  · rfl
theorem b2_f {b : Bool} (h : b2_ b = 0) : b = false := by
  cases b
  · rfl
  · exact absurd h (by decide)

set_option maxHeartbeats 4000000 in
set_option maxRecDepth 100000 in
theorem mc_W_hasClass {l : Launch} {D : va_G} {cI cL cZ : ClassId} {tb : Nat} (h0 a1 a2 nc no : Nat) (k : Int32) : Met l ky_W_hasClass kw_W_hasClass { frames := 0, cells := 0, slots := 0, locals := 0 } (pr_P D cI cL cZ tb [(h0, .inr (1, [.ref a1, .ref a2, .int (nI nc), .int (nI no)]))] [.ref h0, .int k]) (hx_QR (some (.int (b2_ (fb_in k nc))))) 0 0 (fun _ => False) := by
  refine Met.ofW (cc := kc_W_hasClass) (maxL := 2) (ret := (some .boolean)) (by decide) rfl ?_
  intro p e s m args below meth c s₁ B hml hv
  obtain ⟨rfl, hC, hP⟩ := hv
  have hx := B.exec
  have hb := B.bytes
  have hr := B.returns
  have hlocks := B.notSynchronized
  have hown : s.vm.findClass "HostBridge$World" = some m.cls := findClass_of_methodNamed B.named
  have hS : va_S (fun _ => False) s.heap s.heap [] := va_S.rf
  have hK := hC.K
  have hts := hC.ts [.ref h0, .int k].toArray
  have hl := lv_entry ([.ref h0, .int k]) (n := 2) (Nat.le_of_ble_eq_true rfl)
  rw [lg_entry_eq]
  generalize (lg_sl ([.ref h0, .int k]) ++ List.replicate (2 - (lg_sl ([.ref h0, .int k])).length) Slot.unset).toArray = ls at hl ⊢
  have hl : lv_has ls 2 [(0, .ref h0), (1, .int k)] := hl
  refine lv_iload_n hx hb kd_W_hasClass_0 rfl (lv_at hl 1 rfl) ?_
  refine lv_if_lt (tgt := 16) hx hb kd_W_hasClass_1 (by decide) (fun c_1 => ?_) (fun c_1 => ?_)
  · skip
    refine lv_iconst (v := 0) hx hb kd_W_hasClass_16 (by decide) ?_
    exact hx_zretR hx hb hr hlocks (by simp [b2_, fb_in, c_1]) kd_W_hasClass_17
  · skip
    refine lv_iload_n hx hb kd_W_hasClass_4 rfl (lv_at hl 1 rfl) ?_
    refine lv_aload_n hx hb kd_W_hasClass_5 rfl (lv_at hl 0 rfl) ?_
    refine va_get (D := D) (ci := 1) (v := .int (nI nc)) (C := "HostBridge$World") (T := ct_W) (N := 4) hx hb hts cw_W hown hK hP 0 rfl rfl 2 (by decide) (hts _ km_37) (fun _ h9 => h9) rfl kd_W_hasClass_6 ?_
    refine lv_icmp_ge (tgt := 16) hx hb kd_W_hasClass_9 (by decide) (fun c_9 => ?_) (fun c_9 => ?_)
    · skip
      refine lv_iconst (v := 0) hx hb kd_W_hasClass_16 (by decide) ?_
      exact hx_zretR hx hb hr hlocks (by simp [b2_, fb_in, c_1, c_9]) kd_W_hasClass_17
    · skip
      refine lv_iconst (v := 1) hx hb kd_W_hasClass_12 (by decide) ?_
      refine lv_goto (tgt := 17) hx hb kd_W_hasClass_13 (by decide) ?_
      exact hx_zretR hx hb hr hlocks (by simp [b2_, fb_in, c_1, c_9]) kd_W_hasClass_17

set_option maxHeartbeats 4000000 in
set_option maxRecDepth 100000 in
theorem mc_W_hasObject {l : Launch} {D : va_G} {cI cL cZ : ClassId} {tb : Nat} (h0 a1 a2 nc no : Nat) (k : Int32) : Met l ky_W_hasObject kw_W_hasObject { frames := 0, cells := 0, slots := 0, locals := 0 } (pr_P D cI cL cZ tb [(h0, .inr (1, [.ref a1, .ref a2, .int (nI nc), .int (nI no)]))] [.ref h0, .int k]) (hx_QR (some (.int (b2_ (fb_in k no))))) 0 0 (fun _ => False) := by
  refine Met.ofW (cc := kc_W_hasObject) (maxL := 2) (ret := (some .boolean)) (by decide) rfl ?_
  intro p e s m args below meth c s₁ B hml hv
  obtain ⟨rfl, hC, hP⟩ := hv
  have hx := B.exec
  have hb := B.bytes
  have hr := B.returns
  have hlocks := B.notSynchronized
  have hown : s.vm.findClass "HostBridge$World" = some m.cls := findClass_of_methodNamed B.named
  have hS : va_S (fun _ => False) s.heap s.heap [] := va_S.rf
  have hK := hC.K
  have hts := hC.ts [.ref h0, .int k].toArray
  have hl := lv_entry ([.ref h0, .int k]) (n := 2) (Nat.le_of_ble_eq_true rfl)
  rw [lg_entry_eq]
  generalize (lg_sl ([.ref h0, .int k]) ++ List.replicate (2 - (lg_sl ([.ref h0, .int k])).length) Slot.unset).toArray = ls at hl ⊢
  have hl : lv_has ls 2 [(0, .ref h0), (1, .int k)] := hl
  refine lv_iload_n hx hb kd_W_hasObject_0 rfl (lv_at hl 1 rfl) ?_
  refine lv_if_lt (tgt := 16) hx hb kd_W_hasObject_1 (by decide) (fun c_1 => ?_) (fun c_1 => ?_)
  · skip
    refine lv_iconst (v := 0) hx hb kd_W_hasObject_16 (by decide) ?_
    exact hx_zretR hx hb hr hlocks (by simp [b2_, fb_in, c_1]) kd_W_hasObject_17
  · skip
    refine lv_iload_n hx hb kd_W_hasObject_4 rfl (lv_at hl 1 rfl) ?_
    refine lv_aload_n hx hb kd_W_hasObject_5 rfl (lv_at hl 0 rfl) ?_
    refine va_get (D := D) (ci := 1) (v := .int (nI no)) (C := "HostBridge$World") (T := ct_W) (N := 4) hx hb hts cw_W hown hK hP 0 rfl rfl 3 (by decide) (hts _ km_39) (fun _ h9 => h9) rfl kd_W_hasObject_6 ?_
    refine lv_icmp_ge (tgt := 16) hx hb kd_W_hasObject_9 (by decide) (fun c_9 => ?_) (fun c_9 => ?_)
    · skip
      refine lv_iconst (v := 0) hx hb kd_W_hasObject_16 (by decide) ?_
      exact hx_zretR hx hb hr hlocks (by simp [b2_, fb_in, c_1, c_9]) kd_W_hasObject_17
    · skip
      refine lv_iconst (v := 1) hx hb kd_W_hasObject_12 (by decide) ?_
      refine lv_goto (tgt := 17) hx hb kd_W_hasObject_13 (by decide) ?_
      exact hx_zretR hx hb hr hlocks (by simp [b2_, fb_in, c_1, c_9]) kd_W_hasObject_17

set_option maxHeartbeats 4000000 in
set_option maxRecDepth 100000 in
theorem mc_W_hasType {l : Launch} {D : va_G} {cI cL cZ : ClassId} {tb : Nat} (h0 a1 a2 nc no : Nat) (k : Int32) : Met l ky_W_hasType kw_W_hasType { frames := 0, cells := 0, slots := 0, locals := 0 } (pr_P D cI cL cZ tb [(h0, .inr (1, [.ref a1, .ref a2, .int (nI nc), .int (nI no)]))] [.ref h0, .int k]) (hx_QR (some (.int (b2_ (fb_in k (6 + nc)))))) 0 0 (fun _ => False) := by
  refine Met.ofW (cc := kc_W_hasType) (maxL := 2) (ret := (some .boolean)) (by decide) rfl ?_
  intro p e s m args below meth c s₁ B hml hv
  obtain ⟨rfl, hC, hP⟩ := hv
  have hx := B.exec
  have hb := B.bytes
  have hr := B.returns
  have hlocks := B.notSynchronized
  have hown : s.vm.findClass "HostBridge$World" = some m.cls := findClass_of_methodNamed B.named
  have hS : va_S (fun _ => False) s.heap s.heap [] := va_S.rf
  have hK := hC.K
  have hts := hC.ts [.ref h0, .int k].toArray
  have hl := lv_entry ([.ref h0, .int k]) (n := 2) (Nat.le_of_ble_eq_true rfl)
  rw [lg_entry_eq]
  generalize (lg_sl ([.ref h0, .int k]) ++ List.replicate (2 - (lg_sl ([.ref h0, .int k])).length) Slot.unset).toArray = ls at hl ⊢
  have hl : lv_has ls 2 [(0, .ref h0), (1, .int k)] := hl
  refine lv_iload_n hx hb kd_W_hasType_0 rfl (lv_at hl 1 rfl) ?_
  refine lv_if_lt (tgt := 19) hx hb kd_W_hasType_1 (by decide) (fun c_1 => ?_) (fun c_1 => ?_)
  · skip
    refine lv_iconst (v := 0) hx hb kd_W_hasType_19 (by decide) ?_
    exact hx_zretR hx hb hr hlocks (by simp [b2_, fb_in, c_1]) kd_W_hasType_20
  · skip
    refine lv_iload_n hx hb kd_W_hasType_4 rfl (lv_at hl 1 rfl) ?_
    refine lv_bipush (v := 6) hx hb kd_W_hasType_5 (by decide) ?_
    refine lv_aload_n hx hb kd_W_hasType_7 rfl (lv_at hl 0 rfl) ?_
    refine va_get (D := D) (ci := 1) (v := .int (nI nc)) (C := "HostBridge$World") (T := ct_W) (N := 4) hx hb hts cw_W hown hK hP 0 rfl rfl 2 (by decide) (hts _ km_37) (fun _ h9 => h9) rfl kd_W_hasType_8 ?_
    refine lv_iadd hx hb kd_W_hasType_11 ?_
    refine hx_topi (y := nI (6 + nc)) (by rw [show (6 : Int32) = nI 6 from rfl, nI_add]) ?_
    refine lv_icmp_ge (tgt := 19) hx hb kd_W_hasType_12 (by decide) (fun c_12 => ?_) (fun c_12 => ?_)
    · skip
      refine lv_iconst (v := 0) hx hb kd_W_hasType_19 (by decide) ?_
      exact hx_zretR hx hb hr hlocks (by simp [b2_, fb_in, c_1, c_12]) kd_W_hasType_20
    · skip
      refine lv_iconst (v := 1) hx hb kd_W_hasType_15 (by decide) ?_
      refine lv_goto (tgt := 20) hx hb kd_W_hasType_16 (by decide) ?_
      exact hx_zretR hx hb hr hlocks (by simp [b2_, fb_in, c_1, c_12]) kd_W_hasType_20

set_option maxHeartbeats 4000000 in
set_option maxRecDepth 100000 in
theorem mc_B_isName {l : Launch} {D : va_G} {cI cL cZ : ClassId} {tb : Nat} (k : Int32) : Met l ky_B_isName kw_B_isName { frames := 0, cells := 0, slots := 0, locals := 0 } (pr_P D cI cL cZ tb [] [.int k]) (hx_QR (some (.int (b2_ (fb_in k 1000))))) 0 0 (fun _ => False) := by
  refine Met.ofW (cc := kc_B_isName) (maxL := 1) (ret := (some .boolean)) (by decide) rfl ?_
  intro p e s m args below meth c s₁ B hml hv
  obtain ⟨rfl, hC, hP⟩ := hv
  have hx := B.exec
  have hb := B.bytes
  have hr := B.returns
  have hlocks := B.notSynchronized
  have hown : s.vm.findClass "HostBridge" = some m.cls := findClass_of_methodNamed B.named
  have hS : va_S (fun _ => False) s.heap s.heap [] := va_S.rf
  have hK := hC.K
  have hts := hC.ts [.int k].toArray
  have hl := lv_entry ([.int k]) (n := 1) (Nat.le_of_ble_eq_true rfl)
  rw [lg_entry_eq]
  generalize (lg_sl ([.int k]) ++ List.replicate (1 - (lg_sl ([.int k])).length) Slot.unset).toArray = ls at hl ⊢
  have hl : lv_has ls 1 [(0, .int k)] := hl
  refine lv_iload_n hx hb kd_B_isName_0 rfl (lv_at hl 0 rfl) ?_
  refine lv_if_lt (tgt := 15) hx hb kd_B_isName_1 (by decide) (fun c_1 => ?_) (fun c_1 => ?_)
  · skip
    refine lv_iconst (v := 0) hx hb kd_B_isName_15 (by decide) ?_
    exact hx_zretR hx hb hr hlocks (by simp [b2_, fb_in, c_1]) kd_B_isName_16
  · skip
    refine lv_iload_n hx hb kd_B_isName_4 rfl (lv_at hl 0 rfl) ?_
    refine lv_sipush (v := 1000) hx hb kd_B_isName_5 (by decide) ?_
    refine hx_topi (y := nI 1000) (by decide) ?_
    refine lv_icmp_ge (tgt := 15) hx hb kd_B_isName_8 (by decide) (fun c_8 => ?_) (fun c_8 => ?_)
    · skip
      refine lv_iconst (v := 0) hx hb kd_B_isName_15 (by decide) ?_
      exact hx_zretR hx hb hr hlocks (by simp [b2_, fb_in, c_1, c_8]) kd_B_isName_16
    · skip
      refine lv_iconst (v := 1) hx hb kd_B_isName_11 (by decide) ?_
      refine lv_goto (tgt := 16) hx hb kd_B_isName_12 (by decide) ?_
      exact hx_zretR hx hb hr hlocks (by simp [b2_, fb_in, c_1, c_8]) kd_B_isName_16

set_option maxHeartbeats 4000000 in
set_option maxRecDepth 100000 in
theorem mc_W_addClass {l : Launch} {D : va_G} {cI cL cZ : ClassId} {tb : Nat} (h0 a1 a2 nc no : Nat) (pa : Nat → Int32) (k : Int32) (hn : nc < 16) (sz : Nat) : Met l ky_W_addClass kw_W_addClass { frames := 0, cells := 0, slots := 0, locals := 0 } (pw_P D cI cL cZ tb [(h0, .inr (1, [.ref a1, .ref a2, .int (nI nc), .int (nI no)])), (a1, .inl (cI, 16, .inl pa))] sz [.ref h0, .int k]) (hx_QW D (some (.int (nI nc))) [(h0, .inr (1, [.ref a1, .ref a2, .int (nI (nc + 1)), .int (nI no)])), (a1, .inl (cI, 16, .inl (upd pa nc k)))] (va_A [(h0, .inr (1, [.ref a1, .ref a2, .int (nI nc), .int (nI no)])), (a1, .inl (cI, 16, .inl pa))] sz)) 0 0 (va_A [(h0, .inr (1, [.ref a1, .ref a2, .int (nI nc), .int (nI no)])), (a1, .inl (cI, 16, .inl pa))] sz) := by
  refine Met.ofW (cc := kc_W_addClass) (maxL := 2) (ret := (some .int)) (by decide) rfl ?_
  intro p e s m args below meth c s₁ B hml hv
  obtain ⟨rfl, hsz, hC, hP, hD0⟩ := hv
  have hx := B.exec
  have hb := B.bytes
  have hr := B.returns
  have hlocks := B.notSynchronized
  have hown : s.vm.findClass "HostBridge$World" = some m.cls := findClass_of_methodNamed B.named
  subst hsz
  have hD := hD0.self (sz := s.heap.size)
  generalize hAe : va_A [(h0, .inr (1, [.ref a1, .ref a2, .int (nI nc), .int (nI no)])), (a1, .inl (cI, 16, .inl pa))] s.heap.size = A at hD hC ⊢
  have hA : ∀ q : Nat, s.heap.size ≤ q → A q := fun q h => by rw [← hAe]; exact Or.inr h
  have hS : va_S A s.heap s.heap [] := va_S.rf
  have hK := hC.K
  have hts := hC.ts [.ref h0, .int k].toArray
  have hl := lv_entry ([.ref h0, .int k]) (n := 2) (Nat.le_of_ble_eq_true rfl)
  rw [lg_entry_eq]
  generalize (lg_sl ([.ref h0, .int k]) ++ List.replicate (2 - (lg_sl ([.ref h0, .int k])).length) Slot.unset).toArray = ls at hl ⊢
  have hl : lv_has ls 2 [(0, .ref h0), (1, .int k)] := hl
  refine lv_aload_n hx hb kd_W_addClass_0 rfl (lv_at hl 0 rfl) ?_
  refine va_get (D := D) (ci := 1) (v := .ref a1) (C := "HostBridge$World") (T := ct_W) (N := 4) hx hb hts cw_W hown hK hP 0 rfl rfl 0 (by decide) (hts _ km_32) (fun _ h9 => h9) rfl kd_W_addClass_1 ?_
  refine lv_aload_n hx hb kd_W_addClass_4 rfl (lv_at hl 0 rfl) ?_
  refine va_get (D := D) (ci := 1) (v := .int (nI nc)) (C := "HostBridge$World") (T := ct_W) (N := 4) hx hb hts cw_W hown hK hP 0 rfl rfl 2 (by decide) (hts _ km_37) (fun _ h9 => h9) rfl kd_W_addClass_5 ?_
  refine lv_iload_n hx hb kd_W_addClass_8 rfl (lv_at hl 1 rfl) ?_
  refine hx_iast (j := nc) hx hb hK hP hD hS 1 rfl (rfl) (hn) (by decide) kd_W_addClass_9 (fun H locs hP hD hS => ?_)
  have hP : va_P D cl_all [(h0, .inr (1, [.ref a1, .ref a2, .int (nI nc), .int (nI no)])), (a1, .inl (cI, 16, .inl (upd pa nc k)))] H := hP
  have hD : va_D A [(h0, .inr (1, [.ref a1, .ref a2, .int (nI nc), .int (nI no)])), (a1, .inl (cI, 16, .inl (upd pa nc k)))] := hD
  refine lv_aload_n hx hb kd_W_addClass_10 rfl (lv_at hl 0 rfl) ?_
  refine lv_dup hx hb kd_W_addClass_11 rfl ?_
  refine va_get (D := D) (ci := 1) (v := .int (nI nc)) (C := "HostBridge$World") (T := ct_W) (N := 4) hx hb hts cw_W hown hK hP 0 rfl rfl 2 (by decide) (hts _ km_37) (fun _ h9 => h9) rfl kd_W_addClass_12 ?_
  refine lv_iconst (v := 1) hx hb kd_W_addClass_15 (by decide) ?_
  refine lv_iadd hx hb kd_W_addClass_16 ?_
  refine hx_topi (y := nI (nc + 1)) (nI_1 nc) ?_
  refine va_put (D := D) (ci := 1) (v := .int (nI (nc + 1))) (ty := .int) (C := "HostBridge$World") (T := ct_W) (N := 4) hx hb hts cw_W cy_W cp_W cn_W hown hK hP hD hS 0 rfl rfl 2 (by decide) (hts _ km_37) (fun _ h9 => h9) rfl (by decide +kernel) rfl rfl (Nat.le_of_ble_eq_true rfl) kd_W_addClass_17 (fun H locs hP hD hS => ?_)
  have hP : va_P D cl_all [(h0, .inr (1, [.ref a1, .ref a2, .int (nI (nc + 1)), .int (nI no)])), (a1, .inl (cI, 16, .inl (upd pa nc k)))] H := hP
  have hD : va_D A [(h0, .inr (1, [.ref a1, .ref a2, .int (nI (nc + 1)), .int (nI no)])), (a1, .inl (cI, 16, .inl (upd pa nc k)))] := hD
  refine lv_aload_n hx hb kd_W_addClass_20 rfl (lv_at hl 0 rfl) ?_
  refine va_get (D := D) (ci := 1) (v := .int (nI (nc + 1))) (C := "HostBridge$World") (T := ct_W) (N := 4) hx hb hts cw_W hown hK hP 0 rfl rfl 2 (by decide) (hts _ km_37) (fun _ h9 => h9) rfl kd_W_addClass_21 ?_
  refine lv_iconst (v := 1) hx hb kd_W_addClass_24 (by decide) ?_
  refine lv_isub hx hb kd_W_addClass_25 ?_
  refine hx_topi (y := nI nc) (nI_pred nc) ?_
  exact hx_iretW hx hb hr hlocks (by simp []) (hP) hS kd_W_addClass_26

set_option maxHeartbeats 4000000 in
set_option maxRecDepth 100000 in
theorem mc_W_addObject {l : Launch} {D : va_G} {cI cL cZ : ClassId} {tb : Nat} (h0 a1 a2 nc no : Nat) (co : Nat → Int32) (k : Int32) (hn : no < 64) (sz : Nat) : Met l ky_W_addObject kw_W_addObject { frames := 0, cells := 0, slots := 0, locals := 0 } (pw_P D cI cL cZ tb [(h0, .inr (1, [.ref a1, .ref a2, .int (nI nc), .int (nI no)])), (a2, .inl (cI, 64, .inl co))] sz [.ref h0, .int k]) (hx_QW D (some (.int (nI no))) [(h0, .inr (1, [.ref a1, .ref a2, .int (nI nc), .int (nI (no + 1))])), (a2, .inl (cI, 64, .inl (upd co no k)))] (va_A [(h0, .inr (1, [.ref a1, .ref a2, .int (nI nc), .int (nI no)])), (a2, .inl (cI, 64, .inl co))] sz)) 0 0 (va_A [(h0, .inr (1, [.ref a1, .ref a2, .int (nI nc), .int (nI no)])), (a2, .inl (cI, 64, .inl co))] sz) := by
  refine Met.ofW (cc := kc_W_addObject) (maxL := 2) (ret := (some .int)) (by decide) rfl ?_
  intro p e s m args below meth c s₁ B hml hv
  obtain ⟨rfl, hsz, hC, hP, hD0⟩ := hv
  have hx := B.exec
  have hb := B.bytes
  have hr := B.returns
  have hlocks := B.notSynchronized
  have hown : s.vm.findClass "HostBridge$World" = some m.cls := findClass_of_methodNamed B.named
  subst hsz
  have hD := hD0.self (sz := s.heap.size)
  generalize hAe : va_A [(h0, .inr (1, [.ref a1, .ref a2, .int (nI nc), .int (nI no)])), (a2, .inl (cI, 64, .inl co))] s.heap.size = A at hD hC ⊢
  have hA : ∀ q : Nat, s.heap.size ≤ q → A q := fun q h => by rw [← hAe]; exact Or.inr h
  have hS : va_S A s.heap s.heap [] := va_S.rf
  have hK := hC.K
  have hts := hC.ts [.ref h0, .int k].toArray
  have hl := lv_entry ([.ref h0, .int k]) (n := 2) (Nat.le_of_ble_eq_true rfl)
  rw [lg_entry_eq]
  generalize (lg_sl ([.ref h0, .int k]) ++ List.replicate (2 - (lg_sl ([.ref h0, .int k])).length) Slot.unset).toArray = ls at hl ⊢
  have hl : lv_has ls 2 [(0, .ref h0), (1, .int k)] := hl
  refine lv_aload_n hx hb kd_W_addObject_0 rfl (lv_at hl 0 rfl) ?_
  refine va_get (D := D) (ci := 1) (v := .ref a2) (C := "HostBridge$World") (T := ct_W) (N := 4) hx hb hts cw_W hown hK hP 0 rfl rfl 1 (by decide) (hts _ km_34) (fun _ h9 => h9) rfl kd_W_addObject_1 ?_
  refine lv_aload_n hx hb kd_W_addObject_4 rfl (lv_at hl 0 rfl) ?_
  refine va_get (D := D) (ci := 1) (v := .int (nI no)) (C := "HostBridge$World") (T := ct_W) (N := 4) hx hb hts cw_W hown hK hP 0 rfl rfl 3 (by decide) (hts _ km_39) (fun _ h9 => h9) rfl kd_W_addObject_5 ?_
  refine lv_iload_n hx hb kd_W_addObject_8 rfl (lv_at hl 1 rfl) ?_
  refine hx_iast (j := no) hx hb hK hP hD hS 1 rfl (rfl) (hn) (by decide) kd_W_addObject_9 (fun H locs hP hD hS => ?_)
  have hP : va_P D cl_all [(h0, .inr (1, [.ref a1, .ref a2, .int (nI nc), .int (nI no)])), (a2, .inl (cI, 64, .inl (upd co no k)))] H := hP
  have hD : va_D A [(h0, .inr (1, [.ref a1, .ref a2, .int (nI nc), .int (nI no)])), (a2, .inl (cI, 64, .inl (upd co no k)))] := hD
  refine lv_aload_n hx hb kd_W_addObject_10 rfl (lv_at hl 0 rfl) ?_
  refine lv_dup hx hb kd_W_addObject_11 rfl ?_
  refine va_get (D := D) (ci := 1) (v := .int (nI no)) (C := "HostBridge$World") (T := ct_W) (N := 4) hx hb hts cw_W hown hK hP 0 rfl rfl 3 (by decide) (hts _ km_39) (fun _ h9 => h9) rfl kd_W_addObject_12 ?_
  refine lv_iconst (v := 1) hx hb kd_W_addObject_15 (by decide) ?_
  refine lv_iadd hx hb kd_W_addObject_16 ?_
  refine hx_topi (y := nI (no + 1)) (nI_1 no) ?_
  refine va_put (D := D) (ci := 1) (v := .int (nI (no + 1))) (ty := .int) (C := "HostBridge$World") (T := ct_W) (N := 4) hx hb hts cw_W cy_W cp_W cn_W hown hK hP hD hS 0 rfl rfl 3 (by decide) (hts _ km_39) (fun _ h9 => h9) rfl (by decide +kernel) rfl rfl (Nat.le_of_ble_eq_true rfl) kd_W_addObject_17 (fun H locs hP hD hS => ?_)
  have hP : va_P D cl_all [(h0, .inr (1, [.ref a1, .ref a2, .int (nI nc), .int (nI (no + 1))])), (a2, .inl (cI, 64, .inl (upd co no k)))] H := hP
  have hD : va_D A [(h0, .inr (1, [.ref a1, .ref a2, .int (nI nc), .int (nI (no + 1))])), (a2, .inl (cI, 64, .inl (upd co no k)))] := hD
  refine lv_aload_n hx hb kd_W_addObject_20 rfl (lv_at hl 0 rfl) ?_
  refine va_get (D := D) (ci := 1) (v := .int (nI (no + 1))) (C := "HostBridge$World") (T := ct_W) (N := 4) hx hb hts cw_W hown hK hP 0 rfl rfl 3 (by decide) (hts _ km_39) (fun _ h9 => h9) rfl kd_W_addObject_21 ?_
  refine lv_iconst (v := 1) hx hb kd_W_addObject_24 (by decide) ?_
  refine lv_isub hx hb kd_W_addObject_25 ?_
  refine hx_topi (y := nI no) (nI_pred no) ?_
  exact hx_iretW hx hb hr hlocks (by simp []) (hP) hS kd_W_addObject_26

set_option maxHeartbeats 4000000 in
set_option maxRecDepth 100000 in
theorem mc_B_typeAt {l : Launch} {D : va_G} {cI cL cZ : ClassId} {tb : Nat} (ty : Int32) (n i : Nat) (hi : i < n) (hn : n ≤ 4) : Met l ky_B_typeAt kw_B_typeAt { frames := 0, cells := 0, slots := 0, locals := 0 } (pr_P D cI cL cZ tb [] [.int ty, .int (nI n), .int (nI i)]) (hx_QR (some (.int (nI (ty_N ty n i))))) 0 0 (fun _ => False) := by
  refine Met.ofW (cc := kc_B_typeAt) (maxL := 3) (ret := (some .int)) (by decide) rfl ?_
  intro p e s m args below meth c s₁ B hml hv
  obtain ⟨rfl, hC, hP⟩ := hv
  have hx := B.exec
  have hb := B.bytes
  have hr := B.returns
  have hlocks := B.notSynchronized
  have hown : s.vm.findClass "HostBridge" = some m.cls := findClass_of_methodNamed B.named
  have hS : va_S (fun _ => False) s.heap s.heap [] := va_S.rf
  have hK := hC.K
  have hts := hC.ts [.int ty, .int (nI n), .int (nI i)].toArray
  have hl := lv_entry ([.int ty, .int (nI n), .int (nI i)]) (n := 3) (Nat.le_of_ble_eq_true rfl)
  rw [lg_entry_eq]
  generalize (lg_sl ([.int ty, .int (nI n), .int (nI i)]) ++ List.replicate (3 - (lg_sl ([.int ty, .int (nI n), .int (nI i)])).length) Slot.unset).toArray = ls at hl ⊢
  have hl : lv_has ls 3 [(0, .int ty), (1, .int (nI n)), (2, .int (nI i))] := hl
  refine lv_iload_n hx hb kd_B_typeAt_0 rfl (lv_at hl 0 rfl) ?_
  refine lv_bipush (v := 8) hx hb kd_B_typeAt_1 (by decide) ?_
  refine lv_iload_n hx hb kd_B_typeAt_3 rfl (lv_at hl 1 rfl) ?_
  refine lv_iconst (v := 1) hx hb kd_B_typeAt_4 (by decide) ?_
  refine lv_isub hx hb kd_B_typeAt_5 ?_
  refine hx_topi (y := nI (n - 1)) (by rw [show (1 : Int32) = nI 1 from rfl, pk_sub (by omega)]) ?_
  refine lv_iload_n hx hb kd_B_typeAt_6 rfl (lv_at hl 2 rfl) ?_
  refine lv_isub hx hb kd_B_typeAt_7 ?_
  refine hx_topi (y := nI (n - 1 - i)) (pk_sub (by omega)) ?_
  refine lv_imul hx hb kd_B_typeAt_8 ?_
  refine hx_topi (y := nI (8 * (n - 1 - i))) (by rw [show (8 : Int32) = nI 8 from rfl, pk_mul]) ?_
  refine lv_iushr hx hb kd_B_typeAt_9 rfl ?_
  refine lv_sipush (v := 255) hx hb kd_B_typeAt_10 (by decide) ?_
  refine lv_iand hx hb kd_B_typeAt_13 ?_
  refine hx_topi (y := nI (ty_N ty n i)) (sh_b (by omega) ty) ?_
  exact hx_iretR hx hb hr hlocks (by simp []) kd_B_typeAt_14

set_option maxHeartbeats 4000000 in
set_option maxRecDepth 100000 in
theorem mc_W_hasTypes {l : Launch} {D : va_G} {cI cL cZ : ClassId} {tb : Nat} (h0 a1 a2 nc no : Nat) (ty : Int32) (n : Nat) (hn : n ≤ 4) (hnc : nc ≤ 16) : Met l ky_W_hasTypes kw_W_hasTypes { frames := 1, cells := 0, slots := 0, locals := 22 } (pr_P D cI cL cZ tb [(h0, .inr (1, [.ref a1, .ref a2, .int (nI nc), .int (nI no)]))] [.ref h0, .int (nI n), .int ty]) (hx_QR (some (.int (b2_ (ty_ok nc ty n))))) 0 0 (fun _ => False) := by
  refine Met.ofW (cc := kc_W_hasTypes) (maxL := 4) (ret := (some .boolean)) (by decide) rfl ?_
  intro p e s m args below meth c s₁ B hml hv
  obtain ⟨rfl, hC, hP⟩ := hv
  have hx := B.exec
  have hb := B.bytes
  have hr := B.returns
  have hlocks := B.notSynchronized
  have hown : s.vm.findClass "HostBridge$World" = some m.cls := findClass_of_methodNamed B.named
  have hS : va_S (fun _ => False) s.heap s.heap [] := va_S.rf
  have hK := hC.K
  have hts := hC.ts [.ref h0, .int (nI n), .int ty].toArray
  have hl := lv_entry ([.ref h0, .int (nI n), .int ty]) (n := 4) (Nat.le_of_ble_eq_true rfl)
  rw [lg_entry_eq]
  generalize (lg_sl ([.ref h0, .int (nI n), .int ty]) ++ List.replicate (4 - (lg_sl ([.ref h0, .int (nI n), .int ty])).length) Slot.unset).toArray = ls at hl ⊢
  have hl : lv_has ls 4 [(0, .ref h0), (1, .int (nI n)), (2, .int ty)] := hl
  refine hx_cut0 (pc2 := 16) (ls2 := ls) (rest2 := []) (P := ty.toBitVec.toNat < 2 ^ (8 * n)) ?_ (fun hj1 => ?_)
  · intro hz
    refine lv_iconst (v := 0) hx hb kd_W_hasTypes_16 (by decide) ?_
    refine lv_istore_n (lv' := [(3, .int 0), (0, .ref h0), (1, .int (nI n)), (2, .int ty)]) hx hb kd_W_hasTypes_17 rfl hl (by decide) rfl (fun ls hl => ?_)
    refine hx_loopR (σ := Nat) (I := fun i ls => lv_has ls 4 [(0, .ref h0), (1, .int (nI n)), (2, .int ty), (3, .int (nI i))] ∧ i ≤ n ∧ (∀ j, j < i → ty_N ty n j < 6 + nc)) (μ := fun i => n - i) ?_ 0 ⟨lv_sub hl [1, 2, 3, 0] rfl, Nat.zero_le _, fun j h => absurd h (Nat.not_lt_zero j)⟩
    intro i ls hI ih18
    obtain ⟨hl, hi, hall⟩ := hI
    refine lv_iload_n hx hb kd_W_hasTypes_18 rfl (lv_at hl 3 rfl) ?_
    refine lv_iload_n hx hb kd_W_hasTypes_19 rfl (lv_at hl 1 rfl) ?_
    refine lv_icmp_ge (tgt := 44) hx hb kd_W_hasTypes_20 (by decide) (fun c_20 => ?_) (fun c_20 => ?_)
    · skip
      have hin : i = n := by rw [nI_leI (by omega) (by omega)] at c_20; omega
      refine lv_iconst (v := 1) hx hb kd_W_hasTypes_44 (by decide) ?_
      exact hx_zretR hx hb hr hlocks (by rw [ty_ok, decide_eq_true hz, decide_eq_true (p := ∀ j, j < n → ty_N ty n j < 6 + nc) (fun j hj => hall j (by omega))]; rfl) kd_W_hasTypes_45
    · skip
      have hin : i < n := by rw [nI_leI (by omega) (by omega)] at c_20; omega
      refine lv_aload_n hx hb kd_W_hasTypes_23 rfl (lv_at hl 0 rfl) ?_
      refine lv_iload_n hx hb kd_W_hasTypes_24 rfl (lv_at hl 2 rfl) ?_
      refine lv_iload_n hx hb kd_W_hasTypes_25 rfl (lv_at hl 1 rfl) ?_
      refine lv_iload_n hx hb kd_W_hasTypes_26 rfl (lv_at hl 3 rfl) ?_
      refine hx_callRi (va_runSN (As := [.int ty, .int (nI n), .int (nI i)]) (rest := [.ref h0]) ⟨hx, hb, hml, hown, hts⟩ (mc_B_typeAt ty n i hin hn) ⟨va_cnB 3 hts (goodIn_sub (hx_m1 km_316) (by decide +kernel)) rfl rfl rfl (va_Nw.of rfl (hts _ km_314)) (hts _ km_1) (by decide +kernel) ⟨Nat.le_of_ble_eq_true rfl, Nat.le_of_ble_eq_true rfl⟩, hts _ km_315, trivial⟩ (pr_S (hC.S hS) hP [] rfl) rfl rfl hl.1 rfl (lv_room (Nat.le_of_ble_eq_true rfl)) kd_W_hasTypes_27 ⟨Nat.le_of_ble_eq_true rfl, Nat.le_of_ble_eq_true rfl⟩) ?_
      refine hx_callRi (va_runV (As := [.int (nI (ty_N ty n i))]) (rest := []) ⟨hx, hb, hml, hown, hts⟩ (mc_W_hasType h0 a1 a2 nc no (nI (ty_N ty n i))) (cwV 1 hts (goodIn_sub (hx_m5 km_317 km_318 km_319 km_2 km_320) (by decide +kernel)) rfl rfl rfl (by decide +kernel) ⟨Nat.le_of_ble_eq_true rfl, Nat.le_of_ble_eq_true rfl⟩) (pr_V (hC.S hS) hP [0] rfl (ci := 1) rfl (q0 := 0) rfl) rfl rfl hl.1 rfl (lv_room (Nat.le_of_ble_eq_true rfl)) kd_W_hasTypes_30 ⟨Nat.le_of_ble_eq_true rfl, Nat.le_of_ble_eq_true rfl⟩) ?_
      refine lv_if_ne (tgt := 38) hx hb kd_W_hasTypes_33 (by decide) (fun c_33 => ?_) (fun c_33 => ?_)
      · skip
        have ht : ty_N ty n i < 6 + nc := fb_lt (Nat.lt_trans (ty_lt ty n i) (by decide)) (by omega) (b2_t c_33)
        refine lv_iinc (v := nI (i + 1)) (lv' := [(3, .int (nI (i + 1))), (0, .ref h0), (1, .int (nI n)), (2, .int ty)]) hx hb kd_W_hasTypes_38 hl (k := 3) rfl (nI_1 i) (by decide) rfl (fun ls hl => ?_)
        refine lv_goto (tgt := 18) hx hb kd_W_hasTypes_41 (by decide) ?_
        exact ih18 (i + 1) _ (by omega) ⟨lv_sub hl [1, 2, 3, 0] rfl, by omega, fun j hj => (Nat.lt_succ_iff_lt_or_eq.mp hj).elim (hall j) (fun e => by rw [e]; exact ht)⟩
      · skip
        have ht : ¬ ty_N ty n i < 6 + nc := fb_nlt (by omega) (b2_f c_33)
        refine lv_iconst (v := 0) hx hb kd_W_hasTypes_36 (by decide) ?_
        exact hx_zretR hx hb hr hlocks (by rw [ty_ok, decide_eq_false (p := ∀ j, j < n → ty_N ty n j < 6 + nc) (fun h => ht (h i hin)), Bool.and_false]; rfl) kd_W_hasTypes_37
  · skip
    refine lv_iload_n hx hb kd_W_hasTypes_0 rfl (lv_at hl 1 rfl) ?_
    refine lv_iconst (v := 4) hx hb kd_W_hasTypes_1 (by decide) ?_
    refine lv_icmp_ge (tgt := 16) hx hb kd_W_hasTypes_2 (by decide) (fun c_2 => ?_) (fun c_2 => ?_)
    · skip
      exact hj1 (by
          have h9 : nI 4 ≤ nI n := c_2
          rw [nI_leI (by decide) (by omega)] at h9
          have h8 : n = 4 := by omega
          rw [h8]; exact ty.toBitVec.isLt)
    · skip
      refine lv_iload_n hx hb kd_W_hasTypes_5 rfl (lv_at hl 2 rfl) ?_
      refine lv_bipush (v := 8) hx hb kd_W_hasTypes_6 (by decide) ?_
      refine lv_iload_n hx hb kd_W_hasTypes_8 rfl (lv_at hl 1 rfl) ?_
      refine lv_imul hx hb kd_W_hasTypes_9 ?_
      refine hx_topi (y := nI (8 * n)) (by rw [show (8 : Int32) = nI 8 from rfl, pk_mul]) ?_
      refine lv_iushr hx hb kd_W_hasTypes_10 rfl ?_
      refine lv_if_eq (tgt := 16) hx hb kd_W_hasTypes_11 (by decide) (fun c_11 => ?_) (fun c_11 => ?_)
      · skip
        exact hj1 ((sh_0 (by have h9 : ¬ nI 4 ≤ nI n := c_2; rw [nI_leI (by decide) (by omega)] at h9; omega) ty).mp c_11)
      · skip
        refine lv_iconst (v := 0) hx hb kd_W_hasTypes_14 (by decide) ?_
        exact hx_zretR hx hb hr hlocks (by rw [ty_ok, decide_eq_false (fun h => c_11 ((sh_0 (by have h9 : ¬ nI 4 ≤ nI n := c_2; rw [nI_leI (by decide) (by omega)] at h9; omega) ty).mpr h)), Bool.false_and]; rfl) kd_W_hasTypes_15

set_option maxHeartbeats 4000000 in
set_option maxRecDepth 100000 in
theorem mc_W_distance {l : Launch} {D : va_G} {cI cL cZ : ClassId} {tb : Nat} (h0 a1 a2 nc no : Nat) (pa : Nat → Int32) (k0 cl : Int32) (hok : ln_ok nc pa) (hk0 : ln_k nc k0) : Met l ky_W_distance kw_W_distance { frames := 0, cells := 0, slots := 0, locals := 0 } (pr_P D cI cL cZ tb [(h0, .inr (1, [.ref a1, .ref a2, .int (nI nc), .int (nI no)])), (a1, .inl (cI, 16, .inl pa))] [.ref h0, .int k0, .int cl]) (hx_QR (some (.int (ds_ pa cl 16 k0 0)))) 0 0 (fun _ => False) := by
  refine Met.ofW (cc := kc_W_distance) (maxL := 5) (ret := (some .int)) (by decide) rfl ?_
  intro p e s m args below meth c s₁ B hml hv
  obtain ⟨rfl, hC, hP⟩ := hv
  have hx := B.exec
  have hb := B.bytes
  have hr := B.returns
  have hlocks := B.notSynchronized
  have hown : s.vm.findClass "HostBridge$World" = some m.cls := findClass_of_methodNamed B.named
  have hS : va_S (fun _ => False) s.heap s.heap [] := va_S.rf
  have hK := hC.K
  have hts := hC.ts [.ref h0, .int k0, .int cl].toArray
  have hl := lv_entry ([.ref h0, .int k0, .int cl]) (n := 5) (Nat.le_of_ble_eq_true rfl)
  rw [lg_entry_eq]
  generalize (lg_sl ([.ref h0, .int k0, .int cl]) ++ List.replicate (5 - (lg_sl ([.ref h0, .int k0, .int cl])).length) Slot.unset).toArray = ls at hl ⊢
  have hl : lv_has ls 5 [(0, .ref h0), (1, .int k0), (2, .int cl)] := hl
  refine lv_iload_n hx hb kd_W_distance_0 rfl (lv_at hl 1 rfl) ?_
  refine lv_istore_n (lv' := [(3, .int k0), (0, .ref h0), (1, .int k0), (2, .int cl)]) hx hb kd_W_distance_1 rfl hl (by decide) rfl (fun ls hl => ?_)
  refine lv_iconst (v := 0) hx hb kd_W_distance_2 (by decide) ?_
  refine lv_istore (lv' := [(4, .int 0), (3, .int k0), (0, .ref h0), (1, .int k0), (2, .int cl)]) hx hb kd_W_distance_3 hl (by decide) rfl (fun ls hl => ?_)
  refine hx_loopR (σ := Nat × Int32) (I := fun x ls => lv_has ls 5 [(0, .ref h0), (2, .int cl), (3, .int x.2), (4, .int (nI x.1))] ∧ x.1 ≤ 16 ∧ ln_k nc x.2 ∧ ds_ pa cl (16 - x.1) x.2 x.1 = ds_ pa cl 16 k0 0) (μ := fun x => 16 - x.1) ?_ (0, k0) ⟨lv_sub hl [2, 4, 1, 0] rfl, Nat.zero_le _, hk0, rfl⟩
  intro x ls hI ih5
  obtain ⟨n, k⟩ := x
  obtain ⟨hl, hn, hk, hd⟩ := hI
  dsimp only at hl hn hk hd ih5
  refine lv_iload hx hb kd_W_distance_5 (lv_at hl 3 rfl) ?_
  refine lv_bipush (v := 16) hx hb kd_W_distance_7 (by decide) ?_
  refine lv_icmp_ge (tgt := 38) hx hb kd_W_distance_9 (by decide) (fun c_9 => ?_) (fun c_9 => ?_)
  · skip
    have h16 : n = 16 := by
      have h9 : nI 16 ≤ nI n := c_9
      rw [nI_leI (by decide) (by omega)] at h9; omega
    refine lv_iconst (v := -1) hx hb kd_W_distance_38 (by decide) ?_
    exact hx_iretR hx hb hr hlocks (by rw [← hd, h16]; rfl) kd_W_distance_39
  · skip
    have h16 : n < 16 := by
      have h9 : ¬ nI 16 ≤ nI n := c_9
      rw [nI_leI (by decide) (by omega)] at h9; omega
    obtain ⟨f, hf0⟩ : ∃ f, f = 15 - n := ⟨_, rfl⟩
    have hf : 16 - n = (15 - n) + 1 := by omega
    refine lv_iload_n hx hb kd_W_distance_12 rfl (lv_at hl 2 rfl) ?_
    refine lv_iconst (v := -1) hx hb kd_W_distance_13 (by decide) ?_
    refine lv_icmp_eq (tgt := 38) hx hb kd_W_distance_14 (by decide) (fun c_14 => ?_) (fun c_14 => ?_)
    · skip
      refine lv_iconst (v := -1) hx hb kd_W_distance_38 (by decide) ?_
      exact hx_iretR hx hb hr hlocks (by rw [← hd, hf]; simp only [ds_]; rw [if_pos c_14]) kd_W_distance_39
    · skip
      obtain ⟨j, hj, rfl⟩ := hk.resolve_left c_14
      refine lv_iload_n hx hb kd_W_distance_17 rfl (lv_at hl 2 rfl) ?_
      refine lv_iload_n hx hb kd_W_distance_18 rfl (lv_at hl 1 rfl) ?_
      refine lv_icmp_ne (tgt := 25) hx hb kd_W_distance_19 (by decide) (fun c_19 => ?_) (fun c_19 => ?_)
      · skip
        refine lv_aload_n hx hb kd_W_distance_25 rfl (lv_at hl 0 rfl) ?_
        refine va_get (D := D) (ci := 1) (v := .ref a1) (C := "HostBridge$World") (T := ct_W) (N := 4) hx hb hts cw_W hown hK hP 0 rfl rfl 0 (by decide) (hts _ km_32) (fun _ h9 => h9) rfl kd_W_distance_26 ?_
        refine lv_iload_n hx hb kd_W_distance_29 rfl (lv_at hl 2 rfl) ?_
        refine hx_iald (j := j) hx hb hK hP 1 rfl (rfl) (by have := hok.1; omega) (by decide) kd_W_distance_30 ?_
        refine lv_istore_n (lv' := [(3, .int (pa j)), (0, .ref h0), (2, .int cl), (4, .int (nI n))]) hx hb kd_W_distance_31 rfl hl (by decide) rfl (fun ls hl => ?_)
        refine lv_iinc (v := nI (n + 1)) (lv' := [(4, .int (nI (n + 1))), (3, .int (pa j)), (0, .ref h0), (2, .int cl)]) hx hb kd_W_distance_32 hl (k := 3) rfl (nI_1 n) (by decide) rfl (fun ls hl => ?_)
        refine lv_goto (tgt := 5) hx hb kd_W_distance_35 (by decide) ?_
        exact ih5 (n + 1, pa j) _ (by dsimp only; omega) ⟨lv_sub hl [2, 3, 1, 0] rfl, by dsimp only; omega, hok.at hj, by dsimp only; rw [← hd, hf, show 16 - (n + 1) = 15 - n by omega]; simp only [ds_]; rw [if_neg c_14, if_neg c_19, nI_clamp (by have := hok.1; omega)]⟩
      · skip
        refine lv_iload hx hb kd_W_distance_22 (lv_at hl 3 rfl) ?_
        exact hx_iretR hx hb hr hlocks (by rw [← hd, hf]; simp only [ds_]; rw [if_neg c_14, if_pos c_19]) kd_W_distance_24
end
section
/-! A SCRIPT'S NUMBERS (HostBridge$Numbers): functions read off the code -/
def nu_abs (b : Int64) : Int64 := (b &&& 9223372036854775807)
set_option maxHeartbeats 4000000 in
set_option maxRecDepth 100000 in
theorem mc_N_withoutSign {l : Launch} {D : va_G} {cI cL cZ : ClassId} {tb : Nat} (b : Int64) : Met l ky_N_withoutSign kw_N_withoutSign { frames := 0, cells := 0, slots := 0, locals := 0 } (pr_P D cI cL cZ tb [] [.long b]) (hx_QR (some (.long (nu_abs b)))) 0 0 (fun _ => False) := by
  refine Met.ofW (cc := kc_N_withoutSign) (maxL := 2) (ret := (some .long)) (by decide) rfl ?_
  intro p e s m args below meth c s₁ B hml hv
  obtain ⟨rfl, hC, hP⟩ := hv
  have hx := B.exec
  have hb := B.bytes
  have hr := B.returns
  have hlocks := B.notSynchronized
  have hown : s.vm.findClass "HostBridge$Numbers" = some m.cls := findClass_of_methodNamed B.named
  have hS : va_S (fun _ => False) s.heap s.heap [] := va_S.rf
  have hK := hC.K
  have hts := hC.ts [.long b].toArray
  have hl := lv_entry ([.long b]) (n := 2) (Nat.le_of_ble_eq_true rfl)
  rw [lg_entry_eq]
  generalize (lg_sl ([.long b]) ++ List.replicate (2 - (lg_sl ([.long b])).length) Slot.unset).toArray = ls at hl ⊢
  have hl : lv_has ls 2 [(0, .long b)] := hl
  refine lv_lload_n hx hb kd_N_withoutSign_0 rfl (lv_at hl 0 rfl) ?_
  refine lv_ldc2 (v := 9223372036854775807) hx hb hown (hts _ km_382) kd_N_withoutSign_1 ?_
  refine lv_land hx hb kd_N_withoutSign_4 ?_
  exact hx_lretR hx hb hr hlocks (by unfold nu_abs; try rfl) kd_N_withoutSign_5

def nu_frac (b : Int64) : Int64 := (b &&& 4503599627370495)
set_option maxHeartbeats 4000000 in
set_option maxRecDepth 100000 in
theorem mc_N_fractionOf {l : Launch} {D : va_G} {cI cL cZ : ClassId} {tb : Nat} (b : Int64) : Met l ky_N_fractionOf kw_N_fractionOf { frames := 0, cells := 0, slots := 0, locals := 0 } (pr_P D cI cL cZ tb [] [.long b]) (hx_QR (some (.long (nu_frac b)))) 0 0 (fun _ => False) := by
  refine Met.ofW (cc := kc_N_fractionOf) (maxL := 2) (ret := (some .long)) (by decide) rfl ?_
  intro p e s m args below meth c s₁ B hml hv
  obtain ⟨rfl, hC, hP⟩ := hv
  have hx := B.exec
  have hb := B.bytes
  have hr := B.returns
  have hlocks := B.notSynchronized
  have hown : s.vm.findClass "HostBridge$Numbers" = some m.cls := findClass_of_methodNamed B.named
  have hS : va_S (fun _ => False) s.heap s.heap [] := va_S.rf
  have hK := hC.K
  have hts := hC.ts [.long b].toArray
  have hl := lv_entry ([.long b]) (n := 2) (Nat.le_of_ble_eq_true rfl)
  rw [lg_entry_eq]
  generalize (lg_sl ([.long b]) ++ List.replicate (2 - (lg_sl ([.long b])).length) Slot.unset).toArray = ls at hl ⊢
  have hl : lv_has ls 2 [(0, .long b)] := hl
  refine lv_lload_n hx hb kd_N_fractionOf_0 rfl (lv_at hl 0 rfl) ?_
  refine lv_ldc2 (v := 4503599627370495) hx hb hown (hts _ km_390) kd_N_fractionOf_1 ?_
  refine lv_land hx hb kd_N_fractionOf_4 ?_
  exact hx_lretR hx hb hr hlocks (by unfold nu_frac; try rfl) kd_N_fractionOf_5

def nu_pow (b : Int64) : Int32 := (((((b.toUInt64 >>> ((52 : Int32).toInt64.toUInt64 &&& Int64.toUInt64 63)).toInt64) &&& 2047).toInt32) - 1023)
set_option maxHeartbeats 4000000 in
set_option maxRecDepth 100000 in
theorem mc_N_powerOf {l : Launch} {D : va_G} {cI cL cZ : ClassId} {tb : Nat} (b : Int64) : Met l ky_N_powerOf kw_N_powerOf { frames := 0, cells := 0, slots := 0, locals := 0 } (pr_P D cI cL cZ tb [] [.long b]) (hx_QR (some (.int (nu_pow b)))) 0 0 (fun _ => False) := by
  refine Met.ofW (cc := kc_N_powerOf) (maxL := 2) (ret := (some .int)) (by decide) rfl ?_
  intro p e s m args below meth c s₁ B hml hv
  obtain ⟨rfl, hC, hP⟩ := hv
  have hx := B.exec
  have hb := B.bytes
  have hr := B.returns
  have hlocks := B.notSynchronized
  have hown : s.vm.findClass "HostBridge$Numbers" = some m.cls := findClass_of_methodNamed B.named
  have hS : va_S (fun _ => False) s.heap s.heap [] := va_S.rf
  have hK := hC.K
  have hts := hC.ts [.long b].toArray
  have hl := lv_entry ([.long b]) (n := 2) (Nat.le_of_ble_eq_true rfl)
  rw [lg_entry_eq]
  generalize (lg_sl ([.long b]) ++ List.replicate (2 - (lg_sl ([.long b])).length) Slot.unset).toArray = ls at hl ⊢
  have hl : lv_has ls 2 [(0, .long b)] := hl
  refine lv_lload_n hx hb kd_N_powerOf_0 rfl (lv_at hl 0 rfl) ?_
  refine lv_bipush (v := 52) hx hb kd_N_powerOf_1 (by decide) ?_
  refine lv_lushr hx hb kd_N_powerOf_3 rfl ?_
  refine lv_ldc2 (v := 2047) hx hb hown (hts _ km_386) kd_N_powerOf_4 ?_
  refine lv_land hx hb kd_N_powerOf_7 ?_
  refine lv_l2i hx hb kd_N_powerOf_8 rfl ?_
  refine lv_sipush (v := 1023) hx hb kd_N_powerOf_9 (by decide) ?_
  refine lv_isub hx hb kd_N_powerOf_12 ?_
  exact hx_iretR hx hb hr hlocks (by unfold nu_pow; try rfl) kd_N_powerOf_13

def nu_zero (b : Int64) : Bool := (if (lg_cmp (nu_abs b) 0) = 0 then true else false)
set_option maxHeartbeats 4000000 in
set_option maxRecDepth 100000 in
theorem mc_N_isZero {l : Launch} {D : va_G} {cI cL cZ : ClassId} {tb : Nat} (b : Int64) : Met l ky_N_isZero kw_N_isZero { frames := 1, cells := 0, slots := 0, locals := 21 } (pr_P D cI cL cZ tb [] [.long b]) (hx_QR (some (.int (b2_ (nu_zero b))))) 0 0 (fun _ => False) := by
  refine Met.ofW (cc := kc_N_isZero) (maxL := 2) (ret := (some .boolean)) (by decide) rfl ?_
  intro p e s m args below meth c s₁ B hml hv
  obtain ⟨rfl, hC, hP⟩ := hv
  have hx := B.exec
  have hb := B.bytes
  have hr := B.returns
  have hlocks := B.notSynchronized
  have hown : s.vm.findClass "HostBridge$Numbers" = some m.cls := findClass_of_methodNamed B.named
  have hS : va_S (fun _ => False) s.heap s.heap [] := va_S.rf
  have hK := hC.K
  have hts := hC.ts [.long b].toArray
  have hl := lv_entry ([.long b]) (n := 2) (Nat.le_of_ble_eq_true rfl)
  rw [lg_entry_eq]
  generalize (lg_sl ([.long b]) ++ List.replicate (2 - (lg_sl ([.long b])).length) Slot.unset).toArray = ls at hl ⊢
  have hl : lv_has ls 2 [(0, .long b)] := hl
  refine lv_lload_n hx hb kd_N_isZero_0 rfl (lv_at hl 0 rfl) ?_
  refine hx_callRl (va_runS (As := [.long b]) (rest := []) ⟨hx, hb, hml, hown, hts⟩ (mc_N_withoutSign b) (va_cwS 1 hts (goodIn_sub (hx_m4 km_379 km_380 km_14 km_381) (by decide +kernel)) rfl rfl rfl (by decide +kernel) ⟨Nat.le_of_ble_eq_true rfl, Nat.le_of_ble_eq_true rfl⟩) (pr_S (hC.S hS) hP [] rfl) rfl rfl hl.1 rfl (lv_room (Nat.le_of_ble_eq_true rfl)) kd_N_isZero_1 ⟨Nat.le_of_ble_eq_true rfl, Nat.le_of_ble_eq_true rfl⟩) ?_
  refine lv_lconst (v := 0) hx hb kd_N_isZero_4 (by decide) ?_
  refine W.lcmp hx hb kd_N_isZero_5 ?_
  refine lv_if_ne (tgt := 13) hx hb kd_N_isZero_6 (by decide) (fun c_6 => ?_) (fun c_6 => ?_)
  · skip
    refine lv_iconst (v := 0) hx hb kd_N_isZero_13 (by decide) ?_
    exact hx_zretR hx hb hr hlocks (by unfold nu_zero; rw [if_neg c_6]; try rfl) kd_N_isZero_14
  · skip
    refine lv_iconst (v := 1) hx hb kd_N_isZero_9 (by decide) ?_
    refine lv_goto (tgt := 14) hx hb kd_N_isZero_10 (by decide) ?_
    exact hx_zretR hx hb hr hlocks (by unfold nu_zero; rw [if_pos c_6]; try rfl) kd_N_isZero_14

def nu_nan (b : Int64) : Bool := (if (lg_cmp (nu_abs b) 9218868437227405312) ≤ 0 then false else true)
set_option maxHeartbeats 4000000 in
set_option maxRecDepth 100000 in
theorem mc_N_isNan {l : Launch} {D : va_G} {cI cL cZ : ClassId} {tb : Nat} (b : Int64) : Met l ky_N_isNan kw_N_isNan { frames := 1, cells := 0, slots := 0, locals := 21 } (pr_P D cI cL cZ tb [] [.long b]) (hx_QR (some (.int (b2_ (nu_nan b))))) 0 0 (fun _ => False) := by
  refine Met.ofW (cc := kc_N_isNan) (maxL := 2) (ret := (some .boolean)) (by decide) rfl ?_
  intro p e s m args below meth c s₁ B hml hv
  obtain ⟨rfl, hC, hP⟩ := hv
  have hx := B.exec
  have hb := B.bytes
  have hr := B.returns
  have hlocks := B.notSynchronized
  have hown : s.vm.findClass "HostBridge$Numbers" = some m.cls := findClass_of_methodNamed B.named
  have hS : va_S (fun _ => False) s.heap s.heap [] := va_S.rf
  have hK := hC.K
  have hts := hC.ts [.long b].toArray
  have hl := lv_entry ([.long b]) (n := 2) (Nat.le_of_ble_eq_true rfl)
  rw [lg_entry_eq]
  generalize (lg_sl ([.long b]) ++ List.replicate (2 - (lg_sl ([.long b])).length) Slot.unset).toArray = ls at hl ⊢
  have hl : lv_has ls 2 [(0, .long b)] := hl
  refine lv_lload_n hx hb kd_N_isNan_0 rfl (lv_at hl 0 rfl) ?_
  refine hx_callRl (va_runS (As := [.long b]) (rest := []) ⟨hx, hb, hml, hown, hts⟩ (mc_N_withoutSign b) (va_cwS 1 hts (goodIn_sub (hx_m4 km_379 km_380 km_14 km_381) (by decide +kernel)) rfl rfl rfl (by decide +kernel) ⟨Nat.le_of_ble_eq_true rfl, Nat.le_of_ble_eq_true rfl⟩) (pr_S (hC.S hS) hP [] rfl) rfl rfl hl.1 rfl (lv_room (Nat.le_of_ble_eq_true rfl)) kd_N_isNan_1 ⟨Nat.le_of_ble_eq_true rfl, Nat.le_of_ble_eq_true rfl⟩) ?_
  refine lv_ldc2 (v := 9218868437227405312) hx hb hown (hts _ km_513) kd_N_isNan_4 ?_
  refine W.lcmp hx hb kd_N_isNan_7 ?_
  refine lv_if_le (tgt := 15) hx hb kd_N_isNan_8 (by decide) (fun c_8 => ?_) (fun c_8 => ?_)
  · skip
    refine lv_iconst (v := 0) hx hb kd_N_isNan_15 (by decide) ?_
    exact hx_zretR hx hb hr hlocks (by unfold nu_nan; rw [if_pos c_8]; try rfl) kd_N_isNan_16
  · skip
    refine lv_iconst (v := 1) hx hb kd_N_isNan_11 (by decide) ?_
    refine lv_goto (tgt := 16) hx hb kd_N_isNan_12 (by decide) ?_
    exact hx_zretR hx hb hr hlocks (by unfold nu_nan; rw [if_neg c_8]; try rfl) kd_N_isNan_16

def nu_truth (b : Int64) : Int64 := (if (b2_ (nu_zero b)) = 0 then (if (b2_ (nu_nan b)) = 0 then 1 else 0) else 0)
set_option maxHeartbeats 4000000 in
set_option maxRecDepth 100000 in
theorem mc_N_truthOf {l : Launch} {D : va_G} {cI cL cZ : ClassId} {tb : Nat} (b : Int64) : Met l ky_N_truthOf kw_N_truthOf { frames := 2, cells := 0, slots := 0, locals := 42 } (pr_P D cI cL cZ tb [] [.long b]) (hx_QR (some (.long (nu_truth b)))) 0 0 (fun _ => False) := by
  refine Met.ofW (cc := kc_N_truthOf) (maxL := 2) (ret := (some .long)) (by decide) rfl ?_
  intro p e s m args below meth c s₁ B hml hv
  obtain ⟨rfl, hC, hP⟩ := hv
  have hx := B.exec
  have hb := B.bytes
  have hr := B.returns
  have hlocks := B.notSynchronized
  have hown : s.vm.findClass "HostBridge$Numbers" = some m.cls := findClass_of_methodNamed B.named
  have hS : va_S (fun _ => False) s.heap s.heap [] := va_S.rf
  have hK := hC.K
  have hts := hC.ts [.long b].toArray
  have hl := lv_entry ([.long b]) (n := 2) (Nat.le_of_ble_eq_true rfl)
  rw [lg_entry_eq]
  generalize (lg_sl ([.long b]) ++ List.replicate (2 - (lg_sl ([.long b])).length) Slot.unset).toArray = ls at hl ⊢
  have hl : lv_has ls 2 [(0, .long b)] := hl
  refine lv_lload_n hx hb kd_N_truthOf_0 rfl (lv_at hl 0 rfl) ?_
  refine hx_callRi (va_runS (As := [.long b]) (rest := []) ⟨hx, hb, hml, hown, hts⟩ (mc_N_isZero b) (va_cwS 1 hts (goodIn_sub (hx_m4 km_376 km_377 km_14 km_378) (by decide +kernel)) rfl rfl rfl (by decide +kernel) ⟨Nat.le_of_ble_eq_true rfl, Nat.le_of_ble_eq_true rfl⟩) (pr_S (hC.S hS) hP [] rfl) rfl rfl hl.1 rfl (lv_room (Nat.le_of_ble_eq_true rfl)) kd_N_truthOf_1 ⟨Nat.le_of_ble_eq_true rfl, Nat.le_of_ble_eq_true rfl⟩) ?_
  refine lv_if_ne (tgt := 14) hx hb kd_N_truthOf_4 (by decide) (fun c_4 => ?_) (fun c_4 => ?_)
  · skip
    refine lv_lconst (v := 0) hx hb kd_N_truthOf_14 (by decide) ?_
    refine lv_goto (tgt := 19) hx hb kd_N_truthOf_15 (by decide) ?_
    exact hx_lretR hx hb hr hlocks (by unfold nu_truth; rw [if_neg c_4]; try rfl) kd_N_truthOf_19
  · skip
    refine lv_lload_n hx hb kd_N_truthOf_7 rfl (lv_at hl 0 rfl) ?_
    refine hx_callRi (va_runS (As := [.long b]) (rest := []) ⟨hx, hb, hml, hown, hts⟩ (mc_N_isNan b) (va_cwS 1 hts (goodIn_sub (hx_m4 km_510 km_511 km_14 km_512) (by decide +kernel)) rfl rfl rfl (by decide +kernel) ⟨Nat.le_of_ble_eq_true rfl, Nat.le_of_ble_eq_true rfl⟩) (pr_S (hC.S hS) hP [] rfl) rfl rfl hl.1 rfl (lv_room (Nat.le_of_ble_eq_true rfl)) kd_N_truthOf_8 ⟨Nat.le_of_ble_eq_true rfl, Nat.le_of_ble_eq_true rfl⟩) ?_
    refine lv_if_eq (tgt := 18) hx hb kd_N_truthOf_11 (by decide) (fun c_11 => ?_) (fun c_11 => ?_)
    · skip
      refine lv_lconst (v := 1) hx hb kd_N_truthOf_18 (by decide) ?_
      exact hx_lretR hx hb hr hlocks (by unfold nu_truth; rw [if_pos c_4, if_pos c_11]; try rfl) kd_N_truthOf_19
    · skip
      refine lv_lconst (v := 0) hx hb kd_N_truthOf_14 (by decide) ?_
      refine lv_goto (tgt := 19) hx hb kd_N_truthOf_15 (by decide) ?_
      exact hx_lretR hx hb hr hlocks (by unfold nu_truth; rw [if_pos c_4, if_neg c_11]; try rfl) kd_N_truthOf_19

def nu_long (b : Int64) : Bool := (if (b2_ (nu_zero b)) = 0 then (if (nu_pow b) < 0 then false else (if (nu_pow b) ≤ 53 then (if (nu_pow b) = 53 then (if (lg_cmp (nu_frac b) 0) = 0 then true else false) else (if (lg_cmp ((nu_frac b) &&& ((1 <<< ((52 - (nu_pow b) : Int32).toInt64 &&& 63)) - 1)) 0) = 0 then true else false)) else false)) else true)
set_option maxHeartbeats 4000000 in
set_option maxRecDepth 100000 in
theorem mc_N_isLong {l : Launch} {D : va_G} {cI cL cZ : ClassId} {tb : Nat} (b : Int64) : Met l ky_N_isLong kw_N_isLong { frames := 2, cells := 0, slots := 0, locals := 42 } (pr_P D cI cL cZ tb [] [.long b]) (hx_QR (some (.int (b2_ (nu_long b))))) 0 0 (fun _ => False) := by
  refine Met.ofW (cc := kc_N_isLong) (maxL := 5) (ret := (some .boolean)) (by decide) rfl ?_
  intro p e s m args below meth c s₁ B hml hv
  obtain ⟨rfl, hC, hP⟩ := hv
  have hx := B.exec
  have hb := B.bytes
  have hr := B.returns
  have hlocks := B.notSynchronized
  have hown : s.vm.findClass "HostBridge$Numbers" = some m.cls := findClass_of_methodNamed B.named
  have hS : va_S (fun _ => False) s.heap s.heap [] := va_S.rf
  have hK := hC.K
  have hts := hC.ts [.long b].toArray
  have hl := lv_entry ([.long b]) (n := 5) (Nat.le_of_ble_eq_true rfl)
  rw [lg_entry_eq]
  generalize (lg_sl ([.long b]) ++ List.replicate (5 - (lg_sl ([.long b])).length) Slot.unset).toArray = ls at hl ⊢
  have hl : lv_has ls 5 [(0, .long b)] := hl
  refine lv_lload_n hx hb kd_N_isLong_0 rfl (lv_at hl 0 rfl) ?_
  refine hx_callRi (va_runS (As := [.long b]) (rest := []) ⟨hx, hb, hml, hown, hts⟩ (mc_N_isZero b) (va_cwS 1 hts (goodIn_sub (hx_m4 km_376 km_377 km_14 km_378) (by decide +kernel)) rfl rfl rfl (by decide +kernel) ⟨Nat.le_of_ble_eq_true rfl, Nat.le_of_ble_eq_true rfl⟩) (pr_S (hC.S hS) hP [] rfl) rfl rfl hl.1 rfl (lv_room (Nat.le_of_ble_eq_true rfl)) kd_N_isLong_1 ⟨Nat.le_of_ble_eq_true rfl, Nat.le_of_ble_eq_true rfl⟩) ?_
  refine lv_if_eq (tgt := 9) hx hb kd_N_isLong_4 (by decide) (fun c_4 => ?_) (fun c_4 => ?_)
  · skip
    refine lv_lload_n hx hb kd_N_isLong_9 rfl (lv_at hl 0 rfl) ?_
    refine hx_callRi (va_runS (As := [.long b]) (rest := []) ⟨hx, hb, hml, hown, hts⟩ (mc_N_powerOf b) (va_cwS 1 hts (goodIn_sub (hx_m4 km_383 km_384 km_14 km_385) (by decide +kernel)) rfl rfl rfl (by decide +kernel) ⟨Nat.le_of_ble_eq_true rfl, Nat.le_of_ble_eq_true rfl⟩) (pr_S (hC.S hS) hP [] rfl) rfl rfl hl.1 rfl (lv_room (Nat.le_of_ble_eq_true rfl)) kd_N_isLong_10 ⟨Nat.le_of_ble_eq_true rfl, Nat.le_of_ble_eq_true rfl⟩) ?_
    refine lv_istore_n (lv' := [(2, .int (nu_pow b)), (0, .long b)]) hx hb kd_N_isLong_13 rfl hl (by decide) rfl (fun ls hl => ?_)
    refine lv_iload_n hx hb kd_N_isLong_14 rfl (lv_at hl 0 rfl) ?_
    refine lv_if_lt (tgt := 24) hx hb kd_N_isLong_15 (by decide) (fun c_15 => ?_) (fun c_15 => ?_)
    · skip
      refine lv_iconst (v := 0) hx hb kd_N_isLong_24 (by decide) ?_
      exact hx_zretR hx hb hr hlocks (by unfold nu_long; rw [if_pos c_4, if_pos c_15]; try rfl) kd_N_isLong_25
    · skip
      refine lv_iload_n hx hb kd_N_isLong_18 rfl (lv_at hl 0 rfl) ?_
      refine lv_bipush (v := 53) hx hb kd_N_isLong_19 (by decide) ?_
      refine lv_icmp_le (tgt := 26) hx hb kd_N_isLong_21 (by decide) (fun c_21 => ?_) (fun c_21 => ?_)
      · skip
        refine lv_iload_n hx hb kd_N_isLong_26 rfl (lv_at hl 0 rfl) ?_
        refine lv_bipush (v := 53) hx hb kd_N_isLong_27 (by decide) ?_
        refine lv_icmp_ne (tgt := 47) hx hb kd_N_isLong_29 (by decide) (fun c_29 => ?_) (fun c_29 => ?_)
        · skip
          refine lv_lconst (v := 1) hx hb kd_N_isLong_47 (by decide) ?_
          refine lv_bipush (v := 52) hx hb kd_N_isLong_48 (by decide) ?_
          refine lv_iload_n hx hb kd_N_isLong_50 rfl (lv_at hl 0 rfl) ?_
          refine lv_isub hx hb kd_N_isLong_51 ?_
          refine lv_lshl hx hb kd_N_isLong_52 rfl ?_
          refine lv_lconst (v := 1) hx hb kd_N_isLong_53 (by decide) ?_
          refine lv_lsub hx hb kd_N_isLong_54 ?_
          refine lv_lstore_n (lv' := [(3, .long ((1 <<< ((52 - (nu_pow b) : Int32).toInt64 &&& 63)) - 1)), (2, .int (nu_pow b)), (0, .long b)]) hx hb kd_N_isLong_55 rfl hl (by decide) rfl (fun ls hl => ?_)
          refine lv_lload_n hx hb kd_N_isLong_56 rfl (lv_at hl 2 rfl) ?_
          refine hx_callRl (va_runS (As := [.long b]) (rest := []) ⟨hx, hb, hml, hown, hts⟩ (mc_N_fractionOf b) (va_cwS 1 hts (goodIn_sub (hx_m4 km_387 km_388 km_14 km_389) (by decide +kernel)) rfl rfl rfl (by decide +kernel) ⟨Nat.le_of_ble_eq_true rfl, Nat.le_of_ble_eq_true rfl⟩) (pr_S (hC.S hS) hP [] rfl) rfl rfl hl.1 rfl (lv_room (Nat.le_of_ble_eq_true rfl)) kd_N_isLong_57 ⟨Nat.le_of_ble_eq_true rfl, Nat.le_of_ble_eq_true rfl⟩) ?_
          refine lv_lload_n hx hb kd_N_isLong_60 rfl (lv_at hl 0 rfl) ?_
          refine lv_land hx hb kd_N_isLong_61 ?_
          refine lv_lconst (v := 0) hx hb kd_N_isLong_62 (by decide) ?_
          refine W.lcmp hx hb kd_N_isLong_63 ?_
          refine lv_if_ne (tgt := 71) hx hb kd_N_isLong_64 (by decide) (fun c_64 => ?_) (fun c_64 => ?_)
          · skip
            refine lv_iconst (v := 0) hx hb kd_N_isLong_71 (by decide) ?_
            exact hx_zretR hx hb hr hlocks (by unfold nu_long; rw [if_pos c_4, if_neg c_15, if_pos c_21, if_neg c_29, if_neg c_64]; try rfl) kd_N_isLong_72
          · skip
            refine lv_iconst (v := 1) hx hb kd_N_isLong_67 (by decide) ?_
            refine lv_goto (tgt := 72) hx hb kd_N_isLong_68 (by decide) ?_
            exact hx_zretR hx hb hr hlocks (by unfold nu_long; rw [if_pos c_4, if_neg c_15, if_pos c_21, if_neg c_29, if_pos c_64]; try rfl) kd_N_isLong_72
        · skip
          refine lv_lload_n hx hb kd_N_isLong_32 rfl (lv_at hl 1 rfl) ?_
          refine hx_callRl (va_runS (As := [.long b]) (rest := []) ⟨hx, hb, hml, hown, hts⟩ (mc_N_fractionOf b) (va_cwS 1 hts (goodIn_sub (hx_m4 km_387 km_388 km_14 km_389) (by decide +kernel)) rfl rfl rfl (by decide +kernel) ⟨Nat.le_of_ble_eq_true rfl, Nat.le_of_ble_eq_true rfl⟩) (pr_S (hC.S hS) hP [] rfl) rfl rfl hl.1 rfl (lv_room (Nat.le_of_ble_eq_true rfl)) kd_N_isLong_33 ⟨Nat.le_of_ble_eq_true rfl, Nat.le_of_ble_eq_true rfl⟩) ?_
          refine lv_lconst (v := 0) hx hb kd_N_isLong_36 (by decide) ?_
          refine W.lcmp hx hb kd_N_isLong_37 ?_
          refine lv_if_ne (tgt := 45) hx hb kd_N_isLong_38 (by decide) (fun c_38 => ?_) (fun c_38 => ?_)
          · skip
            refine lv_iconst (v := 0) hx hb kd_N_isLong_45 (by decide) ?_
            exact hx_zretR hx hb hr hlocks (by unfold nu_long; rw [if_pos c_4, if_neg c_15, if_pos c_21, if_pos c_29, if_neg c_38]; try rfl) kd_N_isLong_46
          · skip
            refine lv_iconst (v := 1) hx hb kd_N_isLong_41 (by decide) ?_
            refine lv_goto (tgt := 46) hx hb kd_N_isLong_42 (by decide) ?_
            exact hx_zretR hx hb hr hlocks (by unfold nu_long; rw [if_pos c_4, if_neg c_15, if_pos c_21, if_pos c_29, if_pos c_38]; try rfl) kd_N_isLong_46
      · skip
        refine lv_iconst (v := 0) hx hb kd_N_isLong_24 (by decide) ?_
        exact hx_zretR hx hb hr hlocks (by unfold nu_long; rw [if_pos c_4, if_neg c_15, if_neg c_21]; try rfl) kd_N_isLong_25
  · skip
    refine lv_iconst (v := 1) hx hb kd_N_isLong_7 (by decide) ?_
    exact hx_zretR hx hb hr hlocks (by unfold nu_long; rw [if_neg c_4]; try rfl) kd_N_isLong_8

def nu_whole (b : Int64) : Int64 := (if (b2_ (nu_zero b)) = 0 then (if (nu_pow b) ≤ 52 then (if 0 ≤ (lg_cmp b 0) then ((((nu_frac b) ||| 4503599627370496).toUInt64 >>> ((52 - (nu_pow b) : Int32).toInt64.toUInt64 &&& Int64.toUInt64 63)).toInt64) else (-((((nu_frac b) ||| 4503599627370496).toUInt64 >>> ((52 - (nu_pow b) : Int32).toInt64.toUInt64 &&& Int64.toUInt64 63)).toInt64))) else (if 0 ≤ (lg_cmp b 0) then (((nu_frac b) ||| 4503599627370496) <<< (((nu_pow b) - 52 : Int32).toInt64 &&& 63)) else (-(((nu_frac b) ||| 4503599627370496) <<< (((nu_pow b) - 52 : Int32).toInt64 &&& 63))))) else 0)
set_option maxHeartbeats 4000000 in
set_option maxRecDepth 100000 in
theorem mc_N_wholeOf {l : Launch} {D : va_G} {cI cL cZ : ClassId} {tb : Nat} (b : Int64) : Met l ky_N_wholeOf kw_N_wholeOf { frames := 2, cells := 0, slots := 0, locals := 42 } (pr_P D cI cL cZ tb [] [.long b]) (hx_QR (some (.long (nu_whole b)))) 0 0 (fun _ => False) := by
  refine Met.ofW (cc := kc_N_wholeOf) (maxL := 7) (ret := (some .long)) (by decide) rfl ?_
  intro p e s m args below meth c s₁ B hml hv
  obtain ⟨rfl, hC, hP⟩ := hv
  have hx := B.exec
  have hb := B.bytes
  have hr := B.returns
  have hlocks := B.notSynchronized
  have hown : s.vm.findClass "HostBridge$Numbers" = some m.cls := findClass_of_methodNamed B.named
  have hS : va_S (fun _ => False) s.heap s.heap [] := va_S.rf
  have hK := hC.K
  have hts := hC.ts [.long b].toArray
  have hl := lv_entry ([.long b]) (n := 7) (Nat.le_of_ble_eq_true rfl)
  rw [lg_entry_eq]
  generalize (lg_sl ([.long b]) ++ List.replicate (7 - (lg_sl ([.long b])).length) Slot.unset).toArray = ls at hl ⊢
  have hl : lv_has ls 7 [(0, .long b)] := hl
  refine lv_lload_n hx hb kd_N_wholeOf_0 rfl (lv_at hl 0 rfl) ?_
  refine hx_callRi (va_runS (As := [.long b]) (rest := []) ⟨hx, hb, hml, hown, hts⟩ (mc_N_isZero b) (va_cwS 1 hts (goodIn_sub (hx_m4 km_376 km_377 km_14 km_378) (by decide +kernel)) rfl rfl rfl (by decide +kernel) ⟨Nat.le_of_ble_eq_true rfl, Nat.le_of_ble_eq_true rfl⟩) (pr_S (hC.S hS) hP [] rfl) rfl rfl hl.1 rfl (lv_room (Nat.le_of_ble_eq_true rfl)) kd_N_wholeOf_1 ⟨Nat.le_of_ble_eq_true rfl, Nat.le_of_ble_eq_true rfl⟩) ?_
  refine lv_if_eq (tgt := 9) hx hb kd_N_wholeOf_4 (by decide) (fun c_4 => ?_) (fun c_4 => ?_)
  · skip
    refine lv_lload_n hx hb kd_N_wholeOf_9 rfl (lv_at hl 0 rfl) ?_
    refine hx_callRl (va_runS (As := [.long b]) (rest := []) ⟨hx, hb, hml, hown, hts⟩ (mc_N_fractionOf b) (va_cwS 1 hts (goodIn_sub (hx_m4 km_387 km_388 km_14 km_389) (by decide +kernel)) rfl rfl rfl (by decide +kernel) ⟨Nat.le_of_ble_eq_true rfl, Nat.le_of_ble_eq_true rfl⟩) (pr_S (hC.S hS) hP [] rfl) rfl rfl hl.1 rfl (lv_room (Nat.le_of_ble_eq_true rfl)) kd_N_wholeOf_10 ⟨Nat.le_of_ble_eq_true rfl, Nat.le_of_ble_eq_true rfl⟩) ?_
    refine lv_ldc2 (v := 4503599627370496) hx hb hown (hts _ km_394) kd_N_wholeOf_13 ?_
    refine lv_lor hx hb kd_N_wholeOf_16 ?_
    refine lv_lstore_n (lv' := [(2, .long ((nu_frac b) ||| 4503599627370496)), (0, .long b)]) hx hb kd_N_wholeOf_17 rfl hl (by decide) rfl (fun ls hl => ?_)
    refine lv_lload_n hx hb kd_N_wholeOf_18 rfl (lv_at hl 1 rfl) ?_
    refine hx_callRi (va_runS (As := [.long b]) (rest := []) ⟨hx, hb, hml, hown, hts⟩ (mc_N_powerOf b) (va_cwS 1 hts (goodIn_sub (hx_m4 km_383 km_384 km_14 km_385) (by decide +kernel)) rfl rfl rfl (by decide +kernel) ⟨Nat.le_of_ble_eq_true rfl, Nat.le_of_ble_eq_true rfl⟩) (pr_S (hC.S hS) hP [] rfl) rfl rfl hl.1 rfl (lv_room (Nat.le_of_ble_eq_true rfl)) kd_N_wholeOf_19 ⟨Nat.le_of_ble_eq_true rfl, Nat.le_of_ble_eq_true rfl⟩) ?_
    refine lv_istore (lv' := [(4, .int (nu_pow b)), (2, .long ((nu_frac b) ||| 4503599627370496)), (0, .long b)]) hx hb kd_N_wholeOf_22 hl (by decide) rfl (fun ls hl => ?_)
    refine lv_iload hx hb kd_N_wholeOf_24 (lv_at hl 0 rfl) ?_
    refine lv_bipush (v := 52) hx hb kd_N_wholeOf_26 (by decide) ?_
    refine lv_icmp_le (tgt := 41) hx hb kd_N_wholeOf_28 (by decide) (fun c_28 => ?_) (fun c_28 => ?_)
    · skip
      refine lv_lload_n hx hb kd_N_wholeOf_41 rfl (lv_at hl 1 rfl) ?_
      refine lv_bipush (v := 52) hx hb kd_N_wholeOf_42 (by decide) ?_
      refine lv_iload hx hb kd_N_wholeOf_44 (lv_at hl 0 rfl) ?_
      refine lv_isub hx hb kd_N_wholeOf_46 ?_
      refine lv_lushr hx hb kd_N_wholeOf_47 rfl ?_
      refine lv_lstore (lv' := [(5, .long ((((nu_frac b) ||| 4503599627370496).toUInt64 >>> ((52 - (nu_pow b) : Int32).toInt64.toUInt64 &&& Int64.toUInt64 63)).toInt64)), (4, .int (nu_pow b)), (2, .long ((nu_frac b) ||| 4503599627370496)), (0, .long b)]) hx hb kd_N_wholeOf_48 hl (by decide) rfl (fun ls hl => ?_)
      refine lv_lload_n hx hb kd_N_wholeOf_50 rfl (lv_at hl 3 rfl) ?_
      refine lv_lconst (v := 0) hx hb kd_N_wholeOf_51 (by decide) ?_
      refine W.lcmp hx hb kd_N_wholeOf_52 ?_
      refine lv_if_ge (tgt := 62) hx hb kd_N_wholeOf_53 (by decide) (fun c_53 => ?_) (fun c_53 => ?_)
      · skip
        refine lv_lload hx hb kd_N_wholeOf_62 (lv_at hl 0 rfl) ?_
        exact hx_lretR hx hb hr hlocks (by unfold nu_whole; rw [if_pos c_4, if_pos c_28, if_pos c_53]; try rfl) kd_N_wholeOf_64
      · skip
        refine lv_lload hx hb kd_N_wholeOf_56 (lv_at hl 0 rfl) ?_
        refine lv_lneg hx hb kd_N_wholeOf_58 ?_
        refine lv_goto (tgt := 64) hx hb kd_N_wholeOf_59 (by decide) ?_
        exact hx_lretR hx hb hr hlocks (by unfold nu_whole; rw [if_pos c_4, if_pos c_28, if_neg c_53]; try rfl) kd_N_wholeOf_64
    · skip
      refine lv_lload_n hx hb kd_N_wholeOf_31 rfl (lv_at hl 1 rfl) ?_
      refine lv_iload hx hb kd_N_wholeOf_32 (lv_at hl 0 rfl) ?_
      refine lv_bipush (v := 52) hx hb kd_N_wholeOf_34 (by decide) ?_
      refine lv_isub hx hb kd_N_wholeOf_36 ?_
      refine lv_lshl hx hb kd_N_wholeOf_37 rfl ?_
      refine lv_goto (tgt := 48) hx hb kd_N_wholeOf_38 (by decide) ?_
      refine lv_lstore (lv' := [(5, .long (((nu_frac b) ||| 4503599627370496) <<< (((nu_pow b) - 52 : Int32).toInt64 &&& 63))), (4, .int (nu_pow b)), (2, .long ((nu_frac b) ||| 4503599627370496)), (0, .long b)]) hx hb kd_N_wholeOf_48 hl (by decide) rfl (fun ls hl => ?_)
      refine lv_lload_n hx hb kd_N_wholeOf_50 rfl (lv_at hl 3 rfl) ?_
      refine lv_lconst (v := 0) hx hb kd_N_wholeOf_51 (by decide) ?_
      refine W.lcmp hx hb kd_N_wholeOf_52 ?_
      refine lv_if_ge (tgt := 62) hx hb kd_N_wholeOf_53 (by decide) (fun c_53 => ?_) (fun c_53 => ?_)
      · skip
        refine lv_lload hx hb kd_N_wholeOf_62 (lv_at hl 0 rfl) ?_
        exact hx_lretR hx hb hr hlocks (by unfold nu_whole; rw [if_pos c_4, if_neg c_28, if_pos c_53]; try rfl) kd_N_wholeOf_64
      · skip
        refine lv_lload hx hb kd_N_wholeOf_56 (lv_at hl 0 rfl) ?_
        refine lv_lneg hx hb kd_N_wholeOf_58 ?_
        refine lv_goto (tgt := 64) hx hb kd_N_wholeOf_59 (by decide) ?_
        exact hx_lretR hx hb hr hlocks (by unfold nu_whole; rw [if_pos c_4, if_neg c_28, if_neg c_53]; try rfl) kd_N_wholeOf_64
  · skip
    refine lv_lconst (v := 0) hx hb kd_N_wholeOf_7 (by decide) ?_
    exact hx_lretR hx hb hr hlocks (by unfold nu_whole; rw [if_neg c_4]; try rfl) kd_N_wholeOf_8

def nu_int (b : Int64) : Bool := (if (lg_cmp b (-9223372036854775808)) = 0 then false else (if (b2_ (nu_long b)) = 0 then false else (if (lg_cmp (nu_whole b) (((nu_whole b).toInt32).toInt64)) = 0 then true else false)))
set_option maxHeartbeats 4000000 in
set_option maxRecDepth 100000 in
theorem mc_N_isInt {l : Launch} {D : va_G} {cI cL cZ : ClassId} {tb : Nat} (b : Int64) : Met l ky_N_isInt kw_N_isInt { frames := 3, cells := 0, slots := 0, locals := 68 } (pr_P D cI cL cZ tb [] [.long b]) (hx_QR (some (.int (b2_ (nu_int b))))) 0 0 (fun _ => False) := by
  refine Met.ofW (cc := kc_N_isInt) (maxL := 4) (ret := (some .boolean)) (by decide) rfl ?_
  intro p e s m args below meth c s₁ B hml hv
  obtain ⟨rfl, hC, hP⟩ := hv
  have hx := B.exec
  have hb := B.bytes
  have hr := B.returns
  have hlocks := B.notSynchronized
  have hown : s.vm.findClass "HostBridge$Numbers" = some m.cls := findClass_of_methodNamed B.named
  have hS : va_S (fun _ => False) s.heap s.heap [] := va_S.rf
  have hK := hC.K
  have hts := hC.ts [.long b].toArray
  have hl := lv_entry ([.long b]) (n := 4) (Nat.le_of_ble_eq_true rfl)
  rw [lg_entry_eq]
  generalize (lg_sl ([.long b]) ++ List.replicate (4 - (lg_sl ([.long b])).length) Slot.unset).toArray = ls at hl ⊢
  have hl : lv_has ls 4 [(0, .long b)] := hl
  refine lv_lload_n hx hb kd_N_isInt_0 rfl (lv_at hl 0 rfl) ?_
  refine lv_ldc2 (v := -9223372036854775808) hx hb hown (hts _ km_372) kd_N_isInt_1 ?_
  refine W.lcmp hx hb kd_N_isInt_4 ?_
  refine lv_if_eq (tgt := 15) hx hb kd_N_isInt_5 (by decide) (fun c_5 => ?_) (fun c_5 => ?_)
  · skip
    refine lv_iconst (v := 0) hx hb kd_N_isInt_15 (by decide) ?_
    exact hx_zretR hx hb hr hlocks (by unfold nu_int; rw [if_pos c_5]; try rfl) kd_N_isInt_16
  · skip
    refine lv_lload_n hx hb kd_N_isInt_8 rfl (lv_at hl 0 rfl) ?_
    refine hx_callRi (va_runS (As := [.long b]) (rest := []) ⟨hx, hb, hml, hown, hts⟩ (mc_N_isLong b) (va_cwS 1 hts (goodIn_sub (hx_m4 km_373 km_374 km_14 km_375) (by decide +kernel)) rfl rfl rfl (by decide +kernel) ⟨Nat.le_of_ble_eq_true rfl, Nat.le_of_ble_eq_true rfl⟩) (pr_S (hC.S hS) hP [] rfl) rfl rfl hl.1 rfl (lv_room (Nat.le_of_ble_eq_true rfl)) kd_N_isInt_9 ⟨Nat.le_of_ble_eq_true rfl, Nat.le_of_ble_eq_true rfl⟩) ?_
    refine lv_if_ne (tgt := 17) hx hb kd_N_isInt_12 (by decide) (fun c_12 => ?_) (fun c_12 => ?_)
    · skip
      refine lv_lload_n hx hb kd_N_isInt_17 rfl (lv_at hl 0 rfl) ?_
      refine hx_callRl (va_runS (As := [.long b]) (rest := []) ⟨hx, hb, hml, hown, hts⟩ (mc_N_wholeOf b) (va_cwS 1 hts (goodIn_sub (hx_m4 km_391 km_392 km_14 km_393) (by decide +kernel)) rfl rfl rfl (by decide +kernel) ⟨Nat.le_of_ble_eq_true rfl, Nat.le_of_ble_eq_true rfl⟩) (pr_S (hC.S hS) hP [] rfl) rfl rfl hl.1 rfl (lv_room (Nat.le_of_ble_eq_true rfl)) kd_N_isInt_18 ⟨Nat.le_of_ble_eq_true rfl, Nat.le_of_ble_eq_true rfl⟩) ?_
      refine lv_lstore_n (lv' := [(2, .long (nu_whole b)), (0, .long b)]) hx hb kd_N_isInt_21 rfl hl (by decide) rfl (fun ls hl => ?_)
      refine lv_lload_n hx hb kd_N_isInt_22 rfl (lv_at hl 0 rfl) ?_
      refine lv_lload_n hx hb kd_N_isInt_23 rfl (lv_at hl 0 rfl) ?_
      refine lv_l2i hx hb kd_N_isInt_24 rfl ?_
      refine lv_i2l hx hb kd_N_isInt_25 rfl ?_
      refine W.lcmp hx hb kd_N_isInt_26 ?_
      refine lv_if_ne (tgt := 34) hx hb kd_N_isInt_27 (by decide) (fun c_27 => ?_) (fun c_27 => ?_)
      · skip
        refine lv_iconst (v := 0) hx hb kd_N_isInt_34 (by decide) ?_
        exact hx_zretR hx hb hr hlocks (by unfold nu_int; rw [if_neg c_5, if_neg c_12, if_neg c_27]; try rfl) kd_N_isInt_35
      · skip
        refine lv_iconst (v := 1) hx hb kd_N_isInt_30 (by decide) ?_
        refine lv_goto (tgt := 35) hx hb kd_N_isInt_31 (by decide) ?_
        exact hx_zretR hx hb hr hlocks (by unfold nu_int; rw [if_neg c_5, if_neg c_12, if_pos c_27]; try rfl) kd_N_isInt_35
    · skip
      refine lv_iconst (v := 0) hx hb kd_N_isInt_15 (by decide) ?_
      exact hx_zretR hx hb hr hlocks (by unfold nu_int; rw [if_neg c_5, if_pos c_12]; try rfl) kd_N_isInt_16
end
section
/-! THE METHODS (HostBridge$Methods) -/
/-- method j is of class k, of that name, with so many parameters -/
def mi_ (ho na si : Nat → Int32) (k nm mn : Int32) (j : Nat) : Bool := decide (ho j = k) && decide (na j = nm) && decide (si j = mn)
def mm_ (ho na si ty : Nat → Int32) (k nm mn tw : Int32) (j : Nat) : Bool := mi_ ho na si k nm mn j && decide (ty j = tw)
/-- the first place from i on, of f at most, at which P holds; -1 when there is none -/
def fd_ (P : Nat → Bool) : Nat → Nat → Int32
  | 0, _ => -1
  | f + 1, i => if P i = true then nI i else fd_ P f (i + 1)

set_option maxHeartbeats 4000000 in
set_option maxRecDepth 100000 in
theorem mc_M_isCalled {l : Launch} {D : va_G} {cI cL cZ : ClassId} {tb : Nat} (h0 a1 a2 a3 a4 nm : Nat) (ho na si ty : Nat → Int32) (j : Nat) (k n mn : Int32) (hj : j < 64) : Met l ky_M_isCalled kw_M_isCalled { frames := 0, cells := 0, slots := 0, locals := 0 } (pr_P D cI cL cZ tb [(h0, .inr (2, [.ref a1, .ref a2, .ref a3, .ref a4, .int (nI nm)])), (a1, .inl (cI, 64, .inl ho)), (a2, .inl (cI, 64, .inl na)), (a3, .inl (cI, 64, .inl si))] [.ref h0, .int (nI j), .int k, .int n, .int mn]) (hx_QR (some (.int (b2_ (mi_ ho na si k n mn j))))) 0 0 (fun _ => False) := by
  refine Met.ofW (cc := kc_M_isCalled) (maxL := 5) (ret := (some .boolean)) (by decide) rfl ?_
  intro p e s m args below meth c s₁ B hml hv
  obtain ⟨rfl, hC, hP⟩ := hv
  have hx := B.exec
  have hb := B.bytes
  have hr := B.returns
  have hlocks := B.notSynchronized
  have hown : s.vm.findClass "HostBridge$Methods" = some m.cls := findClass_of_methodNamed B.named
  have hS : va_S (fun _ => False) s.heap s.heap [] := va_S.rf
  have hK := hC.K
  have hts := hC.ts [.ref h0, .int (nI j), .int k, .int n, .int mn].toArray
  have hl := lv_entry ([.ref h0, .int (nI j), .int k, .int n, .int mn]) (n := 5) (Nat.le_of_ble_eq_true rfl)
  rw [lg_entry_eq]
  generalize (lg_sl ([.ref h0, .int (nI j), .int k, .int n, .int mn]) ++ List.replicate (5 - (lg_sl ([.ref h0, .int (nI j), .int k, .int n, .int mn])).length) Slot.unset).toArray = ls at hl ⊢
  have hl : lv_has ls 5 [(0, .ref h0), (1, .int (nI j)), (2, .int k), (3, .int n), (4, .int mn)] := hl
  refine lv_aload_n hx hb kd_M_isCalled_0 rfl (lv_at hl 0 rfl) ?_
  refine va_get (D := D) (ci := 2) (v := .ref a1) (C := "HostBridge$Methods") (T := ct_M) (N := 5) hx hb hts cw_M hown hK hP 0 rfl rfl 0 (by decide) (hts _ km_57) (fun _ h9 => h9) rfl kd_M_isCalled_1 ?_
  refine lv_iload_n hx hb kd_M_isCalled_4 rfl (lv_at hl 1 rfl) ?_
  refine hx_iald (j := j) hx hb hK hP 1 rfl (rfl) (hj) (by decide) kd_M_isCalled_5 ?_
  refine lv_iload_n hx hb kd_M_isCalled_6 rfl (lv_at hl 2 rfl) ?_
  refine lv_icmp_ne (tgt := 35) hx hb kd_M_isCalled_7 (by decide) (fun c_7 => ?_) (fun c_7 => ?_)
  · skip
    refine lv_iconst (v := 0) hx hb kd_M_isCalled_35 (by decide) ?_
    exact hx_zretR hx hb hr hlocks (by simp [b2_, mi_, c_7]) kd_M_isCalled_36
  · skip
    refine lv_aload_n hx hb kd_M_isCalled_10 rfl (lv_at hl 0 rfl) ?_
    refine va_get (D := D) (ci := 2) (v := .ref a2) (C := "HostBridge$Methods") (T := ct_M) (N := 5) hx hb hts cw_M hown hK hP 0 rfl rfl 1 (by decide) (hts _ km_58) (fun _ h9 => h9) rfl kd_M_isCalled_11 ?_
    refine lv_iload_n hx hb kd_M_isCalled_14 rfl (lv_at hl 1 rfl) ?_
    refine hx_iald (j := j) hx hb hK hP 2 rfl (rfl) (hj) (by decide) kd_M_isCalled_15 ?_
    refine lv_iload_n hx hb kd_M_isCalled_16 rfl (lv_at hl 3 rfl) ?_
    refine lv_icmp_ne (tgt := 35) hx hb kd_M_isCalled_17 (by decide) (fun c_17 => ?_) (fun c_17 => ?_)
    · skip
      refine lv_iconst (v := 0) hx hb kd_M_isCalled_35 (by decide) ?_
      exact hx_zretR hx hb hr hlocks (by simp [b2_, mi_, c_7, c_17]) kd_M_isCalled_36
    · skip
      refine lv_aload_n hx hb kd_M_isCalled_20 rfl (lv_at hl 0 rfl) ?_
      refine va_get (D := D) (ci := 2) (v := .ref a3) (C := "HostBridge$Methods") (T := ct_M) (N := 5) hx hb hts cw_M hown hK hP 0 rfl rfl 2 (by decide) (hts _ km_59) (fun _ h9 => h9) rfl kd_M_isCalled_21 ?_
      refine lv_iload_n hx hb kd_M_isCalled_24 rfl (lv_at hl 1 rfl) ?_
      refine hx_iald (j := j) hx hb hK hP 3 rfl (rfl) (hj) (by decide) kd_M_isCalled_25 ?_
      refine lv_iload hx hb kd_M_isCalled_26 (lv_at hl 4 rfl) ?_
      refine lv_icmp_ne (tgt := 35) hx hb kd_M_isCalled_28 (by decide) (fun c_28 => ?_) (fun c_28 => ?_)
      · skip
        refine lv_iconst (v := 0) hx hb kd_M_isCalled_35 (by decide) ?_
        exact hx_zretR hx hb hr hlocks (by simp [b2_, mi_, c_7, c_17, c_28]) kd_M_isCalled_36
      · skip
        refine lv_iconst (v := 1) hx hb kd_M_isCalled_31 (by decide) ?_
        refine lv_goto (tgt := 36) hx hb kd_M_isCalled_32 (by decide) ?_
        exact hx_zretR hx hb hr hlocks (by simp [b2_, mi_, c_7, c_17, c_28]) kd_M_isCalled_36

set_option maxHeartbeats 4000000 in
set_option maxRecDepth 100000 in
theorem mc_M_find {l : Launch} {D : va_G} {cI cL cZ : ClassId} {tb : Nat} (h0 a1 a2 a3 a4 nm : Nat) (ho na si ty : Nat → Int32) (k n mn tw : Int32) (hnm : nm ≤ 64) : Met l ky_M_find kw_M_find { frames := 1, cells := 0, slots := 0, locals := 24 } (pr_P D cI cL cZ tb [(h0, .inr (2, [.ref a1, .ref a2, .ref a3, .ref a4, .int (nI nm)])), (a1, .inl (cI, 64, .inl ho)), (a2, .inl (cI, 64, .inl na)), (a3, .inl (cI, 64, .inl si)), (a4, .inl (cI, 64, .inl ty))] [.ref h0, .int k, .int n, .int mn, .int tw]) (hx_QR (some (.int (fd_ (mm_ ho na si ty k n mn tw) nm 0)))) 0 0 (fun _ => False) := by
  refine Met.ofW (cc := kc_M_find) (maxL := 6) (ret := (some .int)) (by decide) rfl ?_
  intro p e s m args below meth c s₁ B hml hv
  obtain ⟨rfl, hC, hP⟩ := hv
  have hx := B.exec
  have hb := B.bytes
  have hr := B.returns
  have hlocks := B.notSynchronized
  have hown : s.vm.findClass "HostBridge$Methods" = some m.cls := findClass_of_methodNamed B.named
  have hS : va_S (fun _ => False) s.heap s.heap [] := va_S.rf
  have hK := hC.K
  have hts := hC.ts [.ref h0, .int k, .int n, .int mn, .int tw].toArray
  have hl := lv_entry ([.ref h0, .int k, .int n, .int mn, .int tw]) (n := 6) (Nat.le_of_ble_eq_true rfl)
  rw [lg_entry_eq]
  generalize (lg_sl ([.ref h0, .int k, .int n, .int mn, .int tw]) ++ List.replicate (6 - (lg_sl ([.ref h0, .int k, .int n, .int mn, .int tw])).length) Slot.unset).toArray = ls at hl ⊢
  have hl : lv_has ls 6 [(0, .ref h0), (1, .int k), (2, .int n), (3, .int mn), (4, .int tw)] := hl
  refine lv_iconst (v := 0) hx hb kd_M_find_0 (by decide) ?_
  refine lv_istore (lv' := [(5, .int 0), (0, .ref h0), (1, .int k), (2, .int n), (3, .int mn), (4, .int tw)]) hx hb kd_M_find_1 hl (by decide) rfl (fun ls hl => ?_)
  refine hx_loopR (σ := Nat) (I := fun i ls => lv_has ls 6 [(0, .ref h0), (1, .int k), (2, .int n), (3, .int mn), (4, .int tw), (5, .int (nI i))] ∧ i ≤ nm ∧ fd_ (mm_ ho na si ty k n mn tw) (nm - i) i = fd_ (mm_ ho na si ty k n mn tw) nm 0) (μ := fun i => nm - i) ?_ 0 ⟨lv_sub hl [1, 2, 3, 4, 5, 0] rfl, Nat.zero_le _, rfl⟩
  intro i ls hI ih3
  obtain ⟨hl, hi, hd⟩ := hI
  refine lv_iload hx hb kd_M_find_3 (lv_at hl 5 rfl) ?_
  refine lv_aload_n hx hb kd_M_find_5 rfl (lv_at hl 0 rfl) ?_
  refine va_get (D := D) (ci := 2) (v := .int (nI nm)) (C := "HostBridge$Methods") (T := ct_M) (N := 5) hx hb hts cw_M hown hK hP 0 rfl rfl 4 (by decide) (hts _ km_64) (fun _ h9 => h9) rfl kd_M_find_6 ?_
  refine lv_icmp_ge (tgt := 45) hx hb kd_M_find_9 (by decide) (fun c_9 => ?_) (fun c_9 => ?_)
  · skip
    have hin : i = nm := by rw [nI_leI (by omega) (by omega)] at c_9; omega
    refine lv_iconst (v := -1) hx hb kd_M_find_45 (by decide) ?_
    exact hx_iretR hx hb hr hlocks (by rw [← hd, hin, Nat.sub_self]; rfl) kd_M_find_46
  · skip
    have hin : i < nm := by rw [nI_leI (by omega) (by omega)] at c_9; omega
    refine lv_aload_n hx hb kd_M_find_12 rfl (lv_at hl 0 rfl) ?_
    refine lv_iload hx hb kd_M_find_13 (lv_at hl 5 rfl) ?_
    refine lv_iload_n hx hb kd_M_find_15 rfl (lv_at hl 1 rfl) ?_
    refine lv_iload_n hx hb kd_M_find_16 rfl (lv_at hl 2 rfl) ?_
    refine lv_iload_n hx hb kd_M_find_17 rfl (lv_at hl 3 rfl) ?_
    refine hx_callRi (va_runV (As := [.int (nI i), .int k, .int n, .int mn]) (rest := []) ⟨hx, hb, hml, hown, hts⟩ (mc_M_isCalled h0 a1 a2 a3 a4 nm ho na si ty i k n mn (by omega)) (cwV 4 hts (goodIn_sub (hx_m5 km_327 km_328 km_329 km_3 km_330) (by decide +kernel)) rfl rfl rfl (by decide +kernel) ⟨Nat.le_of_ble_eq_true rfl, Nat.le_of_ble_eq_true rfl⟩) (pr_V (hC.S hS) hP [0, 1, 2, 3] rfl (ci := 2) rfl (q0 := 0) rfl) rfl rfl hl.1 rfl (lv_room (Nat.le_of_ble_eq_true rfl)) kd_M_find_18 ⟨Nat.le_of_ble_eq_true rfl, Nat.le_of_ble_eq_true rfl⟩) ?_
    refine lv_if_eq (tgt := 39) hx hb kd_M_find_21 (by decide) (fun c_21 => ?_) (fun c_21 => ?_)
    · skip
      have c_21f := b2_f c_21
      refine lv_iinc (v := nI (i + 1)) (lv' := [(5, .int (nI (i + 1))), (0, .ref h0), (1, .int k), (2, .int n), (3, .int mn), (4, .int tw)]) hx hb kd_M_find_39 hl (k := 5) rfl (nI_1 i) (by decide) rfl (fun ls hl => ?_)
      refine lv_goto (tgt := 3) hx hb kd_M_find_42 (by decide) ?_
      exact ih3 (i + 1) _ (by omega) ⟨lv_sub hl [1, 2, 3, 4, 5, 0] rfl, by omega, by rw [← hd, show nm - i = (nm - (i + 1)) + 1 by omega]; simp only [fd_]; rw [if_neg (by rw [mm_, c_21f, Bool.false_and]; decide)]⟩
    · skip
      have c_21f := b2_t c_21
      refine lv_aload_n hx hb kd_M_find_24 rfl (lv_at hl 0 rfl) ?_
      refine va_get (D := D) (ci := 2) (v := .ref a4) (C := "HostBridge$Methods") (T := ct_M) (N := 5) hx hb hts cw_M hown hK hP 0 rfl rfl 3 (by decide) (hts _ km_61) (fun _ h9 => h9) rfl kd_M_find_25 ?_
      refine lv_iload hx hb kd_M_find_28 (lv_at hl 5 rfl) ?_
      refine hx_iald (j := i) hx hb hK hP 4 rfl (rfl) (by omega) (by decide) kd_M_find_30 ?_
      refine lv_iload hx hb kd_M_find_31 (lv_at hl 4 rfl) ?_
      refine lv_icmp_ne (tgt := 39) hx hb kd_M_find_33 (by decide) (fun c_33 => ?_) (fun c_33 => ?_)
      · skip
        refine lv_iinc (v := nI (i + 1)) (lv' := [(5, .int (nI (i + 1))), (0, .ref h0), (1, .int k), (2, .int n), (3, .int mn), (4, .int tw)]) hx hb kd_M_find_39 hl (k := 5) rfl (nI_1 i) (by decide) rfl (fun ls hl => ?_)
        refine lv_goto (tgt := 3) hx hb kd_M_find_42 (by decide) ?_
        exact ih3 (i + 1) _ (by omega) ⟨lv_sub hl [1, 2, 3, 4, 5, 0] rfl, by omega, by rw [← hd, show nm - i = (nm - (i + 1)) + 1 by omega]; simp only [fd_]; rw [if_neg (by rw [mm_, c_21f, decide_eq_false c_33]; decide)]⟩
      · skip
        refine lv_iload hx hb kd_M_find_36 (lv_at hl 5 rfl) ?_
        exact hx_iretR hx hb hr hlocks (by rw [← hd, show nm - i = (nm - (i + 1)) + 1 by omega]; simp only [fd_]; rw [if_pos (by rw [mm_, c_21f, decide_eq_true c_33]; rfl)]) kd_M_find_38

set_option maxHeartbeats 4000000 in
set_option maxRecDepth 100000 in
theorem mc_M_add {l : Launch} {D : va_G} {cI cL cZ : ClassId} {tb : Nat} (h0 a1 a2 a3 a4 nm : Nat) (ho na si ty : Nat → Int32) (k n mn tw : Int32) (hnm : nm < 64) (sz : Nat) : Met l ky_M_add kw_M_add { frames := 0, cells := 0, slots := 0, locals := 0 } (pw_P D cI cL cZ tb [(h0, .inr (2, [.ref a1, .ref a2, .ref a3, .ref a4, .int (nI nm)])), (a1, .inl (cI, 64, .inl ho)), (a2, .inl (cI, 64, .inl na)), (a3, .inl (cI, 64, .inl si)), (a4, .inl (cI, 64, .inl ty))] sz [.ref h0, .int k, .int n, .int mn, .int tw]) (hx_QW D (some (.int (nI nm))) [(h0, .inr (2, [.ref a1, .ref a2, .ref a3, .ref a4, .int (nI (nm + 1))])), (a1, .inl (cI, 64, .inl (upd ho nm k))), (a2, .inl (cI, 64, .inl (upd na nm n))), (a3, .inl (cI, 64, .inl (upd si nm mn))), (a4, .inl (cI, 64, .inl (upd ty nm tw)))] (va_A [(h0, .inr (2, [.ref a1, .ref a2, .ref a3, .ref a4, .int (nI nm)])), (a1, .inl (cI, 64, .inl ho)), (a2, .inl (cI, 64, .inl na)), (a3, .inl (cI, 64, .inl si)), (a4, .inl (cI, 64, .inl ty))] sz)) 0 0 (va_A [(h0, .inr (2, [.ref a1, .ref a2, .ref a3, .ref a4, .int (nI nm)])), (a1, .inl (cI, 64, .inl ho)), (a2, .inl (cI, 64, .inl na)), (a3, .inl (cI, 64, .inl si)), (a4, .inl (cI, 64, .inl ty))] sz) := by
  refine Met.ofW (cc := kc_M_add) (maxL := 5) (ret := (some .int)) (by decide) rfl ?_
  intro p e s m args below meth c s₁ B hml hv
  obtain ⟨rfl, hsz, hC, hP, hD0⟩ := hv
  have hx := B.exec
  have hb := B.bytes
  have hr := B.returns
  have hlocks := B.notSynchronized
  have hown : s.vm.findClass "HostBridge$Methods" = some m.cls := findClass_of_methodNamed B.named
  subst hsz
  have hD := hD0.self (sz := s.heap.size)
  generalize hAe : va_A [(h0, .inr (2, [.ref a1, .ref a2, .ref a3, .ref a4, .int (nI nm)])), (a1, .inl (cI, 64, .inl ho)), (a2, .inl (cI, 64, .inl na)), (a3, .inl (cI, 64, .inl si)), (a4, .inl (cI, 64, .inl ty))] s.heap.size = A at hD hC ⊢
  have hA : ∀ q : Nat, s.heap.size ≤ q → A q := fun q h => by rw [← hAe]; exact Or.inr h
  have hS : va_S A s.heap s.heap [] := va_S.rf
  have hK := hC.K
  have hts := hC.ts [.ref h0, .int k, .int n, .int mn, .int tw].toArray
  have hl := lv_entry ([.ref h0, .int k, .int n, .int mn, .int tw]) (n := 5) (Nat.le_of_ble_eq_true rfl)
  rw [lg_entry_eq]
  generalize (lg_sl ([.ref h0, .int k, .int n, .int mn, .int tw]) ++ List.replicate (5 - (lg_sl ([.ref h0, .int k, .int n, .int mn, .int tw])).length) Slot.unset).toArray = ls at hl ⊢
  have hl : lv_has ls 5 [(0, .ref h0), (1, .int k), (2, .int n), (3, .int mn), (4, .int tw)] := hl
  refine lv_aload_n hx hb kd_M_add_0 rfl (lv_at hl 0 rfl) ?_
  refine va_get (D := D) (ci := 2) (v := .ref a1) (C := "HostBridge$Methods") (T := ct_M) (N := 5) hx hb hts cw_M hown hK hP 0 rfl rfl 0 (by decide) (hts _ km_57) (fun _ h9 => h9) rfl kd_M_add_1 ?_
  refine lv_aload_n hx hb kd_M_add_4 rfl (lv_at hl 0 rfl) ?_
  refine va_get (D := D) (ci := 2) (v := .int (nI nm)) (C := "HostBridge$Methods") (T := ct_M) (N := 5) hx hb hts cw_M hown hK hP 0 rfl rfl 4 (by decide) (hts _ km_64) (fun _ h9 => h9) rfl kd_M_add_5 ?_
  refine lv_iload_n hx hb kd_M_add_8 rfl (lv_at hl 1 rfl) ?_
  refine hx_iast (j := nm) hx hb hK hP hD hS 1 rfl (rfl) (hnm) (by decide) kd_M_add_9 (fun H locs hP hD hS => ?_)
  have hP : va_P D cl_all [(h0, .inr (2, [.ref a1, .ref a2, .ref a3, .ref a4, .int (nI nm)])), (a1, .inl (cI, 64, .inl (upd ho nm k))), (a2, .inl (cI, 64, .inl na)), (a3, .inl (cI, 64, .inl si)), (a4, .inl (cI, 64, .inl ty))] H := hP
  have hD : va_D A [(h0, .inr (2, [.ref a1, .ref a2, .ref a3, .ref a4, .int (nI nm)])), (a1, .inl (cI, 64, .inl (upd ho nm k))), (a2, .inl (cI, 64, .inl na)), (a3, .inl (cI, 64, .inl si)), (a4, .inl (cI, 64, .inl ty))] := hD
  refine lv_aload_n hx hb kd_M_add_10 rfl (lv_at hl 0 rfl) ?_
  refine va_get (D := D) (ci := 2) (v := .ref a2) (C := "HostBridge$Methods") (T := ct_M) (N := 5) hx hb hts cw_M hown hK hP 0 rfl rfl 1 (by decide) (hts _ km_58) (fun _ h9 => h9) rfl kd_M_add_11 ?_
  refine lv_aload_n hx hb kd_M_add_14 rfl (lv_at hl 0 rfl) ?_
  refine va_get (D := D) (ci := 2) (v := .int (nI nm)) (C := "HostBridge$Methods") (T := ct_M) (N := 5) hx hb hts cw_M hown hK hP 0 rfl rfl 4 (by decide) (hts _ km_64) (fun _ h9 => h9) rfl kd_M_add_15 ?_
  refine lv_iload_n hx hb kd_M_add_18 rfl (lv_at hl 2 rfl) ?_
  refine hx_iast (j := nm) hx hb hK hP hD hS 2 rfl (rfl) (hnm) (by decide) kd_M_add_19 (fun H locs hP hD hS => ?_)
  have hP : va_P D cl_all [(h0, .inr (2, [.ref a1, .ref a2, .ref a3, .ref a4, .int (nI nm)])), (a1, .inl (cI, 64, .inl (upd ho nm k))), (a2, .inl (cI, 64, .inl (upd na nm n))), (a3, .inl (cI, 64, .inl si)), (a4, .inl (cI, 64, .inl ty))] H := hP
  have hD : va_D A [(h0, .inr (2, [.ref a1, .ref a2, .ref a3, .ref a4, .int (nI nm)])), (a1, .inl (cI, 64, .inl (upd ho nm k))), (a2, .inl (cI, 64, .inl (upd na nm n))), (a3, .inl (cI, 64, .inl si)), (a4, .inl (cI, 64, .inl ty))] := hD
  refine lv_aload_n hx hb kd_M_add_20 rfl (lv_at hl 0 rfl) ?_
  refine va_get (D := D) (ci := 2) (v := .ref a3) (C := "HostBridge$Methods") (T := ct_M) (N := 5) hx hb hts cw_M hown hK hP 0 rfl rfl 2 (by decide) (hts _ km_59) (fun _ h9 => h9) rfl kd_M_add_21 ?_
  refine lv_aload_n hx hb kd_M_add_24 rfl (lv_at hl 0 rfl) ?_
  refine va_get (D := D) (ci := 2) (v := .int (nI nm)) (C := "HostBridge$Methods") (T := ct_M) (N := 5) hx hb hts cw_M hown hK hP 0 rfl rfl 4 (by decide) (hts _ km_64) (fun _ h9 => h9) rfl kd_M_add_25 ?_
  refine lv_iload_n hx hb kd_M_add_28 rfl (lv_at hl 3 rfl) ?_
  refine hx_iast (j := nm) hx hb hK hP hD hS 3 rfl (rfl) (hnm) (by decide) kd_M_add_29 (fun H locs hP hD hS => ?_)
  have hP : va_P D cl_all [(h0, .inr (2, [.ref a1, .ref a2, .ref a3, .ref a4, .int (nI nm)])), (a1, .inl (cI, 64, .inl (upd ho nm k))), (a2, .inl (cI, 64, .inl (upd na nm n))), (a3, .inl (cI, 64, .inl (upd si nm mn))), (a4, .inl (cI, 64, .inl ty))] H := hP
  have hD : va_D A [(h0, .inr (2, [.ref a1, .ref a2, .ref a3, .ref a4, .int (nI nm)])), (a1, .inl (cI, 64, .inl (upd ho nm k))), (a2, .inl (cI, 64, .inl (upd na nm n))), (a3, .inl (cI, 64, .inl (upd si nm mn))), (a4, .inl (cI, 64, .inl ty))] := hD
  refine lv_aload_n hx hb kd_M_add_30 rfl (lv_at hl 0 rfl) ?_
  refine va_get (D := D) (ci := 2) (v := .ref a4) (C := "HostBridge$Methods") (T := ct_M) (N := 5) hx hb hts cw_M hown hK hP 0 rfl rfl 3 (by decide) (hts _ km_61) (fun _ h9 => h9) rfl kd_M_add_31 ?_
  refine lv_aload_n hx hb kd_M_add_34 rfl (lv_at hl 0 rfl) ?_
  refine va_get (D := D) (ci := 2) (v := .int (nI nm)) (C := "HostBridge$Methods") (T := ct_M) (N := 5) hx hb hts cw_M hown hK hP 0 rfl rfl 4 (by decide) (hts _ km_64) (fun _ h9 => h9) rfl kd_M_add_35 ?_
  refine lv_iload hx hb kd_M_add_38 (lv_at hl 4 rfl) ?_
  refine hx_iast (j := nm) hx hb hK hP hD hS 4 rfl (rfl) (hnm) (by decide) kd_M_add_40 (fun H locs hP hD hS => ?_)
  have hP : va_P D cl_all [(h0, .inr (2, [.ref a1, .ref a2, .ref a3, .ref a4, .int (nI nm)])), (a1, .inl (cI, 64, .inl (upd ho nm k))), (a2, .inl (cI, 64, .inl (upd na nm n))), (a3, .inl (cI, 64, .inl (upd si nm mn))), (a4, .inl (cI, 64, .inl (upd ty nm tw)))] H := hP
  have hD : va_D A [(h0, .inr (2, [.ref a1, .ref a2, .ref a3, .ref a4, .int (nI nm)])), (a1, .inl (cI, 64, .inl (upd ho nm k))), (a2, .inl (cI, 64, .inl (upd na nm n))), (a3, .inl (cI, 64, .inl (upd si nm mn))), (a4, .inl (cI, 64, .inl (upd ty nm tw)))] := hD
  refine lv_aload_n hx hb kd_M_add_41 rfl (lv_at hl 0 rfl) ?_
  refine lv_dup hx hb kd_M_add_42 rfl ?_
  refine va_get (D := D) (ci := 2) (v := .int (nI nm)) (C := "HostBridge$Methods") (T := ct_M) (N := 5) hx hb hts cw_M hown hK hP 0 rfl rfl 4 (by decide) (hts _ km_64) (fun _ h9 => h9) rfl kd_M_add_43 ?_
  refine lv_iconst (v := 1) hx hb kd_M_add_46 (by decide) ?_
  refine lv_iadd hx hb kd_M_add_47 ?_
  refine hx_topi (y := nI (nm + 1)) (nI_1 nm) ?_
  refine va_put (D := D) (ci := 2) (v := .int (nI (nm + 1))) (ty := .int) (C := "HostBridge$Methods") (T := ct_M) (N := 5) hx hb hts cw_M cy_M cp_M cn_M hown hK hP hD hS 0 rfl rfl 4 (by decide) (hts _ km_64) (fun _ h9 => h9) rfl (by decide +kernel) rfl rfl (Nat.le_of_ble_eq_true rfl) kd_M_add_48 (fun H locs hP hD hS => ?_)
  have hP : va_P D cl_all [(h0, .inr (2, [.ref a1, .ref a2, .ref a3, .ref a4, .int (nI (nm + 1))])), (a1, .inl (cI, 64, .inl (upd ho nm k))), (a2, .inl (cI, 64, .inl (upd na nm n))), (a3, .inl (cI, 64, .inl (upd si nm mn))), (a4, .inl (cI, 64, .inl (upd ty nm tw)))] H := hP
  have hD : va_D A [(h0, .inr (2, [.ref a1, .ref a2, .ref a3, .ref a4, .int (nI (nm + 1))])), (a1, .inl (cI, 64, .inl (upd ho nm k))), (a2, .inl (cI, 64, .inl (upd na nm n))), (a3, .inl (cI, 64, .inl (upd si nm mn))), (a4, .inl (cI, 64, .inl (upd ty nm tw)))] := hD
  refine lv_aload_n hx hb kd_M_add_51 rfl (lv_at hl 0 rfl) ?_
  refine va_get (D := D) (ci := 2) (v := .int (nI (nm + 1))) (C := "HostBridge$Methods") (T := ct_M) (N := 5) hx hb hts cw_M hown hK hP 0 rfl rfl 4 (by decide) (hts _ km_64) (fun _ h9 => h9) rfl kd_M_add_52 ?_
  refine lv_iconst (v := 1) hx hb kd_M_add_55 (by decide) ?_
  refine lv_isub hx hb kd_M_add_56 ?_
  refine hx_topi (y := nI nm) (nI_pred nm) ?_
  exact hx_iretW hx hb hr hlocks (by simp []) (hP) hS kd_M_add_57
end
section
/-! THE ARGUMENTS (HostBridge$Arguments): sorts, weights, what they are converted to -/
def so_ (k : Int32) (b : Int64) : Int32 := (if k = 3 then (if (b2_ (nu_int b)) = 0 then (if (b2_ (nu_long b)) = 0 then 3 else 8) else 7) else k)
set_option maxHeartbeats 4000000 in
set_option maxRecDepth 100000 in
theorem mc_A_sortOf {l : Launch} {D : va_G} {cI cL cZ : ClassId} {tb : Nat} (k : Int32) (b : Int64) : Met l ky_A_sortOf kw_A_sortOf { frames := 4, cells := 0, slots := 0, locals := 91 } (pr_P D cI cL cZ tb [] [.int k, .long b]) (hx_QR (some (.int (so_ k b)))) 0 0 (fun _ => False) := by
  refine Met.ofW (cc := kc_A_sortOf) (maxL := 3) (ret := (some .int)) (by decide) rfl ?_
  intro p e s m args below meth c s₁ B hml hv
  obtain ⟨rfl, hC, hP⟩ := hv
  have hx := B.exec
  have hb := B.bytes
  have hr := B.returns
  have hlocks := B.notSynchronized
  have hown : s.vm.findClass "HostBridge$Arguments" = some m.cls := findClass_of_methodNamed B.named
  have hS : va_S (fun _ => False) s.heap s.heap [] := va_S.rf
  have hK := hC.K
  have hts := hC.ts [.int k, .long b].toArray
  have hl := lv_entry ([.int k, .long b]) (n := 3) (Nat.le_of_ble_eq_true rfl)
  rw [lg_entry_eq]
  generalize (lg_sl ([.int k, .long b]) ++ List.replicate (3 - (lg_sl ([.int k, .long b])).length) Slot.unset).toArray = ls at hl ⊢
  have hl : lv_has ls 3 [(0, .int k), (1, .long b)] := hl
  refine lv_iload_n hx hb kd_A_sortOf_0 rfl (lv_at hl 0 rfl) ?_
  refine lv_iconst (v := 3) hx hb kd_A_sortOf_1 (by decide) ?_
  refine lv_icmp_eq (tgt := 7) hx hb kd_A_sortOf_2 (by decide) (fun c_2 => ?_) (fun c_2 => ?_)
  · skip
    refine lv_lload_n hx hb kd_A_sortOf_7 rfl (lv_at hl 1 rfl) ?_
    refine hx_callRi (va_runS (As := [.long b]) (rest := []) ⟨hx, hb, hml, hown, hts⟩ (mc_N_isInt b) (va_cwS 1 hts (goodIn_sub (hx_m4 km_369 km_370 km_14 km_371) (by decide +kernel)) rfl rfl rfl (by decide +kernel) ⟨Nat.le_of_ble_eq_true rfl, Nat.le_of_ble_eq_true rfl⟩) (pr_S (hC.S hS) hP [] rfl) rfl rfl hl.1 rfl (lv_room (Nat.le_of_ble_eq_true rfl)) kd_A_sortOf_8 ⟨Nat.le_of_ble_eq_true rfl, Nat.le_of_ble_eq_true rfl⟩) ?_
    refine lv_if_eq (tgt := 17) hx hb kd_A_sortOf_11 (by decide) (fun c_11 => ?_) (fun c_11 => ?_)
    · skip
      refine lv_lload_n hx hb kd_A_sortOf_17 rfl (lv_at hl 1 rfl) ?_
      refine hx_callRi (va_runS (As := [.long b]) (rest := []) ⟨hx, hb, hml, hown, hts⟩ (mc_N_isLong b) (va_cwS 1 hts (goodIn_sub (hx_m4 km_395 km_374 km_14 km_375) (by decide +kernel)) rfl rfl rfl (by decide +kernel) ⟨Nat.le_of_ble_eq_true rfl, Nat.le_of_ble_eq_true rfl⟩) (pr_S (hC.S hS) hP [] rfl) rfl rfl hl.1 rfl (lv_room (Nat.le_of_ble_eq_true rfl)) kd_A_sortOf_18 ⟨Nat.le_of_ble_eq_true rfl, Nat.le_of_ble_eq_true rfl⟩) ?_
      refine lv_if_eq (tgt := 29) hx hb kd_A_sortOf_21 (by decide) (fun c_21 => ?_) (fun c_21 => ?_)
      · skip
        refine lv_iconst (v := 3) hx hb kd_A_sortOf_29 (by decide) ?_
        exact hx_iretR hx hb hr hlocks (by unfold so_; rw [if_pos c_2, if_pos c_11, if_pos c_21]; try rfl) kd_A_sortOf_30
      · skip
        refine lv_bipush (v := 8) hx hb kd_A_sortOf_24 (by decide) ?_
        refine lv_goto (tgt := 30) hx hb kd_A_sortOf_26 (by decide) ?_
        exact hx_iretR hx hb hr hlocks (by unfold so_; rw [if_pos c_2, if_pos c_11, if_neg c_21]; try rfl) kd_A_sortOf_30
    · skip
      refine lv_bipush (v := 7) hx hb kd_A_sortOf_14 (by decide) ?_
      exact hx_iretR hx hb hr hlocks (by unfold so_; rw [if_pos c_2, if_neg c_11]; try rfl) kd_A_sortOf_16
  · skip
    refine lv_iload_n hx hb kd_A_sortOf_5 rfl (lv_at hl 0 rfl) ?_
    exact hx_iretR hx hb hr hlocks (by unfold so_; rw [if_neg c_2]; try rfl) kd_A_sortOf_6

set_option maxHeartbeats 4000000 in
set_option maxRecDepth 100000 in
theorem mc_A_takeAll {l : Launch} {D : va_G} {cI cL cZ : ClassId} {tb : Nat} (h0 hw a1 a2 a3 na : Nat) (sz : Nat) : Met l ky_A_takeAll kw_A_takeAll { frames := 0, cells := 0, slots := 0, locals := 0 } (pw_P D cI cL cZ tb [(h0, .inr (3, [.ref hw, .ref a1, .ref a2, .ref a3, .int (nI na)]))] sz [.ref h0]) (hx_QW D (some (.int (nI na))) [(h0, .inr (3, [.ref hw, .ref a1, .ref a2, .ref a3, .int (nI 0)]))] (va_A [(h0, .inr (3, [.ref hw, .ref a1, .ref a2, .ref a3, .int (nI na)]))] sz)) 0 0 (va_A [(h0, .inr (3, [.ref hw, .ref a1, .ref a2, .ref a3, .int (nI na)]))] sz) := by
  refine Met.ofW (cc := kc_A_takeAll) (maxL := 2) (ret := (some .int)) (by decide) rfl ?_
  intro p e s m args below meth c s₁ B hml hv
  obtain ⟨rfl, hsz, hC, hP, hD0⟩ := hv
  have hx := B.exec
  have hb := B.bytes
  have hr := B.returns
  have hlocks := B.notSynchronized
  have hown : s.vm.findClass "HostBridge$Arguments" = some m.cls := findClass_of_methodNamed B.named
  subst hsz
  have hD := hD0.self (sz := s.heap.size)
  generalize hAe : va_A [(h0, .inr (3, [.ref hw, .ref a1, .ref a2, .ref a3, .int (nI na)]))] s.heap.size = A at hD hC ⊢
  have hA : ∀ q : Nat, s.heap.size ≤ q → A q := fun q h => by rw [← hAe]; exact Or.inr h
  have hS : va_S A s.heap s.heap [] := va_S.rf
  have hK := hC.K
  have hts := hC.ts [.ref h0].toArray
  have hl := lv_entry ([.ref h0]) (n := 2) (Nat.le_of_ble_eq_true rfl)
  rw [lg_entry_eq]
  generalize (lg_sl ([.ref h0]) ++ List.replicate (2 - (lg_sl ([.ref h0])).length) Slot.unset).toArray = ls at hl ⊢
  have hl : lv_has ls 2 [(0, .ref h0)] := hl
  refine lv_aload_n hx hb kd_A_takeAll_0 rfl (lv_at hl 0 rfl) ?_
  refine va_get (D := D) (ci := 3) (v := .int (nI na)) (C := "HostBridge$Arguments") (T := ct_A) (N := 5) hx hb hts cw_A hown hK hP 0 rfl rfl 4 (by decide) (hts _ km_88) (fun _ h9 => h9) rfl kd_A_takeAll_1 ?_
  refine lv_istore_n (lv' := [(1, .int (nI na)), (0, .ref h0)]) hx hb kd_A_takeAll_4 rfl hl (by decide) rfl (fun ls hl => ?_)
  refine lv_aload_n hx hb kd_A_takeAll_5 rfl (lv_at hl 1 rfl) ?_
  refine lv_iconst (v := 0) hx hb kd_A_takeAll_6 (by decide) ?_
  refine hx_topi (y := nI 0) (nI_0.symm) ?_
  refine va_put (D := D) (ci := 3) (v := .int (nI 0)) (ty := .int) (C := "HostBridge$Arguments") (T := ct_A) (N := 5) hx hb hts cw_A cy_A cp_A cn_A hown hK hP hD hS 0 rfl rfl 4 (by decide) (hts _ km_88) (fun _ h9 => h9) rfl (by decide +kernel) rfl rfl (Nat.le_of_ble_eq_true rfl) kd_A_takeAll_7 (fun H locs hP hD hS => ?_)
  have hP : va_P D cl_all [(h0, .inr (3, [.ref hw, .ref a1, .ref a2, .ref a3, .int (nI 0)]))] H := hP
  have hD : va_D A [(h0, .inr (3, [.ref hw, .ref a1, .ref a2, .ref a3, .int (nI 0)]))] := hD
  refine lv_iload_n hx hb kd_A_takeAll_10 rfl (lv_at hl 0 rfl) ?_
  exact hx_iretW hx hb hr hlocks (by simp []) (hP) hS kd_A_takeAll_11

set_option maxHeartbeats 4000000 in
set_option maxRecDepth 100000 in
theorem mc_A_add {l : Launch} {D : va_G} {cI cL cZ : ClassId} {tb : Nat} (h0 hw a1 a2 a3 na : Nat) (kn so : Nat → Int32) (bi : Nat → Int64) (k : Int32) (b : Int64) (hn : na < 4) (sz : Nat) : Met l ky_A_add kw_A_add { frames := 5, cells := 0, slots := 0, locals := 113 } (pw_P D cI cL cZ tb [(h0, .inr (3, [.ref hw, .ref a1, .ref a2, .ref a3, .int (nI na)])), (a1, .inl (cI, 4, .inl kn)), (a2, .inl (cI, 4, .inl so)), (a3, .inl (cL, 4, .inr (.inl bi)))] sz [.ref h0, .int k, .long b]) (hx_QW D (some (.int (nI (na + 1)))) [(h0, .inr (3, [.ref hw, .ref a1, .ref a2, .ref a3, .int (nI (na + 1))])), (a1, .inl (cI, 4, .inl (upd kn na k))), (a2, .inl (cI, 4, .inl (upd so na (so_ k b)))), (a3, .inl (cL, 4, .inr (.inl (vp_updL bi na b))))] (va_A [(h0, .inr (3, [.ref hw, .ref a1, .ref a2, .ref a3, .int (nI na)])), (a1, .inl (cI, 4, .inl kn)), (a2, .inl (cI, 4, .inl so)), (a3, .inl (cL, 4, .inr (.inl bi)))] sz)) 0 0 (va_A [(h0, .inr (3, [.ref hw, .ref a1, .ref a2, .ref a3, .int (nI na)])), (a1, .inl (cI, 4, .inl kn)), (a2, .inl (cI, 4, .inl so)), (a3, .inl (cL, 4, .inr (.inl bi)))] sz) := by
  refine Met.ofW (cc := kc_A_add) (maxL := 4) (ret := (some .int)) (by decide) rfl ?_
  intro p e s m args below meth c s₁ B hml hv
  obtain ⟨rfl, hsz, hC, hP, hD0⟩ := hv
  have hx := B.exec
  have hb := B.bytes
  have hr := B.returns
  have hlocks := B.notSynchronized
  have hown : s.vm.findClass "HostBridge$Arguments" = some m.cls := findClass_of_methodNamed B.named
  subst hsz
  have hD := hD0.self (sz := s.heap.size)
  generalize hAe : va_A [(h0, .inr (3, [.ref hw, .ref a1, .ref a2, .ref a3, .int (nI na)])), (a1, .inl (cI, 4, .inl kn)), (a2, .inl (cI, 4, .inl so)), (a3, .inl (cL, 4, .inr (.inl bi)))] s.heap.size = A at hD hC ⊢
  have hA : ∀ q : Nat, s.heap.size ≤ q → A q := fun q h => by rw [← hAe]; exact Or.inr h
  have hS : va_S A s.heap s.heap [] := va_S.rf
  have hK := hC.K
  have hts := hC.ts [.ref h0, .int k, .long b].toArray
  have hl := lv_entry ([.ref h0, .int k, .long b]) (n := 4) (Nat.le_of_ble_eq_true rfl)
  rw [lg_entry_eq]
  generalize (lg_sl ([.ref h0, .int k, .long b]) ++ List.replicate (4 - (lg_sl ([.ref h0, .int k, .long b])).length) Slot.unset).toArray = ls at hl ⊢
  have hl : lv_has ls 4 [(0, .ref h0), (1, .int k), (2, .long b)] := hl
  refine lv_aload_n hx hb kd_A_add_0 rfl (lv_at hl 0 rfl) ?_
  refine va_get (D := D) (ci := 3) (v := .ref a1) (C := "HostBridge$Arguments") (T := ct_A) (N := 5) hx hb hts cw_A hown hK hP 0 rfl rfl 1 (by decide) (hts _ km_85) (fun _ h9 => h9) rfl kd_A_add_1 ?_
  refine lv_aload_n hx hb kd_A_add_4 rfl (lv_at hl 0 rfl) ?_
  refine va_get (D := D) (ci := 3) (v := .int (nI na)) (C := "HostBridge$Arguments") (T := ct_A) (N := 5) hx hb hts cw_A hown hK hP 0 rfl rfl 4 (by decide) (hts _ km_88) (fun _ h9 => h9) rfl kd_A_add_5 ?_
  refine lv_iload_n hx hb kd_A_add_8 rfl (lv_at hl 1 rfl) ?_
  refine hx_iast (j := na) hx hb hK hP hD hS 1 rfl (rfl) (hn) (by decide) kd_A_add_9 (fun H locs hP hD hS => ?_)
  have hP : va_P D cl_all [(h0, .inr (3, [.ref hw, .ref a1, .ref a2, .ref a3, .int (nI na)])), (a1, .inl (cI, 4, .inl (upd kn na k))), (a2, .inl (cI, 4, .inl so)), (a3, .inl (cL, 4, .inr (.inl bi)))] H := hP
  have hD : va_D A [(h0, .inr (3, [.ref hw, .ref a1, .ref a2, .ref a3, .int (nI na)])), (a1, .inl (cI, 4, .inl (upd kn na k))), (a2, .inl (cI, 4, .inl so)), (a3, .inl (cL, 4, .inr (.inl bi)))] := hD
  refine lv_aload_n hx hb kd_A_add_10 rfl (lv_at hl 0 rfl) ?_
  refine va_get (D := D) (ci := 3) (v := .ref a2) (C := "HostBridge$Arguments") (T := ct_A) (N := 5) hx hb hts cw_A hown hK hP 0 rfl rfl 2 (by decide) (hts _ km_86) (fun _ h9 => h9) rfl kd_A_add_11 ?_
  refine lv_aload_n hx hb kd_A_add_14 rfl (lv_at hl 0 rfl) ?_
  refine va_get (D := D) (ci := 3) (v := .int (nI na)) (C := "HostBridge$Arguments") (T := ct_A) (N := 5) hx hb hts cw_A hown hK hP 0 rfl rfl 4 (by decide) (hts _ km_88) (fun _ h9 => h9) rfl kd_A_add_15 ?_
  refine lv_iload_n hx hb kd_A_add_18 rfl (lv_at hl 1 rfl) ?_
  refine lv_lload_n hx hb kd_A_add_19 rfl (lv_at hl 2 rfl) ?_
  refine hx_callRi (va_runS (As := [.int k, .long b]) (rest := [.int (nI na), .ref a2]) ⟨hx, hb, hml, hown, hts⟩ (mc_A_sortOf k b) (va_cwS 2 hts (goodIn_sub (hx_m4 km_366 km_367 km_4 km_368) (by decide +kernel)) rfl rfl rfl (by decide +kernel) ⟨Nat.le_of_ble_eq_true rfl, Nat.le_of_ble_eq_true rfl⟩) (pr_S (hC.S hS) hP [] rfl) rfl rfl hl.1 rfl (lv_room (Nat.le_of_ble_eq_true rfl)) kd_A_add_20 ⟨Nat.le_of_ble_eq_true rfl, Nat.le_of_ble_eq_true rfl⟩) ?_
  refine hx_iast (j := na) hx hb hK hP hD hS 2 rfl (rfl) (hn) (by decide) kd_A_add_23 (fun H locs hP hD hS => ?_)
  have hP : va_P D cl_all [(h0, .inr (3, [.ref hw, .ref a1, .ref a2, .ref a3, .int (nI na)])), (a1, .inl (cI, 4, .inl (upd kn na k))), (a2, .inl (cI, 4, .inl (upd so na (so_ k b)))), (a3, .inl (cL, 4, .inr (.inl bi)))] H := hP
  have hD : va_D A [(h0, .inr (3, [.ref hw, .ref a1, .ref a2, .ref a3, .int (nI na)])), (a1, .inl (cI, 4, .inl (upd kn na k))), (a2, .inl (cI, 4, .inl (upd so na (so_ k b)))), (a3, .inl (cL, 4, .inr (.inl bi)))] := hD
  refine lv_aload_n hx hb kd_A_add_24 rfl (lv_at hl 0 rfl) ?_
  refine va_get (D := D) (ci := 3) (v := .ref a3) (C := "HostBridge$Arguments") (T := ct_A) (N := 5) hx hb hts cw_A hown hK hP 0 rfl rfl 3 (by decide) (hts _ km_87) (fun _ h9 => h9) rfl kd_A_add_25 ?_
  refine lv_aload_n hx hb kd_A_add_28 rfl (lv_at hl 0 rfl) ?_
  refine va_get (D := D) (ci := 3) (v := .int (nI na)) (C := "HostBridge$Arguments") (T := ct_A) (N := 5) hx hb hts cw_A hown hK hP 0 rfl rfl 4 (by decide) (hts _ km_88) (fun _ h9 => h9) rfl kd_A_add_29 ?_
  refine lv_lload_n hx hb kd_A_add_32 rfl (lv_at hl 2 rfl) ?_
  refine hx_last (j := na) hx hb hK hP hD hS 3 rfl (rfl) (hn) (by decide) kd_A_add_33 (fun H locs hP hD hS => ?_)
  have hP : va_P D cl_all [(h0, .inr (3, [.ref hw, .ref a1, .ref a2, .ref a3, .int (nI na)])), (a1, .inl (cI, 4, .inl (upd kn na k))), (a2, .inl (cI, 4, .inl (upd so na (so_ k b)))), (a3, .inl (cL, 4, .inr (.inl (vp_updL bi na b))))] H := hP
  have hD : va_D A [(h0, .inr (3, [.ref hw, .ref a1, .ref a2, .ref a3, .int (nI na)])), (a1, .inl (cI, 4, .inl (upd kn na k))), (a2, .inl (cI, 4, .inl (upd so na (so_ k b)))), (a3, .inl (cL, 4, .inr (.inl (vp_updL bi na b))))] := hD
  refine lv_aload_n hx hb kd_A_add_34 rfl (lv_at hl 0 rfl) ?_
  refine lv_dup hx hb kd_A_add_35 rfl ?_
  refine va_get (D := D) (ci := 3) (v := .int (nI na)) (C := "HostBridge$Arguments") (T := ct_A) (N := 5) hx hb hts cw_A hown hK hP 0 rfl rfl 4 (by decide) (hts _ km_88) (fun _ h9 => h9) rfl kd_A_add_36 ?_
  refine lv_iconst (v := 1) hx hb kd_A_add_39 (by decide) ?_
  refine lv_iadd hx hb kd_A_add_40 ?_
  refine hx_topi (y := nI (na + 1)) (nI_1 na) ?_
  refine va_put (D := D) (ci := 3) (v := .int (nI (na + 1))) (ty := .int) (C := "HostBridge$Arguments") (T := ct_A) (N := 5) hx hb hts cw_A cy_A cp_A cn_A hown hK hP hD hS 0 rfl rfl 4 (by decide) (hts _ km_88) (fun _ h9 => h9) rfl (by decide +kernel) rfl rfl (Nat.le_of_ble_eq_true rfl) kd_A_add_41 (fun H locs hP hD hS => ?_)
  have hP : va_P D cl_all [(h0, .inr (3, [.ref hw, .ref a1, .ref a2, .ref a3, .int (nI (na + 1))])), (a1, .inl (cI, 4, .inl (upd kn na k))), (a2, .inl (cI, 4, .inl (upd so na (so_ k b)))), (a3, .inl (cL, 4, .inr (.inl (vp_updL bi na b))))] H := hP
  have hD : va_D A [(h0, .inr (3, [.ref hw, .ref a1, .ref a2, .ref a3, .int (nI (na + 1))])), (a1, .inl (cI, 4, .inl (upd kn na k))), (a2, .inl (cI, 4, .inl (upd so na (so_ k b)))), (a3, .inl (cL, 4, .inr (.inl (vp_updL bi na b))))] := hD
  refine lv_aload_n hx hb kd_A_add_44 rfl (lv_at hl 0 rfl) ?_
  refine va_get (D := D) (ci := 3) (v := .int (nI (na + 1))) (C := "HostBridge$Arguments") (T := ct_A) (N := 5) hx hb hts cw_A hown hK hP 0 rfl rfl 4 (by decide) (hts _ km_88) (fun _ h9 => h9) rfl kd_A_add_45 ?_
  exact hx_iretW hx hb hr hlocks (by simp []) (hP) hS kd_A_add_48

/-- an argument is well formed: its kind is one, its sort that of its kind and bits, a host object is there -/
def ar_ok (no : Nat) (k s : Int32) (b : Int64) : Prop := fb_in k 7 = true ∧ s = so_ k b ∧ (k = 5 → ∃ j : Nat, j < no ∧ b = lN j)
theorem so_lt {no : Nat} {k s : Int32} {b : Int64} (h : ar_ok no k s b) : ∃ j : Nat, j < 9 ∧ s = nI j := by
  obtain ⟨h1, h2, -⟩ := h
  obtain ⟨j, h3, h4⟩ := (fb_in_iff (by decide)).mp h1
  subst h2
  unfold so_
  split
  · split
    · split
      · exact ⟨3, by decide, by decide⟩
      · exact ⟨8, by decide, by decide⟩
    · exact ⟨7, by decide, by decide⟩
  · exact ⟨j, by omega, h4⟩
/-- the weight of an argument of kind k, sort s, bits b for type t -/
def wf_ (pa co : Nat → Int32) (k s : Int32) (b : Int64) (t : Nat) : Int32 :=
  if t < 6 then wt_ (s.toNatClampNeg * 7 + t) else if k = 5 then ds_ pa (nI (t - 6)) 16 (co b.toInt32.toNatClampNeg) 0 else wt_ (s.toNatClampNeg * 7 + 6)

set_option maxHeartbeats 4000000 in
set_option maxRecDepth 100000 in
theorem mc_A_weightFor {l : Launch} {D : va_G} {cI cL cZ : ClassId} {tb : Nat} (h0 hw a1 a2 a3 b1 b2 na nc no : Nat) (kn so pa co : Nat → Int32) (bi : Nat → Int64) (i t : Nat) (hi : i < 4) (hok : ar_ok no (kn i) (so i) (bi i)) (hln : ln_ok nc pa) (hno : no ≤ 64) (hco : ∀ j, j < no → ∃ q : Nat, q < nc ∧ co j = nI q) (ht : t < 256) : Met l ky_A_weightFor kw_A_weightFor { frames := 1, cells := 0, slots := 0, locals := 24 } (pr_P D cI cL cZ tb [(h0, .inr (3, [.ref hw, .ref a1, .ref a2, .ref a3, .int (nI na)])), (a1, .inl (cI, 4, .inl kn)), (a2, .inl (cI, 4, .inl so)), (a3, .inl (cL, 4, .inr (.inl bi))), (hw, .inr (1, [.ref b1, .ref b2, .int (nI nc), .int (nI no)])), (b1, .inl (cI, 16, .inl pa)), (b2, .inl (cI, 64, .inl co))] [.ref h0, .int (nI i), .int (nI t)]) (hx_QR (some (.int (wf_ pa co (kn i) (so i) (bi i) t)))) 0 0 (fun _ => False) := by
  refine Met.ofW (cc := kc_A_weightFor) (maxL := 3) (ret := (some .int)) (by decide) rfl ?_
  intro p e s m args below meth c s₁ B hml hv
  obtain ⟨rfl, hC, hP⟩ := hv
  have hx := B.exec
  have hb := B.bytes
  have hr := B.returns
  have hlocks := B.notSynchronized
  have hown : s.vm.findClass "HostBridge$Arguments" = some m.cls := findClass_of_methodNamed B.named
  have hS : va_S (fun _ => False) s.heap s.heap [] := va_S.rf
  have hK := hC.K
  have hts := hC.ts [.ref h0, .int (nI i), .int (nI t)].toArray
  have hl := lv_entry ([.ref h0, .int (nI i), .int (nI t)]) (n := 3) (Nat.le_of_ble_eq_true rfl)
  rw [lg_entry_eq]
  generalize (lg_sl ([.ref h0, .int (nI i), .int (nI t)]) ++ List.replicate (3 - (lg_sl ([.ref h0, .int (nI i), .int (nI t)])).length) Slot.unset).toArray = ls at hl ⊢
  have hl : lv_has ls 3 [(0, .ref h0), (1, .int (nI i)), (2, .int (nI t))] := hl
  have hZ := hC.2.2.2
  obtain ⟨q, hq, hso⟩ := so_lt hok
  refine lv_iload_n hx hb kd_A_weightFor_0 rfl (lv_at hl 2 rfl) ?_
  refine lv_bipush (v := 6) hx hb kd_A_weightFor_1 (by decide) ?_
  refine lv_icmp_ge (tgt := 22) hx hb kd_A_weightFor_3 (by decide) (fun c_3 => ?_) (fun c_3 => ?_)
  · skip
    have h6 : ¬ t < 6 := by
      have h9 : nI 6 ≤ nI t := c_3
      rw [nI_leI (by decide) (by omega)] at h9; omega
    refine lv_aload_n hx hb kd_A_weightFor_22 rfl (lv_at hl 0 rfl) ?_
    refine va_get (D := D) (ci := 3) (v := .ref a1) (C := "HostBridge$Arguments") (T := ct_A) (N := 5) hx hb hts cw_A hown hK hP 0 rfl rfl 1 (by decide) (hts _ km_85) (fun _ h9 => h9) rfl kd_A_weightFor_23 ?_
    refine lv_iload_n hx hb kd_A_weightFor_26 rfl (lv_at hl 1 rfl) ?_
    refine hx_iald (j := i) hx hb hK hP 1 rfl (rfl) (hi) (by decide) kd_A_weightFor_27 ?_
    refine lv_iconst (v := 5) hx hb kd_A_weightFor_28 (by decide) ?_
    refine lv_icmp_ne (tgt := 59) hx hb kd_A_weightFor_29 (by decide) (fun c_29 => ?_) (fun c_29 => ?_)
    · skip
      refine va_gets hx hb hZ.1 hS hown (hts _ km_408) (fun _ h9 => h9) kd_A_weightFor_59 ?_
      refine lv_aload_n hx hb kd_A_weightFor_62 rfl (lv_at hl 0 rfl) ?_
      refine va_get (D := D) (ci := 3) (v := .ref a2) (C := "HostBridge$Arguments") (T := ct_A) (N := 5) hx hb hts cw_A hown hK hP 0 rfl rfl 2 (by decide) (hts _ km_86) (fun _ h9 => h9) rfl kd_A_weightFor_63 ?_
      refine lv_iload_n hx hb kd_A_weightFor_66 rfl (lv_at hl 1 rfl) ?_
      refine hx_iald (j := i) hx hb hK hP 2 rfl (rfl) (hi) (by decide) kd_A_weightFor_67 ?_
      refine hx_topi (y := nI q) (hso) ?_
      refine lv_bipush (v := 7) hx hb kd_A_weightFor_68 (by decide) ?_
      refine lv_imul hx hb kd_A_weightFor_70 ?_
      refine hx_topi (y := nI (q * 7)) (by rw [show (7 : Int32) = nI 7 from rfl, pk_mul]) ?_
      refine lv_bipush (v := 6) hx hb kd_A_weightFor_71 (by decide) ?_
      refine lv_iadd hx hb kd_A_weightFor_73 ?_
      refine hx_topi (y := nI (q * 7 + 6)) (by rw [show (6 : Int32) = nI 6 from rfl, nI_add]) ?_
      refine va_ti hx hb hZ.2.1 hS (i := nI (q * 7 + 6)) (v := .int (wt_ (q * 7 + 6))) (vp_in_nI (by omega) (by decide)) (by rw [nI_clamp (by omega)]) kd_A_weightFor_74 ?_
      exact hx_iretR hx hb hr hlocks (by unfold wf_; rw [if_neg h6, if_neg c_29, hso, nI_clamp (by omega)]) kd_A_weightFor_75
    · skip
      obtain ⟨o, ho, hbo⟩ := hok.2.2 c_29
      obtain ⟨z, hz, hcz⟩ := hco o ho
      refine lv_aload_n hx hb kd_A_weightFor_32 rfl (lv_at hl 0 rfl) ?_
      refine va_get (D := D) (ci := 3) (v := .ref hw) (C := "HostBridge$Arguments") (T := ct_A) (N := 5) hx hb hts cw_A hown hK hP 0 rfl rfl 0 (by decide) (hts _ km_84) (fun _ h9 => h9) rfl kd_A_weightFor_33 ?_
      refine lv_aload_n hx hb kd_A_weightFor_36 rfl (lv_at hl 0 rfl) ?_
      refine va_get (D := D) (ci := 3) (v := .ref hw) (C := "HostBridge$Arguments") (T := ct_A) (N := 5) hx hb hts cw_A hown hK hP 0 rfl rfl 0 (by decide) (hts _ km_84) (fun _ h9 => h9) rfl kd_A_weightFor_37 ?_
      refine va_getN (host := "HostBridge") (D := D) (ci := 1) (v := .ref b2) (C := "HostBridge$World") (T := ct_W) (N := 4) hx hb hts cw_W hown hK hP 4 rfl rfl 1 (by decide) (hts _ km_35) (fun _ h9 => h9) rfl kd_A_weightFor_40 ?_
      refine lv_aload_n hx hb kd_A_weightFor_43 rfl (lv_at hl 0 rfl) ?_
      refine va_get (D := D) (ci := 3) (v := .ref a3) (C := "HostBridge$Arguments") (T := ct_A) (N := 5) hx hb hts cw_A hown hK hP 0 rfl rfl 3 (by decide) (hts _ km_87) (fun _ h9 => h9) rfl kd_A_weightFor_44 ?_
      refine lv_iload_n hx hb kd_A_weightFor_47 rfl (lv_at hl 1 rfl) ?_
      refine hx_lald (j := i) hx hb hK hP 3 rfl (rfl) (hi) (by decide) kd_A_weightFor_48 ?_
      refine hx_topl (y := lN o) (hbo) ?_
      refine lv_l2i hx hb kd_A_weightFor_49 rfl ?_
      refine hx_topi (y := nI o) (lN_i o) ?_
      refine hx_iald (j := o) hx hb hK hP 6 rfl (rfl) (by omega) (by decide) kd_A_weightFor_50 ?_
      refine hx_topi (y := nI z) (hcz) ?_
      refine lv_iload_n hx hb kd_A_weightFor_51 rfl (lv_at hl 2 rfl) ?_
      refine lv_bipush (v := 6) hx hb kd_A_weightFor_52 (by decide) ?_
      refine lv_isub hx hb kd_A_weightFor_54 ?_
      refine hx_topi (y := nI (t - 6)) (by rw [show (6 : Int32) = nI 6 from rfl, pk_sub (by omega)]) ?_
      refine hx_callRi (va_runV (As := [.int (nI z), .int (nI (t - 6))]) (rest := []) ⟨hx, hb, hml, hown, hts⟩ (mc_W_distance hw b1 b2 nc no pa (nI z) (nI (t - 6)) hln (Or.inr ⟨z, hz, rfl⟩)) (cwV 2 hts (goodIn_sub (hx_m5 km_410 km_411 km_412 km_2 km_413) (by decide +kernel)) rfl rfl rfl (by decide +kernel) ⟨Nat.le_of_ble_eq_true rfl, Nat.le_of_ble_eq_true rfl⟩) (pr_V (hC.S hS) hP [4, 5] rfl (ci := 1) rfl (q0 := 0) rfl) rfl rfl hl.1 rfl (lv_room (Nat.le_of_ble_eq_true rfl)) kd_A_weightFor_55 ⟨Nat.le_of_ble_eq_true rfl, Nat.le_of_ble_eq_true rfl⟩) ?_
      exact hx_iretR hx hb hr hlocks (by unfold wf_; rw [if_neg h6, if_pos c_29, hbo, lN_i, nI_clamp (by omega), hcz]) kd_A_weightFor_58
  · skip
    have h6 : t < 6 := by
      have h9 : ¬ nI 6 ≤ nI t := c_3
      rw [nI_leI (by decide) (by omega)] at h9; omega
    refine va_gets hx hb hZ.1 hS hown (hts _ km_408) (fun _ h9 => h9) kd_A_weightFor_6 ?_
    refine lv_aload_n hx hb kd_A_weightFor_9 rfl (lv_at hl 0 rfl) ?_
    refine va_get (D := D) (ci := 3) (v := .ref a2) (C := "HostBridge$Arguments") (T := ct_A) (N := 5) hx hb hts cw_A hown hK hP 0 rfl rfl 2 (by decide) (hts _ km_86) (fun _ h9 => h9) rfl kd_A_weightFor_10 ?_
    refine lv_iload_n hx hb kd_A_weightFor_13 rfl (lv_at hl 1 rfl) ?_
    refine hx_iald (j := i) hx hb hK hP 2 rfl (rfl) (hi) (by decide) kd_A_weightFor_14 ?_
    refine hx_topi (y := nI q) (hso) ?_
    refine lv_bipush (v := 7) hx hb kd_A_weightFor_15 (by decide) ?_
    refine lv_imul hx hb kd_A_weightFor_17 ?_
    refine hx_topi (y := nI (q * 7)) (by rw [show (7 : Int32) = nI 7 from rfl, pk_mul]) ?_
    refine lv_iload_n hx hb kd_A_weightFor_18 rfl (lv_at hl 2 rfl) ?_
    refine lv_iadd hx hb kd_A_weightFor_19 ?_
    refine hx_topi (y := nI (q * 7 + t)) (nI_add _ _) ?_
    refine va_ti hx hb hZ.2.1 hS (i := nI (q * 7 + t)) (v := .int (wt_ (q * 7 + t))) (vp_in_nI (by omega) (by decide)) (by rw [nI_clamp (by omega)]) kd_A_weightFor_20 ?_
    exact hx_iretR hx hb hr hlocks (by unfold wf_; rw [if_pos h6, hso, nI_clamp (by omega)]) kd_A_weightFor_21

/-- all arguments fit the types of a word -/
def ft_ (w : Nat → Nat → Int32) (ty : Int32) (n : Nat) : Bool := decide (∀ i, i < n → ¬ w i (ty_N ty n i) = -1)

set_option maxHeartbeats 4000000 in
set_option maxRecDepth 100000 in
theorem mc_A_fit {l : Launch} {D : va_G} {cI cL cZ : ClassId} {tb : Nat} (h0 hw a1 a2 a3 b1 b2 na nc no : Nat) (kn so pa co : Nat → Int32) (bi : Nat → Int64) (n : Nat) (ty : Int32) (hn : n ≤ 4) (hok : ∀ i, i < n → ar_ok no (kn i) (so i) (bi i)) (hln : ln_ok nc pa) (hno : no ≤ 64) (hco : ∀ j, j < no → ∃ q : Nat, q < nc ∧ co j = nI q) : Met l ky_A_fit kw_A_fit { frames := 2, cells := 0, slots := 0, locals := 46 } (pr_P D cI cL cZ tb [(h0, .inr (3, [.ref hw, .ref a1, .ref a2, .ref a3, .int (nI na)])), (a1, .inl (cI, 4, .inl kn)), (a2, .inl (cI, 4, .inl so)), (a3, .inl (cL, 4, .inr (.inl bi))), (hw, .inr (1, [.ref b1, .ref b2, .int (nI nc), .int (nI no)])), (b1, .inl (cI, 16, .inl pa)), (b2, .inl (cI, 64, .inl co))] [.ref h0, .int (nI n), .int ty]) (hx_QR (some (.int (b2_ (ft_ (fun i t => wf_ pa co (kn i) (so i) (bi i) t) ty n))))) 0 0 (fun _ => False) := by
  refine Met.ofW (cc := kc_A_fit) (maxL := 4) (ret := (some .boolean)) (by decide) rfl ?_
  intro p e s m args below meth c s₁ B hml hv
  obtain ⟨rfl, hC, hP⟩ := hv
  have hx := B.exec
  have hb := B.bytes
  have hr := B.returns
  have hlocks := B.notSynchronized
  have hown : s.vm.findClass "HostBridge$Arguments" = some m.cls := findClass_of_methodNamed B.named
  have hS : va_S (fun _ => False) s.heap s.heap [] := va_S.rf
  have hK := hC.K
  have hts := hC.ts [.ref h0, .int (nI n), .int ty].toArray
  have hl := lv_entry ([.ref h0, .int (nI n), .int ty]) (n := 4) (Nat.le_of_ble_eq_true rfl)
  rw [lg_entry_eq]
  generalize (lg_sl ([.ref h0, .int (nI n), .int ty]) ++ List.replicate (4 - (lg_sl ([.ref h0, .int (nI n), .int ty])).length) Slot.unset).toArray = ls at hl ⊢
  have hl : lv_has ls 4 [(0, .ref h0), (1, .int (nI n)), (2, .int ty)] := hl
  refine lv_iconst (v := 0) hx hb kd_A_fit_0 (by decide) ?_
  refine lv_istore_n (lv' := [(3, .int 0), (0, .ref h0), (1, .int (nI n)), (2, .int ty)]) hx hb kd_A_fit_1 rfl hl (by decide) rfl (fun ls hl => ?_)
  refine hx_loopR (σ := Nat) (I := fun i ls => lv_has ls 4 [(0, .ref h0), (1, .int (nI n)), (2, .int ty), (3, .int (nI i))] ∧ i ≤ n ∧ (∀ j, j < i → ¬ wf_ pa co (kn j) (so j) (bi j) (ty_N ty n j) = -1)) (μ := fun i => n - i) ?_ 0 ⟨lv_sub hl [1, 2, 3, 0] rfl, Nat.zero_le _, fun j h => absurd h (Nat.not_lt_zero j)⟩
  intro i ls hI ih2
  obtain ⟨hl, hi, hall⟩ := hI
  refine lv_iload_n hx hb kd_A_fit_2 rfl (lv_at hl 3 rfl) ?_
  refine lv_iload_n hx hb kd_A_fit_3 rfl (lv_at hl 1 rfl) ?_
  refine lv_icmp_ge (tgt := 30) hx hb kd_A_fit_4 (by decide) (fun c_4 => ?_) (fun c_4 => ?_)
  · skip
    have hin : i = n := by rw [nI_leI (by omega) (by omega)] at c_4; omega
    refine lv_iconst (v := 1) hx hb kd_A_fit_30 (by decide) ?_
    exact hx_zretR hx hb hr hlocks (by rw [ft_, decide_eq_true (fun j hj => hall j (by omega))]; rfl) kd_A_fit_31
  · skip
    have hin : i < n := by rw [nI_leI (by omega) (by omega)] at c_4; omega
    refine lv_aload_n hx hb kd_A_fit_7 rfl (lv_at hl 0 rfl) ?_
    refine lv_iload_n hx hb kd_A_fit_8 rfl (lv_at hl 3 rfl) ?_
    refine lv_iload_n hx hb kd_A_fit_9 rfl (lv_at hl 2 rfl) ?_
    refine lv_iload_n hx hb kd_A_fit_10 rfl (lv_at hl 1 rfl) ?_
    refine lv_iload_n hx hb kd_A_fit_11 rfl (lv_at hl 3 rfl) ?_
    refine hx_callRi (va_runSN (As := [.int ty, .int (nI n), .int (nI i)]) (rest := [.int (nI i), .ref h0]) ⟨hx, hb, hml, hown, hts⟩ (mc_B_typeAt ty n i hin hn) ⟨va_cnB 3 hts (goodIn_sub (hx_m1 km_316) (by decide +kernel)) rfl rfl rfl (va_Nw.of rfl (hts _ km_444)) (hts _ km_1) (by decide +kernel) ⟨Nat.le_of_ble_eq_true rfl, Nat.le_of_ble_eq_true rfl⟩, hts _ km_315, trivial⟩ (pr_S (hC.S hS) hP [] rfl) rfl rfl hl.1 rfl (lv_room (Nat.le_of_ble_eq_true rfl)) kd_A_fit_12 ⟨Nat.le_of_ble_eq_true rfl, Nat.le_of_ble_eq_true rfl⟩) ?_
    refine hx_callRi (va_runV (As := [.int (nI i), .int (nI (ty_N ty n i))]) (rest := []) ⟨hx, hb, hml, hown, hts⟩ (mc_A_weightFor h0 hw a1 a2 a3 b1 b2 na nc no kn so pa co bi i (ty_N ty n i) (by omega) (hok i hin) hln hno hco (ty_lt ty n i)) (cwV 2 hts (goodIn_sub (hx_m5 km_445 km_405 km_406 km_4 km_407) (by decide +kernel)) rfl rfl rfl (by decide +kernel) ⟨Nat.le_of_ble_eq_true rfl, Nat.le_of_ble_eq_true rfl⟩) (pr_V (hC.S hS) hP [0, 1, 2, 3, 4, 5, 6] rfl (ci := 3) rfl (q0 := 0) rfl) rfl rfl hl.1 rfl (lv_room (Nat.le_of_ble_eq_true rfl)) kd_A_fit_15 ⟨Nat.le_of_ble_eq_true rfl, Nat.le_of_ble_eq_true rfl⟩) ?_
    refine lv_iconst (v := -1) hx hb kd_A_fit_18 (by decide) ?_
    refine lv_icmp_ne (tgt := 24) hx hb kd_A_fit_19 (by decide) (fun c_19 => ?_) (fun c_19 => ?_)
    · skip
      refine lv_iinc (v := nI (i + 1)) (lv' := [(3, .int (nI (i + 1))), (0, .ref h0), (1, .int (nI n)), (2, .int ty)]) hx hb kd_A_fit_24 hl (k := 3) rfl (nI_1 i) (by decide) rfl (fun ls hl => ?_)
      refine lv_goto (tgt := 2) hx hb kd_A_fit_27 (by decide) ?_
      exact ih2 (i + 1) _ (by omega) ⟨lv_sub hl [1, 2, 3, 0] rfl, by omega, fun j hj => (Nat.lt_succ_iff_lt_or_eq.mp hj).elim (hall j) (fun e => by rw [e]; exact c_19)⟩
    · skip
      refine lv_iconst (v := 0) hx hb kd_A_fit_22 (by decide) ?_
      exact hx_zretR hx hb hr hlocks (by rw [ft_, decide_eq_false (fun h => h i hin c_19)]; rfl) kd_A_fit_23

def cv_ (kn : Nat → Int32) (bi : Nat → Int64) (i : Nat) (t : Int32) : Int64 := (if t = 0 then (if (kn i) = 3 then (nu_truth (bi i)) else (bi i)) else (if t = 1 then (nu_whole (bi i)) else (if t = 2 then (nu_whole (bi i)) else (if t = 3 then (bi i) else (if 6 ≤ t then (if (kn i) = 1 then (-1) else (bi i)) else ((kn i).toInt64))))))
set_option maxHeartbeats 4000000 in
set_option maxRecDepth 100000 in
theorem mc_A_convert {l : Launch} {D : va_G} {cI cL cZ : ClassId} {tb : Nat} (h0 hw a1 a2 a3 na : Nat) (kn so : Nat → Int32) (bi : Nat → Int64) (i : Nat) (t : Int32) (hi : i < 4) : Met l ky_A_convert kw_A_convert { frames := 3, cells := 0, slots := 0, locals := 68 } (pr_P D cI cL cZ tb [(h0, .inr (3, [.ref hw, .ref a1, .ref a2, .ref a3, .int (nI na)])), (a1, .inl (cI, 4, .inl kn)), (a2, .inl (cI, 4, .inl so)), (a3, .inl (cL, 4, .inr (.inl bi)))] [.ref h0, .int (nI i), .int t]) (hx_QR (some (.long (cv_ kn bi i t)))) 0 0 (fun _ => False) := by
  refine Met.ofW (cc := kc_A_convert) (maxL := 3) (ret := (some .long)) (by decide) rfl ?_
  intro p e s m args below meth c s₁ B hml hv
  obtain ⟨rfl, hC, hP⟩ := hv
  have hx := B.exec
  have hb := B.bytes
  have hr := B.returns
  have hlocks := B.notSynchronized
  have hown : s.vm.findClass "HostBridge$Arguments" = some m.cls := findClass_of_methodNamed B.named
  have hS : va_S (fun _ => False) s.heap s.heap [] := va_S.rf
  have hK := hC.K
  have hts := hC.ts [.ref h0, .int (nI i), .int t].toArray
  have hl := lv_entry ([.ref h0, .int (nI i), .int t]) (n := 3) (Nat.le_of_ble_eq_true rfl)
  rw [lg_entry_eq]
  generalize (lg_sl ([.ref h0, .int (nI i), .int t]) ++ List.replicate (3 - (lg_sl ([.ref h0, .int (nI i), .int t])).length) Slot.unset).toArray = ls at hl ⊢
  have hl : lv_has ls 3 [(0, .ref h0), (1, .int (nI i)), (2, .int t)] := hl
  refine lv_iload_n hx hb kd_A_convert_0 rfl (lv_at hl 2 rfl) ?_
  refine lv_if_ne (tgt := 33) hx hb kd_A_convert_1 (by decide) (fun c_1 => ?_) (fun c_1 => ?_)
  · skip
    refine lv_iload_n hx hb kd_A_convert_33 rfl (lv_at hl 2 rfl) ?_
    refine lv_iconst (v := 1) hx hb kd_A_convert_34 (by decide) ?_
    refine lv_icmp_eq (tgt := 43) hx hb kd_A_convert_35 (by decide) (fun c_35 => ?_) (fun c_35 => ?_)
    · skip
      refine lv_aload_n hx hb kd_A_convert_43 rfl (lv_at hl 0 rfl) ?_
      refine va_get (D := D) (ci := 3) (v := .ref a3) (C := "HostBridge$Arguments") (T := ct_A) (N := 5) hx hb hts cw_A hown hK hP 0 rfl rfl 3 (by decide) (hts _ km_87) (fun _ h9 => h9) rfl kd_A_convert_44 ?_
      refine lv_iload_n hx hb kd_A_convert_47 rfl (lv_at hl 1 rfl) ?_
      refine hx_lald (j := i) hx hb hK hP 3 rfl (rfl) (hi) (by decide) kd_A_convert_48 ?_
      refine hx_callRl (va_runS (As := [.long (bi i)]) (rest := []) ⟨hx, hb, hml, hown, hts⟩ (mc_N_wholeOf (bi i)) (va_cwS 1 hts (goodIn_sub (hx_m4 km_514 km_392 km_14 km_393) (by decide +kernel)) rfl rfl rfl (by decide +kernel) ⟨Nat.le_of_ble_eq_true rfl, Nat.le_of_ble_eq_true rfl⟩) (pr_S (hC.S hS) hP [] rfl) rfl rfl hl.1 rfl (lv_room (Nat.le_of_ble_eq_true rfl)) kd_A_convert_49 ⟨Nat.le_of_ble_eq_true rfl, Nat.le_of_ble_eq_true rfl⟩) ?_
      exact hx_lretR hx hb hr hlocks (by unfold cv_; rw [if_neg c_1, if_pos c_35]; try rfl) kd_A_convert_52
    · skip
      refine lv_iload_n hx hb kd_A_convert_38 rfl (lv_at hl 2 rfl) ?_
      refine lv_iconst (v := 2) hx hb kd_A_convert_39 (by decide) ?_
      refine lv_icmp_ne (tgt := 53) hx hb kd_A_convert_40 (by decide) (fun c_40 => ?_) (fun c_40 => ?_)
      · skip
        refine lv_iload_n hx hb kd_A_convert_53 rfl (lv_at hl 2 rfl) ?_
        refine lv_iconst (v := 3) hx hb kd_A_convert_54 (by decide) ?_
        refine lv_icmp_ne (tgt := 65) hx hb kd_A_convert_55 (by decide) (fun c_55 => ?_) (fun c_55 => ?_)
        · skip
          refine lv_iload_n hx hb kd_A_convert_65 rfl (lv_at hl 2 rfl) ?_
          refine lv_bipush (v := 6) hx hb kd_A_convert_66 (by decide) ?_
          refine lv_icmp_ge (tgt := 79) hx hb kd_A_convert_68 (by decide) (fun c_68 => ?_) (fun c_68 => ?_)
          · skip
            refine lv_aload_n hx hb kd_A_convert_79 rfl (lv_at hl 0 rfl) ?_
            refine va_get (D := D) (ci := 3) (v := .ref a1) (C := "HostBridge$Arguments") (T := ct_A) (N := 5) hx hb hts cw_A hown hK hP 0 rfl rfl 1 (by decide) (hts _ km_85) (fun _ h9 => h9) rfl kd_A_convert_80 ?_
            refine lv_iload_n hx hb kd_A_convert_83 rfl (lv_at hl 1 rfl) ?_
            refine hx_iald (j := i) hx hb hK hP 1 rfl (rfl) (hi) (by decide) kd_A_convert_84 ?_
            refine lv_iconst (v := 1) hx hb kd_A_convert_85 (by decide) ?_
            refine lv_icmp_ne (tgt := 95) hx hb kd_A_convert_86 (by decide) (fun c_86 => ?_) (fun c_86 => ?_)
            · skip
              refine lv_aload_n hx hb kd_A_convert_95 rfl (lv_at hl 0 rfl) ?_
              refine va_get (D := D) (ci := 3) (v := .ref a3) (C := "HostBridge$Arguments") (T := ct_A) (N := 5) hx hb hts cw_A hown hK hP 0 rfl rfl 3 (by decide) (hts _ km_87) (fun _ h9 => h9) rfl kd_A_convert_96 ?_
              refine lv_iload_n hx hb kd_A_convert_99 rfl (lv_at hl 1 rfl) ?_
              refine hx_lald (j := i) hx hb hK hP 3 rfl (rfl) (hi) (by decide) kd_A_convert_100 ?_
              exact hx_lretR hx hb hr hlocks (by unfold cv_; rw [if_neg c_1, if_neg c_35, if_neg c_40, if_neg c_55, if_pos c_68, if_neg c_86]; try rfl) kd_A_convert_101
            · skip
              refine lv_ldc2 (v := -1) hx hb hown (hts _ km_515) kd_A_convert_89 ?_
              refine lv_goto (tgt := 101) hx hb kd_A_convert_92 (by decide) ?_
              exact hx_lretR hx hb hr hlocks (by unfold cv_; rw [if_neg c_1, if_neg c_35, if_neg c_40, if_neg c_55, if_pos c_68, if_pos c_86]; try rfl) kd_A_convert_101
          · skip
            refine lv_aload_n hx hb kd_A_convert_71 rfl (lv_at hl 0 rfl) ?_
            refine va_get (D := D) (ci := 3) (v := .ref a1) (C := "HostBridge$Arguments") (T := ct_A) (N := 5) hx hb hts cw_A hown hK hP 0 rfl rfl 1 (by decide) (hts _ km_85) (fun _ h9 => h9) rfl kd_A_convert_72 ?_
            refine lv_iload_n hx hb kd_A_convert_75 rfl (lv_at hl 1 rfl) ?_
            refine hx_iald (j := i) hx hb hK hP 1 rfl (rfl) (hi) (by decide) kd_A_convert_76 ?_
            refine lv_i2l hx hb kd_A_convert_77 rfl ?_
            exact hx_lretR hx hb hr hlocks (by unfold cv_; rw [if_neg c_1, if_neg c_35, if_neg c_40, if_neg c_55, if_neg c_68]; try rfl) kd_A_convert_78
        · skip
          refine lv_aload_n hx hb kd_A_convert_58 rfl (lv_at hl 0 rfl) ?_
          refine va_get (D := D) (ci := 3) (v := .ref a3) (C := "HostBridge$Arguments") (T := ct_A) (N := 5) hx hb hts cw_A hown hK hP 0 rfl rfl 3 (by decide) (hts _ km_87) (fun _ h9 => h9) rfl kd_A_convert_59 ?_
          refine lv_iload_n hx hb kd_A_convert_62 rfl (lv_at hl 1 rfl) ?_
          refine hx_lald (j := i) hx hb hK hP 3 rfl (rfl) (hi) (by decide) kd_A_convert_63 ?_
          exact hx_lretR hx hb hr hlocks (by unfold cv_; rw [if_neg c_1, if_neg c_35, if_neg c_40, if_pos c_55]; try rfl) kd_A_convert_64
      · skip
        refine lv_aload_n hx hb kd_A_convert_43 rfl (lv_at hl 0 rfl) ?_
        refine va_get (D := D) (ci := 3) (v := .ref a3) (C := "HostBridge$Arguments") (T := ct_A) (N := 5) hx hb hts cw_A hown hK hP 0 rfl rfl 3 (by decide) (hts _ km_87) (fun _ h9 => h9) rfl kd_A_convert_44 ?_
        refine lv_iload_n hx hb kd_A_convert_47 rfl (lv_at hl 1 rfl) ?_
        refine hx_lald (j := i) hx hb hK hP 3 rfl (rfl) (hi) (by decide) kd_A_convert_48 ?_
        refine hx_callRl (va_runS (As := [.long (bi i)]) (rest := []) ⟨hx, hb, hml, hown, hts⟩ (mc_N_wholeOf (bi i)) (va_cwS 1 hts (goodIn_sub (hx_m4 km_514 km_392 km_14 km_393) (by decide +kernel)) rfl rfl rfl (by decide +kernel) ⟨Nat.le_of_ble_eq_true rfl, Nat.le_of_ble_eq_true rfl⟩) (pr_S (hC.S hS) hP [] rfl) rfl rfl hl.1 rfl (lv_room (Nat.le_of_ble_eq_true rfl)) kd_A_convert_49 ⟨Nat.le_of_ble_eq_true rfl, Nat.le_of_ble_eq_true rfl⟩) ?_
        exact hx_lretR hx hb hr hlocks (by unfold cv_; rw [if_neg c_1, if_neg c_35, if_pos c_40]; try rfl) kd_A_convert_52
  · skip
    refine lv_aload_n hx hb kd_A_convert_4 rfl (lv_at hl 0 rfl) ?_
    refine va_get (D := D) (ci := 3) (v := .ref a1) (C := "HostBridge$Arguments") (T := ct_A) (N := 5) hx hb hts cw_A hown hK hP 0 rfl rfl 1 (by decide) (hts _ km_85) (fun _ h9 => h9) rfl kd_A_convert_5 ?_
    refine lv_iload_n hx hb kd_A_convert_8 rfl (lv_at hl 1 rfl) ?_
    refine hx_iald (j := i) hx hb hK hP 1 rfl (rfl) (hi) (by decide) kd_A_convert_9 ?_
    refine lv_iconst (v := 3) hx hb kd_A_convert_10 (by decide) ?_
    refine lv_icmp_ne (tgt := 26) hx hb kd_A_convert_11 (by decide) (fun c_11 => ?_) (fun c_11 => ?_)
    · skip
      refine lv_aload_n hx hb kd_A_convert_26 rfl (lv_at hl 0 rfl) ?_
      refine va_get (D := D) (ci := 3) (v := .ref a3) (C := "HostBridge$Arguments") (T := ct_A) (N := 5) hx hb hts cw_A hown hK hP 0 rfl rfl 3 (by decide) (hts _ km_87) (fun _ h9 => h9) rfl kd_A_convert_27 ?_
      refine lv_iload_n hx hb kd_A_convert_30 rfl (lv_at hl 1 rfl) ?_
      refine hx_lald (j := i) hx hb hK hP 3 rfl (rfl) (hi) (by decide) kd_A_convert_31 ?_
      exact hx_lretR hx hb hr hlocks (by unfold cv_; rw [if_pos c_1, if_neg c_11]; try rfl) kd_A_convert_32
    · skip
      refine lv_aload_n hx hb kd_A_convert_14 rfl (lv_at hl 0 rfl) ?_
      refine va_get (D := D) (ci := 3) (v := .ref a3) (C := "HostBridge$Arguments") (T := ct_A) (N := 5) hx hb hts cw_A hown hK hP 0 rfl rfl 3 (by decide) (hts _ km_87) (fun _ h9 => h9) rfl kd_A_convert_15 ?_
      refine lv_iload_n hx hb kd_A_convert_18 rfl (lv_at hl 1 rfl) ?_
      refine hx_lald (j := i) hx hb hK hP 3 rfl (rfl) (hi) (by decide) kd_A_convert_19 ?_
      refine hx_callRl (va_runS (As := [.long (bi i)]) (rest := []) ⟨hx, hb, hml, hown, hts⟩ (mc_N_truthOf (bi i)) (va_cwS 1 hts (goodIn_sub (hx_m4 km_507 km_508 km_14 km_509) (by decide +kernel)) rfl rfl rfl (by decide +kernel) ⟨Nat.le_of_ble_eq_true rfl, Nat.le_of_ble_eq_true rfl⟩) (pr_S (hC.S hS) hP [] rfl) rfl rfl hl.1 rfl (lv_room (Nat.le_of_ble_eq_true rfl)) kd_A_convert_20 ⟨Nat.le_of_ble_eq_true rfl, Nat.le_of_ble_eq_true rfl⟩) ?_
      refine lv_goto (tgt := 32) hx hb kd_A_convert_23 (by decide) ?_
      exact hx_lretR hx hb hr hlocks (by unfold cv_; rw [if_pos c_1, if_pos c_11]; try rfl) kd_A_convert_32
end
section
/-! WHICH METHOD A CALL IS GIVEN (HostBridge$Choice) -/
/-- the candidates' row: the list ahead, what lay there behind -/
def cf_ (L : List Nat) (ca : Nat → Int32) : Nat → Int32 := fun c => if c < L.length then nI (L.getD c 0) else ca c
theorem cf_nil (ca : Nat → Int32) : cf_ [] ca = ca := by
  funext c
  simp [cf_]
theorem cf_push (L : List Nat) (ca : Nat → Int32) (m : Nat) : upd (cf_ L ca) L.length (nI m) = cf_ (L ++ [m]) ca := by
  funext c
  simp only [upd, cf_, List.length_append, List.length_singleton]
  by_cases h : c = L.length
  · subst h
    rw [if_pos rfl, if_pos (by omega)]
    simp
  · rw [if_neg h]
    by_cases h2 : c < L.length
    · rw [if_pos h2, if_pos (by omega)]
      simp [List.getD_eq_getElem?_getD, List.getElem?_append_left h2]
    · rw [if_neg h2, if_neg (by omega)]
theorem cf_at {L : List Nat} {ca : Nat → Int32} {c : Nat} (h : c < L.length) : cf_ L ca c = nI (L[c]) := by
  simp [cf_, h, List.getD_eq_getElem?_getD]
theorem dr_at {L : List Nat} {c : Nat} (h : c < L.length) : L.drop c = L[c] :: L.drop (c + 1) := List.drop_eq_getElem_cons h
/-- the first along the line for which F answers -/
def fs_ (F : Int32 → Int32) (pa : Nat → Int32) : Nat → Int32 → Int32
  | 0, _ => -1
  | f + 1, k => if k = -1 then -1 else if F k = -1 then fs_ F pa f (pa k.toNatClampNeg) else F k
/-- the weight of argument i for method j -/
def wg_ (pa co kn so : Nat → Int32) (bi : Nat → Int64) (ty : Nat → Int32) (n j i : Nat) : Int32 := wf_ pa co (kn i) (so i) (bi i) (ty_N (ty j) n i)
def mn_ (x y : Int32) : Int32 := if y < x then y else x
/-- the lowest weight of argument i -/
def lw_ (g : Nat → Int32) : List Nat → Int32
  | [] => 0
  | a :: r => r.foldl (fun m c => mn_ m (g c)) (g a)
/-- the only one for which P holds; -1 when there is none, or another -/
def bb_ (P : Nat → Bool) : List Nat → Int32 → Int32
  | [], b => b
  | c :: r, b => if P c = true then (if b = -1 then bb_ P r (nI c) else -1) else bb_ P r b
/-- the methods of one class that are gathered -/
def gf_ (P : Nat → Bool) (hid : List Nat → Nat → Bool) : Nat → Nat → List Nat → List Nat
  | 0, _, L => L
  | f + 1, m, L => if L.length < 64 then (if P m = true ∧ hid L m = false then gf_ P hid f (m + 1) (L ++ [m]) else gf_ P hid f (m + 1) L) else L
/-- those of the line -/
def ga_ (G : Int32 → List Nat → List Nat) (pa : Nat → Int32) : Nat → Int32 → List Nat → List Nat
  | 0, _, L => L
  | f + 1, k, L => if k = -1 then L else ga_ G pa f (pa k.toNatClampNeg) (G k L)
def hd_ (ty : Nat → Int32) (L : List Nat) (m : Nat) : Bool := L.any (fun c => decide (ty c = ty m))

set_option maxHeartbeats 4000000 in
set_option maxRecDepth 100000 in
theorem mc_C_first {l : Launch} {D : va_G} {cI cL cZ : ClassId} {tb : Nat} (h0 hw hm ha b1 b2 m1 m2 m3 m4 a1 a2 a3 c1 c2 nc no nm nar : Nat) (pa co ho nn si ty kn so ca lo : Nat → Int32) (bi : Nat → Int64) (L : List Nat) (k0 n mn tw : Int32) (hok : ln_ok nc pa) (hk0 : ln_k nc k0) (hnm : nm ≤ 64) : Met l ky_C_first kw_C_first { frames := 2, cells := 0, slots := 0, locals := 49 } (pr_P D cI cL cZ tb [(h0, .inr (4, [.ref hw, .ref hm, .ref ha, .ref c1, .ref c2, .int (nI L.length)])), (hw, .inr (1, [.ref b1, .ref b2, .int (nI nc), .int (nI no)])), (b1, .inl (cI, 16, .inl pa)), (hm, .inr (2, [.ref m1, .ref m2, .ref m3, .ref m4, .int (nI nm)])), (m1, .inl (cI, 64, .inl ho)), (m2, .inl (cI, 64, .inl nn)), (m3, .inl (cI, 64, .inl si)), (m4, .inl (cI, 64, .inl ty))] [.ref h0, .int k0, .int n, .int mn, .int tw]) (hx_QR (some (.int (fs_ (fun k => fd_ (mm_ ho nn si ty k n mn tw) nm 0) pa 16 k0)))) 0 0 (fun _ => False) := by
  refine Met.ofW (cc := kc_C_first) (maxL := 8) (ret := (some .int)) (by decide) rfl ?_
  intro p e s m args below meth c s₁ B hml hv
  obtain ⟨rfl, hC, hP⟩ := hv
  have hx := B.exec
  have hb := B.bytes
  have hr := B.returns
  have hlocks := B.notSynchronized
  have hown : s.vm.findClass "HostBridge$Choice" = some m.cls := findClass_of_methodNamed B.named
  have hS : va_S (fun _ => False) s.heap s.heap [] := va_S.rf
  have hK := hC.K
  have hts := hC.ts [.ref h0, .int k0, .int n, .int mn, .int tw].toArray
  have hl := lv_entry ([.ref h0, .int k0, .int n, .int mn, .int tw]) (n := 8) (Nat.le_of_ble_eq_true rfl)
  rw [lg_entry_eq]
  generalize (lg_sl ([.ref h0, .int k0, .int n, .int mn, .int tw]) ++ List.replicate (8 - (lg_sl ([.ref h0, .int k0, .int n, .int mn, .int tw])).length) Slot.unset).toArray = ls at hl ⊢
  have hl : lv_has ls 8 [(0, .ref h0), (1, .int k0), (2, .int n), (3, .int mn), (4, .int tw)] := hl
  refine lv_iload_n hx hb kd_C_first_0 rfl (lv_at hl 1 rfl) ?_
  refine lv_istore (lv' := [(5, .int k0), (0, .ref h0), (1, .int k0), (2, .int n), (3, .int mn), (4, .int tw)]) hx hb kd_C_first_1 hl (by decide) rfl (fun ls hl => ?_)
  refine lv_iconst (v := 0) hx hb kd_C_first_3 (by decide) ?_
  refine lv_istore (lv' := [(6, .int 0), (5, .int k0), (0, .ref h0), (1, .int k0), (2, .int n), (3, .int mn), (4, .int tw)]) hx hb kd_C_first_4 hl (by decide) rfl (fun ls hl => ?_)
  refine hx_loopR (σ := Nat × Int32) (I := fun x ls => lv_has ls 8 [(0, .ref h0), (2, .int n), (3, .int mn), (4, .int tw), (5, .int x.2), (6, .int (nI x.1))] ∧ x.1 ≤ 16 ∧ ln_k nc x.2 ∧ fs_ (fun k => fd_ (mm_ ho nn si ty k n mn tw) nm 0) pa (16 - x.1) x.2 = fs_ (fun k => fd_ (mm_ ho nn si ty k n mn tw) nm 0) pa 16 k0) (μ := fun x => 16 - x.1) ?_ (0, k0) ⟨lv_sub hl [2, 4, 5, 6, 1, 0] rfl, Nat.zero_le _, hk0, rfl⟩
  intro x ls hI ih6
  obtain ⟨q, k⟩ := x
  obtain ⟨hl, hq, hk, hd⟩ := hI
  dsimp only at hl hq hk hd ih6
  refine lv_iload hx hb kd_C_first_6 (lv_at hl 5 rfl) ?_
  refine lv_bipush (v := 16) hx hb kd_C_first_8 (by decide) ?_
  refine lv_icmp_ge (tgt := 61) hx hb kd_C_first_10 (by decide) (fun c_10 => ?_) (fun c_10 => ?_)
  · skip
    have h16 : q = 16 := by
      have h9 : nI 16 ≤ nI q := c_10
      rw [nI_leI (by decide) (by omega)] at h9; omega
    refine lv_iconst (v := -1) hx hb kd_C_first_61 (by decide) ?_
    exact hx_iretR hx hb hr hlocks (by rw [← hd, h16]; rfl) kd_C_first_62
  · skip
    have h16 : q < 16 := by
      have h9 : ¬ nI 16 ≤ nI q := c_10
      rw [nI_leI (by decide) (by omega)] at h9; omega
    have hf : 16 - q = (15 - q) + 1 := by omega
    refine lv_iload hx hb kd_C_first_13 (lv_at hl 4 rfl) ?_
    refine lv_iconst (v := -1) hx hb kd_C_first_15 (by decide) ?_
    refine lv_icmp_eq (tgt := 61) hx hb kd_C_first_16 (by decide) (fun c_16 => ?_) (fun c_16 => ?_)
    · skip
      refine lv_iconst (v := -1) hx hb kd_C_first_61 (by decide) ?_
      exact hx_iretR hx hb hr hlocks (by rw [← hd, hf]; simp only [fs_]; rw [if_pos c_16]) kd_C_first_62
    · skip
      obtain ⟨j, hj, rfl⟩ := hk.resolve_left c_16
      refine lv_aload_n hx hb kd_C_first_19 rfl (lv_at hl 0 rfl) ?_
      refine va_get (D := D) (ci := 4) (v := .ref hm) (C := "HostBridge$Choice") (T := ct_C) (N := 6) hx hb hts cw_C hown hK hP 0 rfl rfl 1 (by decide) (hts _ km_109) (fun _ h9 => h9) rfl kd_C_first_20 ?_
      refine lv_iload hx hb kd_C_first_23 (lv_at hl 4 rfl) ?_
      refine lv_iload_n hx hb kd_C_first_25 rfl (lv_at hl 1 rfl) ?_
      refine lv_iload_n hx hb kd_C_first_26 rfl (lv_at hl 2 rfl) ?_
      refine lv_iload hx hb kd_C_first_27 (lv_at hl 3 rfl) ?_
      refine hx_callRi (va_runV (As := [.int (nI j), .int n, .int mn, .int tw]) (rest := []) ⟨hx, hb, hml, hown, hts⟩ (mc_M_find hm m1 m2 m3 m4 nm ho nn si ty (nI j) n mn tw hnm) (cwV 4 hts (goodIn_sub (hx_m5 km_539 km_324 km_325 km_3 km_326) (by decide +kernel)) rfl rfl rfl (by decide +kernel) ⟨Nat.le_of_ble_eq_true rfl, Nat.le_of_ble_eq_true rfl⟩) (pr_V (hC.S hS) hP [3, 4, 5, 6, 7] rfl (ci := 2) rfl (q0 := 0) rfl) rfl rfl hl.1 rfl (lv_room (Nat.le_of_ble_eq_true rfl)) kd_C_first_29 ⟨Nat.le_of_ble_eq_true rfl, Nat.le_of_ble_eq_true rfl⟩) ?_
      refine lv_istore (lv' := [(7, .int (fd_ (mm_ ho nn si ty (nI j) n mn tw) nm 0)), (0, .ref h0), (2, .int n), (3, .int mn), (4, .int tw), (5, .int (nI j)), (6, .int (nI q))]) hx hb kd_C_first_32 hl (by decide) rfl (fun ls hl => ?_)
      refine lv_iload hx hb kd_C_first_34 (lv_at hl 0 rfl) ?_
      refine lv_iconst (v := -1) hx hb kd_C_first_36 (by decide) ?_
      refine lv_icmp_eq (tgt := 43) hx hb kd_C_first_37 (by decide) (fun c_37 => ?_) (fun c_37 => ?_)
      · skip
        refine lv_aload_n hx hb kd_C_first_43 rfl (lv_at hl 1 rfl) ?_
        refine va_get (D := D) (ci := 4) (v := .ref hw) (C := "HostBridge$Choice") (T := ct_C) (N := 6) hx hb hts cw_C hown hK hP 0 rfl rfl 0 (by decide) (hts _ km_108) (fun _ h9 => h9) rfl kd_C_first_44 ?_
        refine va_getN (host := "HostBridge") (D := D) (ci := 1) (v := .ref b1) (C := "HostBridge$World") (T := ct_W) (N := 4) hx hb hts cw_W hown hK hP 1 rfl rfl 0 (by decide) (hts _ km_33) (fun _ h9 => h9) rfl kd_C_first_47 ?_
        refine lv_iload hx hb kd_C_first_50 (lv_at hl 5 rfl) ?_
        refine hx_iald (j := j) hx hb hK hP 2 rfl (rfl) (by have := hok.1; omega) (by decide) kd_C_first_52 ?_
        refine lv_istore (lv' := [(5, .int (pa j)), (7, .int (fd_ (mm_ ho nn si ty (nI j) n mn tw) nm 0)), (0, .ref h0), (2, .int n), (3, .int mn), (4, .int tw), (6, .int (nI q))]) hx hb kd_C_first_53 hl (by decide) rfl (fun ls hl => ?_)
        refine lv_iinc (v := nI (q + 1)) (lv' := [(6, .int (nI (q + 1))), (5, .int (pa j)), (7, .int (fd_ (mm_ ho nn si ty (nI j) n mn tw) nm 0)), (0, .ref h0), (2, .int n), (3, .int mn), (4, .int tw)]) hx hb kd_C_first_55 hl (k := 6) rfl (nI_1 q) (by decide) rfl (fun ls hl => ?_)
        refine lv_goto (tgt := 6) hx hb kd_C_first_58 (by decide) ?_
        exact ih6 (q + 1, pa j) _ (by dsimp only; omega) ⟨lv_sub hl [3, 4, 5, 6, 1, 0] rfl, by dsimp only; omega, hok.at hj, by dsimp only; rw [← hd, hf, show 16 - (q + 1) = 15 - q by omega]; simp only [fs_]; rw [if_neg c_16, if_pos c_37, nI_clamp (by have := hok.1; omega)]⟩
      · skip
        refine lv_iload hx hb kd_C_first_40 (lv_at hl 0 rfl) ?_
        exact hx_iretR hx hb hr hlocks (by rw [← hd, hf]; simp only [fs_]; rw [if_neg c_16, if_neg c_37]) kd_C_first_42

set_option maxHeartbeats 4000000 in
set_option maxRecDepth 100000 in
theorem mc_C_isHidden {l : Launch} {D : va_G} {cI cL cZ : ClassId} {tb : Nat} (h0 hw hm ha b1 b2 m1 m2 m3 m4 a1 a2 a3 c1 c2 nc no nm nar : Nat) (pa co ho nn si ty kn so ca lo : Nat → Int32) (bi : Nat → Int64) (L : List Nat) (j : Nat) (hj : j < 64) (hL : ∀ c ∈ L, c < 64) (hLl : L.length ≤ 64) : Met l ky_C_isHidden kw_C_isHidden { frames := 0, cells := 0, slots := 0, locals := 0 } (pr_P D cI cL cZ tb [(h0, .inr (4, [.ref hw, .ref hm, .ref ha, .ref c1, .ref c2, .int (nI L.length)])), (hm, .inr (2, [.ref m1, .ref m2, .ref m3, .ref m4, .int (nI nm)])), (m4, .inl (cI, 64, .inl ty)), (c1, .inl (cI, 64, .inl (cf_ L ca)))] [.ref h0, .int (nI j)]) (hx_QR (some (.int (b2_ (hd_ ty L j))))) 0 0 (fun _ => False) := by
  refine Met.ofW (cc := kc_C_isHidden) (maxL := 3) (ret := (some .boolean)) (by decide) rfl ?_
  intro p e s m args below meth c s₁ B hml hv
  obtain ⟨rfl, hC, hP⟩ := hv
  have hx := B.exec
  have hb := B.bytes
  have hr := B.returns
  have hlocks := B.notSynchronized
  have hown : s.vm.findClass "HostBridge$Choice" = some m.cls := findClass_of_methodNamed B.named
  have hS : va_S (fun _ => False) s.heap s.heap [] := va_S.rf
  have hK := hC.K
  have hts := hC.ts [.ref h0, .int (nI j)].toArray
  have hl := lv_entry ([.ref h0, .int (nI j)]) (n := 3) (Nat.le_of_ble_eq_true rfl)
  rw [lg_entry_eq]
  generalize (lg_sl ([.ref h0, .int (nI j)]) ++ List.replicate (3 - (lg_sl ([.ref h0, .int (nI j)])).length) Slot.unset).toArray = ls at hl ⊢
  have hl : lv_has ls 3 [(0, .ref h0), (1, .int (nI j))] := hl
  refine lv_iconst (v := 0) hx hb kd_C_isHidden_0 (by decide) ?_
  refine lv_istore_n (lv' := [(2, .int 0), (0, .ref h0), (1, .int (nI j))]) hx hb kd_C_isHidden_1 rfl hl (by decide) rfl (fun ls hl => ?_)
  refine hx_loopR (σ := Nat) (I := fun c9 ls => lv_has ls 3 [(0, .ref h0), (1, .int (nI j)), (2, .int (nI c9))] ∧ c9 ≤ L.length ∧ hd_ ty (L.drop c9) j = hd_ ty L j) (μ := fun c9 => L.length - c9) ?_ 0 ⟨lv_sub hl [1, 2, 0] rfl, Nat.zero_le _, rfl⟩
  intro c9 ls hI ih2
  obtain ⟨hl, hc, hd⟩ := hI
  refine lv_iload_n hx hb kd_C_isHidden_2 rfl (lv_at hl 2 rfl) ?_
  refine lv_aload_n hx hb kd_C_isHidden_3 rfl (lv_at hl 0 rfl) ?_
  refine va_get (D := D) (ci := 4) (v := .int (nI L.length)) (C := "HostBridge$Choice") (T := ct_C) (N := 6) hx hb hts cw_C hown hK hP 0 rfl rfl 5 (by decide) (hts _ km_113) (fun _ h9 => h9) rfl kd_C_isHidden_4 ?_
  refine lv_icmp_ge (tgt := 44) hx hb kd_C_isHidden_7 (by decide) (fun c_7 => ?_) (fun c_7 => ?_)
  · skip
    have hin : c9 = L.length := by rw [nI_leI (by omega) (by omega)] at c_7; omega
    refine lv_iconst (v := 0) hx hb kd_C_isHidden_44 (by decide) ?_
    exact hx_zretR hx hb hr hlocks (by rw [← hd, hin, List.drop_length]; rfl) kd_C_isHidden_45
  · skip
    have hin : c9 < L.length := by rw [nI_leI (by omega) (by omega)] at c_7; omega
    refine lv_aload_n hx hb kd_C_isHidden_10 rfl (lv_at hl 0 rfl) ?_
    refine va_get (D := D) (ci := 4) (v := .ref hm) (C := "HostBridge$Choice") (T := ct_C) (N := 6) hx hb hts cw_C hown hK hP 0 rfl rfl 1 (by decide) (hts _ km_109) (fun _ h9 => h9) rfl kd_C_isHidden_11 ?_
    refine va_getN (host := "HostBridge") (D := D) (ci := 2) (v := .ref m4) (C := "HostBridge$Methods") (T := ct_M) (N := 5) hx hb hts cw_M hown hK hP 1 rfl rfl 3 (by decide) (hts _ km_62) (fun _ h9 => h9) rfl kd_C_isHidden_14 ?_
    refine lv_aload_n hx hb kd_C_isHidden_17 rfl (lv_at hl 0 rfl) ?_
    refine va_get (D := D) (ci := 4) (v := .ref c1) (C := "HostBridge$Choice") (T := ct_C) (N := 6) hx hb hts cw_C hown hK hP 0 rfl rfl 3 (by decide) (hts _ km_111) (fun _ h9 => h9) rfl kd_C_isHidden_18 ?_
    refine lv_iload_n hx hb kd_C_isHidden_21 rfl (lv_at hl 2 rfl) ?_
    refine hx_iald (j := c9) hx hb hK hP 3 rfl (rfl) (by omega) (by decide) kd_C_isHidden_22 ?_
    refine hx_topi (y := nI (L[c9])) (cf_at hin) ?_
    refine hx_iald (j := L[c9]) hx hb hK hP 2 rfl (rfl) (hL _ (List.getElem_mem hin)) (by decide) kd_C_isHidden_23 ?_
    refine lv_aload_n hx hb kd_C_isHidden_24 rfl (lv_at hl 0 rfl) ?_
    refine va_get (D := D) (ci := 4) (v := .ref hm) (C := "HostBridge$Choice") (T := ct_C) (N := 6) hx hb hts cw_C hown hK hP 0 rfl rfl 1 (by decide) (hts _ km_109) (fun _ h9 => h9) rfl kd_C_isHidden_25 ?_
    refine va_getN (host := "HostBridge") (D := D) (ci := 2) (v := .ref m4) (C := "HostBridge$Methods") (T := ct_M) (N := 5) hx hb hts cw_M hown hK hP 1 rfl rfl 3 (by decide) (hts _ km_62) (fun _ h9 => h9) rfl kd_C_isHidden_28 ?_
    refine lv_iload_n hx hb kd_C_isHidden_31 rfl (lv_at hl 1 rfl) ?_
    refine hx_iald (j := j) hx hb hK hP 2 rfl (rfl) (hj) (by decide) kd_C_isHidden_32 ?_
    refine lv_icmp_ne (tgt := 38) hx hb kd_C_isHidden_33 (by decide) (fun c_33 => ?_) (fun c_33 => ?_)
    · skip
      refine lv_iinc (v := nI (c9 + 1)) (lv' := [(2, .int (nI (c9 + 1))), (0, .ref h0), (1, .int (nI j))]) hx hb kd_C_isHidden_38 hl (k := 2) rfl (nI_1 c9) (by decide) rfl (fun ls hl => ?_)
      refine lv_goto (tgt := 2) hx hb kd_C_isHidden_41 (by decide) ?_
      exact ih2 (c9 + 1) _ (by omega) ⟨lv_sub hl [1, 2, 0] rfl, by omega, by rw [← hd, dr_at hin, hd_, hd_, List.any_cons, decide_eq_false c_33, Bool.false_or]⟩
    · skip
      refine lv_iconst (v := 1) hx hb kd_C_isHidden_36 (by decide) ?_
      exact hx_zretR hx hb hr hlocks (by rw [← hd, dr_at hin, hd_, List.any_cons, decide_eq_true c_33, Bool.true_or]; rfl) kd_C_isHidden_37

set_option maxHeartbeats 4000000 in
set_option maxRecDepth 100000 in
theorem mc_C_weightIn {l : Launch} {D : va_G} {cI cL cZ : ClassId} {tb : Nat} (h0 hw hm ha b1 b2 m1 m2 m3 m4 a1 a2 a3 c1 c2 nc no nm nar : Nat) (pa co ho nn si ty kn so ca lo : Nat → Int32) (bi : Nat → Int64) (L : List Nat) (n j i : Nat) (hn : n ≤ 4) (hok : ∀ i, i < n → ar_ok no (kn i) (so i) (bi i)) (hln : ln_ok nc pa) (hno : no ≤ 64) (hco : ∀ j, j < no → ∃ q : Nat, q < nc ∧ co j = nI q) (hj : j < 64) (hi : i < n) : Met l ky_C_weightIn kw_C_weightIn { frames := 2, cells := 0, slots := 0, locals := 46 } (pr_P D cI cL cZ tb [(h0, .inr (4, [.ref hw, .ref hm, .ref ha, .ref c1, .ref c2, .int (nI L.length)])), (hm, .inr (2, [.ref m1, .ref m2, .ref m3, .ref m4, .int (nI nm)])), (m4, .inl (cI, 64, .inl ty)), (ha, .inr (3, [.ref hw, .ref a1, .ref a2, .ref a3, .int (nI nar)])), (a1, .inl (cI, 4, .inl kn)), (a2, .inl (cI, 4, .inl so)), (a3, .inl (cL, 4, .inr (.inl bi))), (hw, .inr (1, [.ref b1, .ref b2, .int (nI nc), .int (nI no)])), (b1, .inl (cI, 16, .inl pa)), (b2, .inl (cI, 64, .inl co))] [.ref h0, .int (nI j), .int (nI i), .int (nI n)]) (hx_QR (some (.int (wg_ pa co kn so bi ty n j i)))) 0 0 (fun _ => False) := by
  refine Met.ofW (cc := kc_C_weightIn) (maxL := 4) (ret := (some .int)) (by decide) rfl ?_
  intro p e s m args below meth c s₁ B hml hv
  obtain ⟨rfl, hC, hP⟩ := hv
  have hx := B.exec
  have hb := B.bytes
  have hr := B.returns
  have hlocks := B.notSynchronized
  have hown : s.vm.findClass "HostBridge$Choice" = some m.cls := findClass_of_methodNamed B.named
  have hS : va_S (fun _ => False) s.heap s.heap [] := va_S.rf
  have hK := hC.K
  have hts := hC.ts [.ref h0, .int (nI j), .int (nI i), .int (nI n)].toArray
  have hl := lv_entry ([.ref h0, .int (nI j), .int (nI i), .int (nI n)]) (n := 4) (Nat.le_of_ble_eq_true rfl)
  rw [lg_entry_eq]
  generalize (lg_sl ([.ref h0, .int (nI j), .int (nI i), .int (nI n)]) ++ List.replicate (4 - (lg_sl ([.ref h0, .int (nI j), .int (nI i), .int (nI n)])).length) Slot.unset).toArray = ls at hl ⊢
  have hl : lv_has ls 4 [(0, .ref h0), (1, .int (nI j)), (2, .int (nI i)), (3, .int (nI n))] := hl
  refine lv_aload_n hx hb kd_C_weightIn_0 rfl (lv_at hl 0 rfl) ?_
  refine va_get (D := D) (ci := 4) (v := .ref ha) (C := "HostBridge$Choice") (T := ct_C) (N := 6) hx hb hts cw_C hown hK hP 0 rfl rfl 2 (by decide) (hts _ km_110) (fun _ h9 => h9) rfl kd_C_weightIn_1 ?_
  refine lv_iload_n hx hb kd_C_weightIn_4 rfl (lv_at hl 2 rfl) ?_
  refine lv_aload_n hx hb kd_C_weightIn_5 rfl (lv_at hl 0 rfl) ?_
  refine va_get (D := D) (ci := 4) (v := .ref hm) (C := "HostBridge$Choice") (T := ct_C) (N := 6) hx hb hts cw_C hown hK hP 0 rfl rfl 1 (by decide) (hts _ km_109) (fun _ h9 => h9) rfl kd_C_weightIn_6 ?_
  refine va_getN (host := "HostBridge") (D := D) (ci := 2) (v := .ref m4) (C := "HostBridge$Methods") (T := ct_M) (N := 5) hx hb hts cw_M hown hK hP 1 rfl rfl 3 (by decide) (hts _ km_62) (fun _ h9 => h9) rfl kd_C_weightIn_9 ?_
  refine lv_iload_n hx hb kd_C_weightIn_12 rfl (lv_at hl 1 rfl) ?_
  refine hx_iald (j := j) hx hb hK hP 2 rfl (rfl) (hj) (by decide) kd_C_weightIn_13 ?_
  refine lv_iload_n hx hb kd_C_weightIn_14 rfl (lv_at hl 3 rfl) ?_
  refine lv_iload_n hx hb kd_C_weightIn_15 rfl (lv_at hl 2 rfl) ?_
  refine hx_callRi (va_runSN (As := [.int (ty j), .int (nI n), .int (nI i)]) (rest := [.int (nI i), .ref ha]) ⟨hx, hb, hml, hown, hts⟩ (mc_B_typeAt (ty j) n i hi hn) ⟨va_cnB 3 hts (goodIn_sub (hx_m1 km_316) (by decide +kernel)) rfl rfl rfl (va_Nw.of rfl (hts _ km_478)) (hts _ km_1) (by decide +kernel) ⟨Nat.le_of_ble_eq_true rfl, Nat.le_of_ble_eq_true rfl⟩, hts _ km_315, trivial⟩ (pr_S (hC.S hS) hP [] rfl) rfl rfl hl.1 rfl (lv_room (Nat.le_of_ble_eq_true rfl)) kd_C_weightIn_16 ⟨Nat.le_of_ble_eq_true rfl, Nat.le_of_ble_eq_true rfl⟩) ?_
  refine hx_callRi (va_runV (As := [.int (nI i), .int (nI (ty_N (ty j) n i))]) (rest := []) ⟨hx, hb, hml, hown, hts⟩ (mc_A_weightFor ha hw a1 a2 a3 b1 b2 nar nc no kn so pa co bi i (ty_N (ty j) n i) (by omega) (hok i hi) hln hno hco (ty_lt (ty j) n i)) (cwV 2 hts (goodIn_sub (hx_m5 km_479 km_405 km_406 km_4 km_407) (by decide +kernel)) rfl rfl rfl (by decide +kernel) ⟨Nat.le_of_ble_eq_true rfl, Nat.le_of_ble_eq_true rfl⟩) (pr_V (hC.S hS) hP [3, 4, 5, 6, 7, 8, 9] rfl (ci := 3) rfl (q0 := 0) rfl) rfl rfl hl.1 rfl (lv_room (Nat.le_of_ble_eq_true rfl)) kd_C_weightIn_19 ⟨Nat.le_of_ble_eq_true rfl, Nat.le_of_ble_eq_true rfl⟩) ?_
  exact hx_iretR hx hb hr hlocks (rfl) kd_C_weightIn_22

def mi2_ (x y : Int32) : Int32 := (if y < x then y else x)
set_option maxHeartbeats 4000000 in
set_option maxRecDepth 100000 in
theorem mc_J_min {l : Launch} {D : va_G} {cI cL cZ : ClassId} {tb : Nat} (x y : Int32) : Met l ky_J_min kw_J_min { frames := 0, cells := 0, slots := 0, locals := 0 } (pr_P D cI cL cZ tb [] [.int x, .int y]) (hx_QR (some (.int (mi2_ x y)))) 0 0 (fun _ => False) := by
  refine va_MetF (cc := kc_J_min) (maxL := 2) (ret := (some .int)) (by decide +kernel) rfl ?_
  intro p e s m args below meth c s₁ B hml hv
  obtain ⟨rfl, hC, hP⟩ := hv
  have hx := B.exec
  have hb := B.bytes
  have hr := B.returns
  have hlocks := B.notSynchronized
  have hown : s.vm.findClass "java/lang/Math" = some m.cls := findClass_of_methodNamed B.named
  have hS : va_S (fun _ => False) s.heap s.heap [] := va_S.rf
  have hK := hC.K
  have hts := hC.ts [.int x, .int y].toArray
  have hl := lv_entry ([.int x, .int y]) (n := 2) (Nat.le_of_ble_eq_true rfl)
  rw [lg_entry_eq]
  generalize (lg_sl ([.int x, .int y]) ++ List.replicate (2 - (lg_sl ([.int x, .int y])).length) Slot.unset).toArray = ls at hl ⊢
  have hl : lv_has ls 2 [(0, .int x), (1, .int y)] := hl
  refine lv_iload_n hx hb kd_J_min_0 rfl (lv_at hl 0 rfl) ?_
  refine lv_iload_n hx hb kd_J_min_1 rfl (lv_at hl 1 rfl) ?_
  refine lv_icmp_gt (tgt := 9) hx hb kd_J_min_2 (by decide) (fun c_2 => ?_) (fun c_2 => ?_)
  · skip
    refine lv_iload_n hx hb kd_J_min_9 rfl (lv_at hl 1 rfl) ?_
    exact hx_iretR hx hb hr hlocks (by unfold mi2_; rw [if_pos c_2]; try rfl) kd_J_min_10
  · skip
    refine lv_iload_n hx hb kd_J_min_5 rfl (lv_at hl 0 rfl) ?_
    refine lv_goto (tgt := 10) hx hb kd_J_min_6 (by decide) ?_
    exact hx_iretR hx hb hr hlocks (by unfold mi2_; rw [if_neg c_2]; try rfl) kd_J_min_10

theorem mi2_eq (x y : Int32) : mi2_ x y = mn_ x y := rfl

set_option maxHeartbeats 4000000 in
set_option maxRecDepth 100000 in
theorem mc_C_lowestWeight {l : Launch} {D : va_G} {cI cL cZ : ClassId} {tb : Nat} (h0 hw hm ha b1 b2 m1 m2 m3 m4 a1 a2 a3 c1 c2 nc no nm nar : Nat) (pa co ho nn si ty kn so ca lo : Nat → Int32) (bi : Nat → Int64) (L : List Nat) (n i : Nat) (hn : n ≤ 4) (hok : ∀ i, i < n → ar_ok no (kn i) (so i) (bi i)) (hln : ln_ok nc pa) (hno : no ≤ 64) (hco : ∀ j, j < no → ∃ q : Nat, q < nc ∧ co j = nI q) (hi : i < n) (hL : ∀ c ∈ L, c < 64) (hLl : L.length ≤ 64) (hL0 : 0 < L.length) : Met l ky_C_lowestWeight kw_C_lowestWeight { frames := 3, cells := 0, slots := 0, locals := 69 } (pr_P D cI cL cZ tb [(h0, .inr (4, [.ref hw, .ref hm, .ref ha, .ref c1, .ref c2, .int (nI L.length)])), (hm, .inr (2, [.ref m1, .ref m2, .ref m3, .ref m4, .int (nI nm)])), (m4, .inl (cI, 64, .inl ty)), (ha, .inr (3, [.ref hw, .ref a1, .ref a2, .ref a3, .int (nI nar)])), (a1, .inl (cI, 4, .inl kn)), (a2, .inl (cI, 4, .inl so)), (a3, .inl (cL, 4, .inr (.inl bi))), (hw, .inr (1, [.ref b1, .ref b2, .int (nI nc), .int (nI no)])), (b1, .inl (cI, 16, .inl pa)), (b2, .inl (cI, 64, .inl co)), (c1, .inl (cI, 64, .inl (cf_ L ca)))] [.ref h0, .int (nI i), .int (nI n)]) (hx_QR (some (.int (lw_ (fun j => wg_ pa co kn so bi ty n j i) L)))) 0 0 (fun _ => False) := by
  refine Met.ofW (cc := kc_C_lowestWeight) (maxL := 5) (ret := (some .int)) (by decide) rfl ?_
  intro p e s m args below meth c s₁ B hml hv
  obtain ⟨rfl, hC, hP⟩ := hv
  have hx := B.exec
  have hb := B.bytes
  have hr := B.returns
  have hlocks := B.notSynchronized
  have hown : s.vm.findClass "HostBridge$Choice" = some m.cls := findClass_of_methodNamed B.named
  have hS : va_S (fun _ => False) s.heap s.heap [] := va_S.rf
  have hK := hC.K
  have hts := hC.ts [.ref h0, .int (nI i), .int (nI n)].toArray
  have hl := lv_entry ([.ref h0, .int (nI i), .int (nI n)]) (n := 5) (Nat.le_of_ble_eq_true rfl)
  rw [lg_entry_eq]
  generalize (lg_sl ([.ref h0, .int (nI i), .int (nI n)]) ++ List.replicate (5 - (lg_sl ([.ref h0, .int (nI i), .int (nI n)])).length) Slot.unset).toArray = ls at hl ⊢
  have hl : lv_has ls 5 [(0, .ref h0), (1, .int (nI i)), (2, .int (nI n))] := hl
  refine lv_aload_n hx hb kd_C_lowestWeight_0 rfl (lv_at hl 0 rfl) ?_
  refine lv_aload_n hx hb kd_C_lowestWeight_1 rfl (lv_at hl 0 rfl) ?_
  refine va_get (D := D) (ci := 4) (v := .ref c1) (C := "HostBridge$Choice") (T := ct_C) (N := 6) hx hb hts cw_C hown hK hP 0 rfl rfl 3 (by decide) (hts _ km_111) (fun _ h9 => h9) rfl kd_C_lowestWeight_2 ?_
  refine lv_iconst (v := 0) hx hb kd_C_lowestWeight_5 (by decide) ?_
  refine hx_iald (j := 0) hx hb hK hP 10 rfl (nI_0.symm) (by decide) (by decide) kd_C_lowestWeight_6 ?_
  refine hx_topi (y := nI (L[0])) (cf_at hL0) ?_
  refine lv_iload_n hx hb kd_C_lowestWeight_7 rfl (lv_at hl 1 rfl) ?_
  refine lv_iload_n hx hb kd_C_lowestWeight_8 rfl (lv_at hl 2 rfl) ?_
  refine hx_callRi (va_runV (As := [.int (nI (L[0])), .int (nI i), .int (nI n)]) (rest := []) ⟨hx, hb, hml, hown, hts⟩ (mc_C_weightIn h0 hw hm ha b1 b2 m1 m2 m3 m4 a1 a2 a3 c1 c2 nc no nm nar pa co ho nn si ty kn so ca lo bi L n (L[0]) i hn hok hln hno hco (hL _ (List.getElem_mem hL0)) hi) (cwV 3 hts (goodIn_sub (hx_m5 km_474 km_476 kv_C_weightIn km_5 km_477) (by decide +kernel)) rfl rfl rfl (by decide +kernel) ⟨Nat.le_of_ble_eq_true rfl, Nat.le_of_ble_eq_true rfl⟩) (pr_V (hC.S hS) hP [0, 1, 2, 3, 4, 5, 6, 7, 8, 9] rfl (ci := 4) rfl (q0 := 0) rfl) rfl rfl hl.1 rfl (lv_room (Nat.le_of_ble_eq_true rfl)) kd_C_lowestWeight_9 ⟨Nat.le_of_ble_eq_true rfl, Nat.le_of_ble_eq_true rfl⟩) ?_
  refine lv_istore_n (lv' := [(3, .int (wg_ pa co kn so bi ty n (L[0]) i)), (0, .ref h0), (1, .int (nI i)), (2, .int (nI n))]) hx hb kd_C_lowestWeight_12 rfl hl (by decide) rfl (fun ls hl => ?_)
  refine lv_iconst (v := 1) hx hb kd_C_lowestWeight_13 (by decide) ?_
  refine hx_topi (y := nI 1) (by decide) ?_
  refine lv_istore (lv' := [(4, .int (nI 1)), (3, .int (wg_ pa co kn so bi ty n (L[0]) i)), (0, .ref h0), (1, .int (nI i)), (2, .int (nI n))]) hx hb kd_C_lowestWeight_14 hl (by decide) rfl (fun ls hl => ?_)
  refine hx_loopR (σ := Nat × Int32) (I := fun x ls => lv_has ls 5 [(0, .ref h0), (1, .int (nI i)), (2, .int (nI n)), (3, .int x.2), (4, .int (nI x.1))] ∧ x.1 ≤ L.length ∧ (L.drop x.1).foldl (fun m c => mn_ m (wg_ pa co kn so bi ty n c i)) x.2 = lw_ (fun j => wg_ pa co kn so bi ty n j i) L) (μ := fun x => L.length - x.1) ?_ (1, wg_ pa co kn so bi ty n (L[0]) i) ⟨lv_sub hl [2, 3, 4, 1, 0] rfl, by dsimp only; omega, by
      have h9 := dr_at hL0
      rw [List.drop_zero] at h9
      conv => rhs; rw [h9]
      rfl⟩
  intro x ls hI ih16
  obtain ⟨c9, lw⟩ := x
  obtain ⟨hl, hc, hd⟩ := hI
  dsimp only at hl hc hd ih16
  refine lv_iload hx hb kd_C_lowestWeight_16 (lv_at hl 4 rfl) ?_
  refine lv_aload_n hx hb kd_C_lowestWeight_18 rfl (lv_at hl 0 rfl) ?_
  refine va_get (D := D) (ci := 4) (v := .int (nI L.length)) (C := "HostBridge$Choice") (T := ct_C) (N := 6) hx hb hts cw_C hown hK hP 0 rfl rfl 5 (by decide) (hts _ km_113) (fun _ h9 => h9) rfl kd_C_lowestWeight_19 ?_
  refine lv_icmp_ge (tgt := 49) hx hb kd_C_lowestWeight_22 (by decide) (fun c_22 => ?_) (fun c_22 => ?_)
  · skip
    have hin : c9 = L.length := by rw [nI_leI (by omega) (by omega)] at c_22; omega
    refine lv_iload_n hx hb kd_C_lowestWeight_49 rfl (lv_at hl 3 rfl) ?_
    exact hx_iretR hx hb hr hlocks (by rw [← hd, hin, List.drop_length]; rfl) kd_C_lowestWeight_50
  · skip
    have hin : c9 < L.length := by rw [nI_leI (by omega) (by omega)] at c_22; omega
    refine lv_iload_n hx hb kd_C_lowestWeight_25 rfl (lv_at hl 3 rfl) ?_
    refine lv_aload_n hx hb kd_C_lowestWeight_26 rfl (lv_at hl 0 rfl) ?_
    refine lv_aload_n hx hb kd_C_lowestWeight_27 rfl (lv_at hl 0 rfl) ?_
    refine va_get (D := D) (ci := 4) (v := .ref c1) (C := "HostBridge$Choice") (T := ct_C) (N := 6) hx hb hts cw_C hown hK hP 0 rfl rfl 3 (by decide) (hts _ km_111) (fun _ h9 => h9) rfl kd_C_lowestWeight_28 ?_
    refine lv_iload hx hb kd_C_lowestWeight_31 (lv_at hl 4 rfl) ?_
    refine hx_iald (j := c9) hx hb hK hP 10 rfl (rfl) (by omega) (by decide) kd_C_lowestWeight_33 ?_
    refine hx_topi (y := nI (L[c9])) (cf_at hin) ?_
    refine lv_iload_n hx hb kd_C_lowestWeight_34 rfl (lv_at hl 1 rfl) ?_
    refine lv_iload_n hx hb kd_C_lowestWeight_35 rfl (lv_at hl 2 rfl) ?_
    refine hx_callRi (va_runV (As := [.int (nI (L[c9])), .int (nI i), .int (nI n)]) (rest := [.int lw]) ⟨hx, hb, hml, hown, hts⟩ (mc_C_weightIn h0 hw hm ha b1 b2 m1 m2 m3 m4 a1 a2 a3 c1 c2 nc no nm nar pa co ho nn si ty kn so ca lo bi L n (L[c9]) i hn hok hln hno hco (hL _ (List.getElem_mem hin)) hi) (cwV 3 hts (goodIn_sub (hx_m5 km_474 km_476 kv_C_weightIn km_5 km_477) (by decide +kernel)) rfl rfl rfl (by decide +kernel) ⟨Nat.le_of_ble_eq_true rfl, Nat.le_of_ble_eq_true rfl⟩) (pr_V (hC.S hS) hP [0, 1, 2, 3, 4, 5, 6, 7, 8, 9] rfl (ci := 4) rfl (q0 := 0) rfl) rfl rfl hl.1 rfl (lv_room (Nat.le_of_ble_eq_true rfl)) kd_C_lowestWeight_36 ⟨Nat.le_of_ble_eq_true rfl, Nat.le_of_ble_eq_true rfl⟩) ?_
    refine hx_callRi (va_runS (As := [.int lw, .int (wg_ pa co kn so bi ty n (L[c9]) i)]) (rest := []) ⟨hx, hb, hml, hown, hts⟩ (mc_J_min lw (wg_ pa co kn so bi ty n (L[c9]) i)) (va_cwS 2 hts (goodIn_sub (hx_m4 km_480 km_481 km_16 km_482) (by decide +kernel)) rfl rfl rfl (by decide +kernel) ⟨Nat.le_of_ble_eq_true rfl, Nat.le_of_ble_eq_true rfl⟩) (pr_S (hC.S hS) hP [] rfl) rfl rfl hl.1 rfl (lv_room (Nat.le_of_ble_eq_true rfl)) kd_C_lowestWeight_39 ⟨Nat.le_of_ble_eq_true rfl, Nat.le_of_ble_eq_true rfl⟩) ?_
    refine hx_topi (y := mn_ lw (wg_ pa co kn so bi ty n (L[c9]) i)) (mi2_eq _ _) ?_
    refine lv_istore_n (lv' := [(3, .int (mn_ lw (wg_ pa co kn so bi ty n (L[c9]) i))), (0, .ref h0), (1, .int (nI i)), (2, .int (nI n)), (4, .int (nI c9))]) hx hb kd_C_lowestWeight_42 rfl hl (by decide) rfl (fun ls hl => ?_)
    refine lv_iinc (v := nI (c9 + 1)) (lv' := [(4, .int (nI (c9 + 1))), (3, .int (mn_ lw (wg_ pa co kn so bi ty n (L[c9]) i))), (0, .ref h0), (1, .int (nI i)), (2, .int (nI n))]) hx hb kd_C_lowestWeight_43 hl (k := 4) rfl (nI_1 c9) (by decide) rfl (fun ls hl => ?_)
    refine lv_goto (tgt := 16) hx hb kd_C_lowestWeight_46 (by decide) ?_
    exact ih16 (c9 + 1, mn_ lw (wg_ pa co kn so bi ty n (L[c9]) i)) _ (by dsimp only; omega) ⟨lv_sub hl [2, 3, 4, 1, 0] rfl, by dsimp only; omega, by dsimp only; rw [← hd, dr_at hin, List.foldl_cons]⟩

/-- no weight of method j is above the lowest -/
def il_ (g : Nat → Nat → Int32) (lo : Nat → Int32) (n j : Nat) : Bool := decide (∀ i, i < n → g j i ≤ lo i)

set_option maxHeartbeats 4000000 in
set_option maxRecDepth 100000 in
theorem mc_C_isLowest {l : Launch} {D : va_G} {cI cL cZ : ClassId} {tb : Nat} (h0 hw hm ha b1 b2 m1 m2 m3 m4 a1 a2 a3 c1 c2 nc no nm nar : Nat) (pa co ho nn si ty kn so ca lo : Nat → Int32) (bi : Nat → Int64) (L : List Nat) (n j : Nat) (hn : n ≤ 4) (hok : ∀ i, i < n → ar_ok no (kn i) (so i) (bi i)) (hln : ln_ok nc pa) (hno : no ≤ 64) (hco : ∀ j, j < no → ∃ q : Nat, q < nc ∧ co j = nI q) (hj : j < 64) : Met l ky_C_isLowest kw_C_isLowest { frames := 3, cells := 0, slots := 0, locals := 69 } (pr_P D cI cL cZ tb [(h0, .inr (4, [.ref hw, .ref hm, .ref ha, .ref c1, .ref c2, .int (nI L.length)])), (hm, .inr (2, [.ref m1, .ref m2, .ref m3, .ref m4, .int (nI nm)])), (m4, .inl (cI, 64, .inl ty)), (ha, .inr (3, [.ref hw, .ref a1, .ref a2, .ref a3, .int (nI nar)])), (a1, .inl (cI, 4, .inl kn)), (a2, .inl (cI, 4, .inl so)), (a3, .inl (cL, 4, .inr (.inl bi))), (hw, .inr (1, [.ref b1, .ref b2, .int (nI nc), .int (nI no)])), (b1, .inl (cI, 16, .inl pa)), (b2, .inl (cI, 64, .inl co)), (c2, .inl (cI, 4, .inl lo))] [.ref h0, .int (nI j), .int (nI n)]) (hx_QR (some (.int (b2_ (il_ (wg_ pa co kn so bi ty n) lo n j))))) 0 0 (fun _ => False) := by
  refine Met.ofW (cc := kc_C_isLowest) (maxL := 4) (ret := (some .boolean)) (by decide) rfl ?_
  intro p e s m args below meth c s₁ B hml hv
  obtain ⟨rfl, hC, hP⟩ := hv
  have hx := B.exec
  have hb := B.bytes
  have hr := B.returns
  have hlocks := B.notSynchronized
  have hown : s.vm.findClass "HostBridge$Choice" = some m.cls := findClass_of_methodNamed B.named
  have hS : va_S (fun _ => False) s.heap s.heap [] := va_S.rf
  have hK := hC.K
  have hts := hC.ts [.ref h0, .int (nI j), .int (nI n)].toArray
  have hl := lv_entry ([.ref h0, .int (nI j), .int (nI n)]) (n := 4) (Nat.le_of_ble_eq_true rfl)
  rw [lg_entry_eq]
  generalize (lg_sl ([.ref h0, .int (nI j), .int (nI n)]) ++ List.replicate (4 - (lg_sl ([.ref h0, .int (nI j), .int (nI n)])).length) Slot.unset).toArray = ls at hl ⊢
  have hl : lv_has ls 4 [(0, .ref h0), (1, .int (nI j)), (2, .int (nI n))] := hl
  refine lv_iconst (v := 0) hx hb kd_C_isLowest_0 (by decide) ?_
  refine lv_istore_n (lv' := [(3, .int 0), (0, .ref h0), (1, .int (nI j)), (2, .int (nI n))]) hx hb kd_C_isLowest_1 rfl hl (by decide) rfl (fun ls hl => ?_)
  refine hx_loopR (σ := Nat) (I := fun i ls => lv_has ls 4 [(0, .ref h0), (1, .int (nI j)), (2, .int (nI n)), (3, .int (nI i))] ∧ i ≤ n ∧ (∀ z, z < i → wg_ pa co kn so bi ty n j z ≤ lo z)) (μ := fun i => n - i) ?_ 0 ⟨lv_sub hl [1, 2, 3, 0] rfl, Nat.zero_le _, fun z h => absurd h (Nat.not_lt_zero z)⟩
  intro i ls hI ih2
  obtain ⟨hl, hi, hall⟩ := hI
  refine lv_iload_n hx hb kd_C_isLowest_2 rfl (lv_at hl 3 rfl) ?_
  refine lv_iload_n hx hb kd_C_isLowest_3 rfl (lv_at hl 2 rfl) ?_
  refine lv_icmp_ge (tgt := 31) hx hb kd_C_isLowest_4 (by decide) (fun c_4 => ?_) (fun c_4 => ?_)
  · skip
    have hin : i = n := by rw [nI_leI (by omega) (by omega)] at c_4; omega
    refine lv_iconst (v := 1) hx hb kd_C_isLowest_31 (by decide) ?_
    exact hx_zretR hx hb hr hlocks (by rw [il_, decide_eq_true (fun z hz => hall z (by omega))]; rfl) kd_C_isLowest_32
  · skip
    have hin : i < n := by rw [nI_leI (by omega) (by omega)] at c_4; omega
    refine lv_aload_n hx hb kd_C_isLowest_7 rfl (lv_at hl 0 rfl) ?_
    refine lv_iload_n hx hb kd_C_isLowest_8 rfl (lv_at hl 1 rfl) ?_
    refine lv_iload_n hx hb kd_C_isLowest_9 rfl (lv_at hl 3 rfl) ?_
    refine lv_iload_n hx hb kd_C_isLowest_10 rfl (lv_at hl 2 rfl) ?_
    refine hx_callRi (va_runV (As := [.int (nI j), .int (nI i), .int (nI n)]) (rest := []) ⟨hx, hb, hml, hown, hts⟩ (mc_C_weightIn h0 hw hm ha b1 b2 m1 m2 m3 m4 a1 a2 a3 c1 c2 nc no nm nar pa co ho nn si ty kn so ca lo bi L n j i hn hok hln hno hco hj hin) (cwV 3 hts (goodIn_sub (hx_m5 km_474 km_476 kv_C_weightIn km_5 km_477) (by decide +kernel)) rfl rfl rfl (by decide +kernel) ⟨Nat.le_of_ble_eq_true rfl, Nat.le_of_ble_eq_true rfl⟩) (pr_V (hC.S hS) hP [0, 1, 2, 3, 4, 5, 6, 7, 8, 9] rfl (ci := 4) rfl (q0 := 0) rfl) rfl rfl hl.1 rfl (lv_room (Nat.le_of_ble_eq_true rfl)) kd_C_isLowest_11 ⟨Nat.le_of_ble_eq_true rfl, Nat.le_of_ble_eq_true rfl⟩) ?_
    refine lv_aload_n hx hb kd_C_isLowest_14 rfl (lv_at hl 0 rfl) ?_
    refine va_get (D := D) (ci := 4) (v := .ref c2) (C := "HostBridge$Choice") (T := ct_C) (N := 6) hx hb hts cw_C hown hK hP 0 rfl rfl 4 (by decide) (hts _ km_112) (fun _ h9 => h9) rfl kd_C_isLowest_15 ?_
    refine lv_iload_n hx hb kd_C_isLowest_18 rfl (lv_at hl 3 rfl) ?_
    refine hx_iald (j := i) hx hb hK hP 10 rfl (rfl) (by omega) (by decide) kd_C_isLowest_19 ?_
    refine lv_icmp_le (tgt := 25) hx hb kd_C_isLowest_20 (by decide) (fun c_20 => ?_) (fun c_20 => ?_)
    · skip
      refine lv_iinc (v := nI (i + 1)) (lv' := [(3, .int (nI (i + 1))), (0, .ref h0), (1, .int (nI j)), (2, .int (nI n))]) hx hb kd_C_isLowest_25 hl (k := 3) rfl (nI_1 i) (by decide) rfl (fun ls hl => ?_)
      refine lv_goto (tgt := 2) hx hb kd_C_isLowest_28 (by decide) ?_
      exact ih2 (i + 1) _ (by omega) ⟨lv_sub hl [1, 2, 3, 0] rfl, by omega, fun z hz => (Nat.lt_succ_iff_lt_or_eq.mp hz).elim (hall z) (fun e => by rw [e]; exact c_20)⟩
    · skip
      refine lv_iconst (v := 0) hx hb kd_C_isLowest_23 (by decide) ?_
      exact hx_zretR hx hb hr hlocks (by rw [il_, decide_eq_false (fun h => c_20 (h i hin))]; rfl) kd_C_isLowest_24
end
section
/-! WHICH METHOD A CALL IS GIVEN: gathering the candidates, the best of them (HostBridge$Choice, methods that write) -/
theorem gf_len {P : Nat → Bool} {hid : List Nat → Nat → Bool} : ∀ {f m : Nat} {L : List Nat}, L.length ≤ 64 → (gf_ P hid f m L).length ≤ 64
  | 0, _, _, h => h
  | f + 1, m, L, h => by
    simp only [gf_]
    split
    · split
      · exact gf_len (by rw [List.length_append]; simpa using Nat.succ_le_of_lt ‹L.length < 64›)
      · exact gf_len h
    · exact h
theorem gf_in' {P : Nat → Bool} {hid : List Nat → Nat → Bool} {B : Nat} : ∀ {f m : Nat} {L : List Nat}, (∀ c ∈ L, c < B) → m + f ≤ B → ∀ c ∈ gf_ P hid f m L, c < B
  | 0, _, _, h, _ => h
  | f + 1, m, L, h, hb => by
    simp only [gf_]
    split
    · split
      · exact gf_in' (fun c hc => (List.mem_append.mp hc).elim (h c) (fun e => by rw [List.mem_singleton.mp e]; omega)) (by omega)
      · exact gf_in' h (by omega)
    · exact h
theorem gf_in {P : Nat → Bool} {hid : List Nat → Nat → Bool} {n : Nat} {L : List Nat} (h : ∀ c ∈ L, c < 64) (hn : n ≤ 64) : ∀ c ∈ gf_ P hid n 0 L, c < 64 := gf_in' h (by omega)
def lf_ (g lo : Nat → Int32) (i : Nat) : Nat → Int32 := fun z => if z < i then g z else lo z
theorem lf_0 (g lo : Nat → Int32) : lf_ g lo 0 = lo := by funext z; simp [lf_]
theorem lf_s (g lo : Nat → Int32) (i : Nat) : upd (lf_ g lo i) i (g i) = lf_ g lo (i + 1) := by
  funext z
  simp only [upd, lf_]
  by_cases h : z = i
  · subst h; rw [if_pos rfl, if_pos (by omega)]
  · rw [if_neg h]
    by_cases h2 : z < i
    · rw [if_pos h2, if_pos (by omega)]
    · rw [if_neg h2, if_neg (by omega)]

set_option maxHeartbeats 4000000 in
set_option maxRecDepth 100000 in
theorem mc_C_gatherFrom {l : Launch} {D : va_G} {cI cL cZ : ClassId} {tb : Nat} (h0 hw hm ha b1 b2 m1 m2 m3 m4 a1 a2 a3 c1 c2 nc no nm nar : Nat) (pa co ho nn si ty kn so ca : Nat → Int32) (bi : Nat → Int64) (k n : Int32) (N : Nat) (L : List Nat) (hn : N ≤ 4) (hok : ∀ i, i < N → ar_ok no (kn i) (so i) (bi i)) (hln : ln_ok nc pa) (hno : no ≤ 64) (hco : ∀ j, j < no → ∃ q : Nat, q < nc ∧ co j = nI q) (hnm : nm ≤ 64) (hL : ∀ c ∈ L, c < 64) (hLl : L.length ≤ 64) (sz : Nat) : Met l ky_C_gatherFrom kw_C_gatherFrom { frames := 3, cells := 0, slots := 0, locals := 69 } (pw_P D cI cL cZ tb [(h0, .inr (4, [.ref hw, .ref hm, .ref ha, .ref c1, .ref c2, .int (nI L.length)])), (hm, .inr (2, [.ref m1, .ref m2, .ref m3, .ref m4, .int (nI nm)])), (m1, .inl (cI, 64, .inl ho)), (m2, .inl (cI, 64, .inl nn)), (m3, .inl (cI, 64, .inl si)), (m4, .inl (cI, 64, .inl ty)), (ha, .inr (3, [.ref hw, .ref a1, .ref a2, .ref a3, .int (nI nar)])), (a1, .inl (cI, 4, .inl kn)), (a2, .inl (cI, 4, .inl so)), (a3, .inl (cL, 4, .inr (.inl bi))), (hw, .inr (1, [.ref b1, .ref b2, .int (nI nc), .int (nI no)])), (b1, .inl (cI, 16, .inl pa)), (b2, .inl (cI, 64, .inl co)), (c1, .inl (cI, 64, .inl (cf_ L ca)))] sz [.ref h0, .int k, .int n, .int (nI N)]) (hx_QW D none [(h0, .inr (4, [.ref hw, .ref hm, .ref ha, .ref c1, .ref c2, .int (nI (gf_ (fun m => mi_ ho nn si k n (nI N) m && ft_ (fun i t => wf_ pa co (kn i) (so i) (bi i) t) (ty m) N) (hd_ ty) nm 0 L).length)])), (hm, .inr (2, [.ref m1, .ref m2, .ref m3, .ref m4, .int (nI nm)])), (m1, .inl (cI, 64, .inl ho)), (m2, .inl (cI, 64, .inl nn)), (m3, .inl (cI, 64, .inl si)), (m4, .inl (cI, 64, .inl ty)), (ha, .inr (3, [.ref hw, .ref a1, .ref a2, .ref a3, .int (nI nar)])), (a1, .inl (cI, 4, .inl kn)), (a2, .inl (cI, 4, .inl so)), (a3, .inl (cL, 4, .inr (.inl bi))), (hw, .inr (1, [.ref b1, .ref b2, .int (nI nc), .int (nI no)])), (b1, .inl (cI, 16, .inl pa)), (b2, .inl (cI, 64, .inl co)), (c1, .inl (cI, 64, .inl (cf_ (gf_ (fun m => mi_ ho nn si k n (nI N) m && ft_ (fun i t => wf_ pa co (kn i) (so i) (bi i) t) (ty m) N) (hd_ ty) nm 0 L) ca)))] (va_A [(h0, .inr (4, [.ref hw, .ref hm, .ref ha, .ref c1, .ref c2, .int (nI L.length)])), (hm, .inr (2, [.ref m1, .ref m2, .ref m3, .ref m4, .int (nI nm)])), (m1, .inl (cI, 64, .inl ho)), (m2, .inl (cI, 64, .inl nn)), (m3, .inl (cI, 64, .inl si)), (m4, .inl (cI, 64, .inl ty)), (ha, .inr (3, [.ref hw, .ref a1, .ref a2, .ref a3, .int (nI nar)])), (a1, .inl (cI, 4, .inl kn)), (a2, .inl (cI, 4, .inl so)), (a3, .inl (cL, 4, .inr (.inl bi))), (hw, .inr (1, [.ref b1, .ref b2, .int (nI nc), .int (nI no)])), (b1, .inl (cI, 16, .inl pa)), (b2, .inl (cI, 64, .inl co)), (c1, .inl (cI, 64, .inl (cf_ L ca)))] sz)) 0 0 (va_A [(h0, .inr (4, [.ref hw, .ref hm, .ref ha, .ref c1, .ref c2, .int (nI L.length)])), (hm, .inr (2, [.ref m1, .ref m2, .ref m3, .ref m4, .int (nI nm)])), (m1, .inl (cI, 64, .inl ho)), (m2, .inl (cI, 64, .inl nn)), (m3, .inl (cI, 64, .inl si)), (m4, .inl (cI, 64, .inl ty)), (ha, .inr (3, [.ref hw, .ref a1, .ref a2, .ref a3, .int (nI nar)])), (a1, .inl (cI, 4, .inl kn)), (a2, .inl (cI, 4, .inl so)), (a3, .inl (cL, 4, .inr (.inl bi))), (hw, .inr (1, [.ref b1, .ref b2, .int (nI nc), .int (nI no)])), (b1, .inl (cI, 16, .inl pa)), (b2, .inl (cI, 64, .inl co)), (c1, .inl (cI, 64, .inl (cf_ L ca)))] sz) := by
  refine Met.ofW (cc := kc_C_gatherFrom) (maxL := 5) (ret := none) (by decide) rfl ?_
  intro p e s m args below meth c s₁ B hml hv
  obtain ⟨rfl, hsz, hC, hP, hD0⟩ := hv
  have hx := B.exec
  have hb := B.bytes
  have hr := B.returns
  have hlocks := B.notSynchronized
  have hown : s.vm.findClass "HostBridge$Choice" = some m.cls := findClass_of_methodNamed B.named
  subst hsz
  have hD := hD0.self (sz := s.heap.size)
  generalize hAe : va_A [(h0, .inr (4, [.ref hw, .ref hm, .ref ha, .ref c1, .ref c2, .int (nI L.length)])), (hm, .inr (2, [.ref m1, .ref m2, .ref m3, .ref m4, .int (nI nm)])), (m1, .inl (cI, 64, .inl ho)), (m2, .inl (cI, 64, .inl nn)), (m3, .inl (cI, 64, .inl si)), (m4, .inl (cI, 64, .inl ty)), (ha, .inr (3, [.ref hw, .ref a1, .ref a2, .ref a3, .int (nI nar)])), (a1, .inl (cI, 4, .inl kn)), (a2, .inl (cI, 4, .inl so)), (a3, .inl (cL, 4, .inr (.inl bi))), (hw, .inr (1, [.ref b1, .ref b2, .int (nI nc), .int (nI no)])), (b1, .inl (cI, 16, .inl pa)), (b2, .inl (cI, 64, .inl co)), (c1, .inl (cI, 64, .inl (cf_ L ca)))] s.heap.size = A at hD hC ⊢
  have hA : ∀ q : Nat, s.heap.size ≤ q → A q := fun q h => by rw [← hAe]; exact Or.inr h
  have hS : va_S A s.heap s.heap [] := va_S.rf
  have hK := hC.K
  have hts := hC.ts [.ref h0, .int k, .int n, .int (nI N)].toArray
  have hl := lv_entry ([.ref h0, .int k, .int n, .int (nI N)]) (n := 5) (Nat.le_of_ble_eq_true rfl)
  rw [lg_entry_eq]
  generalize (lg_sl ([.ref h0, .int k, .int n, .int (nI N)]) ++ List.replicate (5 - (lg_sl ([.ref h0, .int k, .int n, .int (nI N)])).length) Slot.unset).toArray = ls at hl ⊢
  have hl : lv_has ls 5 [(0, .ref h0), (1, .int k), (2, .int n), (3, .int (nI N))] := hl
  refine lv_iconst (v := 0) hx hb kd_C_gatherFrom_0 (by decide) ?_
  refine lv_istore (lv' := [(4, .int 0), (0, .ref h0), (1, .int k), (2, .int n), (3, .int (nI N))]) hx hb kd_C_gatherFrom_1 hl (by decide) rfl (fun ls hl => ?_)
  refine hx_loopW (σ := Nat × List Nat) (I := fun x ls H locs => lv_has ls 5 [(0, .ref h0), (1, .int k), (2, .int n), (3, .int (nI N)), (4, .int (nI x.1))] ∧ va_P D cl_all [(h0, .inr (4, [.ref hw, .ref hm, .ref ha, .ref c1, .ref c2, .int (nI x.2.length)])), (hm, .inr (2, [.ref m1, .ref m2, .ref m3, .ref m4, .int (nI nm)])), (m1, .inl (cI, 64, .inl ho)), (m2, .inl (cI, 64, .inl nn)), (m3, .inl (cI, 64, .inl si)), (m4, .inl (cI, 64, .inl ty)), (ha, .inr (3, [.ref hw, .ref a1, .ref a2, .ref a3, .int (nI nar)])), (a1, .inl (cI, 4, .inl kn)), (a2, .inl (cI, 4, .inl so)), (a3, .inl (cL, 4, .inr (.inl bi))), (hw, .inr (1, [.ref b1, .ref b2, .int (nI nc), .int (nI no)])), (b1, .inl (cI, 16, .inl pa)), (b2, .inl (cI, 64, .inl co)), (c1, .inl (cI, 64, .inl (cf_ x.2 ca)))] H ∧ va_D A [(h0, .inr (4, [.ref hw, .ref hm, .ref ha, .ref c1, .ref c2, .int (nI x.2.length)])), (hm, .inr (2, [.ref m1, .ref m2, .ref m3, .ref m4, .int (nI nm)])), (m1, .inl (cI, 64, .inl ho)), (m2, .inl (cI, 64, .inl nn)), (m3, .inl (cI, 64, .inl si)), (m4, .inl (cI, 64, .inl ty)), (ha, .inr (3, [.ref hw, .ref a1, .ref a2, .ref a3, .int (nI nar)])), (a1, .inl (cI, 4, .inl kn)), (a2, .inl (cI, 4, .inl so)), (a3, .inl (cL, 4, .inr (.inl bi))), (hw, .inr (1, [.ref b1, .ref b2, .int (nI nc), .int (nI no)])), (b1, .inl (cI, 16, .inl pa)), (b2, .inl (cI, 64, .inl co)), (c1, .inl (cI, 64, .inl (cf_ x.2 ca)))] ∧ va_S A s.heap H locs ∧ x.1 ≤ nm ∧ (∀ c ∈ x.2, c < 64) ∧ x.2.length ≤ 64 ∧ gf_ (fun m => mi_ ho nn si k n (nI N) m && ft_ (fun i t => wf_ pa co (kn i) (so i) (bi i) t) (ty m) N) (hd_ ty) (nm - x.1) x.1 x.2 = gf_ (fun m => mi_ ho nn si k n (nI N) m && ft_ (fun i t => wf_ pa co (kn i) (so i) (bi i) t) (ty m) N) (hd_ ty) nm 0 L) (μ := fun x => nm - x.1) ?_ (0, L) ⟨lv_sub hl [1, 2, 3, 4, 0] rfl, hP, hD, hS, Nat.zero_le _, hL, hLl, rfl⟩
  intro x ls H locs hI ih3
  obtain ⟨m9, q⟩ := x
  obtain ⟨hl, hP, hD, hS, hm9, hq, hql, hd⟩ := hI
  dsimp only at hl hP hD hm9 hq hql hd ih3
  refine lv_iload hx hb kd_C_gatherFrom_3 (lv_at hl 4 rfl) ?_
  refine lv_aload_n hx hb kd_C_gatherFrom_5 rfl (lv_at hl 0 rfl) ?_
  refine va_get (D := D) (ci := 4) (v := .ref hm) (C := "HostBridge$Choice") (T := ct_C) (N := 6) hx hb hts cw_C hown hK hP 0 rfl rfl 1 (by decide) (hts _ km_109) (fun _ h9 => h9) rfl kd_C_gatherFrom_6 ?_
  refine va_getN (host := "HostBridge") (D := D) (ci := 2) (v := .int (nI nm)) (C := "HostBridge$Methods") (T := ct_M) (N := 5) hx hb hts cw_M hown hK hP 1 rfl rfl 4 (by decide) (hts _ km_66) (fun _ h9 => h9) rfl kd_C_gatherFrom_9 ?_
  refine lv_icmp_ge (tgt := 96) hx hb kd_C_gatherFrom_12 (by decide) (fun c_12 => ?_) (fun c_12 => ?_)
  · skip
    have hin : m9 = nm := by rw [nI_leI (by omega) (by omega)] at c_12; omega
    exact hx_vretW hx hb hr hlocks (by rw [← hd, hin, Nat.sub_self]; exact hP) hS kd_C_gatherFrom_96
  · skip
    have hin : m9 < nm := by rw [nI_leI (by omega) (by omega)] at c_12; omega
    have hf : nm - m9 = (nm - (m9 + 1)) + 1 := by omega
    refine lv_aload_n hx hb kd_C_gatherFrom_15 rfl (lv_at hl 0 rfl) ?_
    refine va_get (D := D) (ci := 4) (v := .int (nI q.length)) (C := "HostBridge$Choice") (T := ct_C) (N := 6) hx hb hts cw_C hown hK hP 0 rfl rfl 5 (by decide) (hts _ km_113) (fun _ h9 => h9) rfl kd_C_gatherFrom_16 ?_
    refine lv_bipush (v := 64) hx hb kd_C_gatherFrom_19 (by decide) ?_
    refine lv_icmp_ge (tgt := 96) hx hb kd_C_gatherFrom_21 (by decide) (fun c_21 => ?_) (fun c_21 => ?_)
    · skip
      have h64 : ¬ q.length < 64 := by
        have h9 : nI 64 ≤ nI q.length := c_21
        rw [nI_leI (by decide) (by omega)] at h9; omega
      exact hx_vretW hx hb hr hlocks (by rw [← hd, hf]; simp only [gf_]; rw [if_neg h64]; exact hP) hS kd_C_gatherFrom_96
    · skip
      have h64 : q.length < 64 := by
        have h9 : ¬ nI 64 ≤ nI q.length := c_21
        rw [nI_leI (by decide) (by omega)] at h9; omega
      refine lv_aload_n hx hb kd_C_gatherFrom_24 rfl (lv_at hl 0 rfl) ?_
      refine va_get (D := D) (ci := 4) (v := .ref hm) (C := "HostBridge$Choice") (T := ct_C) (N := 6) hx hb hts cw_C hown hK hP 0 rfl rfl 1 (by decide) (hts _ km_109) (fun _ h9 => h9) rfl kd_C_gatherFrom_25 ?_
      refine lv_iload hx hb kd_C_gatherFrom_28 (lv_at hl 4 rfl) ?_
      refine lv_iload_n hx hb kd_C_gatherFrom_30 rfl (lv_at hl 1 rfl) ?_
      refine lv_iload_n hx hb kd_C_gatherFrom_31 rfl (lv_at hl 2 rfl) ?_
      refine lv_iload_n hx hb kd_C_gatherFrom_32 rfl (lv_at hl 3 rfl) ?_
      refine hx_callRi (va_runV (As := [.int (nI m9), .int k, .int n, .int (nI N)]) (rest := []) ⟨hx, hb, hml, hown, hts⟩ (mc_M_isCalled hm m1 m2 m3 m4 nm ho nn si ty m9 k n (nI N) (by omega)) (cwV 4 hts (goodIn_sub (hx_m5 km_439 km_328 km_329 km_3 km_330) (by decide +kernel)) rfl rfl rfl (by decide +kernel) ⟨Nat.le_of_ble_eq_true rfl, Nat.le_of_ble_eq_true rfl⟩) (pr_V (hC.S hS) hP [1, 2, 3, 4] rfl (ci := 2) rfl (q0 := 0) rfl) rfl rfl hl.1 rfl (lv_room (Nat.le_of_ble_eq_true rfl)) kd_C_gatherFrom_33 ⟨Nat.le_of_ble_eq_true rfl, Nat.le_of_ble_eq_true rfl⟩) ?_
      refine lv_if_eq (tgt := 90) hx hb kd_C_gatherFrom_36 (by decide) (fun c_36 => ?_) (fun c_36 => ?_)
      · skip
        have h21 := b2_f c_36
        refine lv_iinc (v := nI (m9 + 1)) (lv' := [(4, .int (nI (m9 + 1))), (0, .ref h0), (1, .int k), (2, .int n), (3, .int (nI N))]) hx hb kd_C_gatherFrom_90 hl (k := 4) rfl (nI_1 m9) (by decide) rfl (fun ls hl => ?_)
        refine lv_goto (tgt := 3) hx hb kd_C_gatherFrom_93 (by decide) ?_
        exact ih3 (m9 + 1, q) _ _ _ (by dsimp only; omega) ⟨lv_sub hl [1, 2, 3, 4, 0] rfl, hP, hD, hS, by dsimp only; omega, hq, hql, by dsimp only; rw [← hd, hf]; simp only [gf_]; rw [if_pos h64, if_neg (fun h => by rw [h21] at h; exact absurd h.1 (by simp))]⟩
      · skip
        have h21 := b2_t c_36
        refine lv_aload_n hx hb kd_C_gatherFrom_39 rfl (lv_at hl 0 rfl) ?_
        refine va_get (D := D) (ci := 4) (v := .ref ha) (C := "HostBridge$Choice") (T := ct_C) (N := 6) hx hb hts cw_C hown hK hP 0 rfl rfl 2 (by decide) (hts _ km_110) (fun _ h9 => h9) rfl kd_C_gatherFrom_40 ?_
        refine lv_iload_n hx hb kd_C_gatherFrom_43 rfl (lv_at hl 3 rfl) ?_
        refine lv_aload_n hx hb kd_C_gatherFrom_44 rfl (lv_at hl 0 rfl) ?_
        refine va_get (D := D) (ci := 4) (v := .ref hm) (C := "HostBridge$Choice") (T := ct_C) (N := 6) hx hb hts cw_C hown hK hP 0 rfl rfl 1 (by decide) (hts _ km_109) (fun _ h9 => h9) rfl kd_C_gatherFrom_45 ?_
        refine va_getN (host := "HostBridge") (D := D) (ci := 2) (v := .ref m4) (C := "HostBridge$Methods") (T := ct_M) (N := 5) hx hb hts cw_M hown hK hP 1 rfl rfl 3 (by decide) (hts _ km_62) (fun _ h9 => h9) rfl kd_C_gatherFrom_48 ?_
        refine lv_iload hx hb kd_C_gatherFrom_51 (lv_at hl 4 rfl) ?_
        refine hx_iald (j := m9) hx hb hK hP 5 rfl (rfl) (by omega) (by decide) kd_C_gatherFrom_53 ?_
        refine hx_callRi (va_runV (As := [.int (nI N), .int (ty m9)]) (rest := []) ⟨hx, hb, hml, hown, hts⟩ (mc_A_fit ha hw a1 a2 a3 b1 b2 nar nc no kn so pa co bi N (ty m9) hn hok hln hno hco) (cwV 2 hts (goodIn_sub (hx_m5 km_440 km_441 km_442 km_4 km_443) (by decide +kernel)) rfl rfl rfl (by decide +kernel) ⟨Nat.le_of_ble_eq_true rfl, Nat.le_of_ble_eq_true rfl⟩) (pr_V (hC.S hS) hP [6, 7, 8, 9, 10, 11, 12] rfl (ci := 3) rfl (q0 := 0) rfl) rfl rfl hl.1 rfl (lv_room (Nat.le_of_ble_eq_true rfl)) kd_C_gatherFrom_54 ⟨Nat.le_of_ble_eq_true rfl, Nat.le_of_ble_eq_true rfl⟩) ?_
        refine lv_if_eq (tgt := 90) hx hb kd_C_gatherFrom_57 (by decide) (fun c_57 => ?_) (fun c_57 => ?_)
        · skip
          have h36 := b2_f c_57
          refine lv_iinc (v := nI (m9 + 1)) (lv' := [(4, .int (nI (m9 + 1))), (0, .ref h0), (1, .int k), (2, .int n), (3, .int (nI N))]) hx hb kd_C_gatherFrom_90 hl (k := 4) rfl (nI_1 m9) (by decide) rfl (fun ls hl => ?_)
          refine lv_goto (tgt := 3) hx hb kd_C_gatherFrom_93 (by decide) ?_
          exact ih3 (m9 + 1, q) _ _ _ (by dsimp only; omega) ⟨lv_sub hl [1, 2, 3, 4, 0] rfl, hP, hD, hS, by dsimp only; omega, hq, hql, by dsimp only; rw [← hd, hf]; simp only [gf_]; rw [if_pos h64, if_neg (fun h => by rw [h36] at h; exact absurd h.1 (by simp))]⟩
        · skip
          have h36 := b2_t c_57
          refine lv_aload_n hx hb kd_C_gatherFrom_60 rfl (lv_at hl 0 rfl) ?_
          refine lv_iload hx hb kd_C_gatherFrom_61 (lv_at hl 4 rfl) ?_
          refine hx_callRi (va_runV (As := [.int (nI m9)]) (rest := []) ⟨hx, hb, hml, hown, hts⟩ (mc_C_isHidden h0 hw hm ha b1 b2 m1 m2 m3 m4 a1 a2 a3 c1 c2 nc no nm nar pa co ho nn si ty kn so ca ca bi q m9 (by omega) hq hql) (cwV 1 hts (goodIn_sub (hx_m5 km_446 km_448 kv_C_isHidden km_5 km_449) (by decide +kernel)) rfl rfl rfl (by decide +kernel) ⟨Nat.le_of_ble_eq_true rfl, Nat.le_of_ble_eq_true rfl⟩) (pr_V (hC.S hS) hP [0, 1, 5, 13] rfl (ci := 4) rfl (q0 := 0) rfl) rfl rfl hl.1 rfl (lv_room (Nat.le_of_ble_eq_true rfl)) kd_C_gatherFrom_63 ⟨Nat.le_of_ble_eq_true rfl, Nat.le_of_ble_eq_true rfl⟩) ?_
          refine lv_if_ne (tgt := 90) hx hb kd_C_gatherFrom_66 (by decide) (fun c_66 => ?_) (fun c_66 => ?_)
          · skip
            have h66 := b2_t c_66
            refine lv_iinc (v := nI (m9 + 1)) (lv' := [(4, .int (nI (m9 + 1))), (0, .ref h0), (1, .int k), (2, .int n), (3, .int (nI N))]) hx hb kd_C_gatherFrom_90 hl (k := 4) rfl (nI_1 m9) (by decide) rfl (fun ls hl => ?_)
            refine lv_goto (tgt := 3) hx hb kd_C_gatherFrom_93 (by decide) ?_
            exact ih3 (m9 + 1, q) _ _ _ (by dsimp only; omega) ⟨lv_sub hl [1, 2, 3, 4, 0] rfl, hP, hD, hS, by dsimp only; omega, hq, hql, by dsimp only; rw [← hd, hf]; simp only [gf_]; rw [if_pos h64, if_neg (fun h => by rw [h66] at h; exact absurd h.2 (by simp))]⟩
          · skip
            have h66 := b2_f c_66
            refine lv_aload_n hx hb kd_C_gatherFrom_69 rfl (lv_at hl 0 rfl) ?_
            refine va_get (D := D) (ci := 4) (v := .ref c1) (C := "HostBridge$Choice") (T := ct_C) (N := 6) hx hb hts cw_C hown hK hP 0 rfl rfl 3 (by decide) (hts _ km_111) (fun _ h9 => h9) rfl kd_C_gatherFrom_70 ?_
            refine lv_aload_n hx hb kd_C_gatherFrom_73 rfl (lv_at hl 0 rfl) ?_
            refine va_get (D := D) (ci := 4) (v := .int (nI q.length)) (C := "HostBridge$Choice") (T := ct_C) (N := 6) hx hb hts cw_C hown hK hP 0 rfl rfl 5 (by decide) (hts _ km_113) (fun _ h9 => h9) rfl kd_C_gatherFrom_74 ?_
            refine lv_iload hx hb kd_C_gatherFrom_77 (lv_at hl 4 rfl) ?_
            refine hx_iast (j := q.length) hx hb hK hP hD hS 13 rfl (rfl) (h64) (by decide) kd_C_gatherFrom_79 (fun H locs hP hD hS => ?_)
            have hP : va_P D cl_all [(h0, .inr (4, [.ref hw, .ref hm, .ref ha, .ref c1, .ref c2, .int (nI q.length)])), (hm, .inr (2, [.ref m1, .ref m2, .ref m3, .ref m4, .int (nI nm)])), (m1, .inl (cI, 64, .inl ho)), (m2, .inl (cI, 64, .inl nn)), (m3, .inl (cI, 64, .inl si)), (m4, .inl (cI, 64, .inl ty)), (ha, .inr (3, [.ref hw, .ref a1, .ref a2, .ref a3, .int (nI nar)])), (a1, .inl (cI, 4, .inl kn)), (a2, .inl (cI, 4, .inl so)), (a3, .inl (cL, 4, .inr (.inl bi))), (hw, .inr (1, [.ref b1, .ref b2, .int (nI nc), .int (nI no)])), (b1, .inl (cI, 16, .inl pa)), (b2, .inl (cI, 64, .inl co)), (c1, .inl (cI, 64, .inl (upd (cf_ q ca) q.length (nI m9))))] H := hP
            have hD : va_D A [(h0, .inr (4, [.ref hw, .ref hm, .ref ha, .ref c1, .ref c2, .int (nI q.length)])), (hm, .inr (2, [.ref m1, .ref m2, .ref m3, .ref m4, .int (nI nm)])), (m1, .inl (cI, 64, .inl ho)), (m2, .inl (cI, 64, .inl nn)), (m3, .inl (cI, 64, .inl si)), (m4, .inl (cI, 64, .inl ty)), (ha, .inr (3, [.ref hw, .ref a1, .ref a2, .ref a3, .int (nI nar)])), (a1, .inl (cI, 4, .inl kn)), (a2, .inl (cI, 4, .inl so)), (a3, .inl (cL, 4, .inr (.inl bi))), (hw, .inr (1, [.ref b1, .ref b2, .int (nI nc), .int (nI no)])), (b1, .inl (cI, 16, .inl pa)), (b2, .inl (cI, 64, .inl co)), (c1, .inl (cI, 64, .inl (upd (cf_ q ca) q.length (nI m9))))] := hD
            rw [cf_push] at hP hD
            refine lv_aload_n hx hb kd_C_gatherFrom_80 rfl (lv_at hl 0 rfl) ?_
            refine lv_dup hx hb kd_C_gatherFrom_81 rfl ?_
            refine va_get (D := D) (ci := 4) (v := .int (nI q.length)) (C := "HostBridge$Choice") (T := ct_C) (N := 6) hx hb hts cw_C hown hK hP 0 rfl rfl 5 (by decide) (hts _ km_113) (fun _ h9 => h9) rfl kd_C_gatherFrom_82 ?_
            refine lv_iconst (v := 1) hx hb kd_C_gatherFrom_85 (by decide) ?_
            refine lv_iadd hx hb kd_C_gatherFrom_86 ?_
            refine hx_topi (y := nI (q ++ [m9]).length) (by rw [nI_1, List.length_append]; rfl) ?_
            refine va_put (D := D) (ci := 4) (v := .int (nI (q ++ [m9]).length)) (ty := .int) (C := "HostBridge$Choice") (T := ct_C) (N := 6) hx hb hts cw_C cy_C cp_C cn_C hown hK hP hD hS 0 rfl rfl 5 (by decide) (hts _ km_113) (fun _ h9 => h9) rfl (by decide +kernel) rfl rfl (Nat.le_of_ble_eq_true rfl) kd_C_gatherFrom_87 (fun H locs hP hD hS => ?_)
            have hP : va_P D cl_all [(h0, .inr (4, [.ref hw, .ref hm, .ref ha, .ref c1, .ref c2, .int (nI (q ++ [m9]).length)])), (hm, .inr (2, [.ref m1, .ref m2, .ref m3, .ref m4, .int (nI nm)])), (m1, .inl (cI, 64, .inl ho)), (m2, .inl (cI, 64, .inl nn)), (m3, .inl (cI, 64, .inl si)), (m4, .inl (cI, 64, .inl ty)), (ha, .inr (3, [.ref hw, .ref a1, .ref a2, .ref a3, .int (nI nar)])), (a1, .inl (cI, 4, .inl kn)), (a2, .inl (cI, 4, .inl so)), (a3, .inl (cL, 4, .inr (.inl bi))), (hw, .inr (1, [.ref b1, .ref b2, .int (nI nc), .int (nI no)])), (b1, .inl (cI, 16, .inl pa)), (b2, .inl (cI, 64, .inl co)), (c1, .inl (cI, 64, .inl (cf_ (q ++ [m9]) ca)))] H := hP
            have hD : va_D A [(h0, .inr (4, [.ref hw, .ref hm, .ref ha, .ref c1, .ref c2, .int (nI (q ++ [m9]).length)])), (hm, .inr (2, [.ref m1, .ref m2, .ref m3, .ref m4, .int (nI nm)])), (m1, .inl (cI, 64, .inl ho)), (m2, .inl (cI, 64, .inl nn)), (m3, .inl (cI, 64, .inl si)), (m4, .inl (cI, 64, .inl ty)), (ha, .inr (3, [.ref hw, .ref a1, .ref a2, .ref a3, .int (nI nar)])), (a1, .inl (cI, 4, .inl kn)), (a2, .inl (cI, 4, .inl so)), (a3, .inl (cL, 4, .inr (.inl bi))), (hw, .inr (1, [.ref b1, .ref b2, .int (nI nc), .int (nI no)])), (b1, .inl (cI, 16, .inl pa)), (b2, .inl (cI, 64, .inl co)), (c1, .inl (cI, 64, .inl (cf_ (q ++ [m9]) ca)))] := hD
            refine lv_iinc (v := nI (m9 + 1)) (lv' := [(4, .int (nI (m9 + 1))), (0, .ref h0), (1, .int k), (2, .int n), (3, .int (nI N))]) hx hb kd_C_gatherFrom_90 hl (k := 4) rfl (nI_1 m9) (by decide) rfl (fun ls hl => ?_)
            refine lv_goto (tgt := 3) hx hb kd_C_gatherFrom_93 (by decide) ?_
            exact ih3 (m9 + 1, q ++ [m9]) _ _ _ (by dsimp only; omega) ⟨lv_sub hl [1, 2, 3, 4, 0] rfl, hP, hD, hS, by dsimp only; omega, fun c hc => (List.mem_append.mp hc).elim (hq c) (fun h => by rw [List.mem_singleton.mp h]; omega), by dsimp only; rw [List.length_append]; exact Nat.succ_le_of_lt h64, by dsimp only; rw [← hd, hf]; simp only [gf_]; rw [if_pos h64, if_pos ⟨by rw [h21, h36]; rfl, h66⟩]⟩

set_option maxHeartbeats 4000000 in
set_option maxRecDepth 100000 in
theorem mc_C_gather {l : Launch} {D : va_G} {cI cL cZ : ClassId} {tb : Nat} (h0 hw hm ha b1 b2 m1 m2 m3 m4 a1 a2 a3 c1 c2 nc no nm nar : Nat) (pa co ho nn si ty kn so ca : Nat → Int32) (bi : Nat → Int64) (ck k0 n : Int32) (N : Nat) (hn : N ≤ 4) (hok : ∀ i, i < N → ar_ok no (kn i) (so i) (bi i)) (hln : ln_ok nc pa) (hno : no ≤ 64) (hco : ∀ j, j < no → ∃ q : Nat, q < nc ∧ co j = nI q) (hnm : nm ≤ 64) (hk0 : ln_k nc k0) (sz : Nat) : Met l ky_C_gather kw_C_gather { frames := 4, cells := 0, slots := 0, locals := 93 } (pw_P D cI cL cZ tb [(h0, .inr (4, [.ref hw, .ref hm, .ref ha, .ref c1, .ref c2, .int ck])), (hm, .inr (2, [.ref m1, .ref m2, .ref m3, .ref m4, .int (nI nm)])), (m1, .inl (cI, 64, .inl ho)), (m2, .inl (cI, 64, .inl nn)), (m3, .inl (cI, 64, .inl si)), (m4, .inl (cI, 64, .inl ty)), (ha, .inr (3, [.ref hw, .ref a1, .ref a2, .ref a3, .int (nI nar)])), (a1, .inl (cI, 4, .inl kn)), (a2, .inl (cI, 4, .inl so)), (a3, .inl (cL, 4, .inr (.inl bi))), (hw, .inr (1, [.ref b1, .ref b2, .int (nI nc), .int (nI no)])), (b1, .inl (cI, 16, .inl pa)), (b2, .inl (cI, 64, .inl co)), (c1, .inl (cI, 64, .inl ca))] sz [.ref h0, .int k0, .int n, .int (nI N)]) (hx_QW D none [(h0, .inr (4, [.ref hw, .ref hm, .ref ha, .ref c1, .ref c2, .int (nI (ga_ (fun k L => gf_ (fun m => mi_ ho nn si k n (nI N) m && ft_ (fun i t => wf_ pa co (kn i) (so i) (bi i) t) (ty m) N) (hd_ ty) nm 0 L) pa 16 k0 []).length)])), (hm, .inr (2, [.ref m1, .ref m2, .ref m3, .ref m4, .int (nI nm)])), (m1, .inl (cI, 64, .inl ho)), (m2, .inl (cI, 64, .inl nn)), (m3, .inl (cI, 64, .inl si)), (m4, .inl (cI, 64, .inl ty)), (ha, .inr (3, [.ref hw, .ref a1, .ref a2, .ref a3, .int (nI nar)])), (a1, .inl (cI, 4, .inl kn)), (a2, .inl (cI, 4, .inl so)), (a3, .inl (cL, 4, .inr (.inl bi))), (hw, .inr (1, [.ref b1, .ref b2, .int (nI nc), .int (nI no)])), (b1, .inl (cI, 16, .inl pa)), (b2, .inl (cI, 64, .inl co)), (c1, .inl (cI, 64, .inl (cf_ (ga_ (fun k L => gf_ (fun m => mi_ ho nn si k n (nI N) m && ft_ (fun i t => wf_ pa co (kn i) (so i) (bi i) t) (ty m) N) (hd_ ty) nm 0 L) pa 16 k0 []) ca)))] (va_A [(h0, .inr (4, [.ref hw, .ref hm, .ref ha, .ref c1, .ref c2, .int ck])), (hm, .inr (2, [.ref m1, .ref m2, .ref m3, .ref m4, .int (nI nm)])), (m1, .inl (cI, 64, .inl ho)), (m2, .inl (cI, 64, .inl nn)), (m3, .inl (cI, 64, .inl si)), (m4, .inl (cI, 64, .inl ty)), (ha, .inr (3, [.ref hw, .ref a1, .ref a2, .ref a3, .int (nI nar)])), (a1, .inl (cI, 4, .inl kn)), (a2, .inl (cI, 4, .inl so)), (a3, .inl (cL, 4, .inr (.inl bi))), (hw, .inr (1, [.ref b1, .ref b2, .int (nI nc), .int (nI no)])), (b1, .inl (cI, 16, .inl pa)), (b2, .inl (cI, 64, .inl co)), (c1, .inl (cI, 64, .inl ca))] sz)) 0 0 (va_A [(h0, .inr (4, [.ref hw, .ref hm, .ref ha, .ref c1, .ref c2, .int ck])), (hm, .inr (2, [.ref m1, .ref m2, .ref m3, .ref m4, .int (nI nm)])), (m1, .inl (cI, 64, .inl ho)), (m2, .inl (cI, 64, .inl nn)), (m3, .inl (cI, 64, .inl si)), (m4, .inl (cI, 64, .inl ty)), (ha, .inr (3, [.ref hw, .ref a1, .ref a2, .ref a3, .int (nI nar)])), (a1, .inl (cI, 4, .inl kn)), (a2, .inl (cI, 4, .inl so)), (a3, .inl (cL, 4, .inr (.inl bi))), (hw, .inr (1, [.ref b1, .ref b2, .int (nI nc), .int (nI no)])), (b1, .inl (cI, 16, .inl pa)), (b2, .inl (cI, 64, .inl co)), (c1, .inl (cI, 64, .inl ca))] sz) := by
  refine Met.ofW (cc := kc_C_gather) (maxL := 6) (ret := none) (by decide) rfl ?_
  intro p e s m args below meth c s₁ B hml hv
  obtain ⟨rfl, hsz, hC, hP, hD0⟩ := hv
  have hx := B.exec
  have hb := B.bytes
  have hr := B.returns
  have hlocks := B.notSynchronized
  have hown : s.vm.findClass "HostBridge$Choice" = some m.cls := findClass_of_methodNamed B.named
  subst hsz
  have hD := hD0.self (sz := s.heap.size)
  generalize hAe : va_A [(h0, .inr (4, [.ref hw, .ref hm, .ref ha, .ref c1, .ref c2, .int ck])), (hm, .inr (2, [.ref m1, .ref m2, .ref m3, .ref m4, .int (nI nm)])), (m1, .inl (cI, 64, .inl ho)), (m2, .inl (cI, 64, .inl nn)), (m3, .inl (cI, 64, .inl si)), (m4, .inl (cI, 64, .inl ty)), (ha, .inr (3, [.ref hw, .ref a1, .ref a2, .ref a3, .int (nI nar)])), (a1, .inl (cI, 4, .inl kn)), (a2, .inl (cI, 4, .inl so)), (a3, .inl (cL, 4, .inr (.inl bi))), (hw, .inr (1, [.ref b1, .ref b2, .int (nI nc), .int (nI no)])), (b1, .inl (cI, 16, .inl pa)), (b2, .inl (cI, 64, .inl co)), (c1, .inl (cI, 64, .inl ca))] s.heap.size = A at hD hC ⊢
  have hA : ∀ q : Nat, s.heap.size ≤ q → A q := fun q h => by rw [← hAe]; exact Or.inr h
  have hS : va_S A s.heap s.heap [] := va_S.rf
  have hK := hC.K
  have hts := hC.ts [.ref h0, .int k0, .int n, .int (nI N)].toArray
  have hl := lv_entry ([.ref h0, .int k0, .int n, .int (nI N)]) (n := 6) (Nat.le_of_ble_eq_true rfl)
  rw [lg_entry_eq]
  generalize (lg_sl ([.ref h0, .int k0, .int n, .int (nI N)]) ++ List.replicate (6 - (lg_sl ([.ref h0, .int k0, .int n, .int (nI N)])).length) Slot.unset).toArray = ls at hl ⊢
  have hl : lv_has ls 6 [(0, .ref h0), (1, .int k0), (2, .int n), (3, .int (nI N))] := hl
  refine lv_aload_n hx hb kd_C_gather_0 rfl (lv_at hl 0 rfl) ?_
  refine lv_iconst (v := 0) hx hb kd_C_gather_1 (by decide) ?_
  refine hx_topi (y := nI ([] : List Nat).length) (rfl) ?_
  refine va_put (D := D) (ci := 4) (v := .int (nI ([] : List Nat).length)) (ty := .int) (C := "HostBridge$Choice") (T := ct_C) (N := 6) hx hb hts cw_C cy_C cp_C cn_C hown hK hP hD hS 0 rfl rfl 5 (by decide) (hts _ km_113) (fun _ h9 => h9) rfl (by decide +kernel) rfl rfl (Nat.le_of_ble_eq_true rfl) kd_C_gather_2 (fun H locs hP hD hS => ?_)
  have hP : va_P D cl_all [(h0, .inr (4, [.ref hw, .ref hm, .ref ha, .ref c1, .ref c2, .int (nI ([] : List Nat).length)])), (hm, .inr (2, [.ref m1, .ref m2, .ref m3, .ref m4, .int (nI nm)])), (m1, .inl (cI, 64, .inl ho)), (m2, .inl (cI, 64, .inl nn)), (m3, .inl (cI, 64, .inl si)), (m4, .inl (cI, 64, .inl ty)), (ha, .inr (3, [.ref hw, .ref a1, .ref a2, .ref a3, .int (nI nar)])), (a1, .inl (cI, 4, .inl kn)), (a2, .inl (cI, 4, .inl so)), (a3, .inl (cL, 4, .inr (.inl bi))), (hw, .inr (1, [.ref b1, .ref b2, .int (nI nc), .int (nI no)])), (b1, .inl (cI, 16, .inl pa)), (b2, .inl (cI, 64, .inl co)), (c1, .inl (cI, 64, .inl ca))] H := hP
  have hD : va_D A [(h0, .inr (4, [.ref hw, .ref hm, .ref ha, .ref c1, .ref c2, .int (nI ([] : List Nat).length)])), (hm, .inr (2, [.ref m1, .ref m2, .ref m3, .ref m4, .int (nI nm)])), (m1, .inl (cI, 64, .inl ho)), (m2, .inl (cI, 64, .inl nn)), (m3, .inl (cI, 64, .inl si)), (m4, .inl (cI, 64, .inl ty)), (ha, .inr (3, [.ref hw, .ref a1, .ref a2, .ref a3, .int (nI nar)])), (a1, .inl (cI, 4, .inl kn)), (a2, .inl (cI, 4, .inl so)), (a3, .inl (cL, 4, .inr (.inl bi))), (hw, .inr (1, [.ref b1, .ref b2, .int (nI nc), .int (nI no)])), (b1, .inl (cI, 16, .inl pa)), (b2, .inl (cI, 64, .inl co)), (c1, .inl (cI, 64, .inl ca))] := hD
  have hP : va_P D cl_all [(h0, .inr (4, [.ref hw, .ref hm, .ref ha, .ref c1, .ref c2, .int (nI ([] : List Nat).length)])), (hm, .inr (2, [.ref m1, .ref m2, .ref m3, .ref m4, .int (nI nm)])), (m1, .inl (cI, 64, .inl ho)), (m2, .inl (cI, 64, .inl nn)), (m3, .inl (cI, 64, .inl si)), (m4, .inl (cI, 64, .inl ty)), (ha, .inr (3, [.ref hw, .ref a1, .ref a2, .ref a3, .int (nI nar)])), (a1, .inl (cI, 4, .inl kn)), (a2, .inl (cI, 4, .inl so)), (a3, .inl (cL, 4, .inr (.inl bi))), (hw, .inr (1, [.ref b1, .ref b2, .int (nI nc), .int (nI no)])), (b1, .inl (cI, 16, .inl pa)), (b2, .inl (cI, 64, .inl co)), (c1, .inl (cI, 64, .inl (cf_ [] ca)))] H := by rw [cf_nil]; exact hP
  have hD : va_D A [(h0, .inr (4, [.ref hw, .ref hm, .ref ha, .ref c1, .ref c2, .int (nI ([] : List Nat).length)])), (hm, .inr (2, [.ref m1, .ref m2, .ref m3, .ref m4, .int (nI nm)])), (m1, .inl (cI, 64, .inl ho)), (m2, .inl (cI, 64, .inl nn)), (m3, .inl (cI, 64, .inl si)), (m4, .inl (cI, 64, .inl ty)), (ha, .inr (3, [.ref hw, .ref a1, .ref a2, .ref a3, .int (nI nar)])), (a1, .inl (cI, 4, .inl kn)), (a2, .inl (cI, 4, .inl so)), (a3, .inl (cL, 4, .inr (.inl bi))), (hw, .inr (1, [.ref b1, .ref b2, .int (nI nc), .int (nI no)])), (b1, .inl (cI, 16, .inl pa)), (b2, .inl (cI, 64, .inl co)), (c1, .inl (cI, 64, .inl (cf_ [] ca)))] := by rw [cf_nil]; exact hD
  refine lv_iload_n hx hb kd_C_gather_5 rfl (lv_at hl 1 rfl) ?_
  refine lv_istore (lv' := [(4, .int k0), (0, .ref h0), (1, .int k0), (2, .int n), (3, .int (nI N))]) hx hb kd_C_gather_6 hl (by decide) rfl (fun ls hl => ?_)
  refine lv_iconst (v := 0) hx hb kd_C_gather_8 (by decide) ?_
  refine lv_istore (lv' := [(5, .int 0), (4, .int k0), (0, .ref h0), (1, .int k0), (2, .int n), (3, .int (nI N))]) hx hb kd_C_gather_9 hl (by decide) rfl (fun ls hl => ?_)
  refine hx_loopW (σ := Nat × Int32 × List Nat) (I := fun x ls H locs => lv_has ls 6 [(0, .ref h0), (2, .int n), (3, .int (nI N)), (4, .int x.2.1), (5, .int (nI x.1))] ∧ va_P D cl_all [(h0, .inr (4, [.ref hw, .ref hm, .ref ha, .ref c1, .ref c2, .int (nI x.2.2.length)])), (hm, .inr (2, [.ref m1, .ref m2, .ref m3, .ref m4, .int (nI nm)])), (m1, .inl (cI, 64, .inl ho)), (m2, .inl (cI, 64, .inl nn)), (m3, .inl (cI, 64, .inl si)), (m4, .inl (cI, 64, .inl ty)), (ha, .inr (3, [.ref hw, .ref a1, .ref a2, .ref a3, .int (nI nar)])), (a1, .inl (cI, 4, .inl kn)), (a2, .inl (cI, 4, .inl so)), (a3, .inl (cL, 4, .inr (.inl bi))), (hw, .inr (1, [.ref b1, .ref b2, .int (nI nc), .int (nI no)])), (b1, .inl (cI, 16, .inl pa)), (b2, .inl (cI, 64, .inl co)), (c1, .inl (cI, 64, .inl (cf_ x.2.2 ca)))] H ∧ va_D A [(h0, .inr (4, [.ref hw, .ref hm, .ref ha, .ref c1, .ref c2, .int (nI x.2.2.length)])), (hm, .inr (2, [.ref m1, .ref m2, .ref m3, .ref m4, .int (nI nm)])), (m1, .inl (cI, 64, .inl ho)), (m2, .inl (cI, 64, .inl nn)), (m3, .inl (cI, 64, .inl si)), (m4, .inl (cI, 64, .inl ty)), (ha, .inr (3, [.ref hw, .ref a1, .ref a2, .ref a3, .int (nI nar)])), (a1, .inl (cI, 4, .inl kn)), (a2, .inl (cI, 4, .inl so)), (a3, .inl (cL, 4, .inr (.inl bi))), (hw, .inr (1, [.ref b1, .ref b2, .int (nI nc), .int (nI no)])), (b1, .inl (cI, 16, .inl pa)), (b2, .inl (cI, 64, .inl co)), (c1, .inl (cI, 64, .inl (cf_ x.2.2 ca)))] ∧ va_S A s.heap H locs ∧ x.1 ≤ 16 ∧ ln_k nc x.2.1 ∧ (∀ c ∈ x.2.2, c < 64) ∧ x.2.2.length ≤ 64 ∧ ga_ (fun k L => gf_ (fun m => mi_ ho nn si k n (nI N) m && ft_ (fun i t => wf_ pa co (kn i) (so i) (bi i) t) (ty m) N) (hd_ ty) nm 0 L) pa (16 - x.1) x.2.1 x.2.2 = ga_ (fun k L => gf_ (fun m => mi_ ho nn si k n (nI N) m && ft_ (fun i t => wf_ pa co (kn i) (so i) (bi i) t) (ty m) N) (hd_ ty) nm 0 L) pa 16 k0 []) (μ := fun x => 16 - x.1) ?_ (0, k0, []) ⟨lv_sub hl [2, 4, 5, 1, 0] rfl, hP, hD, hS, Nat.zero_le _, hk0, fun c h => absurd h List.not_mem_nil, Nat.zero_le _, rfl⟩
  intro x ls H locs hI ih11
  obtain ⟨z, k, q⟩ := x
  obtain ⟨hl, hP, hD, hS, hz, hk, hq, hql, hd⟩ := hI
  dsimp only at hl hP hD hz hk hq hql hd ih11
  refine lv_iload hx hb kd_C_gather_11 (lv_at hl 4 rfl) ?_
  refine lv_bipush (v := 16) hx hb kd_C_gather_13 (by decide) ?_
  refine lv_icmp_ge (tgt := 50) hx hb kd_C_gather_15 (by decide) (fun c_15 => ?_) (fun c_15 => ?_)
  · skip
    have h16 : z = 16 := by
      have h9 : nI 16 ≤ nI z := c_15
      rw [nI_leI (by decide) (by omega)] at h9; omega
    exact hx_vretW hx hb hr hlocks (by rw [← hd, h16]; exact hP) hS kd_C_gather_50
  · skip
    have h16 : z < 16 := by
      have h9 : ¬ nI 16 ≤ nI z := c_15
      rw [nI_leI (by decide) (by omega)] at h9; omega
    have hf : 16 - z = (15 - z) + 1 := by omega
    refine lv_iload hx hb kd_C_gather_18 (lv_at hl 3 rfl) ?_
    refine lv_iconst (v := -1) hx hb kd_C_gather_20 (by decide) ?_
    refine lv_icmp_eq (tgt := 50) hx hb kd_C_gather_21 (by decide) (fun c_21 => ?_) (fun c_21 => ?_)
    · skip
      exact hx_vretW hx hb hr hlocks (by rw [← hd, hf]; simp only [ga_]; rw [if_pos c_21]; exact hP) hS kd_C_gather_50
    · skip
      obtain ⟨j, hj, rfl⟩ := hk.resolve_left c_21
      refine lv_aload_n hx hb kd_C_gather_24 rfl (lv_at hl 0 rfl) ?_
      refine lv_iload hx hb kd_C_gather_25 (lv_at hl 3 rfl) ?_
      refine lv_iload_n hx hb kd_C_gather_27 rfl (lv_at hl 1 rfl) ?_
      refine lv_iload_n hx hb kd_C_gather_28 rfl (lv_at hl 2 rfl) ?_
      refine hx_callWv (va_runV (As := [.int (nI j), .int n, .int (nI N)]) (rest := []) ⟨hx, hb, hml, hown, hts⟩ (mc_C_gatherFrom h0 hw hm ha b1 b2 m1 m2 m3 m4 a1 a2 a3 c1 c2 nc no nm nar pa co ho nn si ty kn so ca bi (nI j) n N q hn hok hln hno hco hnm hq hql _) (cwV 3 hts (goodIn_sub (hx_m5 km_435 km_437 kv_C_gatherFrom km_5 km_438) (by decide +kernel)) rfl rfl rfl (by decide +kernel) ⟨Nat.le_of_ble_eq_true rfl, Nat.le_of_ble_eq_true rfl⟩) (pw_V (hC.S hS) hP hD hS hA [0, 1, 2, 3, 4, 5, 6, 7, 8, 9, 10, 11, 12, 13] (by decide) rfl (ci := 4) rfl (q0 := 0) rfl) rfl rfl hl.1 rfl (lv_room (Nat.le_of_ble_eq_true rfl)) kd_C_gather_29 ⟨Nat.le_of_ble_eq_true rfl, Nat.le_of_ble_eq_true rfl⟩) hP hD hS hA [0, 1, 2, 3, 4, 5, 6, 7, 8, 9, 10, 11, 12, 13] rfl rfl (fun H locs hP hD hS hF => ?_)
      have hP : va_P D cl_all [(h0, .inr (4, [.ref hw, .ref hm, .ref ha, .ref c1, .ref c2, .int (nI (gf_ (fun m => mi_ ho nn si (nI j) n (nI N) m && ft_ (fun i t => wf_ pa co (kn i) (so i) (bi i) t) (ty m) N) (hd_ ty) nm 0 q).length)])), (hm, .inr (2, [.ref m1, .ref m2, .ref m3, .ref m4, .int (nI nm)])), (m1, .inl (cI, 64, .inl ho)), (m2, .inl (cI, 64, .inl nn)), (m3, .inl (cI, 64, .inl si)), (m4, .inl (cI, 64, .inl ty)), (ha, .inr (3, [.ref hw, .ref a1, .ref a2, .ref a3, .int (nI nar)])), (a1, .inl (cI, 4, .inl kn)), (a2, .inl (cI, 4, .inl so)), (a3, .inl (cL, 4, .inr (.inl bi))), (hw, .inr (1, [.ref b1, .ref b2, .int (nI nc), .int (nI no)])), (b1, .inl (cI, 16, .inl pa)), (b2, .inl (cI, 64, .inl co)), (c1, .inl (cI, 64, .inl (cf_ (gf_ (fun m => mi_ ho nn si (nI j) n (nI N) m && ft_ (fun i t => wf_ pa co (kn i) (so i) (bi i) t) (ty m) N) (hd_ ty) nm 0 q) ca)))] H := hP
      have hD : va_D A [(h0, .inr (4, [.ref hw, .ref hm, .ref ha, .ref c1, .ref c2, .int (nI (gf_ (fun m => mi_ ho nn si (nI j) n (nI N) m && ft_ (fun i t => wf_ pa co (kn i) (so i) (bi i) t) (ty m) N) (hd_ ty) nm 0 q).length)])), (hm, .inr (2, [.ref m1, .ref m2, .ref m3, .ref m4, .int (nI nm)])), (m1, .inl (cI, 64, .inl ho)), (m2, .inl (cI, 64, .inl nn)), (m3, .inl (cI, 64, .inl si)), (m4, .inl (cI, 64, .inl ty)), (ha, .inr (3, [.ref hw, .ref a1, .ref a2, .ref a3, .int (nI nar)])), (a1, .inl (cI, 4, .inl kn)), (a2, .inl (cI, 4, .inl so)), (a3, .inl (cL, 4, .inr (.inl bi))), (hw, .inr (1, [.ref b1, .ref b2, .int (nI nc), .int (nI no)])), (b1, .inl (cI, 16, .inl pa)), (b2, .inl (cI, 64, .inl co)), (c1, .inl (cI, 64, .inl (cf_ (gf_ (fun m => mi_ ho nn si (nI j) n (nI N) m && ft_ (fun i t => wf_ pa co (kn i) (so i) (bi i) t) (ty m) N) (hd_ ty) nm 0 q) ca)))] := hD
      refine lv_aload_n hx hb kd_C_gather_32 rfl (lv_at hl 0 rfl) ?_
      refine va_get (D := D) (ci := 4) (v := .ref hw) (C := "HostBridge$Choice") (T := ct_C) (N := 6) hx hb hts cw_C hown hK hP 0 rfl rfl 0 (by decide) (hts _ km_108) (fun _ h9 => h9) rfl kd_C_gather_33 ?_
      refine va_getN (host := "HostBridge") (D := D) (ci := 1) (v := .ref b1) (C := "HostBridge$World") (T := ct_W) (N := 4) hx hb hts cw_W hown hK hP 10 rfl rfl 0 (by decide) (hts _ km_33) (fun _ h9 => h9) rfl kd_C_gather_36 ?_
      refine lv_iload hx hb kd_C_gather_39 (lv_at hl 3 rfl) ?_
      refine hx_iald (j := j) hx hb hK hP 11 rfl (rfl) (by have := hln.1; omega) (by decide) kd_C_gather_41 ?_
      refine lv_istore (lv' := [(4, .int (pa j)), (0, .ref h0), (2, .int n), (3, .int (nI N)), (5, .int (nI z))]) hx hb kd_C_gather_42 hl (by decide) rfl (fun ls hl => ?_)
      refine lv_iinc (v := nI (z + 1)) (lv' := [(5, .int (nI (z + 1))), (4, .int (pa j)), (0, .ref h0), (2, .int n), (3, .int (nI N))]) hx hb kd_C_gather_44 hl (k := 4) rfl (nI_1 z) (by decide) rfl (fun ls hl => ?_)
      refine lv_goto (tgt := 11) hx hb kd_C_gather_47 (by decide) ?_
      exact ih11 (z + 1, pa j, gf_ (fun m => mi_ ho nn si (nI j) n (nI N) m && ft_ (fun i t => wf_ pa co (kn i) (so i) (bi i) t) (ty m) N) (hd_ ty) nm 0 q) _ _ _ (by dsimp only; omega) ⟨lv_sub hl [2, 3, 4, 1, 0] rfl, hP, hD, hS, by dsimp only; omega, hln.at hj, gf_in hq (by omega), gf_len hql, by dsimp only; rw [← hd, hf, show 16 - (z + 1) = 15 - z by omega]; simp only [ga_]; rw [if_neg c_21, nI_clamp (by have := hln.1; omega)]⟩

set_option maxHeartbeats 4000000 in
set_option maxRecDepth 100000 in
theorem mc_C_best {l : Launch} {D : va_G} {cI cL cZ : ClassId} {tb : Nat} (h0 hw hm ha b1 b2 m1 m2 m3 m4 a1 a2 a3 c1 c2 nc no nm nar : Nat) (pa co ho nn si ty kn so ca lo : Nat → Int32) (bi : Nat → Int64) (L : List Nat) (n : Nat) (hn : n ≤ 4) (hok : ∀ i, i < n → ar_ok no (kn i) (so i) (bi i)) (hln : ln_ok nc pa) (hno : no ≤ 64) (hco : ∀ j, j < no → ∃ q : Nat, q < nc ∧ co j = nI q) (hL : ∀ c ∈ L, c < 64) (hLl : L.length ≤ 64) (hL0 : 0 < L.length) (sz : Nat) : Met l ky_C_best kw_C_best { frames := 4, cells := 0, slots := 0, locals := 93 } (pw_P D cI cL cZ tb [(h0, .inr (4, [.ref hw, .ref hm, .ref ha, .ref c1, .ref c2, .int (nI L.length)])), (hm, .inr (2, [.ref m1, .ref m2, .ref m3, .ref m4, .int (nI nm)])), (m4, .inl (cI, 64, .inl ty)), (ha, .inr (3, [.ref hw, .ref a1, .ref a2, .ref a3, .int (nI nar)])), (a1, .inl (cI, 4, .inl kn)), (a2, .inl (cI, 4, .inl so)), (a3, .inl (cL, 4, .inr (.inl bi))), (hw, .inr (1, [.ref b1, .ref b2, .int (nI nc), .int (nI no)])), (b1, .inl (cI, 16, .inl pa)), (b2, .inl (cI, 64, .inl co)), (c1, .inl (cI, 64, .inl (cf_ L ca))), (c2, .inl (cI, 4, .inl lo))] sz [.ref h0, .int (nI n)]) (hx_QW D (some (.int (bb_ (fun j => il_ (wg_ pa co kn so bi ty n) (lf_ (fun i => lw_ (fun j => wg_ pa co kn so bi ty n j i) L) lo n) n j) L (-1)))) [(h0, .inr (4, [.ref hw, .ref hm, .ref ha, .ref c1, .ref c2, .int (nI L.length)])), (hm, .inr (2, [.ref m1, .ref m2, .ref m3, .ref m4, .int (nI nm)])), (m4, .inl (cI, 64, .inl ty)), (ha, .inr (3, [.ref hw, .ref a1, .ref a2, .ref a3, .int (nI nar)])), (a1, .inl (cI, 4, .inl kn)), (a2, .inl (cI, 4, .inl so)), (a3, .inl (cL, 4, .inr (.inl bi))), (hw, .inr (1, [.ref b1, .ref b2, .int (nI nc), .int (nI no)])), (b1, .inl (cI, 16, .inl pa)), (b2, .inl (cI, 64, .inl co)), (c1, .inl (cI, 64, .inl (cf_ L ca))), (c2, .inl (cI, 4, .inl (lf_ (fun i => lw_ (fun j => wg_ pa co kn so bi ty n j i) L) lo n)))] (va_A [(h0, .inr (4, [.ref hw, .ref hm, .ref ha, .ref c1, .ref c2, .int (nI L.length)])), (hm, .inr (2, [.ref m1, .ref m2, .ref m3, .ref m4, .int (nI nm)])), (m4, .inl (cI, 64, .inl ty)), (ha, .inr (3, [.ref hw, .ref a1, .ref a2, .ref a3, .int (nI nar)])), (a1, .inl (cI, 4, .inl kn)), (a2, .inl (cI, 4, .inl so)), (a3, .inl (cL, 4, .inr (.inl bi))), (hw, .inr (1, [.ref b1, .ref b2, .int (nI nc), .int (nI no)])), (b1, .inl (cI, 16, .inl pa)), (b2, .inl (cI, 64, .inl co)), (c1, .inl (cI, 64, .inl (cf_ L ca))), (c2, .inl (cI, 4, .inl lo))] sz)) 0 0 (va_A [(h0, .inr (4, [.ref hw, .ref hm, .ref ha, .ref c1, .ref c2, .int (nI L.length)])), (hm, .inr (2, [.ref m1, .ref m2, .ref m3, .ref m4, .int (nI nm)])), (m4, .inl (cI, 64, .inl ty)), (ha, .inr (3, [.ref hw, .ref a1, .ref a2, .ref a3, .int (nI nar)])), (a1, .inl (cI, 4, .inl kn)), (a2, .inl (cI, 4, .inl so)), (a3, .inl (cL, 4, .inr (.inl bi))), (hw, .inr (1, [.ref b1, .ref b2, .int (nI nc), .int (nI no)])), (b1, .inl (cI, 16, .inl pa)), (b2, .inl (cI, 64, .inl co)), (c1, .inl (cI, 64, .inl (cf_ L ca))), (c2, .inl (cI, 4, .inl lo))] sz) := by
  refine Met.ofW (cc := kc_C_best) (maxL := 4) (ret := (some .int)) (by decide) rfl ?_
  intro p e s m args below meth c s₁ B hml hv
  obtain ⟨rfl, hsz, hC, hP, hD0⟩ := hv
  have hx := B.exec
  have hb := B.bytes
  have hr := B.returns
  have hlocks := B.notSynchronized
  have hown : s.vm.findClass "HostBridge$Choice" = some m.cls := findClass_of_methodNamed B.named
  subst hsz
  have hD := hD0.self (sz := s.heap.size)
  generalize hAe : va_A [(h0, .inr (4, [.ref hw, .ref hm, .ref ha, .ref c1, .ref c2, .int (nI L.length)])), (hm, .inr (2, [.ref m1, .ref m2, .ref m3, .ref m4, .int (nI nm)])), (m4, .inl (cI, 64, .inl ty)), (ha, .inr (3, [.ref hw, .ref a1, .ref a2, .ref a3, .int (nI nar)])), (a1, .inl (cI, 4, .inl kn)), (a2, .inl (cI, 4, .inl so)), (a3, .inl (cL, 4, .inr (.inl bi))), (hw, .inr (1, [.ref b1, .ref b2, .int (nI nc), .int (nI no)])), (b1, .inl (cI, 16, .inl pa)), (b2, .inl (cI, 64, .inl co)), (c1, .inl (cI, 64, .inl (cf_ L ca))), (c2, .inl (cI, 4, .inl lo))] s.heap.size = A at hD hC ⊢
  have hA : ∀ q : Nat, s.heap.size ≤ q → A q := fun q h => by rw [← hAe]; exact Or.inr h
  have hS : va_S A s.heap s.heap [] := va_S.rf
  have hK := hC.K
  have hts := hC.ts [.ref h0, .int (nI n)].toArray
  have hl := lv_entry ([.ref h0, .int (nI n)]) (n := 4) (Nat.le_of_ble_eq_true rfl)
  rw [lg_entry_eq]
  generalize (lg_sl ([.ref h0, .int (nI n)]) ++ List.replicate (4 - (lg_sl ([.ref h0, .int (nI n)])).length) Slot.unset).toArray = ls at hl ⊢
  have hl : lv_has ls 4 [(0, .ref h0), (1, .int (nI n))] := hl
  refine lv_iconst (v := 0) hx hb kd_C_best_0 (by decide) ?_
  refine lv_istore_n (lv' := [(2, .int 0), (0, .ref h0), (1, .int (nI n))]) hx hb kd_C_best_1 rfl hl (by decide) rfl (fun ls hl => ?_)
  refine hx_loopW (σ := Nat) (I := fun i ls H locs => lv_has ls 4 [(0, .ref h0), (1, .int (nI n)), (2, .int (nI i))] ∧ va_P D cl_all [(h0, .inr (4, [.ref hw, .ref hm, .ref ha, .ref c1, .ref c2, .int (nI L.length)])), (hm, .inr (2, [.ref m1, .ref m2, .ref m3, .ref m4, .int (nI nm)])), (m4, .inl (cI, 64, .inl ty)), (ha, .inr (3, [.ref hw, .ref a1, .ref a2, .ref a3, .int (nI nar)])), (a1, .inl (cI, 4, .inl kn)), (a2, .inl (cI, 4, .inl so)), (a3, .inl (cL, 4, .inr (.inl bi))), (hw, .inr (1, [.ref b1, .ref b2, .int (nI nc), .int (nI no)])), (b1, .inl (cI, 16, .inl pa)), (b2, .inl (cI, 64, .inl co)), (c1, .inl (cI, 64, .inl (cf_ L ca))), (c2, .inl (cI, 4, .inl (lf_ (fun i => lw_ (fun j => wg_ pa co kn so bi ty n j i) L) lo i)))] H ∧ va_D A [(h0, .inr (4, [.ref hw, .ref hm, .ref ha, .ref c1, .ref c2, .int (nI L.length)])), (hm, .inr (2, [.ref m1, .ref m2, .ref m3, .ref m4, .int (nI nm)])), (m4, .inl (cI, 64, .inl ty)), (ha, .inr (3, [.ref hw, .ref a1, .ref a2, .ref a3, .int (nI nar)])), (a1, .inl (cI, 4, .inl kn)), (a2, .inl (cI, 4, .inl so)), (a3, .inl (cL, 4, .inr (.inl bi))), (hw, .inr (1, [.ref b1, .ref b2, .int (nI nc), .int (nI no)])), (b1, .inl (cI, 16, .inl pa)), (b2, .inl (cI, 64, .inl co)), (c1, .inl (cI, 64, .inl (cf_ L ca))), (c2, .inl (cI, 4, .inl (lf_ (fun i => lw_ (fun j => wg_ pa co kn so bi ty n j i) L) lo i)))] ∧ va_S A s.heap H locs ∧ i ≤ n) (μ := fun i => n - i) ?_ 0 ⟨lv_sub hl [1, 2, 0] rfl, by rw [lf_0]; exact hP, by rw [lf_0]; exact hD, hS, Nat.zero_le _⟩
  intro i ls H locs hI ih2
  obtain ⟨hl, hP, hD, hS, hi⟩ := hI
  refine lv_iload_n hx hb kd_C_best_2 rfl (lv_at hl 2 rfl) ?_
  refine lv_iload_n hx hb kd_C_best_3 rfl (lv_at hl 1 rfl) ?_
  refine lv_icmp_ge (tgt := 25) hx hb kd_C_best_4 (by decide) (fun c_4 => ?_) (fun c_4 => ?_)
  · skip
    have hin : i = n := by rw [nI_leI (by omega) (by omega)] at c_4; omega
    rw [hin] at hP hD
    refine lv_iconst (v := -1) hx hb kd_C_best_25 (by decide) ?_
    refine lv_istore_n (lv' := [(2, .int (-1)), (0, .ref h0), (1, .int (nI n))]) hx hb kd_C_best_26 rfl hl (by decide) rfl (fun ls hl => ?_)
    refine lv_iconst (v := 0) hx hb kd_C_best_27 (by decide) ?_
    refine lv_istore_n (lv' := [(3, .int 0), (2, .int (-1)), (0, .ref h0), (1, .int (nI n))]) hx hb kd_C_best_28 rfl hl (by decide) rfl (fun ls hl => ?_)
    refine hx_loopR (σ := Nat × Int32) (I := fun x ls => lv_has ls 4 [(0, .ref h0), (1, .int (nI n)), (2, .int x.2), (3, .int (nI x.1))] ∧ x.1 ≤ L.length ∧ bb_ (fun j => il_ (wg_ pa co kn so bi ty n) (lf_ (fun i => lw_ (fun j => wg_ pa co kn so bi ty n j i) L) lo n) n j) (L.drop x.1) x.2 = bb_ (fun j => il_ (wg_ pa co kn so bi ty n) (lf_ (fun i => lw_ (fun j => wg_ pa co kn so bi ty n j i) L) lo n) n j) L (-1)) (μ := fun x => L.length - x.1) ?_ (0, -1) ⟨lv_sub hl [2, 3, 1, 0] rfl, Nat.zero_le _, rfl⟩
    intro x ls hI ih29
    obtain ⟨c9, b9⟩ := x
    obtain ⟨hl, hc, hd⟩ := hI
    dsimp only at hl hc hd ih29
    refine lv_iload_n hx hb kd_C_best_29 rfl (lv_at hl 3 rfl) ?_
    refine lv_aload_n hx hb kd_C_best_30 rfl (lv_at hl 0 rfl) ?_
    refine va_get (D := D) (ci := 4) (v := .int (nI L.length)) (C := "HostBridge$Choice") (T := ct_C) (N := 6) hx hb hts cw_C hown hK hP 0 rfl rfl 5 (by decide) (hts _ km_113) (fun _ h9 => h9) rfl kd_C_best_31 ?_
    refine lv_icmp_ge (tgt := 71) hx hb kd_C_best_34 (by decide) (fun c_34 => ?_) (fun c_34 => ?_)
    · skip
      have hc9 : c9 = L.length := by rw [nI_leI (by omega) (by omega)] at c_34; omega
      refine lv_iload_n hx hb kd_C_best_71 rfl (lv_at hl 2 rfl) ?_
      exact hx_iretW hx hb hr hlocks (by rw [← hd, hc9, List.drop_length]; rfl) (hP) hS kd_C_best_72
    · skip
      have hc9 : c9 < L.length := by rw [nI_leI (by omega) (by omega)] at c_34; omega
      refine lv_aload_n hx hb kd_C_best_37 rfl (lv_at hl 0 rfl) ?_
      refine lv_aload_n hx hb kd_C_best_38 rfl (lv_at hl 0 rfl) ?_
      refine va_get (D := D) (ci := 4) (v := .ref c1) (C := "HostBridge$Choice") (T := ct_C) (N := 6) hx hb hts cw_C hown hK hP 0 rfl rfl 3 (by decide) (hts _ km_111) (fun _ h9 => h9) rfl kd_C_best_39 ?_
      refine lv_iload_n hx hb kd_C_best_42 rfl (lv_at hl 3 rfl) ?_
      refine hx_iald (j := c9) hx hb hK hP 10 rfl (rfl) (by omega) (by decide) kd_C_best_43 ?_
      refine hx_topi (y := nI (L[c9])) (cf_at hc9) ?_
      refine lv_iload_n hx hb kd_C_best_44 rfl (lv_at hl 1 rfl) ?_
      refine hx_callRi (va_runV (As := [.int (nI (L[c9])), .int (nI n)]) (rest := []) ⟨hx, hb, hml, hown, hts⟩ (mc_C_isLowest h0 hw hm ha b1 b2 m1 m2 m3 m4 a1 a2 a3 c1 c2 nc no nm nar pa co ho nn si ty kn so ca (lf_ (fun i => lw_ (fun j => wg_ pa co kn so bi ty n j i) L) lo n) bi L n (L[c9]) hn hok hln hno hco (hL _ (List.getElem_mem hc9))) (cwV 2 hts (goodIn_sub (hx_m5 km_483 km_485 kv_C_isLowest km_5 km_486) (by decide +kernel)) rfl rfl rfl (by decide +kernel) ⟨Nat.le_of_ble_eq_true rfl, Nat.le_of_ble_eq_true rfl⟩) (pr_V (hC.S hS) hP [0, 1, 2, 3, 4, 5, 6, 7, 8, 9, 11] rfl (ci := 4) rfl (q0 := 0) rfl) rfl rfl hl.1 rfl (lv_room (Nat.le_of_ble_eq_true rfl)) kd_C_best_45 ⟨Nat.le_of_ble_eq_true rfl, Nat.le_of_ble_eq_true rfl⟩) ?_
      refine lv_if_eq (tgt := 65) hx hb kd_C_best_48 (by decide) (fun c_48 => ?_) (fun c_48 => ?_)
      · skip
        have h48 := b2_f c_48
        refine lv_iinc (v := nI (c9 + 1)) (lv' := [(3, .int (nI (c9 + 1))), (0, .ref h0), (1, .int (nI n)), (2, .int b9)]) hx hb kd_C_best_65 hl (k := 3) rfl (nI_1 c9) (by decide) rfl (fun ls hl => ?_)
        refine lv_goto (tgt := 29) hx hb kd_C_best_68 (by decide) ?_
        exact ih29 (c9 + 1, b9) _ (by dsimp only; omega) ⟨lv_sub hl [1, 2, 3, 0] rfl, by dsimp only; omega, by dsimp only; rw [← hd, dr_at hc9]; simp only [bb_]; rw [if_neg (by rw [h48]; simp)]⟩
      · skip
        have h48 := b2_t c_48
        refine lv_iload_n hx hb kd_C_best_51 rfl (lv_at hl 2 rfl) ?_
        refine lv_iconst (v := -1) hx hb kd_C_best_52 (by decide) ?_
        refine lv_icmp_eq (tgt := 58) hx hb kd_C_best_53 (by decide) (fun c_53 => ?_) (fun c_53 => ?_)
        · skip
          refine lv_aload_n hx hb kd_C_best_58 rfl (lv_at hl 0 rfl) ?_
          refine va_get (D := D) (ci := 4) (v := .ref c1) (C := "HostBridge$Choice") (T := ct_C) (N := 6) hx hb hts cw_C hown hK hP 0 rfl rfl 3 (by decide) (hts _ km_111) (fun _ h9 => h9) rfl kd_C_best_59 ?_
          refine lv_iload_n hx hb kd_C_best_62 rfl (lv_at hl 3 rfl) ?_
          refine hx_iald (j := c9) hx hb hK hP 10 rfl (rfl) (by omega) (by decide) kd_C_best_63 ?_
          refine hx_topi (y := nI (L[c9])) (cf_at hc9) ?_
          refine lv_istore_n (lv' := [(2, .int (nI (L[c9]))), (0, .ref h0), (1, .int (nI n)), (3, .int (nI c9))]) hx hb kd_C_best_64 rfl hl (by decide) rfl (fun ls hl => ?_)
          refine lv_iinc (v := nI (c9 + 1)) (lv' := [(3, .int (nI (c9 + 1))), (2, .int (nI (L[c9]))), (0, .ref h0), (1, .int (nI n))]) hx hb kd_C_best_65 hl (k := 3) rfl (nI_1 c9) (by decide) rfl (fun ls hl => ?_)
          refine lv_goto (tgt := 29) hx hb kd_C_best_68 (by decide) ?_
          exact ih29 (c9 + 1, nI (L[c9])) _ (by dsimp only; omega) ⟨lv_sub hl [2, 3, 1, 0] rfl, by dsimp only; omega, by dsimp only; rw [← hd, dr_at hc9]; simp only [bb_]; rw [if_pos h48, if_pos c_53]⟩
        · skip
          refine lv_iconst (v := -1) hx hb kd_C_best_56 (by decide) ?_
          exact hx_iretW hx hb hr hlocks (by rw [← hd, dr_at hc9]; simp only [bb_]; rw [if_pos h48, if_neg c_53]) (hP) hS kd_C_best_57
  · skip
    have hin : i < n := by rw [nI_leI (by omega) (by omega)] at c_4; omega
    refine lv_aload_n hx hb kd_C_best_7 rfl (lv_at hl 0 rfl) ?_
    refine va_get (D := D) (ci := 4) (v := .ref c2) (C := "HostBridge$Choice") (T := ct_C) (N := 6) hx hb hts cw_C hown hK hP 0 rfl rfl 4 (by decide) (hts _ km_112) (fun _ h9 => h9) rfl kd_C_best_8 ?_
    refine lv_iload_n hx hb kd_C_best_11 rfl (lv_at hl 2 rfl) ?_
    refine lv_aload_n hx hb kd_C_best_12 rfl (lv_at hl 0 rfl) ?_
    refine lv_iload_n hx hb kd_C_best_13 rfl (lv_at hl 2 rfl) ?_
    refine lv_iload_n hx hb kd_C_best_14 rfl (lv_at hl 1 rfl) ?_
    refine hx_callRi (va_runV (As := [.int (nI i), .int (nI n)]) (rest := [.int (nI i), .ref c2]) ⟨hx, hb, hml, hown, hts⟩ (mc_C_lowestWeight h0 hw hm ha b1 b2 m1 m2 m3 m4 a1 a2 a3 c1 c2 nc no nm nar pa co ho nn si ty kn so ca lo bi L n i hn hok hln hno hco hin hL hLl hL0) (cwV 2 hts (goodIn_sub (hx_m5 km_470 km_472 kv_C_lowestWeight km_5 km_473) (by decide +kernel)) rfl rfl rfl (by decide +kernel) ⟨Nat.le_of_ble_eq_true rfl, Nat.le_of_ble_eq_true rfl⟩) (pr_V (hC.S hS) hP [0, 1, 2, 3, 4, 5, 6, 7, 8, 9, 10] rfl (ci := 4) rfl (q0 := 0) rfl) rfl rfl hl.1 rfl (lv_room (Nat.le_of_ble_eq_true rfl)) kd_C_best_15 ⟨Nat.le_of_ble_eq_true rfl, Nat.le_of_ble_eq_true rfl⟩) ?_
    refine hx_iast (j := i) hx hb hK hP hD hS 11 rfl (rfl) (by omega) (by decide) kd_C_best_18 (fun H locs hP hD hS => ?_)
    have hP : va_P D cl_all [(h0, .inr (4, [.ref hw, .ref hm, .ref ha, .ref c1, .ref c2, .int (nI L.length)])), (hm, .inr (2, [.ref m1, .ref m2, .ref m3, .ref m4, .int (nI nm)])), (m4, .inl (cI, 64, .inl ty)), (ha, .inr (3, [.ref hw, .ref a1, .ref a2, .ref a3, .int (nI nar)])), (a1, .inl (cI, 4, .inl kn)), (a2, .inl (cI, 4, .inl so)), (a3, .inl (cL, 4, .inr (.inl bi))), (hw, .inr (1, [.ref b1, .ref b2, .int (nI nc), .int (nI no)])), (b1, .inl (cI, 16, .inl pa)), (b2, .inl (cI, 64, .inl co)), (c1, .inl (cI, 64, .inl (cf_ L ca))), (c2, .inl (cI, 4, .inl (upd (lf_ (fun i => lw_ (fun j => wg_ pa co kn so bi ty n j i) L) lo i) i (lw_ (fun j => wg_ pa co kn so bi ty n j i) L))))] H := hP
    have hD : va_D A [(h0, .inr (4, [.ref hw, .ref hm, .ref ha, .ref c1, .ref c2, .int (nI L.length)])), (hm, .inr (2, [.ref m1, .ref m2, .ref m3, .ref m4, .int (nI nm)])), (m4, .inl (cI, 64, .inl ty)), (ha, .inr (3, [.ref hw, .ref a1, .ref a2, .ref a3, .int (nI nar)])), (a1, .inl (cI, 4, .inl kn)), (a2, .inl (cI, 4, .inl so)), (a3, .inl (cL, 4, .inr (.inl bi))), (hw, .inr (1, [.ref b1, .ref b2, .int (nI nc), .int (nI no)])), (b1, .inl (cI, 16, .inl pa)), (b2, .inl (cI, 64, .inl co)), (c1, .inl (cI, 64, .inl (cf_ L ca))), (c2, .inl (cI, 4, .inl (upd (lf_ (fun i => lw_ (fun j => wg_ pa co kn so bi ty n j i) L) lo i) i (lw_ (fun j => wg_ pa co kn so bi ty n j i) L))))] := hD
    rw [lf_s (fun i => lw_ (fun j => wg_ pa co kn so bi ty n j i) L) lo i] at hP hD
    refine lv_iinc (v := nI (i + 1)) (lv' := [(2, .int (nI (i + 1))), (0, .ref h0), (1, .int (nI n))]) hx hb kd_C_best_19 hl (k := 2) rfl (nI_1 i) (by decide) rfl (fun ls hl => ?_)
    refine lv_goto (tgt := 2) hx hb kd_C_best_22 (by decide) ?_
    exact ih2 (i + 1) _ _ _ (by omega) ⟨lv_sub hl [1, 2, 0] rfl, hP, hD, hS, by omega⟩
end
section
/-! WHAT IS WRITTEN DOWN, AND THE HOST'S ANSWERS (HostBridge$Diary, HostBridge$Answers) -/
theorem xr_N (a b : Nat) : nI a ^^^ nI b = nI (a ^^^ b) := by
  apply Int32.toBitVec_inj.mp
  show BitVec.ofNat 32 a ^^^ BitVec.ofNat 32 b = BitVec.ofNat 32 (a ^^^ b)
  apply BitVec.eq_of_getLsbD_eq
  intro i hi
  simp [BitVec.getLsbD_ofNat, Nat.testBit_xor, hi]
theorem xr_64 {k : Nat} (h : k < 2 ^ 31) : 0 ≤ nI k ^^^ 64 := by
  rw [show (64 : Int32) = nI 64 from rfl, xr_N]
  exact nI_pos' (Nat.xor_lt_two_pow h (by decide))
theorem rm_64 {k : Nat} (h : k < 2 ^ 31) : nI k - nI k / 64 * 64 = nI (k % 64) := pk_rem (d := 64) h (by decide) (by decide)

set_option maxHeartbeats 4000000 in
set_option maxRecDepth 100000 in
theorem mc_J_floorMod {l : Launch} {D : va_G} {cI cL cZ : ClassId} {tb : Nat} (q : Nat) (hq : q < 2 ^ 31) : Met l ky_J_floorMod kw_J_floorMod { frames := 0, cells := 0, slots := 0, locals := 0 } (pr_P D cI cL cZ tb [] [.int (nI q), .int 64]) (hx_QR (some (.int (nI (q % 64))))) 0 0 (fun _ => False) := by
  refine va_MetF (cc := kc_J_floorMod) (maxL := 3) (ret := (some .int)) (by decide +kernel) rfl ?_
  intro p e s m args below meth c s₁ B hml hv
  obtain ⟨rfl, hC, hP⟩ := hv
  have hx := B.exec
  have hb := B.bytes
  have hr := B.returns
  have hlocks := B.notSynchronized
  have hown : s.vm.findClass "java/lang/Math" = some m.cls := findClass_of_methodNamed B.named
  have hS : va_S (fun _ => False) s.heap s.heap [] := va_S.rf
  have hK := hC.K
  have hts := hC.ts [.int (nI q), .int 64].toArray
  have hl := lv_entry ([.int (nI q), .int 64]) (n := 3) (Nat.le_of_ble_eq_true rfl)
  rw [lg_entry_eq]
  generalize (lg_sl ([.int (nI q), .int 64]) ++ List.replicate (3 - (lg_sl ([.int (nI q), .int 64])).length) Slot.unset).toArray = ls at hl ⊢
  have hl : lv_has ls 3 [(0, .int (nI q)), (1, .int 64)] := hl
  refine lv_iload_n hx hb kd_J_floorMod_0 rfl (lv_at hl 0 rfl) ?_
  refine lv_iload_n hx hb kd_J_floorMod_1 rfl (lv_at hl 1 rfl) ?_
  refine lv_irem hx hb kd_J_floorMod_2 (by decide) ?_
  refine hx_topi (y := nI (q % 64)) (rm_64 hq) ?_
  refine lv_istore_n (lv' := [(2, .int (nI (q % 64))), (0, .int (nI q)), (1, .int 64)]) hx hb kd_J_floorMod_3 rfl hl (by decide) rfl (fun ls hl => ?_)
  refine lv_iload_n hx hb kd_J_floorMod_4 rfl (lv_at hl 1 rfl) ?_
  refine lv_iload_n hx hb kd_J_floorMod_5 rfl (lv_at hl 2 rfl) ?_
  refine lv_ixor hx hb kd_J_floorMod_6 ?_
  refine lv_if_ge (tgt := 18) hx hb kd_J_floorMod_7 (by decide) (fun c_7 => ?_) (fun c_7 => ?_)
  · skip
    refine lv_iload_n hx hb kd_J_floorMod_18 rfl (lv_at hl 0 rfl) ?_
    exact hx_iretR hx hb hr hlocks (by simp [c_7]) kd_J_floorMod_19
  · exact absurd c_7 (not_not_intro (xr_64 hq))

set_option maxHeartbeats 4000000 in
set_option maxRecDepth 100000 in
theorem mc_D_rowOf {l : Launch} {D : va_G} {cI cL cZ : ClassId} {tb : Nat} (q : Nat) (hq : q < 2 ^ 31) : Met l ky_D_rowOf kw_D_rowOf { frames := 1, cells := 0, slots := 0, locals := 22 } (pr_P D cI cL cZ tb [] [.int (nI q)]) (hx_QR (some (.int (nI (q % 64))))) 0 0 (fun _ => False) := by
  refine Met.ofW (cc := kc_D_rowOf) (maxL := 1) (ret := (some .int)) (by decide) rfl ?_
  intro p e s m args below meth c s₁ B hml hv
  obtain ⟨rfl, hC, hP⟩ := hv
  have hx := B.exec
  have hb := B.bytes
  have hr := B.returns
  have hlocks := B.notSynchronized
  have hown : s.vm.findClass "HostBridge$Diary" = some m.cls := findClass_of_methodNamed B.named
  have hS : va_S (fun _ => False) s.heap s.heap [] := va_S.rf
  have hK := hC.K
  have hts := hC.ts [.int (nI q)].toArray
  have hl := lv_entry ([.int (nI q)]) (n := 1) (Nat.le_of_ble_eq_true rfl)
  rw [lg_entry_eq]
  generalize (lg_sl ([.int (nI q)]) ++ List.replicate (1 - (lg_sl ([.int (nI q)])).length) Slot.unset).toArray = ls at hl ⊢
  have hl : lv_has ls 1 [(0, .int (nI q))] := hl
  refine lv_iload_n hx hb kd_D_rowOf_0 rfl (lv_at hl 0 rfl) ?_
  refine lv_bipush (v := 64) hx hb kd_D_rowOf_1 (by decide) ?_
  refine hx_callRi (va_runS (As := [.int (nI q), .int 64]) (rest := []) ⟨hx, hb, hml, hown, hts⟩ (mc_J_floorMod q hq) (va_cwS 2 hts (goodIn_sub (hx_m4 km_499 km_500 km_16 km_501) (by decide +kernel)) rfl rfl rfl (by decide +kernel) ⟨Nat.le_of_ble_eq_true rfl, Nat.le_of_ble_eq_true rfl⟩) (pr_S (hC.S hS) hP [] rfl) rfl rfl hl.1 rfl (lv_room (Nat.le_of_ble_eq_true rfl)) kd_D_rowOf_3 ⟨Nat.le_of_ble_eq_true rfl, Nat.le_of_ble_eq_true rfl⟩) ?_
  exact hx_iretR hx hb hr hlocks (by simp []) kd_D_rowOf_6

set_option maxHeartbeats 4000000 in
set_option maxRecDepth 100000 in
theorem mc_D_open {l : Launch} {D : va_G} {cI cL cZ : ClassId} {tb : Nat} (h0 d1 d2 d3 d4 nd : Nat) (lg : Int64) (fo fm fs : Nat → Int32) (fv : Nat → Int64) (ob me mn : Int32) (hnd : nd < 2 ^ 31) (sz : Nat) : Met l ky_D_open kw_D_open { frames := 2, cells := 0, slots := 0, locals := 42 } (pw_P D cI cL cZ tb [(h0, .inr (5, [.ref d1, .ref d2, .ref d3, .ref d4, .long lg, .int (nI nd)])), (d1, .inl (cI, 64, .inl fo)), (d2, .inl (cI, 64, .inl fm)), (d3, .inl (cI, 64, .inl fs))] sz [.ref h0, .int ob, .int me, .int mn]) (hx_QW D none [(h0, .inr (5, [.ref d1, .ref d2, .ref d3, .ref d4, .long lg, .int (nI nd)])), (d1, .inl (cI, 64, .inl (upd fo (nd % 64) ob))), (d2, .inl (cI, 64, .inl (upd fm (nd % 64) me))), (d3, .inl (cI, 64, .inl (upd fs (nd % 64) mn)))] (va_A [(h0, .inr (5, [.ref d1, .ref d2, .ref d3, .ref d4, .long lg, .int (nI nd)])), (d1, .inl (cI, 64, .inl fo)), (d2, .inl (cI, 64, .inl fm)), (d3, .inl (cI, 64, .inl fs))] sz)) 0 0 (va_A [(h0, .inr (5, [.ref d1, .ref d2, .ref d3, .ref d4, .long lg, .int (nI nd)])), (d1, .inl (cI, 64, .inl fo)), (d2, .inl (cI, 64, .inl fm)), (d3, .inl (cI, 64, .inl fs))] sz) := by
  refine Met.ofW (cc := kc_D_open) (maxL := 5) (ret := none) (by decide) rfl ?_
  intro p e s m args below meth c s₁ B hml hv
  obtain ⟨rfl, hsz, hC, hP, hD0⟩ := hv
  have hx := B.exec
  have hb := B.bytes
  have hr := B.returns
  have hlocks := B.notSynchronized
  have hown : s.vm.findClass "HostBridge$Diary" = some m.cls := findClass_of_methodNamed B.named
  subst hsz
  have hD := hD0.self (sz := s.heap.size)
  generalize hAe : va_A [(h0, .inr (5, [.ref d1, .ref d2, .ref d3, .ref d4, .long lg, .int (nI nd)])), (d1, .inl (cI, 64, .inl fo)), (d2, .inl (cI, 64, .inl fm)), (d3, .inl (cI, 64, .inl fs))] s.heap.size = A at hD hC ⊢
  have hA : ∀ q : Nat, s.heap.size ≤ q → A q := fun q h => by rw [← hAe]; exact Or.inr h
  have hS : va_S A s.heap s.heap [] := va_S.rf
  have hK := hC.K
  have hts := hC.ts [.ref h0, .int ob, .int me, .int mn].toArray
  have hl := lv_entry ([.ref h0, .int ob, .int me, .int mn]) (n := 5) (Nat.le_of_ble_eq_true rfl)
  rw [lg_entry_eq]
  generalize (lg_sl ([.ref h0, .int ob, .int me, .int mn]) ++ List.replicate (5 - (lg_sl ([.ref h0, .int ob, .int me, .int mn])).length) Slot.unset).toArray = ls at hl ⊢
  have hl : lv_has ls 5 [(0, .ref h0), (1, .int ob), (2, .int me), (3, .int mn)] := hl
  refine lv_aload_n hx hb kd_D_open_0 rfl (lv_at hl 0 rfl) ?_
  refine va_get (D := D) (ci := 5) (v := .int (nI nd)) (C := "HostBridge$Diary") (T := ct_D) (N := 6) hx hb hts cw_D hown hK hP 0 rfl rfl 5 (by decide) (hts _ km_140) (fun _ h9 => h9) rfl kd_D_open_1 ?_
  refine hx_callRi (va_runS (As := [.int (nI nd)]) (rest := []) ⟨hx, hb, hml, hown, hts⟩ (mc_D_rowOf nd hnd) (va_cwS 1 hts (goodIn_sub (hx_m4 km_496 km_497 km_6 km_498) (by decide +kernel)) rfl rfl rfl (by decide +kernel) ⟨Nat.le_of_ble_eq_true rfl, Nat.le_of_ble_eq_true rfl⟩) (pr_S (hC.S hS) hP [] rfl) rfl rfl hl.1 rfl (lv_room (Nat.le_of_ble_eq_true rfl)) kd_D_open_4 ⟨Nat.le_of_ble_eq_true rfl, Nat.le_of_ble_eq_true rfl⟩) ?_
  refine lv_istore (lv' := [(4, .int (nI (nd % 64))), (0, .ref h0), (1, .int ob), (2, .int me), (3, .int mn)]) hx hb kd_D_open_7 hl (by decide) rfl (fun ls hl => ?_)
  refine lv_aload_n hx hb kd_D_open_9 rfl (lv_at hl 1 rfl) ?_
  refine va_get (D := D) (ci := 5) (v := .ref d1) (C := "HostBridge$Diary") (T := ct_D) (N := 6) hx hb hts cw_D hown hK hP 0 rfl rfl 0 (by decide) (hts _ km_134) (fun _ h9 => h9) rfl kd_D_open_10 ?_
  refine lv_iload hx hb kd_D_open_13 (lv_at hl 0 rfl) ?_
  refine lv_iload_n hx hb kd_D_open_15 rfl (lv_at hl 2 rfl) ?_
  refine hx_iast (j := nd % 64) hx hb hK hP hD hS 1 rfl (rfl) (Nat.mod_lt _ (by decide)) (by decide) kd_D_open_16 (fun H locs hP hD hS => ?_)
  have hP : va_P D cl_all [(h0, .inr (5, [.ref d1, .ref d2, .ref d3, .ref d4, .long lg, .int (nI nd)])), (d1, .inl (cI, 64, .inl (upd fo (nd % 64) ob))), (d2, .inl (cI, 64, .inl fm)), (d3, .inl (cI, 64, .inl fs))] H := hP
  have hD : va_D A [(h0, .inr (5, [.ref d1, .ref d2, .ref d3, .ref d4, .long lg, .int (nI nd)])), (d1, .inl (cI, 64, .inl (upd fo (nd % 64) ob))), (d2, .inl (cI, 64, .inl fm)), (d3, .inl (cI, 64, .inl fs))] := hD
  refine lv_aload_n hx hb kd_D_open_17 rfl (lv_at hl 1 rfl) ?_
  refine va_get (D := D) (ci := 5) (v := .ref d2) (C := "HostBridge$Diary") (T := ct_D) (N := 6) hx hb hts cw_D hown hK hP 0 rfl rfl 1 (by decide) (hts _ km_135) (fun _ h9 => h9) rfl kd_D_open_18 ?_
  refine lv_iload hx hb kd_D_open_21 (lv_at hl 0 rfl) ?_
  refine lv_iload_n hx hb kd_D_open_23 rfl (lv_at hl 3 rfl) ?_
  refine hx_iast (j := nd % 64) hx hb hK hP hD hS 2 rfl (rfl) (Nat.mod_lt _ (by decide)) (by decide) kd_D_open_24 (fun H locs hP hD hS => ?_)
  have hP : va_P D cl_all [(h0, .inr (5, [.ref d1, .ref d2, .ref d3, .ref d4, .long lg, .int (nI nd)])), (d1, .inl (cI, 64, .inl (upd fo (nd % 64) ob))), (d2, .inl (cI, 64, .inl (upd fm (nd % 64) me))), (d3, .inl (cI, 64, .inl fs))] H := hP
  have hD : va_D A [(h0, .inr (5, [.ref d1, .ref d2, .ref d3, .ref d4, .long lg, .int (nI nd)])), (d1, .inl (cI, 64, .inl (upd fo (nd % 64) ob))), (d2, .inl (cI, 64, .inl (upd fm (nd % 64) me))), (d3, .inl (cI, 64, .inl fs))] := hD
  refine lv_aload_n hx hb kd_D_open_25 rfl (lv_at hl 1 rfl) ?_
  refine va_get (D := D) (ci := 5) (v := .ref d3) (C := "HostBridge$Diary") (T := ct_D) (N := 6) hx hb hts cw_D hown hK hP 0 rfl rfl 2 (by decide) (hts _ km_136) (fun _ h9 => h9) rfl kd_D_open_26 ?_
  refine lv_iload hx hb kd_D_open_29 (lv_at hl 0 rfl) ?_
  refine lv_iload_n hx hb kd_D_open_31 rfl (lv_at hl 4 rfl) ?_
  refine hx_iast (j := nd % 64) hx hb hK hP hD hS 3 rfl (rfl) (Nat.mod_lt _ (by decide)) (by decide) kd_D_open_32 (fun H locs hP hD hS => ?_)
  have hP : va_P D cl_all [(h0, .inr (5, [.ref d1, .ref d2, .ref d3, .ref d4, .long lg, .int (nI nd)])), (d1, .inl (cI, 64, .inl (upd fo (nd % 64) ob))), (d2, .inl (cI, 64, .inl (upd fm (nd % 64) me))), (d3, .inl (cI, 64, .inl (upd fs (nd % 64) mn)))] H := hP
  have hD : va_D A [(h0, .inr (5, [.ref d1, .ref d2, .ref d3, .ref d4, .long lg, .int (nI nd)])), (d1, .inl (cI, 64, .inl (upd fo (nd % 64) ob))), (d2, .inl (cI, 64, .inl (upd fm (nd % 64) me))), (d3, .inl (cI, 64, .inl (upd fs (nd % 64) mn)))] := hD
  exact hx_vretW hx hb hr hlocks (hP.sub [0, 1, 2, 3] rfl) hS kd_D_open_33

set_option maxHeartbeats 4000000 in
set_option maxRecDepth 100000 in
theorem mc_D_setValue {l : Launch} {D : va_G} {cI cL cZ : ClassId} {tb : Nat} (h0 d1 d2 d3 d4 nd : Nat) (lg : Int64) (fo fm fs : Nat → Int32) (fv : Nat → Int64) (i : Nat) (v : Int64) (hnd : nd < 2 ^ 31) (hi : i < 4) (sz : Nat) : Met l ky_D_setValue kw_D_setValue { frames := 2, cells := 0, slots := 0, locals := 42 } (pw_P D cI cL cZ tb [(h0, .inr (5, [.ref d1, .ref d2, .ref d3, .ref d4, .long lg, .int (nI nd)])), (d4, .inl (cL, 256, .inr (.inl fv)))] sz [.ref h0, .int (nI i), .long v]) (hx_QW D none [(h0, .inr (5, [.ref d1, .ref d2, .ref d3, .ref d4, .long lg, .int (nI nd)])), (d4, .inl (cL, 256, .inr (.inl (vp_updL fv (nd % 64 * 4 + i) v))))] (va_A [(h0, .inr (5, [.ref d1, .ref d2, .ref d3, .ref d4, .long lg, .int (nI nd)])), (d4, .inl (cL, 256, .inr (.inl fv)))] sz)) 0 0 (va_A [(h0, .inr (5, [.ref d1, .ref d2, .ref d3, .ref d4, .long lg, .int (nI nd)])), (d4, .inl (cL, 256, .inr (.inl fv)))] sz) := by
  refine Met.ofW (cc := kc_D_setValue) (maxL := 4) (ret := none) (by decide) rfl ?_
  intro p e s m args below meth c s₁ B hml hv
  obtain ⟨rfl, hsz, hC, hP, hD0⟩ := hv
  have hx := B.exec
  have hb := B.bytes
  have hr := B.returns
  have hlocks := B.notSynchronized
  have hown : s.vm.findClass "HostBridge$Diary" = some m.cls := findClass_of_methodNamed B.named
  subst hsz
  have hD := hD0.self (sz := s.heap.size)
  generalize hAe : va_A [(h0, .inr (5, [.ref d1, .ref d2, .ref d3, .ref d4, .long lg, .int (nI nd)])), (d4, .inl (cL, 256, .inr (.inl fv)))] s.heap.size = A at hD hC ⊢
  have hA : ∀ q : Nat, s.heap.size ≤ q → A q := fun q h => by rw [← hAe]; exact Or.inr h
  have hS : va_S A s.heap s.heap [] := va_S.rf
  have hK := hC.K
  have hts := hC.ts [.ref h0, .int (nI i), .long v].toArray
  have hl := lv_entry ([.ref h0, .int (nI i), .long v]) (n := 4) (Nat.le_of_ble_eq_true rfl)
  rw [lg_entry_eq]
  generalize (lg_sl ([.ref h0, .int (nI i), .long v]) ++ List.replicate (4 - (lg_sl ([.ref h0, .int (nI i), .long v])).length) Slot.unset).toArray = ls at hl ⊢
  have hl : lv_has ls 4 [(0, .ref h0), (1, .int (nI i)), (2, .long v)] := hl
  refine lv_aload_n hx hb kd_D_setValue_0 rfl (lv_at hl 0 rfl) ?_
  refine va_get (D := D) (ci := 5) (v := .ref d4) (C := "HostBridge$Diary") (T := ct_D) (N := 6) hx hb hts cw_D hown hK hP 0 rfl rfl 3 (by decide) (hts _ km_137) (fun _ h9 => h9) rfl kd_D_setValue_1 ?_
  refine lv_aload_n hx hb kd_D_setValue_4 rfl (lv_at hl 0 rfl) ?_
  refine va_get (D := D) (ci := 5) (v := .int (nI nd)) (C := "HostBridge$Diary") (T := ct_D) (N := 6) hx hb hts cw_D hown hK hP 0 rfl rfl 5 (by decide) (hts _ km_140) (fun _ h9 => h9) rfl kd_D_setValue_5 ?_
  refine hx_callRi (va_runS (As := [.int (nI nd)]) (rest := [.ref d4]) ⟨hx, hb, hml, hown, hts⟩ (mc_D_rowOf nd hnd) (va_cwS 1 hts (goodIn_sub (hx_m4 km_496 km_497 km_6 km_498) (by decide +kernel)) rfl rfl rfl (by decide +kernel) ⟨Nat.le_of_ble_eq_true rfl, Nat.le_of_ble_eq_true rfl⟩) (pr_S (hC.S hS) hP [] rfl) rfl rfl hl.1 rfl (lv_room (Nat.le_of_ble_eq_true rfl)) kd_D_setValue_8 ⟨Nat.le_of_ble_eq_true rfl, Nat.le_of_ble_eq_true rfl⟩) ?_
  refine lv_iconst (v := 4) hx hb kd_D_setValue_11 (by decide) ?_
  refine lv_imul hx hb kd_D_setValue_12 ?_
  refine hx_topi (y := nI (nd % 64 * 4)) (by rw [show (4 : Int32) = nI 4 from rfl, pk_mul]) ?_
  refine lv_iload_n hx hb kd_D_setValue_13 rfl (lv_at hl 1 rfl) ?_
  refine lv_iadd hx hb kd_D_setValue_14 ?_
  refine hx_topi (y := nI (nd % 64 * 4 + i)) (nI_add _ _) ?_
  refine lv_lload_n hx hb kd_D_setValue_15 rfl (lv_at hl 2 rfl) ?_
  refine hx_last (j := nd % 64 * 4 + i) hx hb hK hP hD hS 1 rfl (rfl) (by have : nd % 64 < 64 := Nat.mod_lt _ (by decide); omega) (by decide) kd_D_setValue_16 (fun H locs hP hD hS => ?_)
  have hP : va_P D cl_all [(h0, .inr (5, [.ref d1, .ref d2, .ref d3, .ref d4, .long lg, .int (nI nd)])), (d4, .inl (cL, 256, .inr (.inl (vp_updL fv (nd % 64 * 4 + i) v))))] H := hP
  have hD : va_D A [(h0, .inr (5, [.ref d1, .ref d2, .ref d3, .ref d4, .long lg, .int (nI nd)])), (d4, .inl (cL, 256, .inr (.inl (vp_updL fv (nd % 64 * 4 + i) v))))] := hD
  exact hx_vretW hx hb hr hlocks (hP.sub [0, 1] rfl) hS kd_D_setValue_17

set_option maxHeartbeats 4000000 in
set_option maxRecDepth 100000 in
theorem mc_D_close {l : Launch} {D : va_G} {cI cL cZ : ClassId} {tb : Nat} (h0 d1 d2 d3 d4 nd : Nat) (lg : Int64) (fo fm fs : Nat → Int32) (fv : Nat → Int64) (g : Int64) (sz : Nat) : Met l ky_D_close kw_D_close { frames := 0, cells := 0, slots := 0, locals := 0 } (pw_P D cI cL cZ tb [(h0, .inr (5, [.ref d1, .ref d2, .ref d3, .ref d4, .long lg, .int (nI nd)]))] sz [.ref h0, .long g]) (hx_QW D none [(h0, .inr (5, [.ref d1, .ref d2, .ref d3, .ref d4, .long g, .int (nI (nd + 1))]))] (va_A [(h0, .inr (5, [.ref d1, .ref d2, .ref d3, .ref d4, .long lg, .int (nI nd)]))] sz)) 0 0 (va_A [(h0, .inr (5, [.ref d1, .ref d2, .ref d3, .ref d4, .long lg, .int (nI nd)]))] sz) := by
  refine Met.ofW (cc := kc_D_close) (maxL := 3) (ret := none) (by decide) rfl ?_
  intro p e s m args below meth c s₁ B hml hv
  obtain ⟨rfl, hsz, hC, hP, hD0⟩ := hv
  have hx := B.exec
  have hb := B.bytes
  have hr := B.returns
  have hlocks := B.notSynchronized
  have hown : s.vm.findClass "HostBridge$Diary" = some m.cls := findClass_of_methodNamed B.named
  subst hsz
  have hD := hD0.self (sz := s.heap.size)
  generalize hAe : va_A [(h0, .inr (5, [.ref d1, .ref d2, .ref d3, .ref d4, .long lg, .int (nI nd)]))] s.heap.size = A at hD hC ⊢
  have hA : ∀ q : Nat, s.heap.size ≤ q → A q := fun q h => by rw [← hAe]; exact Or.inr h
  have hS : va_S A s.heap s.heap [] := va_S.rf
  have hK := hC.K
  have hts := hC.ts [.ref h0, .long g].toArray
  have hl := lv_entry ([.ref h0, .long g]) (n := 3) (Nat.le_of_ble_eq_true rfl)
  rw [lg_entry_eq]
  generalize (lg_sl ([.ref h0, .long g]) ++ List.replicate (3 - (lg_sl ([.ref h0, .long g])).length) Slot.unset).toArray = ls at hl ⊢
  have hl : lv_has ls 3 [(0, .ref h0), (1, .long g)] := hl
  refine lv_aload_n hx hb kd_D_close_0 rfl (lv_at hl 0 rfl) ?_
  refine lv_lload_n hx hb kd_D_close_1 rfl (lv_at hl 1 rfl) ?_
  refine va_put (D := D) (ci := 5) (v := .long g) (ty := .long) (C := "HostBridge$Diary") (T := ct_D) (N := 6) hx hb hts cw_D cy_D cp_D cn_D hown hK hP hD hS 0 rfl rfl 4 (by decide) (hts _ km_138) (fun _ h9 => h9) rfl (by decide +kernel) rfl rfl (Nat.le_of_ble_eq_true rfl) kd_D_close_2 (fun H locs hP hD hS => ?_)
  have hP : va_P D cl_all [(h0, .inr (5, [.ref d1, .ref d2, .ref d3, .ref d4, .long g, .int (nI nd)]))] H := hP
  have hD : va_D A [(h0, .inr (5, [.ref d1, .ref d2, .ref d3, .ref d4, .long g, .int (nI nd)]))] := hD
  refine lv_aload_n hx hb kd_D_close_5 rfl (lv_at hl 0 rfl) ?_
  refine lv_dup hx hb kd_D_close_6 rfl ?_
  refine va_get (D := D) (ci := 5) (v := .int (nI nd)) (C := "HostBridge$Diary") (T := ct_D) (N := 6) hx hb hts cw_D hown hK hP 0 rfl rfl 5 (by decide) (hts _ km_140) (fun _ h9 => h9) rfl kd_D_close_7 ?_
  refine lv_iconst (v := 1) hx hb kd_D_close_10 (by decide) ?_
  refine lv_iadd hx hb kd_D_close_11 ?_
  refine hx_topi (y := nI (nd + 1)) (nI_1 nd) ?_
  refine va_put (D := D) (ci := 5) (v := .int (nI (nd + 1))) (ty := .int) (C := "HostBridge$Diary") (T := ct_D) (N := 6) hx hb hts cw_D cy_D cp_D cn_D hown hK hP hD hS 0 rfl rfl 5 (by decide) (hts _ km_140) (fun _ h9 => h9) rfl (by decide +kernel) rfl rfl (Nat.le_of_ble_eq_true rfl) kd_D_close_12 (fun H locs hP hD hS => ?_)
  have hP : va_P D cl_all [(h0, .inr (5, [.ref d1, .ref d2, .ref d3, .ref d4, .long g, .int (nI (nd + 1))]))] H := hP
  have hD : va_D A [(h0, .inr (5, [.ref d1, .ref d2, .ref d3, .ref d4, .long g, .int (nI (nd + 1))]))] := hD
  exact hx_vretW hx hb hr hlocks (hP.sub [0] rfl) hS kd_D_close_15

def kp_ (nd : Nat) (k : Int32) : Bool := (if k < 0 then false else (if (nI nd) ≤ k then false else (if 64 < ((nI nd) - k) then false else true)))
set_option maxHeartbeats 4000000 in
set_option maxRecDepth 100000 in
theorem mc_D_keeps {l : Launch} {D : va_G} {cI cL cZ : ClassId} {tb : Nat} (h0 d1 d2 d3 d4 nd : Nat) (lg : Int64) (fo fm fs : Nat → Int32) (fv : Nat → Int64) (k : Int32) : Met l ky_D_keeps kw_D_keeps { frames := 0, cells := 0, slots := 0, locals := 0 } (pr_P D cI cL cZ tb [(h0, .inr (5, [.ref d1, .ref d2, .ref d3, .ref d4, .long lg, .int (nI nd)]))] [.ref h0, .int k]) (hx_QR (some (.int (b2_ (kp_ nd k))))) 0 0 (fun _ => False) := by
  refine Met.ofW (cc := kc_D_keeps) (maxL := 2) (ret := (some .boolean)) (by decide) rfl ?_
  intro p e s m args below meth c s₁ B hml hv
  obtain ⟨rfl, hC, hP⟩ := hv
  have hx := B.exec
  have hb := B.bytes
  have hr := B.returns
  have hlocks := B.notSynchronized
  have hown : s.vm.findClass "HostBridge$Diary" = some m.cls := findClass_of_methodNamed B.named
  have hS : va_S (fun _ => False) s.heap s.heap [] := va_S.rf
  have hK := hC.K
  have hts := hC.ts [.ref h0, .int k].toArray
  have hl := lv_entry ([.ref h0, .int k]) (n := 2) (Nat.le_of_ble_eq_true rfl)
  rw [lg_entry_eq]
  generalize (lg_sl ([.ref h0, .int k]) ++ List.replicate (2 - (lg_sl ([.ref h0, .int k])).length) Slot.unset).toArray = ls at hl ⊢
  have hl : lv_has ls 2 [(0, .ref h0), (1, .int k)] := hl
  refine lv_iload_n hx hb kd_D_keeps_0 rfl (lv_at hl 1 rfl) ?_
  refine lv_if_lt (tgt := 27) hx hb kd_D_keeps_1 (by decide) (fun c_1 => ?_) (fun c_1 => ?_)
  · skip
    refine lv_iconst (v := 0) hx hb kd_D_keeps_27 (by decide) ?_
    exact hx_zretR hx hb hr hlocks (by unfold kp_; rw [if_pos c_1]; try rfl) kd_D_keeps_28
  · skip
    refine lv_iload_n hx hb kd_D_keeps_4 rfl (lv_at hl 1 rfl) ?_
    refine lv_aload_n hx hb kd_D_keeps_5 rfl (lv_at hl 0 rfl) ?_
    refine va_get (D := D) (ci := 5) (v := .int (nI nd)) (C := "HostBridge$Diary") (T := ct_D) (N := 6) hx hb hts cw_D hown hK hP 0 rfl rfl 5 (by decide) (hts _ km_140) (fun _ h9 => h9) rfl kd_D_keeps_6 ?_
    refine lv_icmp_ge (tgt := 27) hx hb kd_D_keeps_9 (by decide) (fun c_9 => ?_) (fun c_9 => ?_)
    · skip
      refine lv_iconst (v := 0) hx hb kd_D_keeps_27 (by decide) ?_
      exact hx_zretR hx hb hr hlocks (by unfold kp_; rw [if_neg c_1, if_pos c_9]; try rfl) kd_D_keeps_28
    · skip
      refine lv_aload_n hx hb kd_D_keeps_12 rfl (lv_at hl 0 rfl) ?_
      refine va_get (D := D) (ci := 5) (v := .int (nI nd)) (C := "HostBridge$Diary") (T := ct_D) (N := 6) hx hb hts cw_D hown hK hP 0 rfl rfl 5 (by decide) (hts _ km_140) (fun _ h9 => h9) rfl kd_D_keeps_13 ?_
      refine lv_iload_n hx hb kd_D_keeps_16 rfl (lv_at hl 1 rfl) ?_
      refine lv_isub hx hb kd_D_keeps_17 ?_
      refine lv_bipush (v := 64) hx hb kd_D_keeps_18 (by decide) ?_
      refine lv_icmp_gt (tgt := 27) hx hb kd_D_keeps_20 (by decide) (fun c_20 => ?_) (fun c_20 => ?_)
      · skip
        refine lv_iconst (v := 0) hx hb kd_D_keeps_27 (by decide) ?_
        exact hx_zretR hx hb hr hlocks (by unfold kp_; rw [if_neg c_1, if_neg c_9, if_pos c_20]; try rfl) kd_D_keeps_28
      · skip
        refine lv_iconst (v := 1) hx hb kd_D_keeps_23 (by decide) ?_
        refine lv_goto (tgt := 28) hx hb kd_D_keeps_24 (by decide) ?_
        exact hx_zretR hx hb hr hlocks (by unfold kp_; rw [if_neg c_1, if_neg c_9, if_neg c_20]; try rfl) kd_D_keeps_28

set_option maxHeartbeats 4000000 in
set_option maxRecDepth 100000 in
theorem mc_D_objectOf {l : Launch} {D : va_G} {cI cL cZ : ClassId} {tb : Nat} (h0 d1 d2 d3 d4 nd : Nat) (lg : Int64) (fo fm fs : Nat → Int32) (fv : Nat → Int64) (q : Nat) (hq : q < 2 ^ 31) : Met l ky_D_objectOf kw_D_objectOf { frames := 2, cells := 0, slots := 0, locals := 42 } (pr_P D cI cL cZ tb [(h0, .inr (5, [.ref d1, .ref d2, .ref d3, .ref d4, .long lg, .int (nI nd)])), (d1, .inl (cI, 64, .inl fo))] [.ref h0, .int (nI q)]) (hx_QR (some (.int (fo (q % 64))))) 0 0 (fun _ => False) := by
  refine Met.ofW (cc := kc_D_objectOf) (maxL := 2) (ret := (some .int)) (by decide) rfl ?_
  intro p e s m args below meth c s₁ B hml hv
  obtain ⟨rfl, hC, hP⟩ := hv
  have hx := B.exec
  have hb := B.bytes
  have hr := B.returns
  have hlocks := B.notSynchronized
  have hown : s.vm.findClass "HostBridge$Diary" = some m.cls := findClass_of_methodNamed B.named
  have hS : va_S (fun _ => False) s.heap s.heap [] := va_S.rf
  have hK := hC.K
  have hts := hC.ts [.ref h0, .int (nI q)].toArray
  have hl := lv_entry ([.ref h0, .int (nI q)]) (n := 2) (Nat.le_of_ble_eq_true rfl)
  rw [lg_entry_eq]
  generalize (lg_sl ([.ref h0, .int (nI q)]) ++ List.replicate (2 - (lg_sl ([.ref h0, .int (nI q)])).length) Slot.unset).toArray = ls at hl ⊢
  have hl : lv_has ls 2 [(0, .ref h0), (1, .int (nI q))] := hl
  refine lv_aload_n hx hb kd_D_objectOf_0 rfl (lv_at hl 0 rfl) ?_
  refine va_get (D := D) (ci := 5) (v := .ref d1) (C := "HostBridge$Diary") (T := ct_D) (N := 6) hx hb hts cw_D hown hK hP 0 rfl rfl 0 (by decide) (hts _ km_134) (fun _ h9 => h9) rfl kd_D_objectOf_1 ?_
  refine lv_iload_n hx hb kd_D_objectOf_4 rfl (lv_at hl 1 rfl) ?_
  refine hx_callRi (va_runS (As := [.int (nI q)]) (rest := [.ref d1]) ⟨hx, hb, hml, hown, hts⟩ (mc_D_rowOf q hq) (va_cwS 1 hts (goodIn_sub (hx_m4 km_496 km_497 km_6 km_498) (by decide +kernel)) rfl rfl rfl (by decide +kernel) ⟨Nat.le_of_ble_eq_true rfl, Nat.le_of_ble_eq_true rfl⟩) (pr_S (hC.S hS) hP [] rfl) rfl rfl hl.1 rfl (lv_room (Nat.le_of_ble_eq_true rfl)) kd_D_objectOf_5 ⟨Nat.le_of_ble_eq_true rfl, Nat.le_of_ble_eq_true rfl⟩) ?_
  refine hx_iald (j := q % 64) hx hb hK hP 1 rfl (rfl) (Nat.mod_lt _ (by decide)) (by decide) kd_D_objectOf_8 ?_
  exact hx_iretR hx hb hr hlocks (by simp []) kd_D_objectOf_9

set_option maxHeartbeats 4000000 in
set_option maxRecDepth 100000 in
theorem mc_D_methodOf {l : Launch} {D : va_G} {cI cL cZ : ClassId} {tb : Nat} (h0 d1 d2 d3 d4 nd : Nat) (lg : Int64) (fo fm fs : Nat → Int32) (fv : Nat → Int64) (q : Nat) (hq : q < 2 ^ 31) : Met l ky_D_methodOf kw_D_methodOf { frames := 2, cells := 0, slots := 0, locals := 42 } (pr_P D cI cL cZ tb [(h0, .inr (5, [.ref d1, .ref d2, .ref d3, .ref d4, .long lg, .int (nI nd)])), (d2, .inl (cI, 64, .inl fm))] [.ref h0, .int (nI q)]) (hx_QR (some (.int (fm (q % 64))))) 0 0 (fun _ => False) := by
  refine Met.ofW (cc := kc_D_methodOf) (maxL := 2) (ret := (some .int)) (by decide) rfl ?_
  intro p e s m args below meth c s₁ B hml hv
  obtain ⟨rfl, hC, hP⟩ := hv
  have hx := B.exec
  have hb := B.bytes
  have hr := B.returns
  have hlocks := B.notSynchronized
  have hown : s.vm.findClass "HostBridge$Diary" = some m.cls := findClass_of_methodNamed B.named
  have hS : va_S (fun _ => False) s.heap s.heap [] := va_S.rf
  have hK := hC.K
  have hts := hC.ts [.ref h0, .int (nI q)].toArray
  have hl := lv_entry ([.ref h0, .int (nI q)]) (n := 2) (Nat.le_of_ble_eq_true rfl)
  rw [lg_entry_eq]
  generalize (lg_sl ([.ref h0, .int (nI q)]) ++ List.replicate (2 - (lg_sl ([.ref h0, .int (nI q)])).length) Slot.unset).toArray = ls at hl ⊢
  have hl : lv_has ls 2 [(0, .ref h0), (1, .int (nI q))] := hl
  refine lv_aload_n hx hb kd_D_methodOf_0 rfl (lv_at hl 0 rfl) ?_
  refine va_get (D := D) (ci := 5) (v := .ref d2) (C := "HostBridge$Diary") (T := ct_D) (N := 6) hx hb hts cw_D hown hK hP 0 rfl rfl 1 (by decide) (hts _ km_135) (fun _ h9 => h9) rfl kd_D_methodOf_1 ?_
  refine lv_iload_n hx hb kd_D_methodOf_4 rfl (lv_at hl 1 rfl) ?_
  refine hx_callRi (va_runS (As := [.int (nI q)]) (rest := [.ref d2]) ⟨hx, hb, hml, hown, hts⟩ (mc_D_rowOf q hq) (va_cwS 1 hts (goodIn_sub (hx_m4 km_496 km_497 km_6 km_498) (by decide +kernel)) rfl rfl rfl (by decide +kernel) ⟨Nat.le_of_ble_eq_true rfl, Nat.le_of_ble_eq_true rfl⟩) (pr_S (hC.S hS) hP [] rfl) rfl rfl hl.1 rfl (lv_room (Nat.le_of_ble_eq_true rfl)) kd_D_methodOf_5 ⟨Nat.le_of_ble_eq_true rfl, Nat.le_of_ble_eq_true rfl⟩) ?_
  refine hx_iald (j := q % 64) hx hb hK hP 1 rfl (rfl) (Nat.mod_lt _ (by decide)) (by decide) kd_D_methodOf_8 ?_
  exact hx_iretR hx hb hr hlocks (by simp []) kd_D_methodOf_9

set_option maxHeartbeats 4000000 in
set_option maxRecDepth 100000 in
theorem mc_D_argumentsOf {l : Launch} {D : va_G} {cI cL cZ : ClassId} {tb : Nat} (h0 d1 d2 d3 d4 nd : Nat) (lg : Int64) (fo fm fs : Nat → Int32) (fv : Nat → Int64) (q : Nat) (hq : q < 2 ^ 31) : Met l ky_D_argumentsOf kw_D_argumentsOf { frames := 2, cells := 0, slots := 0, locals := 42 } (pr_P D cI cL cZ tb [(h0, .inr (5, [.ref d1, .ref d2, .ref d3, .ref d4, .long lg, .int (nI nd)])), (d3, .inl (cI, 64, .inl fs))] [.ref h0, .int (nI q)]) (hx_QR (some (.int (fs (q % 64))))) 0 0 (fun _ => False) := by
  refine Met.ofW (cc := kc_D_argumentsOf) (maxL := 2) (ret := (some .int)) (by decide) rfl ?_
  intro p e s m args below meth c s₁ B hml hv
  obtain ⟨rfl, hC, hP⟩ := hv
  have hx := B.exec
  have hb := B.bytes
  have hr := B.returns
  have hlocks := B.notSynchronized
  have hown : s.vm.findClass "HostBridge$Diary" = some m.cls := findClass_of_methodNamed B.named
  have hS : va_S (fun _ => False) s.heap s.heap [] := va_S.rf
  have hK := hC.K
  have hts := hC.ts [.ref h0, .int (nI q)].toArray
  have hl := lv_entry ([.ref h0, .int (nI q)]) (n := 2) (Nat.le_of_ble_eq_true rfl)
  rw [lg_entry_eq]
  generalize (lg_sl ([.ref h0, .int (nI q)]) ++ List.replicate (2 - (lg_sl ([.ref h0, .int (nI q)])).length) Slot.unset).toArray = ls at hl ⊢
  have hl : lv_has ls 2 [(0, .ref h0), (1, .int (nI q))] := hl
  refine lv_aload_n hx hb kd_D_argumentsOf_0 rfl (lv_at hl 0 rfl) ?_
  refine va_get (D := D) (ci := 5) (v := .ref d3) (C := "HostBridge$Diary") (T := ct_D) (N := 6) hx hb hts cw_D hown hK hP 0 rfl rfl 2 (by decide) (hts _ km_136) (fun _ h9 => h9) rfl kd_D_argumentsOf_1 ?_
  refine lv_iload_n hx hb kd_D_argumentsOf_4 rfl (lv_at hl 1 rfl) ?_
  refine hx_callRi (va_runS (As := [.int (nI q)]) (rest := [.ref d3]) ⟨hx, hb, hml, hown, hts⟩ (mc_D_rowOf q hq) (va_cwS 1 hts (goodIn_sub (hx_m4 km_496 km_497 km_6 km_498) (by decide +kernel)) rfl rfl rfl (by decide +kernel) ⟨Nat.le_of_ble_eq_true rfl, Nat.le_of_ble_eq_true rfl⟩) (pr_S (hC.S hS) hP [] rfl) rfl rfl hl.1 rfl (lv_room (Nat.le_of_ble_eq_true rfl)) kd_D_argumentsOf_5 ⟨Nat.le_of_ble_eq_true rfl, Nat.le_of_ble_eq_true rfl⟩) ?_
  refine hx_iald (j := q % 64) hx hb hK hP 1 rfl (rfl) (Nat.mod_lt _ (by decide)) (by decide) kd_D_argumentsOf_8 ?_
  exact hx_iretR hx hb hr hlocks (by simp []) kd_D_argumentsOf_9

set_option maxHeartbeats 4000000 in
set_option maxRecDepth 100000 in
theorem mc_D_valueOf {l : Launch} {D : va_G} {cI cL cZ : ClassId} {tb : Nat} (h0 d1 d2 d3 d4 nd : Nat) (lg : Int64) (fo fm fs : Nat → Int32) (fv : Nat → Int64) (q i : Nat) (hq : q < 2 ^ 31) (hi : i < 4) : Met l ky_D_valueOf kw_D_valueOf { frames := 2, cells := 0, slots := 0, locals := 42 } (pr_P D cI cL cZ tb [(h0, .inr (5, [.ref d1, .ref d2, .ref d3, .ref d4, .long lg, .int (nI nd)])), (d4, .inl (cL, 256, .inr (.inl fv)))] [.ref h0, .int (nI q), .int (nI i)]) (hx_QR (some (.long (fv (q % 64 * 4 + i))))) 0 0 (fun _ => False) := by
  refine Met.ofW (cc := kc_D_valueOf) (maxL := 3) (ret := (some .long)) (by decide) rfl ?_
  intro p e s m args below meth c s₁ B hml hv
  obtain ⟨rfl, hC, hP⟩ := hv
  have hx := B.exec
  have hb := B.bytes
  have hr := B.returns
  have hlocks := B.notSynchronized
  have hown : s.vm.findClass "HostBridge$Diary" = some m.cls := findClass_of_methodNamed B.named
  have hS : va_S (fun _ => False) s.heap s.heap [] := va_S.rf
  have hK := hC.K
  have hts := hC.ts [.ref h0, .int (nI q), .int (nI i)].toArray
  have hl := lv_entry ([.ref h0, .int (nI q), .int (nI i)]) (n := 3) (Nat.le_of_ble_eq_true rfl)
  rw [lg_entry_eq]
  generalize (lg_sl ([.ref h0, .int (nI q), .int (nI i)]) ++ List.replicate (3 - (lg_sl ([.ref h0, .int (nI q), .int (nI i)])).length) Slot.unset).toArray = ls at hl ⊢
  have hl : lv_has ls 3 [(0, .ref h0), (1, .int (nI q)), (2, .int (nI i))] := hl
  refine lv_aload_n hx hb kd_D_valueOf_0 rfl (lv_at hl 0 rfl) ?_
  refine va_get (D := D) (ci := 5) (v := .ref d4) (C := "HostBridge$Diary") (T := ct_D) (N := 6) hx hb hts cw_D hown hK hP 0 rfl rfl 3 (by decide) (hts _ km_137) (fun _ h9 => h9) rfl kd_D_valueOf_1 ?_
  refine lv_iload_n hx hb kd_D_valueOf_4 rfl (lv_at hl 1 rfl) ?_
  refine hx_callRi (va_runS (As := [.int (nI q)]) (rest := [.ref d4]) ⟨hx, hb, hml, hown, hts⟩ (mc_D_rowOf q hq) (va_cwS 1 hts (goodIn_sub (hx_m4 km_496 km_497 km_6 km_498) (by decide +kernel)) rfl rfl rfl (by decide +kernel) ⟨Nat.le_of_ble_eq_true rfl, Nat.le_of_ble_eq_true rfl⟩) (pr_S (hC.S hS) hP [] rfl) rfl rfl hl.1 rfl (lv_room (Nat.le_of_ble_eq_true rfl)) kd_D_valueOf_5 ⟨Nat.le_of_ble_eq_true rfl, Nat.le_of_ble_eq_true rfl⟩) ?_
  refine lv_iconst (v := 4) hx hb kd_D_valueOf_8 (by decide) ?_
  refine lv_imul hx hb kd_D_valueOf_9 ?_
  refine hx_topi (y := nI (q % 64 * 4)) (by rw [show (4 : Int32) = nI 4 from rfl, pk_mul]) ?_
  refine lv_iload_n hx hb kd_D_valueOf_10 rfl (lv_at hl 2 rfl) ?_
  refine lv_iadd hx hb kd_D_valueOf_11 ?_
  refine hx_topi (y := nI (q % 64 * 4 + i)) (nI_add _ _) ?_
  refine hx_lald (j := q % 64 * 4 + i) hx hb hK hP 1 rfl (rfl) (by have : q % 64 < 64 := Nat.mod_lt _ (by decide); omega) (by decide) kd_D_valueOf_12 ?_
  exact hx_lretR hx hb hr hlocks (by simp []) kd_D_valueOf_13

set_option maxHeartbeats 4000000 in
set_option maxRecDepth 100000 in
theorem mc_S_add {l : Launch} {D : va_G} {cI cL cZ : ClassId} {tb : Nat} (h0 w1 sa nw : Nat) (wa : Nat → Int64) (v : Int64) (hs : sa < 64) (hn : nw < 64) (sz : Nat) : Met l ky_S_add kw_S_add { frames := 0, cells := 0, slots := 0, locals := 0 } (pw_P D cI cL cZ tb [(h0, .inr (6, [.ref w1, .int (nI sa), .int (nI nw)])), (w1, .inl (cL, 64, .inr (.inl wa)))] sz [.ref h0, .long v]) (hx_QW D none [(h0, .inr (6, [.ref w1, .int (nI sa), .int (nI (nw + 1))])), (w1, .inl (cL, 64, .inr (.inl (vp_updL wa ((sa + nw) % 64) v))))] (va_A [(h0, .inr (6, [.ref w1, .int (nI sa), .int (nI nw)])), (w1, .inl (cL, 64, .inr (.inl wa)))] sz)) 0 0 (va_A [(h0, .inr (6, [.ref w1, .int (nI sa), .int (nI nw)])), (w1, .inl (cL, 64, .inr (.inl wa)))] sz) := by
  refine Met.ofW (cc := kc_S_add) (maxL := 3) (ret := none) (by decide) rfl ?_
  intro p e s m args below meth c s₁ B hml hv
  obtain ⟨rfl, hsz, hC, hP, hD0⟩ := hv
  have hx := B.exec
  have hb := B.bytes
  have hr := B.returns
  have hlocks := B.notSynchronized
  have hown : s.vm.findClass "HostBridge$Answers" = some m.cls := findClass_of_methodNamed B.named
  subst hsz
  have hD := hD0.self (sz := s.heap.size)
  generalize hAe : va_A [(h0, .inr (6, [.ref w1, .int (nI sa), .int (nI nw)])), (w1, .inl (cL, 64, .inr (.inl wa)))] s.heap.size = A at hD hC ⊢
  have hA : ∀ q : Nat, s.heap.size ≤ q → A q := fun q h => by rw [← hAe]; exact Or.inr h
  have hS : va_S A s.heap s.heap [] := va_S.rf
  have hK := hC.K
  have hts := hC.ts [.ref h0, .long v].toArray
  have hl := lv_entry ([.ref h0, .long v]) (n := 3) (Nat.le_of_ble_eq_true rfl)
  rw [lg_entry_eq]
  generalize (lg_sl ([.ref h0, .long v]) ++ List.replicate (3 - (lg_sl ([.ref h0, .long v])).length) Slot.unset).toArray = ls at hl ⊢
  have hl : lv_has ls 3 [(0, .ref h0), (1, .long v)] := hl
  refine lv_aload_n hx hb kd_S_add_0 rfl (lv_at hl 0 rfl) ?_
  refine va_get (D := D) (ci := 6) (v := .ref w1) (C := "HostBridge$Answers") (T := ct_S) (N := 3) hx hb hts cw_S hown hK hP 0 rfl rfl 0 (by decide) (hts _ km_161) (fun _ h9 => h9) rfl kd_S_add_1 ?_
  refine lv_aload_n hx hb kd_S_add_4 rfl (lv_at hl 0 rfl) ?_
  refine va_get (D := D) (ci := 6) (v := .int (nI sa)) (C := "HostBridge$Answers") (T := ct_S) (N := 3) hx hb hts cw_S hown hK hP 0 rfl rfl 1 (by decide) (hts _ km_162) (fun _ h9 => h9) rfl kd_S_add_5 ?_
  refine lv_aload_n hx hb kd_S_add_8 rfl (lv_at hl 0 rfl) ?_
  refine va_get (D := D) (ci := 6) (v := .int (nI nw)) (C := "HostBridge$Answers") (T := ct_S) (N := 3) hx hb hts cw_S hown hK hP 0 rfl rfl 2 (by decide) (hts _ km_163) (fun _ h9 => h9) rfl kd_S_add_9 ?_
  refine lv_iadd hx hb kd_S_add_12 ?_
  refine hx_topi (y := nI (sa + nw)) (nI_add _ _) ?_
  refine lv_bipush (v := 64) hx hb kd_S_add_13 (by decide) ?_
  refine lv_irem hx hb kd_S_add_15 (by decide) ?_
  refine hx_topi (y := nI ((sa + nw) % 64)) (rm_64 (by omega)) ?_
  refine lv_lload_n hx hb kd_S_add_16 rfl (lv_at hl 1 rfl) ?_
  refine hx_last (j := (sa + nw) % 64) hx hb hK hP hD hS 1 rfl (rfl) (Nat.mod_lt _ (by decide)) (by decide) kd_S_add_17 (fun H locs hP hD hS => ?_)
  have hP : va_P D cl_all [(h0, .inr (6, [.ref w1, .int (nI sa), .int (nI nw)])), (w1, .inl (cL, 64, .inr (.inl (vp_updL wa ((sa + nw) % 64) v))))] H := hP
  have hD : va_D A [(h0, .inr (6, [.ref w1, .int (nI sa), .int (nI nw)])), (w1, .inl (cL, 64, .inr (.inl (vp_updL wa ((sa + nw) % 64) v))))] := hD
  refine lv_aload_n hx hb kd_S_add_18 rfl (lv_at hl 0 rfl) ?_
  refine lv_dup hx hb kd_S_add_19 rfl ?_
  refine va_get (D := D) (ci := 6) (v := .int (nI nw)) (C := "HostBridge$Answers") (T := ct_S) (N := 3) hx hb hts cw_S hown hK hP 0 rfl rfl 2 (by decide) (hts _ km_163) (fun _ h9 => h9) rfl kd_S_add_20 ?_
  refine lv_iconst (v := 1) hx hb kd_S_add_23 (by decide) ?_
  refine lv_iadd hx hb kd_S_add_24 ?_
  refine hx_topi (y := nI (nw + 1)) (nI_1 nw) ?_
  refine va_put (D := D) (ci := 6) (v := .int (nI (nw + 1))) (ty := .int) (C := "HostBridge$Answers") (T := ct_S) (N := 3) hx hb hts cw_S cy_S cp_S cn_S hown hK hP hD hS 0 rfl rfl 2 (by decide) (hts _ km_163) (fun _ h9 => h9) rfl (by decide +kernel) rfl rfl (Nat.le_of_ble_eq_true rfl) kd_S_add_25 (fun H locs hP hD hS => ?_)
  have hP : va_P D cl_all [(h0, .inr (6, [.ref w1, .int (nI sa), .int (nI (nw + 1))])), (w1, .inl (cL, 64, .inr (.inl (vp_updL wa ((sa + nw) % 64) v))))] H := hP
  have hD : va_D A [(h0, .inr (6, [.ref w1, .int (nI sa), .int (nI (nw + 1))])), (w1, .inl (cL, 64, .inr (.inl (vp_updL wa ((sa + nw) % 64) v))))] := hD
  exact hx_vretW hx hb hr hlocks (hP.sub [0, 1] rfl) hS kd_S_add_28

set_option maxHeartbeats 4000000 in
set_option maxRecDepth 100000 in
theorem mc_S_next0 {l : Launch} {D : va_G} {cI cL cZ : ClassId} {tb : Nat} (h0 w1 sa : Nat) (wa : Nat → Int64) (sz : Nat) : Met l ky_S_next kw_S_next { frames := 0, cells := 0, slots := 0, locals := 0 } (pw_P D cI cL cZ tb [(h0, .inr (6, [.ref w1, .int (nI sa), .int (nI 0)])), (w1, .inl (cL, 64, .inr (.inl wa)))] sz [.ref h0]) (hx_QW D (some (.long 0)) [(h0, .inr (6, [.ref w1, .int (nI sa), .int (nI 0)])), (w1, .inl (cL, 64, .inr (.inl wa)))] (va_A [(h0, .inr (6, [.ref w1, .int (nI sa), .int (nI 0)])), (w1, .inl (cL, 64, .inr (.inl wa)))] sz)) 0 0 (va_A [(h0, .inr (6, [.ref w1, .int (nI sa), .int (nI 0)])), (w1, .inl (cL, 64, .inr (.inl wa)))] sz) := by
  refine Met.ofW (cc := kc_S_next) (maxL := 3) (ret := (some .long)) (by decide) rfl ?_
  intro p e s m args below meth c s₁ B hml hv
  obtain ⟨rfl, hsz, hC, hP, hD0⟩ := hv
  have hx := B.exec
  have hb := B.bytes
  have hr := B.returns
  have hlocks := B.notSynchronized
  have hown : s.vm.findClass "HostBridge$Answers" = some m.cls := findClass_of_methodNamed B.named
  subst hsz
  have hD := hD0.self (sz := s.heap.size)
  generalize hAe : va_A [(h0, .inr (6, [.ref w1, .int (nI sa), .int (nI 0)])), (w1, .inl (cL, 64, .inr (.inl wa)))] s.heap.size = A at hD hC ⊢
  have hA : ∀ q : Nat, s.heap.size ≤ q → A q := fun q h => by rw [← hAe]; exact Or.inr h
  have hS : va_S A s.heap s.heap [] := va_S.rf
  have hK := hC.K
  have hts := hC.ts [.ref h0].toArray
  have hl := lv_entry ([.ref h0]) (n := 3) (Nat.le_of_ble_eq_true rfl)
  rw [lg_entry_eq]
  generalize (lg_sl ([.ref h0]) ++ List.replicate (3 - (lg_sl ([.ref h0])).length) Slot.unset).toArray = ls at hl ⊢
  have hl : lv_has ls 3 [(0, .ref h0)] := hl
  refine lv_aload_n hx hb kd_S_next_0 rfl (lv_at hl 0 rfl) ?_
  refine va_get (D := D) (ci := 6) (v := .int (nI 0)) (C := "HostBridge$Answers") (T := ct_S) (N := 3) hx hb hts cw_S hown hK hP 0 rfl rfl 2 (by decide) (hts _ km_163) (fun _ h9 => h9) rfl kd_S_next_1 ?_
  refine lv_if_ne (tgt := 9) hx hb kd_S_next_4 (by decide) (fun c_4 => ?_) (fun c_4 => ?_)
  · exact absurd c_4 (not_not_intro nI_0)
  · skip
    refine lv_lconst (v := 0) hx hb kd_S_next_7 (by decide) ?_
    exact hx_lretW hx hb hr hlocks (by simp [c_4]) (hP) hS kd_S_next_8

set_option maxHeartbeats 4000000 in
set_option maxRecDepth 100000 in
theorem mc_S_next1 {l : Launch} {D : va_G} {cI cL cZ : ClassId} {tb : Nat} (h0 w1 sa nw : Nat) (wa : Nat → Int64) (hs : sa < 64) (hn : nw < 64) (sz : Nat) : Met l ky_S_next kw_S_next { frames := 0, cells := 0, slots := 0, locals := 0 } (pw_P D cI cL cZ tb [(h0, .inr (6, [.ref w1, .int (nI sa), .int (nI (nw + 1))])), (w1, .inl (cL, 64, .inr (.inl wa)))] sz [.ref h0]) (hx_QW D (some (.long (wa sa))) [(h0, .inr (6, [.ref w1, .int (nI ((sa + 1) % 64)), .int (nI nw)])), (w1, .inl (cL, 64, .inr (.inl wa)))] (va_A [(h0, .inr (6, [.ref w1, .int (nI sa), .int (nI (nw + 1))])), (w1, .inl (cL, 64, .inr (.inl wa)))] sz)) 0 0 (va_A [(h0, .inr (6, [.ref w1, .int (nI sa), .int (nI (nw + 1))])), (w1, .inl (cL, 64, .inr (.inl wa)))] sz) := by
  refine Met.ofW (cc := kc_S_next) (maxL := 3) (ret := (some .long)) (by decide) rfl ?_
  intro p e s m args below meth c s₁ B hml hv
  obtain ⟨rfl, hsz, hC, hP, hD0⟩ := hv
  have hx := B.exec
  have hb := B.bytes
  have hr := B.returns
  have hlocks := B.notSynchronized
  have hown : s.vm.findClass "HostBridge$Answers" = some m.cls := findClass_of_methodNamed B.named
  subst hsz
  have hD := hD0.self (sz := s.heap.size)
  generalize hAe : va_A [(h0, .inr (6, [.ref w1, .int (nI sa), .int (nI (nw + 1))])), (w1, .inl (cL, 64, .inr (.inl wa)))] s.heap.size = A at hD hC ⊢
  have hA : ∀ q : Nat, s.heap.size ≤ q → A q := fun q h => by rw [← hAe]; exact Or.inr h
  have hS : va_S A s.heap s.heap [] := va_S.rf
  have hK := hC.K
  have hts := hC.ts [.ref h0].toArray
  have hl := lv_entry ([.ref h0]) (n := 3) (Nat.le_of_ble_eq_true rfl)
  rw [lg_entry_eq]
  generalize (lg_sl ([.ref h0]) ++ List.replicate (3 - (lg_sl ([.ref h0])).length) Slot.unset).toArray = ls at hl ⊢
  have hl : lv_has ls 3 [(0, .ref h0)] := hl
  refine lv_aload_n hx hb kd_S_next_0 rfl (lv_at hl 0 rfl) ?_
  refine va_get (D := D) (ci := 6) (v := .int (nI (nw + 1))) (C := "HostBridge$Answers") (T := ct_S) (N := 3) hx hb hts cw_S hown hK hP 0 rfl rfl 2 (by decide) (hts _ km_163) (fun _ h9 => h9) rfl kd_S_next_1 ?_
  refine lv_if_ne (tgt := 9) hx hb kd_S_next_4 (by decide) (fun c_4 => ?_) (fun c_4 => ?_)
  · skip
    refine lv_aload_n hx hb kd_S_next_9 rfl (lv_at hl 0 rfl) ?_
    refine va_get (D := D) (ci := 6) (v := .ref w1) (C := "HostBridge$Answers") (T := ct_S) (N := 3) hx hb hts cw_S hown hK hP 0 rfl rfl 0 (by decide) (hts _ km_161) (fun _ h9 => h9) rfl kd_S_next_10 ?_
    refine lv_aload_n hx hb kd_S_next_13 rfl (lv_at hl 0 rfl) ?_
    refine va_get (D := D) (ci := 6) (v := .int (nI sa)) (C := "HostBridge$Answers") (T := ct_S) (N := 3) hx hb hts cw_S hown hK hP 0 rfl rfl 1 (by decide) (hts _ km_162) (fun _ h9 => h9) rfl kd_S_next_14 ?_
    refine hx_lald (j := sa) hx hb hK hP 1 rfl (rfl) (hs) (by decide) kd_S_next_17 ?_
    refine lv_lstore_n (lv' := [(1, .long (wa sa)), (0, .ref h0)]) hx hb kd_S_next_18 rfl hl (by decide) rfl (fun ls hl => ?_)
    refine lv_aload_n hx hb kd_S_next_19 rfl (lv_at hl 1 rfl) ?_
    refine lv_aload_n hx hb kd_S_next_20 rfl (lv_at hl 1 rfl) ?_
    refine va_get (D := D) (ci := 6) (v := .int (nI sa)) (C := "HostBridge$Answers") (T := ct_S) (N := 3) hx hb hts cw_S hown hK hP 0 rfl rfl 1 (by decide) (hts _ km_162) (fun _ h9 => h9) rfl kd_S_next_21 ?_
    refine lv_iconst (v := 1) hx hb kd_S_next_24 (by decide) ?_
    refine lv_iadd hx hb kd_S_next_25 ?_
    refine hx_topi (y := nI (sa + 1)) (nI_1 sa) ?_
    refine lv_bipush (v := 64) hx hb kd_S_next_26 (by decide) ?_
    refine lv_irem hx hb kd_S_next_28 (by decide) ?_
    refine hx_topi (y := nI ((sa + 1) % 64)) (rm_64 (by omega)) ?_
    refine va_put (D := D) (ci := 6) (v := .int (nI ((sa + 1) % 64))) (ty := .int) (C := "HostBridge$Answers") (T := ct_S) (N := 3) hx hb hts cw_S cy_S cp_S cn_S hown hK hP hD hS 0 rfl rfl 1 (by decide) (hts _ km_162) (fun _ h9 => h9) rfl (by decide +kernel) rfl rfl (Nat.le_of_ble_eq_true rfl) kd_S_next_29 (fun H locs hP hD hS => ?_)
    have hP : va_P D cl_all [(h0, .inr (6, [.ref w1, .int (nI ((sa + 1) % 64)), .int (nI (nw + 1))])), (w1, .inl (cL, 64, .inr (.inl wa)))] H := hP
    have hD : va_D A [(h0, .inr (6, [.ref w1, .int (nI ((sa + 1) % 64)), .int (nI (nw + 1))])), (w1, .inl (cL, 64, .inr (.inl wa)))] := hD
    refine lv_aload_n hx hb kd_S_next_32 rfl (lv_at hl 1 rfl) ?_
    refine lv_dup hx hb kd_S_next_33 rfl ?_
    refine va_get (D := D) (ci := 6) (v := .int (nI (nw + 1))) (C := "HostBridge$Answers") (T := ct_S) (N := 3) hx hb hts cw_S hown hK hP 0 rfl rfl 2 (by decide) (hts _ km_163) (fun _ h9 => h9) rfl kd_S_next_34 ?_
    refine lv_iconst (v := 1) hx hb kd_S_next_37 (by decide) ?_
    refine lv_isub hx hb kd_S_next_38 ?_
    refine hx_topi (y := nI nw) (nI_pred nw) ?_
    refine va_put (D := D) (ci := 6) (v := .int (nI nw)) (ty := .int) (C := "HostBridge$Answers") (T := ct_S) (N := 3) hx hb hts cw_S cy_S cp_S cn_S hown hK hP hD hS 0 rfl rfl 2 (by decide) (hts _ km_163) (fun _ h9 => h9) rfl (by decide +kernel) rfl rfl (Nat.le_of_ble_eq_true rfl) kd_S_next_39 (fun H locs hP hD hS => ?_)
    have hP : va_P D cl_all [(h0, .inr (6, [.ref w1, .int (nI ((sa + 1) % 64)), .int (nI nw)])), (w1, .inl (cL, 64, .inr (.inl wa)))] H := hP
    have hD : va_D A [(h0, .inr (6, [.ref w1, .int (nI ((sa + 1) % 64)), .int (nI nw)])), (w1, .inl (cL, 64, .inr (.inl wa)))] := hD
    refine lv_lload_n hx hb kd_S_next_42 rfl (lv_at hl 0 rfl) ?_
    exact hx_lretW hx hb hr hlocks (by simp [c_4]) (hP) hS kd_S_next_43
  · exact absurd c_4 (nI_ne0 (by omega) (by omega))
end
section
/-! THROWS OF THE CLASS: a method that throws an exception of one class, with the world behind it -/
abbrev xt_up : List String := ["java/lang/RuntimeException", "java/lang/Exception"]
def xt_X (D : va_G) (cls : String) (w' : va_W) (A : Nat → Prop) : String → State → State → Prop := fun E st t => E = cls ∧ va_P D cl_all w' t.heap ∧ va_F A st t
abbrev xt_M (l : Launch) (y : MethodName) (ws : List Cond) (rm : Room) (Pc : Array Value → State → Prop) (D : va_G) (cls : String) (w' : va_W) (A : Nat → Prop) : Prop := vx_Met l y ws rm Pc (fun _ _ _ _ => False) (xt_X D cls w' A) 1 6 A
def xt_w (cls : String) (ik ic : Nat) : Prop := Bundle.fit cls = true ∧ Cond.classLink "HostBridge" ik cls ∈ cx_T ∧ Cond.initialized cls ∈ cx_T ∧ (∀ w ∈ vx_atS "HostBridge" ic cls xt_up, w ∈ cx_T) ∧ (∀ w ∈ Cond.classLink "HostBridge" ik cls :: Cond.initialized cls :: vx_atS "HostBridge" ic cls xt_up, vx_ot w = true)
theorem xt_up_fit : ∀ n ∈ xt_up, Bundle.fit n = true := by decide +kernel
theorem xt_IAE : xt_w "java/lang/IllegalArgumentException" 59 63 := ⟨by decide +kernel, by decide +kernel, by decide +kernel, by decide +kernel, by decide +kernel⟩
theorem xt_ISE : xt_w "java/lang/IllegalStateException" 70 74 := ⟨by decide +kernel, by decide +kernel, by decide +kernel, by decide +kernel, by decide +kernel⟩
theorem xt_IOE : xt_w "java/lang/IndexOutOfBoundsException" 197 201 := ⟨by decide +kernel, by decide +kernel, by decide +kernel, by decide +kernel, by decide +kernel⟩
section XT
variable {p : Program} {l : Launch} {e : Env} {R : Room} {s : State} {m : MethodId} {args : Array Value} {below : List Frame} {meth : Method} {c : Code} {H : Heap} {locs : List Loc} {cells slots : Nat}
theorem xt_throw {D : va_G} {cI cL cZ : ClassId} {tb nL ik ic : Nat} {A : Nat → Prop} {w' : va_W} {cls : String} {cc : ByteArray} {pc : Nat} {ls : Array Slot} (hw : xt_w cls ik ic) (is : Nat) (text : String) (hst : (is, text) ∈ cx_strs) (hx : p.tables.exec = Jvm.exec) (hb : c.code = cc) (hml : c.maxLocals = nL) (htr : l.stackTraces = false) (hown : s.vm.findClass "HostBridge" = some m.cls) (hlocks : meth.locks = false) (hnx : ∀ x ∈ c.exceptionTable.toList, False)
    (hC : cx D cI cL cZ tb A s s.heap) (hP : va_P D cl_all w' H) (hS : va_S A s.heap H locs) (hls : ls.size = nL)
    (d0 : decode cc pc = .ok (.new ik, 3)) (d3 : decode cc (pc + 3) = .ok (.dup, 1)) (d4 : decode cc (pc + 4) = .ok (.ldc is, 2)) (d6 : decode cc (pc + 6) = .ok (.invokespecial ic, 3)) (d9 : decode cc (pc + 9) = .ok (.athrow, 1))
    (hfr : 5 < R.frames) (hlo : 82 ≤ R.locals) (hce : cells + 1 ≤ R.cells) (hsl : slots + 6 ≤ R.slots) (hmc : cells = 0) (hms : slots = 0) :
    W p l e R s m args below meth c H locs cells slots (vx_MQ below (fun _ _ _ _ => False) (xt_X D cls w' A) args s 1 6 A) (F0 m pc ls []) := by
  obtain ⟨hf, hk, hi, hat, hg⟩ := hw
  obtain ⟨sa, hsa⟩ := hC.2.2.1 (is, text) hst
  have hts := hC.ts args
  refine vx_throwS (own := "HostBridge") (cls := cls) (text := text) (names := xt_up) (ik := ik) (is := is) (ic := ic) (sa := sa) (A := A) hx hb htr hown hf xt_up_fit (hts _ hk) (hts _ hi) hsa (fun w hw => hts w (hat w hw)) hg hC.2.2.2.2.2.1 hC.2.2.2.2.2.2 hS (hls.trans hml.symm) d0 d3 d4 d6 d9 (fun x hx => (hnx x hx).elim) hfr (by show 0 + (13 * (2 + 1) + 43) ≤ _; omega) hce hsl hlocks ?_ hS.2.2 (by omega) (by omega)
  intro t _ h2 h3
  exact ⟨rfl, hP.kept (fun k q hk => h3 q.1 (hP k q hk).lt), Nat.le_trans hS.1 h2, fun q h1 h4 => (h3 q (Nat.lt_of_lt_of_le h1 hS.1)).trans (hS.2.1 q h1 h4)⟩
end XT
/-! An exception whose own constructor calls its parent's by another entry of its pool: the same road, the first step by that entry (after the library's ctorThrowS and the printed vx_throwS) -/
section XN
variable {p : Program} {l : Launch} {e : Env} {R : Room} {s : State} {m₀ : MethodId} {args : Array Value} {below : List Frame} {meth : Method} {c : Code} {T9 : State} {locs : List Loc} {cells slots : Nat}
set_option maxHeartbeats 1000000 in
theorem xt_ctorX (X : Stand p l e R s m₀ args below meth c T9 locs cells slots) (hexec : p.tables.exec = Jvm.exec) (htr : e.platform.stackTraces = false) {own cls : String} {names : List String} {ic ix : Nat} {rx : ByteArray}
    (x0 : decode rx 0 = .ok (.aload_n 0, 1)) (x1 : decode rx 1 = .ok (.aload_n 1, 1)) (x2 : decode rx 2 = .ok (.invokespecial ix, 3)) (x5 : decode rx 5 = .ok (.return_, 1))
    (hown : s.vm.findClass own = some m₀.cls) (hcls : Bundle.fit cls = true) (hnames : ∀ n ∈ names, Bundle.fit n = true)
    (h : ∀ a ∈ Bundle.ownAtomsX own ic cls ix rx names, a.before args s = true)
    {a : Addr} {cX : ClassId} {kX : Class} (hfoundX : s.vm.findClass cls = some cX) (hkX : s.vm.classes[cX]? = some kX) (hcell : T9.heap[a]? = some (freshCell cX kX)) (hnew : s.heap.size ≤ a) (hlocs : locs = [])
    {msg : Value} (hmsg : msg.isRef = true)
    {g : JFrame} (hg : g.method = m₀) (hsize : g.locals.size = c.maxLocals) (hlocked : g.locked = none) (hentered : g.entered = []) {rest : List Value} (hstack : g.stack = msg :: .ref a :: .ref a :: rest)
    (hd6 : decode c.code g.pc = .ok (.invokespecial ic, 3)) (hd9 : decode c.code (g.pc + 3) = .ok (.athrow, 1)) (hout : ∀ x ∈ c.exceptionTable.toList, covers x (g.pc + 3) = false)
    (hRframes : names.length + 3 < R.frames) (hRlocals : 2 * g.monitorRoom + ((Value.ref a :: rest).map fun v => v.category).sum + (13 * (names.length + 1) + 42) ≤ R.locals) (hlocks : meth.locks = false) :
    ∃ U : State, Steps p.tables e below (T9.setTop g) U ∧ U.status = .running ∧ Ended U below (.threw a) ∧ s.WarmedH U.vm ∧ s.sameButNew ({ U with vm := s.vm } : State) locs cells slots ∧
      ∃ ce, U.heap[a]? = some ce ∧ s.vm.findClass cls = some ce.cls ∧ ce.vm = .none := by
  subst hlocs
  have howns : e.platform.frameOwnsMonitors = true := by rw [X.admits.platform]
  have hfin : e.platform.finalization = false := by rw [X.admits.platform]
  have hpl : e.platform.magicAccessors = ({} : Platform).magicAccessors := by rw [X.admits.platform]
  have a' : ∀ x, x ∈ Bundle.ownAtomsX own ic cls ix rx names → x.holds args s none s [] = true := fun x hx => h x hx
  obtain ⟨T, Z0, L, -, Y⟩ := ThrowableC.of_atoms (args := args) howns hfin hpl (fun x hx => h x (by simp [Bundle.ownAtomsX, hx]))
  obtain ⟨Z, M, LZ, LM, hnZ⟩ := Init0T.ofS_atoms (args := args) hpl L Y (fun x hx => h x (by simp [Bundle.ownAtomsX, hx]))
  obtain ⟨P1, Ps, hlen, L1, hL, hP1m, hlink1, hlink⟩ := Bundle.chainSX (args := args) hpl hnZ x0 x1 x2 x5 names cls hcls hnames (fun x hx => h x (by simp [Bundle.ownAtomsX, hx]))
  have hfound : s.vm.findClass cls = some P1.m.cls := findClass_of_methodNamed hP1m
  cases Option.some.inj (hfoundX.symm.trans hfound)
  obtain ⟨c1, kX', hc1, hk, hord, -, -, hn6⟩ := Cond.instantiable_spec (a' (.instantiable cls 6) (by simp [Bundle.ownAtomsX]))
  cases Option.some.inj (hc1.symm.trans hfound)
  cases Option.some.inj (hkX.symm.trans hk)
  have hsel0 : selectMethod e.platform s.vm P1.m.cls T.fill0 = .method T.fill0 := by
    obtain ⟨c2, r2, m2, q1, q2, q3, q4, -⟩ := Cond.selects_spec (a' (.selects cls Bundle.tFill0 Bundle.tFill0) (by simp [Bundle.ownAtomsX]))
    cases Option.some.inj (q1.symm.trans hfound)
    cases Option.some.inj (q2.symm.trans (State.methodFound?_of_named Y.fill0 (by decide)))
    cases Option.some.inj (q3.symm.trans Y.fill0)
    rw [Launch.admits_selectMethod X.admits]; exact q4
  have hselF : selectMethod e.platform s.vm P1.m.cls T.fill = .method T.fill := by
    obtain ⟨c2, r2, m2, q1, q2, q3, q4, -⟩ := Cond.selects_spec (a' (.selects cls Bundle.tFill Bundle.tFill) (by simp [Bundle.ownAtomsX]))
    cases Option.some.inj (q1.symm.trans hfound)
    cases Option.some.inj (q2.symm.trans (State.methodFound?_of_named Y.fill (by decide)))
    cases Option.some.inj (q3.symm.trans Y.fill)
    rw [Launch.admits_selectMethod X.admits]; exact q4
  obtain ⟨cellS0, hcS0, hiss⟩ := Y.statics
  obtain ⟨u0, hu0⟩ := Cond.staticRefV Y.unassigned L.unassignedStatic L.statics hcS0 hiss (a' (.isRef (.static Bundle.tN "UNASSIGNED_STACK" Bundle.steD)) (by simp [Bundle.ownAtomsX]))
  obtain ⟨sen, hsen⟩ := Cond.staticRefV Y.sentinel L.sentinelStatic L.statics hcS0 hiss (a' (.isRef (.static Bundle.tN "SUPPRESSED_SENTINEL" Bundle.listD)) (by simp [Bundle.ownAtomsX]))
  obtain ⟨ci198, i198, fB, hk198, hg198, ha198, hsB, -, hnB, htB, hffB⟩ := Cond.ownField (t := .object "java/lang/Object") Y.found L.cls (by decide +kernel) (a' (.fieldLink Bundle.tN 198 Bundle.tN "backtrace" "Ljava/lang/Object;") (by simp [Bundle.ownAtomsX])) (a' (.lays Bundle.tN Bundle.tN "backtrace" "Ljava/lang/Object;") (by simp [Bundle.ownAtomsX])) e.platform hpl
  obtain ⟨cellS, hcS', heS, -, hkeep⟩ := X.same.2.2.2.2.2 T.aS cellS0 hcS0
  have hcellS : T9.heap[T.aS]? = some cellS := hcS'
  have hout' : ∀ i, (⟨T.aS, i⟩ : Loc) ∉ ([] : List Loc) := fun i hmem => nomatch hmem
  have hknownS : cellS.vm ≠ .unknown := by
    rw [heS]; intro hu
    rw [show cellS0.vm = .unknown from hu] at hiss
    cases hiss
  have hneS : T.aS ≠ a := Nat.ne_of_lt (Nat.lt_of_lt_of_le (Array.getElem?_eq_some_iff.mp hcS0).1 hnew)
  obtain ⟨iM, hffM⟩ := Y.msg
  obtain ⟨tyC, dC, hdC, hdnC⟩ := Cond.laysAt hfound hk Y.cause (a' (.lays cls Bundle.tN "cause" "Ljava/lang/Throwable;") (by simp [Bundle.ownAtomsX]))
  obtain ⟨tyS, dS, hdS, hdnS⟩ := Cond.laysAt hfound hk Y.stack (a' (.lays cls Bundle.tN "stackTrace" Bundle.steD) (by simp [Bundle.ownAtomsX]))
  obtain ⟨tyP, dP, hdP, hdnP⟩ := Cond.laysAt hfound hk Y.supp (a' (.lays cls Bundle.tN "suppressedExceptions" Bundle.listD) (by simp [Bundle.ownAtomsX]))
  obtain ⟨tyM, dM, hdM, hdnM⟩ := Cond.laysAt hfound hk hffM (a' (.lays cls Bundle.tN "detailMessage" "Ljava/lang/String;") (by simp [Bundle.ownAtomsX]))
  obtain ⟨tyB, dB, hdB, hdnB⟩ := Cond.laysAt hfound hk hffB (a' (.lays cls Bundle.tN "backtrace" "Ljava/lang/Object;") (by simp [Bundle.ownAtomsX]))
  have bC := Cond.laysApart hdB hdC hdnB hdnC (by rw [hnB, Y.causeName]; decide)
  have bS := Cond.laysApart hdB hdS hdnB hdnS (by rw [hnB, Y.stackName]; decide)
  have bP := Cond.laysApart hdB hdP hdnB hdnP (by rw [hnB, Y.suppName]; decide)
  have hskip : SkipFacts T e.platform s (fun u => u) u0 ((preparedCellV T.toThrowableT (freshCell P1.m.cls kX) a u0 sen).withEntry T9.cur) :=
    ⟨{ ci198 := ci198, i198 := i198, fBack := fB }, ⟨hk198, hg198, ha198, hsB⟩, by
      have := fresh_default (c := P1.m.cls) tyB
      rw [htB] at this
      simpa [preparedCellV, Cell.setSlot, Cell.withEntry, Array.getElem?_setIfInBounds, bC, bS, bP, bC.symm, bS.symm, bP.symm, defaultValue] using this, fun _ _ => rfl⟩
  obtain ⟨tm, methC, cdC, kC, vm₁, hnC, -, -, -, -, -, -, -, hW₁, st1⟩ := Steps.initColdS (tb := p.tables) (e := e) (below := below) (s := s) (U := T9) X.here hexec X.warmed hpl hown (t := Bundle.initS cls) rfl rfl (Bundle.fit_spec hcls).2
    (a' (.methodLink own ic (Bundle.initS cls)) (by simp [Bundle.ownAtomsX])) (h (.instanceMethod (Bundle.initS cls)) (by cases names <;> simp [Bundle.ownAtomsX, Bundle.chainSAtomsX, Bundle.passSAtoms])) (bytes := rx) (maxL := 2) (h (.code (Bundle.initS cls) rx 2 none) (by cases names <;> simp [Bundle.ownAtomsX, Bundle.chainSAtomsX, Bundle.passSAtoms]))
    (f := g) hg (a := a) (msg := msg) (rest := .ref a :: rest) hstack hd6
  cases Option.some.inj (hnC.symm.trans hP1m)
  have X₁ := X.noted hW₁
  obtain ⟨vm₂, X₂, st2⟩ := X₁.ctorMessageOffV hexec (g := { g with stack := .ref a :: rest }) hg hsize T L Z LZ M LM (P1 :: Ps)
    (fun P hP => by rcases List.mem_cons.mp hP with rfl | hP; exact L1; exact hL P hP) ⟨hlink1, hlink⟩ (u0 := u0) (sen := sen) (self := a) hmsg (cell := freshCell P1.m.cls kX) (cellS := cellS)
    hcell (fun _ => by simp) (by simp) rfl rfl hsel0 hselF hcellS hneS hknownS (by rw [hkeep _ (hout' _)]; exact hu0) (by rw [hkeep _ (hout' _)]; exact hsen)
    (Takes.of_laid hk hord tyC (by rw [Y.causeType]; rfl)) (Takes.of_laid hk hord tyS (by rw [Y.stackType]; exact fits_refV_array _ u0)) (Takes.of_laid hk hord tyP (by rw [Y.suppType]; exact fits_refV_object _ sen))
    (Takes.of_laid hk hord tyM (by rw [Y.msgType]; exact fits_refV_object _ ⟨msg, hmsg⟩)) Y.objLocals hskip htr [] hd6
    (by simp only [List.length_cons, hlen]; omega) (by simp only [List.length_cons, hlen]; exact hRlocals)
  obtain ⟨hwalk, hrun, hended, hWU, hsame⟩ := X₂.athrowLeaves hexec (g := { g with stack := .ref a :: rest, pc := g.pc + 3 }) hg hlocked hentered hout (a := a) (rest := rest) rfl hd9
  have hlt : a < ((T9.setVm vm₁).setVm vm₂).heap.size := (Array.getElem?_eq_some_iff.mp hcell).1
  have hU := heapAt_setCell_self (s := (T9.setVm vm₁).setVm vm₂) (plainBareV T.toThrowableT (freshCell P1.m.cls kX) a u0 sen msg) hlt
  refine ⟨_, st1 _ (fun acts => ?_), hrun, hended, hWU, hsame.weaken (fun y hy hlt' => ?_) (Nat.le_refl _) (Nat.le_refl _), _, hU, hfound, rfl⟩
  · rw [doInvoke_state]
    exact st2 _ hwalk
  · exfalso
    have hb : y.base = a := by
      simp only [List.nil_append, List.mem_cons, List.not_mem_nil, or_false] at hy
      rcases hy with rfl | rfl | rfl | rfl | rfl <;> rfl
    rw [hb] at hlt'
    exact Nat.not_lt.mpr hnew hlt'
end XN
abbrev xn_rx : ByteArray := prog_19_method_4_code
abbrev xn_c : String := "java/util/NoSuchElementException"
def xn_at : List Cond := (Bundle.ownAtomsX "HostBridge" 159 xn_c 13 xn_rx xt_up).filter vx_no
theorem xn_fit : Bundle.fit xn_c = true := by decide +kernel
theorem xn_k : Cond.classLink "HostBridge" 155 xn_c ∈ cx_T := by decide +kernel
theorem xn_i : Cond.initialized xn_c ∈ cx_T := by decide +kernel
theorem xn_in : ∀ w ∈ xn_at, w ∈ cx_T := by decide +kernel
theorem xn_ot : ∀ w ∈ Cond.classLink "HostBridge" 155 xn_c :: Cond.initialized xn_c :: xn_at, vx_ot w = true := by decide +kernel
section XU
variable {p : Program} {l : Launch} {e : Env} {R : Room} {s : State} {m : MethodId} {args : Array Value} {below : List Frame} {meth : Method} {c : Code} {H : Heap} {locs : List Loc} {cells slots : Nat}
theorem xn_throw {D : va_G} {cI cL cZ : ClassId} {tb nL : Nat} {A : Nat → Prop} {w' : va_W} {cc : ByteArray} {pc : Nat} {ls : Array Slot} (is : Nat) (text : String) (hst : (is, text) ∈ cx_strs) (hx : p.tables.exec = Jvm.exec) (hb : c.code = cc) (hml : c.maxLocals = nL) (htr : l.stackTraces = false) (hown : s.vm.findClass "HostBridge" = some m.cls) (hlocks : meth.locks = false) (hnx : ∀ x ∈ c.exceptionTable.toList, False)
    (hC : cx D cI cL cZ tb A s s.heap) (hP : va_P D cl_all w' H) (hS : va_S A s.heap H locs) (hls : ls.size = nL)
    (d0 : decode cc pc = .ok (.new 155, 3)) (d3 : decode cc (pc + 3) = .ok (.dup, 1)) (d4 : decode cc (pc + 4) = .ok (.ldc is, 2)) (d6 : decode cc (pc + 6) = .ok (.invokespecial 159, 3)) (d9 : decode cc (pc + 9) = .ok (.athrow, 1))
    (hfr : 5 < R.frames) (hlo : 82 ≤ R.locals) (hce : cells + 1 ≤ R.cells) (hsl : slots + 6 ≤ R.slots) (hmc : cells = 0) (hms : slots = 0) :
    W p l e R s m args below meth c H locs cells slots (vx_MQ below (fun _ _ _ _ => False) (xt_X D xn_c w' A) args s 1 6 A) (F0 m pc ls []) := by
  obtain ⟨sa, hsa⟩ := hC.2.2.1 (is, text) hst
  have hts := hC.ts args
  intro T hT X
  have htr' : e.platform.stackTraces = false := (show e.platform.stackTraces = l.stackTraces by rw [X.admits.platform]).trans htr
  have Y := vx_rebase X (R' := { frames := R.frames, locals := R.locals, cells := 1, slots := 6 }) (Nat.le_refl _) (Nat.le_refl _) hce hsl
  obtain ⟨s', hA⟩ : ∃ z, z = (T.setVm s.vm).setFrames (.invoking m args :: below) := ⟨_, rfl⟩
  rw [← hA] at Y
  have hvm : s'.vm = s.vm := by rw [hA]; rfl
  have hhp : s'.heap = H := by rw [hA]; exact hT
  have hW0 : s.WarmedH s'.vm := by rw [hvm]; exact State.WarmedH.refl s
  have hat' : ∀ w ∈ xn_at, w.before args s' = true := fun w hw => vx_ot_at hW0 hvm.symm (xn_ot w (List.mem_cons_of_mem _ (List.mem_cons_of_mem _ hw))) (hts w (xn_in w hw))
  have hk' : (Cond.classLink "HostBridge" 155 xn_c).before args s' = true := vx_ot_at hW0 hvm.symm (xn_ot _ List.mem_cons_self) (hts _ xn_k)
  have hini' : (Cond.initialized xn_c).before args s' = true := vx_ot_at hW0 hvm.symm (xn_ot _ (List.mem_cons_of_mem _ List.mem_cons_self)) (hts _ xn_i)
  have hU' : vx_Zq Bundle.tN "UNASSIGNED_STACK" Bundle.steD A s' s'.heap := by rw [hhp]; exact vx_Zq.moved hW0.alike (hC.2.2.2.2.2.1.kept hS.2.1)
  have hN' : vx_Zq Bundle.tN "SUPPRESSED_SENTINEL" Bundle.listD A s' s'.heap := by rw [hhp]; exact vx_Zq.moved hW0.alike (hC.2.2.2.2.2.2.kept hS.2.1)
  have h : ∀ w ∈ Bundle.ownAtomsX "HostBridge" 159 xn_c 13 xn_rx xt_up, w.before args s' = true := vx_own hat' (vx_isRefq hU'.1) (vx_isRefq hN'.1) hU'.2.word hN'.2.word
  have hown' : s'.vm.findClass "HostBridge" = some m.cls := by rw [hvm]; exact hown
  have hins : (Cond.instantiable xn_c 6).before args s' = true := h _ (by simp [Bundle.ownAtomsX])
  obtain ⟨vm₁, cX, kX, hfX, hkX, -, -, X₁, st1⟩ := Y.newCold hx (own := "HostBridge") (C := xn_c) (index := 155) (n := 6) hown' hk' hins hini'
    (g := F0 m pc ls []) rfl (by rw [hb]; exact d0) (Nat.le_refl _) (Nat.le_refl _)
  generalize hT1 : (T.setVm vm₁).pushCell { cls := cX, slots := kX.instanceTypes.map defaultValue, vm := .none } = T1 at X₁ st1
  have hcat : (Value.ref T.heap.size).category = 1 := rfl
  have hcellA : T1.heap[T.heap.size]? = some (freshCell cX kX) := by rw [← hT1]; exact State.heap_pushCell_size _ _
  have d3' : decode c.code (pc + 3) = .ok (.dup, 1) := by rw [hb]; exact d3
  have d4' : decode c.code (pc + 4) = .ok (.ldc is, 2) := by rw [hb]; exact d4
  have hstr' : vk_R "HostBridge" is text sa s' := vk_R.warm hW0 hsa
  obtain ⟨U, hsteps, hrun, hend, hW, hsame, ce, hce2, hcl0, hcv⟩ := xt_ctorX X₁ hx htr' (own := "HostBridge") (cls := xn_c) (names := xt_up) (ic := 159) (ix := 13) (rx := xn_rx) (by decide +kernel) (by decide +kernel) (by decide +kernel) (by decide +kernel) hown' xn_fit xt_up_fit h hfX hkX hcellA (by rw [hhp, hT]; exact Nat.le_refl _) rfl (msg := .ref sa) rfl
    (g := { method := m, pc := pc + 6, locals := ls, stack := .ref sa :: .ref T.heap.size :: .ref T.heap.size :: [], locked := none }) rfl (hls.trans hml.symm) rfl rfl (rest := []) rfl
    (by rw [hb]; exact d6) (by rw [hb]; exact d9) (fun x hx => (hnx x hx).elim) hfr (by show 2 * 0 + (1 + 0) + (13 * (2 + 1) + 42) ≤ R.locals; omega) hlocks
  obtain ⟨f1, f2⟩ := vx_frame hsame
  rw [hhp] at f1 f2
  have f3 : ∀ q : Nat, q < H.size → U.heap[q]? = H[q]? := fun q hq => f2 q hq (fun z hz => nomatch hz)
  have hWs : s.WarmedH U.vm := State.WarmedH.trans hW0 hW
  have hcl : s.vm.findClass xn_c = some ce.cls := by
    rw [hvm] at hcl0
    exact hcl0
  have hall : s.sameButNew ({ U with vm := s.vm } : State) locs 1 6 := by
    subst hA
    obtain ⟨e1, e2⟩ := hsame
    rw [State.setFrames_setFrames] at e1
    have h2 : (T.setVm s.vm).sameButNew ({ U with vm := s.vm } : State) [] (0 + 1) (0 + 6) := ⟨e1, e2⟩
    have h3 := X.same.trans h2
    rw [List.append_nil] at h3
    exact h3.mono (by omega) (by omega)
  refine ⟨U, ?_, .threw T.heap.size, hrun, hend, Or.inr ⟨T.heap.size, rfl, xn_c, ce, locs, ⟨rfl, hP.kept (fun k q hk => f3 q.1 (hP k q hk).lt), Nat.le_trans hS.1 f1, fun q h1 h4 => (f3 q (Nat.lt_of_lt_of_le h1 hS.1)).trans (hS.2.1 q h1 h4)⟩, hce2, hcv, hcl, hWs, hall, hS.2.2⟩⟩
  refine st1 _ ?_
  show Steps p.tables e below (T1.setTop { method := m, pc := pc + 3, locals := ls, stack := .ref T.heap.size :: [], locked := none }) _
  jvm_step X₁.here [X₁.here.top, hx, d3', Value.category]
  exact X₁.ldcString hx (own := "HostBridge") (text := text) (index := is) (a := sa) hown' hstr'.1 hstr'.2
    (g := { method := m, pc := pc + 4, locals := ls, stack := .ref T.heap.size :: .ref T.heap.size :: [], locked := none }) rfl d4' _ hsteps
end XU
end
section
/-! THE CLASS ITSELF (HostBridge): its own helpers -/
/-- a value's bits are as its kind asks -/
def vl_ (no : Nat) (k : Int32) (b : Int64) : Bool := fb_in k 7 && (match k.toNatClampNeg with
  | 2 => (if lg_cmp b 0 = 0 then true else if lg_cmp b 1 = 0 then true else false)
  | 4 => (if lg_cmp b 0 < 0 then false else true)
  | 5 => (if lg_cmp b 0 < 0 then false else if 0 ≤ lg_cmp b (nI no).toInt64 then false else true)
  | 6 => (if lg_cmp b 0 < 0 then false else true)
  | _ => true)
theorem vl_no {no : Nat} {k : Int32} {b : Int64} (h : fb_in k 7 = false) : vl_ no k b = false := by rw [vl_, h, Bool.false_and]
/-- places base .. base + i - 1 hold g -/
def wv_ (fv : Nat → Int64) (base : Nat) (g : Nat → Int64) (i : Nat) : Nat → Int64 := fun z => if base ≤ z ∧ z < base + i then g (z - base) else fv z
theorem wv_0 (fv : Nat → Int64) (base : Nat) (g : Nat → Int64) : wv_ fv base g 0 = fv := by
  funext z
  simp only [wv_]
  rw [if_neg (by omega)]
theorem wv_s (fv : Nat → Int64) (base : Nat) (g : Nat → Int64) (i : Nat) : vp_updL (wv_ fv base g i) (base + i) (g i) = wv_ fv base g (i + 1) := by
  funext z
  simp only [vp_updL, wv_]
  by_cases h : z = base + i
  · subst h; rw [if_pos rfl, if_pos (by omega), Nat.add_sub_cancel_left]
  · rw [if_neg h]
    by_cases h2 : base ≤ z ∧ z < base + i
    · rw [if_pos h2, if_pos (by omega)]
    · rw [if_neg h2, if_neg (by omega)]
theorem mc_S_next {l : Launch} {D : va_G} {cI cL cZ : ClassId} {tb : Nat} (h0 w1 sa nw : Nat) (wa : Nat → Int64) (hs : sa < 64) (hn : nw ≤ 64) (sz : Nat) : Met l ky_S_next kw_S_next { frames := 0, cells := 0, slots := 0, locals := 0 } (pw_P D cI cL cZ tb [(h0, .inr (6, [.ref w1, .int (nI sa), .int (nI nw)])), (w1, .inl (cL, 64, .inr (.inl wa)))] sz [.ref h0]) (hx_QW D (some (.long (if nw = 0 then 0 else wa sa))) [(h0, .inr (6, [.ref w1, .int (nI (if nw = 0 then sa else (sa + 1) % 64)), .int (nI (nw - 1))])), (w1, .inl (cL, 64, .inr (.inl wa)))] (va_A [(h0, .inr (6, [.ref w1, .int (nI sa), .int (nI nw)])), (w1, .inl (cL, 64, .inr (.inl wa)))] sz)) 0 0 (va_A [(h0, .inr (6, [.ref w1, .int (nI sa), .int (nI nw)])), (w1, .inl (cL, 64, .inr (.inl wa)))] sz) := by
  cases nw with
  | zero => exact mc_S_next0 h0 w1 sa wa sz
  | succ n =>
    rw [if_neg (Nat.succ_ne_zero n), if_neg (Nat.succ_ne_zero n)]
    exact mc_S_next1 h0 w1 sa n wa hs (by omega) sz

set_option maxHeartbeats 4000000 in
set_option maxRecDepth 100000 in
theorem mc_B_isValue {l : Launch} {D : va_G} {cI cL cZ : ClassId} {tb : Nat} (h0 hw hm ha hc hd hs b1 b2 nc no : Nat) (k : Int32) (b : Int64) : Met l ky_B_isValue kw_B_isValue { frames := 0, cells := 0, slots := 0, locals := 0 } (pr_P D cI cL cZ tb [(h0, .inr (0, [.ref hw, .ref hm, .ref ha, .ref hc, .ref hd, .ref hs])), (hw, .inr (1, [.ref b1, .ref b2, .int (nI nc), .int (nI no)]))] [.ref h0, .int k, .long b]) (hx_QR (some (.int (b2_ (vl_ no k b))))) 0 0 (fun _ => False) := by
  refine Met.ofW (cc := kc_B_isValue) (maxL := 4) (ret := (some .boolean)) (by decide) rfl ?_
  intro p e s m args below meth c s₁ B hml hv
  obtain ⟨rfl, hC, hP⟩ := hv
  have hx := B.exec
  have hb := B.bytes
  have hr := B.returns
  have hlocks := B.notSynchronized
  have hown : s.vm.findClass "HostBridge" = some m.cls := findClass_of_methodNamed B.named
  have hS : va_S (fun _ => False) s.heap s.heap [] := va_S.rf
  have hK := hC.K
  have hts := hC.ts [.ref h0, .int k, .long b].toArray
  have hl := lv_entry ([.ref h0, .int k, .long b]) (n := 4) (Nat.le_of_ble_eq_true rfl)
  rw [lg_entry_eq]
  generalize (lg_sl ([.ref h0, .int k, .long b]) ++ List.replicate (4 - (lg_sl ([.ref h0, .int k, .long b])).length) Slot.unset).toArray = ls at hl ⊢
  have hl : lv_has ls 4 [(0, .ref h0), (1, .int k), (2, .long b)] := hl
  refine lv_iload_n hx hb kd_B_isValue_0 rfl (lv_at hl 1 rfl) ?_
  rcases pk_ix k (n := 7) (by decide) with hk | hk | ⟨j, hj, rfl⟩
  · refine lv_tableOut (tgt := 101) hx hb kd_B_isValue_1 (Or.inl (by simpa using Int32.lt_iff_toInt_lt.mp hk)) (by decide) ?_
    refine lv_iconst (v := 0) hx hb kd_B_isValue_101 (by decide) ?_
    exact hx_zretR hx hb hr hlocks (by rw [vl_no (by simp [fb_in, hk])]; rfl) kd_B_isValue_102
  · refine lv_tableOut (tgt := 101) hx hb kd_B_isValue_1 (Or.inr (by have h9 := Int32.le_iff_toInt_le.mp hk; rw [nI_toInt (by decide)] at h9; omega)) (by decide) ?_
    refine lv_iconst (v := 0) hx hb kd_B_isValue_101 (by decide) ?_
    exact hx_zretR hx hb hr hlocks (by rw [vl_no (by simp [fb_in, hk])]; rfl) kd_B_isValue_102
  · rcases (show j = 0 ∨ j = 1 ∨ j = 2 ∨ j = 3 ∨ j = 4 ∨ j = 5 ∨ j = 6 by omega) with rfl | rfl | rfl | rfl | rfl | rfl | rfl
    · refine lv_tableIn (tgt := 44) (off := 43) hx hb kd_B_isValue_1 (by decide) (by decide) (by decide) (by decide) ?_
      refine lv_iconst (v := 1) hx hb kd_B_isValue_44 (by decide) ?_
      exact hx_zretR hx hb hr hlocks (rfl) kd_B_isValue_45
    · refine lv_tableIn (tgt := 44) (off := 43) hx hb kd_B_isValue_1 (by decide) (by decide) (by decide) (by decide) ?_
      refine lv_iconst (v := 1) hx hb kd_B_isValue_44 (by decide) ?_
      exact hx_zretR hx hb hr hlocks (rfl) kd_B_isValue_45
    · refine lv_tableIn (tgt := 46) (off := 45) hx hb kd_B_isValue_1 (by decide) (by decide) (by decide) (by decide) ?_
      refine lv_lload_n hx hb kd_B_isValue_46 rfl (lv_at hl 2 rfl) ?_
      refine lv_lconst (v := 0) hx hb kd_B_isValue_47 (by decide) ?_
      refine W.lcmp hx hb kd_B_isValue_48 ?_
      refine lv_if_eq (tgt := 58) hx hb kd_B_isValue_49 (by decide) (fun c_49 => ?_) (fun c_49 => ?_)
      · skip
        refine lv_iconst (v := 1) hx hb kd_B_isValue_58 (by decide) ?_
        refine lv_goto (tgt := 63) hx hb kd_B_isValue_59 (by decide) ?_
        exact hx_zretR hx hb hr hlocks (by show (1 : Int32) = b2_ (if lg_cmp b 0 = 0 then true else if lg_cmp b 1 = 0 then true else false); rw [if_pos c_49]; rfl) kd_B_isValue_63
      · skip
        refine lv_lload_n hx hb kd_B_isValue_52 rfl (lv_at hl 2 rfl) ?_
        refine lv_lconst (v := 1) hx hb kd_B_isValue_53 (by decide) ?_
        refine W.lcmp hx hb kd_B_isValue_54 ?_
        refine lv_if_ne (tgt := 62) hx hb kd_B_isValue_55 (by decide) (fun c_55 => ?_) (fun c_55 => ?_)
        · skip
          refine lv_iconst (v := 0) hx hb kd_B_isValue_62 (by decide) ?_
          exact hx_zretR hx hb hr hlocks (by show (0 : Int32) = b2_ (if lg_cmp b 0 = 0 then true else if lg_cmp b 1 = 0 then true else false); rw [if_neg c_49, if_neg c_55]; rfl) kd_B_isValue_63
        · skip
          refine lv_iconst (v := 1) hx hb kd_B_isValue_58 (by decide) ?_
          refine lv_goto (tgt := 63) hx hb kd_B_isValue_59 (by decide) ?_
          exact hx_zretR hx hb hr hlocks (by show (1 : Int32) = b2_ (if lg_cmp b 0 = 0 then true else if lg_cmp b 1 = 0 then true else false); rw [if_neg c_49, if_pos c_55]; rfl) kd_B_isValue_63
    · refine lv_tableIn (tgt := 44) (off := 43) hx hb kd_B_isValue_1 (by decide) (by decide) (by decide) (by decide) ?_
      refine lv_iconst (v := 1) hx hb kd_B_isValue_44 (by decide) ?_
      exact hx_zretR hx hb hr hlocks (rfl) kd_B_isValue_45
    · refine lv_tableIn (tgt := 64) (off := 63) hx hb kd_B_isValue_1 (by decide) (by decide) (by decide) (by decide) ?_
      refine lv_lload_n hx hb kd_B_isValue_64 rfl (lv_at hl 2 rfl) ?_
      refine lv_lconst (v := 0) hx hb kd_B_isValue_65 (by decide) ?_
      refine W.lcmp hx hb kd_B_isValue_66 ?_
      refine lv_if_lt (tgt := 74) hx hb kd_B_isValue_67 (by decide) (fun c_67 => ?_) (fun c_67 => ?_)
      · skip
        refine lv_iconst (v := 0) hx hb kd_B_isValue_74 (by decide) ?_
        exact hx_zretR hx hb hr hlocks (by show (0 : Int32) = b2_ (if lg_cmp b 0 < 0 then false else true); rw [if_pos c_67]; rfl) kd_B_isValue_75
      · skip
        refine lv_iconst (v := 1) hx hb kd_B_isValue_70 (by decide) ?_
        refine lv_goto (tgt := 75) hx hb kd_B_isValue_71 (by decide) ?_
        exact hx_zretR hx hb hr hlocks (by show (1 : Int32) = b2_ (if lg_cmp b 0 < 0 then false else true); rw [if_neg c_67]; rfl) kd_B_isValue_75
    · refine lv_tableIn (tgt := 76) (off := 75) hx hb kd_B_isValue_1 (by decide) (by decide) (by decide) (by decide) ?_
      refine lv_lload_n hx hb kd_B_isValue_76 rfl (lv_at hl 2 rfl) ?_
      refine lv_lconst (v := 0) hx hb kd_B_isValue_77 (by decide) ?_
      refine W.lcmp hx hb kd_B_isValue_78 ?_
      refine lv_if_lt (tgt := 99) hx hb kd_B_isValue_79 (by decide) (fun c_79 => ?_) (fun c_79 => ?_)
      · skip
        refine lv_iconst (v := 0) hx hb kd_B_isValue_99 (by decide) ?_
        exact hx_zretR hx hb hr hlocks (by show (0 : Int32) = b2_ (if lg_cmp b 0 < 0 then false else if 0 ≤ lg_cmp b (nI no).toInt64 then false else true); rw [if_pos c_79]; rfl) kd_B_isValue_100
      · skip
        refine lv_lload_n hx hb kd_B_isValue_82 rfl (lv_at hl 2 rfl) ?_
        refine lv_aload_n hx hb kd_B_isValue_83 rfl (lv_at hl 0 rfl) ?_
        refine va_get (D := D) (ci := 0) (v := .ref hw) (C := "HostBridge") (T := ct_B) (N := 6) hx hb hts cw_B hown hK hP 0 rfl rfl 0 (by decide) (hts _ km_172) (fun _ h9 => h9) rfl kd_B_isValue_84 ?_
        refine va_getN (host := "HostBridge") (D := D) (ci := 1) (v := .int (nI no)) (C := "HostBridge$World") (T := ct_W) (N := 4) hx hb hts cw_W hown hK hP 1 rfl rfl 3 (by decide) (hts _ km_40) (fun _ h9 => h9) rfl kd_B_isValue_87 ?_
        refine lv_i2l hx hb kd_B_isValue_90 rfl ?_
        refine W.lcmp hx hb kd_B_isValue_91 ?_
        refine lv_if_ge (tgt := 99) hx hb kd_B_isValue_92 (by decide) (fun c_92 => ?_) (fun c_92 => ?_)
        · skip
          refine lv_iconst (v := 0) hx hb kd_B_isValue_99 (by decide) ?_
          exact hx_zretR hx hb hr hlocks (by show (0 : Int32) = b2_ (if lg_cmp b 0 < 0 then false else if 0 ≤ lg_cmp b (nI no).toInt64 then false else true); rw [if_neg c_79, if_pos c_92]; rfl) kd_B_isValue_100
        · skip
          refine lv_iconst (v := 1) hx hb kd_B_isValue_95 (by decide) ?_
          refine lv_goto (tgt := 100) hx hb kd_B_isValue_96 (by decide) ?_
          exact hx_zretR hx hb hr hlocks (by show (1 : Int32) = b2_ (if lg_cmp b 0 < 0 then false else if 0 ≤ lg_cmp b (nI no).toInt64 then false else true); rw [if_neg c_79, if_neg c_92]; rfl) kd_B_isValue_100
    · refine lv_tableIn (tgt := 64) (off := 63) hx hb kd_B_isValue_1 (by decide) (by decide) (by decide) (by decide) ?_
      refine lv_lload_n hx hb kd_B_isValue_64 rfl (lv_at hl 2 rfl) ?_
      refine lv_lconst (v := 0) hx hb kd_B_isValue_65 (by decide) ?_
      refine W.lcmp hx hb kd_B_isValue_66 ?_
      refine lv_if_lt (tgt := 74) hx hb kd_B_isValue_67 (by decide) (fun c_67 => ?_) (fun c_67 => ?_)
      · skip
        refine lv_iconst (v := 0) hx hb kd_B_isValue_74 (by decide) ?_
        exact hx_zretR hx hb hr hlocks (by show (0 : Int32) = b2_ (if lg_cmp b 0 < 0 then false else true); rw [if_pos c_67]; rfl) kd_B_isValue_75
      · skip
        refine lv_iconst (v := 1) hx hb kd_B_isValue_70 (by decide) ?_
        refine lv_goto (tgt := 75) hx hb kd_B_isValue_71 (by decide) ?_
        exact hx_zretR hx hb hr hlocks (by show (1 : Int32) = b2_ (if lg_cmp b 0 < 0 then false else true); rw [if_neg c_67]; rfl) kd_B_isValue_75

set_option maxHeartbeats 4000000 in
set_option maxRecDepth 100000 in
theorem mc_B_writeDown {l : Launch} {D : va_G} {cI cL cZ : ClassId} {tb : Nat} (q : Nat → Nat) (nc no nm nar nd sa nw : Nat) (ck : Int32) (lg : Int64) (pa co ho nn si ty kn so ca lo fo fm fs : Nat → Int32) (bi fv wa : Nat → Int64) (j N : Nat) (ob : Int32) (hj : j < 64) (hN : si j = nI N) (hN4 : N ≤ 4) (hnd : nd < 2 ^ 31) (hs : sa < 64) (hw : nw ≤ 64) (sz : Nat) : Met l ky_B_writeDown kw_B_writeDown { frames := 4, cells := 0, slots := 0, locals := 90 } (pw_P D cI cL cZ tb [((q 0), .inr (0, [.ref (q 1), .ref (q 2), .ref (q 3), .ref (q 4), .ref (q 5), .ref (q 6)])), ((q 1), .inr (1, [.ref (q 7), .ref (q 8), .int (nI nc), .int (nI no)])), ((q 2), .inr (2, [.ref (q 9), .ref (q 10), .ref (q 11), .ref (q 12), .int (nI nm)])), ((q 3), .inr (3, [.ref (q 1), .ref (q 13), .ref (q 14), .ref (q 15), .int (nI nar)])), ((q 4), .inr (4, [.ref (q 1), .ref (q 2), .ref (q 3), .ref (q 16), .ref (q 17), .int ck])), ((q 5), .inr (5, [.ref (q 18), .ref (q 19), .ref (q 20), .ref (q 21), .long lg, .int (nI nd)])), ((q 6), .inr (6, [.ref (q 22), .int (nI sa), .int (nI nw)])), ((q 7), .inl (cI, 16, .inl pa)), ((q 8), .inl (cI, 64, .inl co)), ((q 9), .inl (cI, 64, .inl ho)), ((q 10), .inl (cI, 64, .inl nn)), ((q 11), .inl (cI, 64, .inl si)), ((q 12), .inl (cI, 64, .inl ty)), ((q 13), .inl (cI, 4, .inl kn)), ((q 14), .inl (cI, 4, .inl so)), ((q 15), .inl (cL, 4, .inr (.inl bi))), ((q 16), .inl (cI, 64, .inl ca)), ((q 17), .inl (cI, 4, .inl lo)), ((q 18), .inl (cI, 64, .inl fo)), ((q 19), .inl (cI, 64, .inl fm)), ((q 20), .inl (cI, 64, .inl fs)), ((q 21), .inl (cL, 256, .inr (.inl fv))), ((q 22), .inl (cL, 64, .inr (.inl wa)))] sz [.ref (q 0), .int ob, .int (nI j)]) (hx_QW D none [((q 0), .inr (0, [.ref (q 1), .ref (q 2), .ref (q 3), .ref (q 4), .ref (q 5), .ref (q 6)])), ((q 1), .inr (1, [.ref (q 7), .ref (q 8), .int (nI nc), .int (nI no)])), ((q 2), .inr (2, [.ref (q 9), .ref (q 10), .ref (q 11), .ref (q 12), .int (nI nm)])), ((q 3), .inr (3, [.ref (q 1), .ref (q 13), .ref (q 14), .ref (q 15), .int (nI nar)])), ((q 4), .inr (4, [.ref (q 1), .ref (q 2), .ref (q 3), .ref (q 16), .ref (q 17), .int ck])), ((q 5), .inr (5, [.ref (q 18), .ref (q 19), .ref (q 20), .ref (q 21), .long (if nw = 0 then 0 else wa sa), .int (nI (nd + 1))])), ((q 6), .inr (6, [.ref (q 22), .int (nI (if nw = 0 then sa else (sa + 1) % 64)), .int (nI (nw - 1))])), ((q 7), .inl (cI, 16, .inl pa)), ((q 8), .inl (cI, 64, .inl co)), ((q 9), .inl (cI, 64, .inl ho)), ((q 10), .inl (cI, 64, .inl nn)), ((q 11), .inl (cI, 64, .inl si)), ((q 12), .inl (cI, 64, .inl ty)), ((q 13), .inl (cI, 4, .inl kn)), ((q 14), .inl (cI, 4, .inl so)), ((q 15), .inl (cL, 4, .inr (.inl bi))), ((q 16), .inl (cI, 64, .inl ca)), ((q 17), .inl (cI, 4, .inl lo)), ((q 18), .inl (cI, 64, .inl (upd fo (nd % 64) ob))), ((q 19), .inl (cI, 64, .inl (upd fm (nd % 64) (nI j)))), ((q 20), .inl (cI, 64, .inl (upd fs (nd % 64) (nI N)))), ((q 21), .inl (cL, 256, .inr (.inl (wv_ fv (nd % 64 * 4) (fun i => cv_ kn bi i (nI (ty_N (ty j) N i))) N)))), ((q 22), .inl (cL, 64, .inr (.inl wa)))] (va_A [((q 0), .inr (0, [.ref (q 1), .ref (q 2), .ref (q 3), .ref (q 4), .ref (q 5), .ref (q 6)])), ((q 1), .inr (1, [.ref (q 7), .ref (q 8), .int (nI nc), .int (nI no)])), ((q 2), .inr (2, [.ref (q 9), .ref (q 10), .ref (q 11), .ref (q 12), .int (nI nm)])), ((q 3), .inr (3, [.ref (q 1), .ref (q 13), .ref (q 14), .ref (q 15), .int (nI nar)])), ((q 4), .inr (4, [.ref (q 1), .ref (q 2), .ref (q 3), .ref (q 16), .ref (q 17), .int ck])), ((q 5), .inr (5, [.ref (q 18), .ref (q 19), .ref (q 20), .ref (q 21), .long lg, .int (nI nd)])), ((q 6), .inr (6, [.ref (q 22), .int (nI sa), .int (nI nw)])), ((q 7), .inl (cI, 16, .inl pa)), ((q 8), .inl (cI, 64, .inl co)), ((q 9), .inl (cI, 64, .inl ho)), ((q 10), .inl (cI, 64, .inl nn)), ((q 11), .inl (cI, 64, .inl si)), ((q 12), .inl (cI, 64, .inl ty)), ((q 13), .inl (cI, 4, .inl kn)), ((q 14), .inl (cI, 4, .inl so)), ((q 15), .inl (cL, 4, .inr (.inl bi))), ((q 16), .inl (cI, 64, .inl ca)), ((q 17), .inl (cI, 4, .inl lo)), ((q 18), .inl (cI, 64, .inl fo)), ((q 19), .inl (cI, 64, .inl fm)), ((q 20), .inl (cI, 64, .inl fs)), ((q 21), .inl (cL, 256, .inr (.inl fv))), ((q 22), .inl (cL, 64, .inr (.inl wa)))] sz)) 0 0 (va_A [((q 0), .inr (0, [.ref (q 1), .ref (q 2), .ref (q 3), .ref (q 4), .ref (q 5), .ref (q 6)])), ((q 1), .inr (1, [.ref (q 7), .ref (q 8), .int (nI nc), .int (nI no)])), ((q 2), .inr (2, [.ref (q 9), .ref (q 10), .ref (q 11), .ref (q 12), .int (nI nm)])), ((q 3), .inr (3, [.ref (q 1), .ref (q 13), .ref (q 14), .ref (q 15), .int (nI nar)])), ((q 4), .inr (4, [.ref (q 1), .ref (q 2), .ref (q 3), .ref (q 16), .ref (q 17), .int ck])), ((q 5), .inr (5, [.ref (q 18), .ref (q 19), .ref (q 20), .ref (q 21), .long lg, .int (nI nd)])), ((q 6), .inr (6, [.ref (q 22), .int (nI sa), .int (nI nw)])), ((q 7), .inl (cI, 16, .inl pa)), ((q 8), .inl (cI, 64, .inl co)), ((q 9), .inl (cI, 64, .inl ho)), ((q 10), .inl (cI, 64, .inl nn)), ((q 11), .inl (cI, 64, .inl si)), ((q 12), .inl (cI, 64, .inl ty)), ((q 13), .inl (cI, 4, .inl kn)), ((q 14), .inl (cI, 4, .inl so)), ((q 15), .inl (cL, 4, .inr (.inl bi))), ((q 16), .inl (cI, 64, .inl ca)), ((q 17), .inl (cI, 4, .inl lo)), ((q 18), .inl (cI, 64, .inl fo)), ((q 19), .inl (cI, 64, .inl fm)), ((q 20), .inl (cI, 64, .inl fs)), ((q 21), .inl (cL, 256, .inr (.inl fv))), ((q 22), .inl (cL, 64, .inr (.inl wa)))] sz) := by
  refine Met.ofW (cc := kc_B_writeDown) (maxL := 6) (ret := none) (by decide) rfl ?_
  intro p e s m args below meth c s₁ B hml hv
  obtain ⟨rfl, hsz, hC, hP, hD0⟩ := hv
  have hx := B.exec
  have hb := B.bytes
  have hr := B.returns
  have hlocks := B.notSynchronized
  have hown : s.vm.findClass "HostBridge" = some m.cls := findClass_of_methodNamed B.named
  subst hsz
  have hD := hD0.self (sz := s.heap.size)
  generalize hAe : va_A [((q 0), .inr (0, [.ref (q 1), .ref (q 2), .ref (q 3), .ref (q 4), .ref (q 5), .ref (q 6)])), ((q 1), .inr (1, [.ref (q 7), .ref (q 8), .int (nI nc), .int (nI no)])), ((q 2), .inr (2, [.ref (q 9), .ref (q 10), .ref (q 11), .ref (q 12), .int (nI nm)])), ((q 3), .inr (3, [.ref (q 1), .ref (q 13), .ref (q 14), .ref (q 15), .int (nI nar)])), ((q 4), .inr (4, [.ref (q 1), .ref (q 2), .ref (q 3), .ref (q 16), .ref (q 17), .int ck])), ((q 5), .inr (5, [.ref (q 18), .ref (q 19), .ref (q 20), .ref (q 21), .long lg, .int (nI nd)])), ((q 6), .inr (6, [.ref (q 22), .int (nI sa), .int (nI nw)])), ((q 7), .inl (cI, 16, .inl pa)), ((q 8), .inl (cI, 64, .inl co)), ((q 9), .inl (cI, 64, .inl ho)), ((q 10), .inl (cI, 64, .inl nn)), ((q 11), .inl (cI, 64, .inl si)), ((q 12), .inl (cI, 64, .inl ty)), ((q 13), .inl (cI, 4, .inl kn)), ((q 14), .inl (cI, 4, .inl so)), ((q 15), .inl (cL, 4, .inr (.inl bi))), ((q 16), .inl (cI, 64, .inl ca)), ((q 17), .inl (cI, 4, .inl lo)), ((q 18), .inl (cI, 64, .inl fo)), ((q 19), .inl (cI, 64, .inl fm)), ((q 20), .inl (cI, 64, .inl fs)), ((q 21), .inl (cL, 256, .inr (.inl fv))), ((q 22), .inl (cL, 64, .inr (.inl wa)))] s.heap.size = A at hD hC ⊢
  have hA : ∀ q : Nat, s.heap.size ≤ q → A q := fun q h => by rw [← hAe]; exact Or.inr h
  have hS : va_S A s.heap s.heap [] := va_S.rf
  have hK := hC.K
  have hts := hC.ts [.ref (q 0), .int ob, .int (nI j)].toArray
  have hl := lv_entry ([.ref (q 0), .int ob, .int (nI j)]) (n := 6) (Nat.le_of_ble_eq_true rfl)
  rw [lg_entry_eq]
  generalize (lg_sl ([.ref (q 0), .int ob, .int (nI j)]) ++ List.replicate (6 - (lg_sl ([.ref (q 0), .int ob, .int (nI j)])).length) Slot.unset).toArray = ls at hl ⊢
  have hl : lv_has ls 6 [(0, .ref (q 0)), (1, .int ob), (2, .int (nI j))] := hl
  refine lv_aload_n hx hb kd_B_writeDown_0 rfl (lv_at hl 0 rfl) ?_
  refine va_get (D := D) (ci := 0) (v := .ref (q 2)) (C := "HostBridge") (T := ct_B) (N := 6) hx hb hts cw_B hown hK hP 0 rfl rfl 1 (by decide) (hts _ km_173) (fun _ h9 => h9) rfl kd_B_writeDown_1 ?_
  refine va_getN (host := "HostBridge") (D := D) (ci := 2) (v := .ref (q 11)) (C := "HostBridge$Methods") (T := ct_M) (N := 5) hx hb hts cw_M hown hK hP 2 rfl rfl 2 (by decide) (hts _ km_60) (fun _ h9 => h9) rfl kd_B_writeDown_4 ?_
  refine lv_iload_n hx hb kd_B_writeDown_7 rfl (lv_at hl 2 rfl) ?_
  refine hx_iald (j := j) hx hb hK hP 11 rfl (rfl) (hj) (by decide) kd_B_writeDown_8 ?_
  refine hx_topi (y := nI N) (hN) ?_
  refine lv_istore_n (lv' := [(3, .int (nI N)), (0, .ref (q 0)), (1, .int ob), (2, .int (nI j))]) hx hb kd_B_writeDown_9 rfl hl (by decide) rfl (fun ls hl => ?_)
  refine lv_aload_n hx hb kd_B_writeDown_10 rfl (lv_at hl 1 rfl) ?_
  refine va_get (D := D) (ci := 0) (v := .ref (q 2)) (C := "HostBridge") (T := ct_B) (N := 6) hx hb hts cw_B hown hK hP 0 rfl rfl 1 (by decide) (hts _ km_173) (fun _ h9 => h9) rfl kd_B_writeDown_11 ?_
  refine va_getN (host := "HostBridge") (D := D) (ci := 2) (v := .ref (q 12)) (C := "HostBridge$Methods") (T := ct_M) (N := 5) hx hb hts cw_M hown hK hP 2 rfl rfl 3 (by decide) (hts _ km_63) (fun _ h9 => h9) rfl kd_B_writeDown_14 ?_
  refine lv_iload_n hx hb kd_B_writeDown_17 rfl (lv_at hl 3 rfl) ?_
  refine hx_iald (j := j) hx hb hK hP 12 rfl (rfl) (hj) (by decide) kd_B_writeDown_18 ?_
  refine lv_istore (lv' := [(4, .int (ty j)), (3, .int (nI N)), (0, .ref (q 0)), (1, .int ob), (2, .int (nI j))]) hx hb kd_B_writeDown_19 hl (by decide) rfl (fun ls hl => ?_)
  refine lv_aload_n hx hb kd_B_writeDown_21 rfl (lv_at hl 2 rfl) ?_
  refine va_get (D := D) (ci := 0) (v := .ref (q 5)) (C := "HostBridge") (T := ct_B) (N := 6) hx hb hts cw_B hown hK hP 0 rfl rfl 4 (by decide) (hts _ km_176) (fun _ h9 => h9) rfl kd_B_writeDown_22 ?_
  refine lv_iload_n hx hb kd_B_writeDown_25 rfl (lv_at hl 3 rfl) ?_
  refine lv_iload_n hx hb kd_B_writeDown_26 rfl (lv_at hl 4 rfl) ?_
  refine lv_iload_n hx hb kd_B_writeDown_27 rfl (lv_at hl 1 rfl) ?_
  refine hx_callWv (va_runV (As := [.int ob, .int (nI j), .int (nI N)]) (rest := []) ⟨hx, hb, hml, hown, hts⟩ (mc_D_open (q 5) (q 18) (q 19) (q 20) (q 21) nd lg fo fm fs fv ob (nI j) (nI N) hnd _) (cwV 3 hts (goodIn_sub (hx_m5 km_492 km_493 km_494 km_6 km_495) (by decide +kernel)) rfl rfl rfl (by decide +kernel) ⟨Nat.le_of_ble_eq_true rfl, Nat.le_of_ble_eq_true rfl⟩) (pw_V (hC.S hS) hP hD hS hA [5, 18, 19, 20] (by decide) rfl (ci := 5) rfl (q0 := 0) rfl) rfl rfl hl.1 rfl (lv_room (Nat.le_of_ble_eq_true rfl)) kd_B_writeDown_28 ⟨Nat.le_of_ble_eq_true rfl, Nat.le_of_ble_eq_true rfl⟩) hP hD hS hA [5, 18, 19, 20] rfl rfl (fun H locs hP hD hS hF => ?_)
  have hP : va_P D cl_all [((q 0), .inr (0, [.ref (q 1), .ref (q 2), .ref (q 3), .ref (q 4), .ref (q 5), .ref (q 6)])), ((q 1), .inr (1, [.ref (q 7), .ref (q 8), .int (nI nc), .int (nI no)])), ((q 2), .inr (2, [.ref (q 9), .ref (q 10), .ref (q 11), .ref (q 12), .int (nI nm)])), ((q 3), .inr (3, [.ref (q 1), .ref (q 13), .ref (q 14), .ref (q 15), .int (nI nar)])), ((q 4), .inr (4, [.ref (q 1), .ref (q 2), .ref (q 3), .ref (q 16), .ref (q 17), .int ck])), ((q 5), .inr (5, [.ref (q 18), .ref (q 19), .ref (q 20), .ref (q 21), .long lg, .int (nI nd)])), ((q 6), .inr (6, [.ref (q 22), .int (nI sa), .int (nI nw)])), ((q 7), .inl (cI, 16, .inl pa)), ((q 8), .inl (cI, 64, .inl co)), ((q 9), .inl (cI, 64, .inl ho)), ((q 10), .inl (cI, 64, .inl nn)), ((q 11), .inl (cI, 64, .inl si)), ((q 12), .inl (cI, 64, .inl ty)), ((q 13), .inl (cI, 4, .inl kn)), ((q 14), .inl (cI, 4, .inl so)), ((q 15), .inl (cL, 4, .inr (.inl bi))), ((q 16), .inl (cI, 64, .inl ca)), ((q 17), .inl (cI, 4, .inl lo)), ((q 18), .inl (cI, 64, .inl (upd fo (nd % 64) ob))), ((q 19), .inl (cI, 64, .inl (upd fm (nd % 64) (nI j)))), ((q 20), .inl (cI, 64, .inl (upd fs (nd % 64) (nI N)))), ((q 21), .inl (cL, 256, .inr (.inl fv))), ((q 22), .inl (cL, 64, .inr (.inl wa)))] H := hP
  have hD : va_D A [((q 0), .inr (0, [.ref (q 1), .ref (q 2), .ref (q 3), .ref (q 4), .ref (q 5), .ref (q 6)])), ((q 1), .inr (1, [.ref (q 7), .ref (q 8), .int (nI nc), .int (nI no)])), ((q 2), .inr (2, [.ref (q 9), .ref (q 10), .ref (q 11), .ref (q 12), .int (nI nm)])), ((q 3), .inr (3, [.ref (q 1), .ref (q 13), .ref (q 14), .ref (q 15), .int (nI nar)])), ((q 4), .inr (4, [.ref (q 1), .ref (q 2), .ref (q 3), .ref (q 16), .ref (q 17), .int ck])), ((q 5), .inr (5, [.ref (q 18), .ref (q 19), .ref (q 20), .ref (q 21), .long lg, .int (nI nd)])), ((q 6), .inr (6, [.ref (q 22), .int (nI sa), .int (nI nw)])), ((q 7), .inl (cI, 16, .inl pa)), ((q 8), .inl (cI, 64, .inl co)), ((q 9), .inl (cI, 64, .inl ho)), ((q 10), .inl (cI, 64, .inl nn)), ((q 11), .inl (cI, 64, .inl si)), ((q 12), .inl (cI, 64, .inl ty)), ((q 13), .inl (cI, 4, .inl kn)), ((q 14), .inl (cI, 4, .inl so)), ((q 15), .inl (cL, 4, .inr (.inl bi))), ((q 16), .inl (cI, 64, .inl ca)), ((q 17), .inl (cI, 4, .inl lo)), ((q 18), .inl (cI, 64, .inl (upd fo (nd % 64) ob))), ((q 19), .inl (cI, 64, .inl (upd fm (nd % 64) (nI j)))), ((q 20), .inl (cI, 64, .inl (upd fs (nd % 64) (nI N)))), ((q 21), .inl (cL, 256, .inr (.inl fv))), ((q 22), .inl (cL, 64, .inr (.inl wa)))] := hD
  refine lv_iconst (v := 0) hx hb kd_B_writeDown_31 (by decide) ?_
  refine lv_istore (lv' := [(5, .int 0), (4, .int (ty j)), (3, .int (nI N)), (0, .ref (q 0)), (1, .int ob), (2, .int (nI j))]) hx hb kd_B_writeDown_32 hl (by decide) rfl (fun ls hl => ?_)
  refine hx_loopW (σ := Nat) (I := fun i ls H locs => lv_has ls 6 [(0, .ref (q 0)), (3, .int (nI N)), (4, .int (ty j)), (5, .int (nI i))] ∧ va_P D cl_all [((q 0), .inr (0, [.ref (q 1), .ref (q 2), .ref (q 3), .ref (q 4), .ref (q 5), .ref (q 6)])), ((q 1), .inr (1, [.ref (q 7), .ref (q 8), .int (nI nc), .int (nI no)])), ((q 2), .inr (2, [.ref (q 9), .ref (q 10), .ref (q 11), .ref (q 12), .int (nI nm)])), ((q 3), .inr (3, [.ref (q 1), .ref (q 13), .ref (q 14), .ref (q 15), .int (nI nar)])), ((q 4), .inr (4, [.ref (q 1), .ref (q 2), .ref (q 3), .ref (q 16), .ref (q 17), .int ck])), ((q 5), .inr (5, [.ref (q 18), .ref (q 19), .ref (q 20), .ref (q 21), .long lg, .int (nI nd)])), ((q 6), .inr (6, [.ref (q 22), .int (nI sa), .int (nI nw)])), ((q 7), .inl (cI, 16, .inl pa)), ((q 8), .inl (cI, 64, .inl co)), ((q 9), .inl (cI, 64, .inl ho)), ((q 10), .inl (cI, 64, .inl nn)), ((q 11), .inl (cI, 64, .inl si)), ((q 12), .inl (cI, 64, .inl ty)), ((q 13), .inl (cI, 4, .inl kn)), ((q 14), .inl (cI, 4, .inl so)), ((q 15), .inl (cL, 4, .inr (.inl bi))), ((q 16), .inl (cI, 64, .inl ca)), ((q 17), .inl (cI, 4, .inl lo)), ((q 18), .inl (cI, 64, .inl (upd fo (nd % 64) ob))), ((q 19), .inl (cI, 64, .inl (upd fm (nd % 64) (nI j)))), ((q 20), .inl (cI, 64, .inl (upd fs (nd % 64) (nI N)))), ((q 21), .inl (cL, 256, .inr (.inl (wv_ fv (nd % 64 * 4) (fun i => cv_ kn bi i (nI (ty_N (ty j) N i))) i)))), ((q 22), .inl (cL, 64, .inr (.inl wa)))] H ∧ va_D A [((q 0), .inr (0, [.ref (q 1), .ref (q 2), .ref (q 3), .ref (q 4), .ref (q 5), .ref (q 6)])), ((q 1), .inr (1, [.ref (q 7), .ref (q 8), .int (nI nc), .int (nI no)])), ((q 2), .inr (2, [.ref (q 9), .ref (q 10), .ref (q 11), .ref (q 12), .int (nI nm)])), ((q 3), .inr (3, [.ref (q 1), .ref (q 13), .ref (q 14), .ref (q 15), .int (nI nar)])), ((q 4), .inr (4, [.ref (q 1), .ref (q 2), .ref (q 3), .ref (q 16), .ref (q 17), .int ck])), ((q 5), .inr (5, [.ref (q 18), .ref (q 19), .ref (q 20), .ref (q 21), .long lg, .int (nI nd)])), ((q 6), .inr (6, [.ref (q 22), .int (nI sa), .int (nI nw)])), ((q 7), .inl (cI, 16, .inl pa)), ((q 8), .inl (cI, 64, .inl co)), ((q 9), .inl (cI, 64, .inl ho)), ((q 10), .inl (cI, 64, .inl nn)), ((q 11), .inl (cI, 64, .inl si)), ((q 12), .inl (cI, 64, .inl ty)), ((q 13), .inl (cI, 4, .inl kn)), ((q 14), .inl (cI, 4, .inl so)), ((q 15), .inl (cL, 4, .inr (.inl bi))), ((q 16), .inl (cI, 64, .inl ca)), ((q 17), .inl (cI, 4, .inl lo)), ((q 18), .inl (cI, 64, .inl (upd fo (nd % 64) ob))), ((q 19), .inl (cI, 64, .inl (upd fm (nd % 64) (nI j)))), ((q 20), .inl (cI, 64, .inl (upd fs (nd % 64) (nI N)))), ((q 21), .inl (cL, 256, .inr (.inl (wv_ fv (nd % 64 * 4) (fun i => cv_ kn bi i (nI (ty_N (ty j) N i))) i)))), ((q 22), .inl (cL, 64, .inr (.inl wa)))] ∧ va_S A s.heap H locs ∧ i ≤ N) (μ := fun i => N - i) ?_ 0 ⟨lv_sub hl [3, 2, 1, 0] rfl, by rw [wv_0]; exact hP, by rw [wv_0]; exact hD, hS, Nat.zero_le _⟩
  intro i ls H locs hI ih34
  obtain ⟨hl, hP, hD, hS, hi⟩ := hI
  refine lv_iload hx hb kd_B_writeDown_34 (lv_at hl 3 rfl) ?_
  refine lv_iload_n hx hb kd_B_writeDown_36 rfl (lv_at hl 1 rfl) ?_
  refine lv_icmp_ge (tgt := 72) hx hb kd_B_writeDown_37 (by decide) (fun c_37 => ?_) (fun c_37 => ?_)
  · skip
    have hin : i = N := by rw [nI_leI (by omega) (by omega)] at c_37; omega
    rw [hin] at hP hD
    refine lv_aload_n hx hb kd_B_writeDown_72 rfl (lv_at hl 0 rfl) ?_
    refine va_get (D := D) (ci := 0) (v := .ref (q 5)) (C := "HostBridge") (T := ct_B) (N := 6) hx hb hts cw_B hown hK hP 0 rfl rfl 4 (by decide) (hts _ km_176) (fun _ h9 => h9) rfl kd_B_writeDown_73 ?_
    refine lv_aload_n hx hb kd_B_writeDown_76 rfl (lv_at hl 0 rfl) ?_
    refine va_get (D := D) (ci := 0) (v := .ref (q 6)) (C := "HostBridge") (T := ct_B) (N := 6) hx hb hts cw_B hown hK hP 0 rfl rfl 5 (by decide) (hts _ km_177) (fun _ h9 => h9) rfl kd_B_writeDown_77 ?_
    refine hx_callWl (va_runV (As := []) (rest := [.ref (q 5)]) ⟨hx, hb, hml, hown, hts⟩ (mc_S_next (q 6) (q 22) sa nw wa hs hw _) (cwV 0 hts (goodIn_sub (hx_m5 km_520 km_521 km_522 km_7 km_523) (by decide +kernel)) rfl rfl rfl (by decide +kernel) ⟨Nat.le_of_ble_eq_true rfl, Nat.le_of_ble_eq_true rfl⟩) (pw_V (hC.S hS) hP hD hS hA [6, 22] (by decide) rfl (ci := 6) rfl (q0 := 0) rfl) rfl rfl hl.1 rfl (lv_room (Nat.le_of_ble_eq_true rfl)) kd_B_writeDown_80 ⟨Nat.le_of_ble_eq_true rfl, Nat.le_of_ble_eq_true rfl⟩) hP hD hS hA [6, 22] rfl rfl (fun H locs hP hD hS hF => ?_)
    have hP : va_P D cl_all [((q 0), .inr (0, [.ref (q 1), .ref (q 2), .ref (q 3), .ref (q 4), .ref (q 5), .ref (q 6)])), ((q 1), .inr (1, [.ref (q 7), .ref (q 8), .int (nI nc), .int (nI no)])), ((q 2), .inr (2, [.ref (q 9), .ref (q 10), .ref (q 11), .ref (q 12), .int (nI nm)])), ((q 3), .inr (3, [.ref (q 1), .ref (q 13), .ref (q 14), .ref (q 15), .int (nI nar)])), ((q 4), .inr (4, [.ref (q 1), .ref (q 2), .ref (q 3), .ref (q 16), .ref (q 17), .int ck])), ((q 5), .inr (5, [.ref (q 18), .ref (q 19), .ref (q 20), .ref (q 21), .long lg, .int (nI nd)])), ((q 6), .inr (6, [.ref (q 22), .int (nI (if nw = 0 then sa else (sa + 1) % 64)), .int (nI (nw - 1))])), ((q 7), .inl (cI, 16, .inl pa)), ((q 8), .inl (cI, 64, .inl co)), ((q 9), .inl (cI, 64, .inl ho)), ((q 10), .inl (cI, 64, .inl nn)), ((q 11), .inl (cI, 64, .inl si)), ((q 12), .inl (cI, 64, .inl ty)), ((q 13), .inl (cI, 4, .inl kn)), ((q 14), .inl (cI, 4, .inl so)), ((q 15), .inl (cL, 4, .inr (.inl bi))), ((q 16), .inl (cI, 64, .inl ca)), ((q 17), .inl (cI, 4, .inl lo)), ((q 18), .inl (cI, 64, .inl (upd fo (nd % 64) ob))), ((q 19), .inl (cI, 64, .inl (upd fm (nd % 64) (nI j)))), ((q 20), .inl (cI, 64, .inl (upd fs (nd % 64) (nI N)))), ((q 21), .inl (cL, 256, .inr (.inl (wv_ fv (nd % 64 * 4) (fun i => cv_ kn bi i (nI (ty_N (ty j) N i))) N)))), ((q 22), .inl (cL, 64, .inr (.inl wa)))] H := hP
    have hD : va_D A [((q 0), .inr (0, [.ref (q 1), .ref (q 2), .ref (q 3), .ref (q 4), .ref (q 5), .ref (q 6)])), ((q 1), .inr (1, [.ref (q 7), .ref (q 8), .int (nI nc), .int (nI no)])), ((q 2), .inr (2, [.ref (q 9), .ref (q 10), .ref (q 11), .ref (q 12), .int (nI nm)])), ((q 3), .inr (3, [.ref (q 1), .ref (q 13), .ref (q 14), .ref (q 15), .int (nI nar)])), ((q 4), .inr (4, [.ref (q 1), .ref (q 2), .ref (q 3), .ref (q 16), .ref (q 17), .int ck])), ((q 5), .inr (5, [.ref (q 18), .ref (q 19), .ref (q 20), .ref (q 21), .long lg, .int (nI nd)])), ((q 6), .inr (6, [.ref (q 22), .int (nI (if nw = 0 then sa else (sa + 1) % 64)), .int (nI (nw - 1))])), ((q 7), .inl (cI, 16, .inl pa)), ((q 8), .inl (cI, 64, .inl co)), ((q 9), .inl (cI, 64, .inl ho)), ((q 10), .inl (cI, 64, .inl nn)), ((q 11), .inl (cI, 64, .inl si)), ((q 12), .inl (cI, 64, .inl ty)), ((q 13), .inl (cI, 4, .inl kn)), ((q 14), .inl (cI, 4, .inl so)), ((q 15), .inl (cL, 4, .inr (.inl bi))), ((q 16), .inl (cI, 64, .inl ca)), ((q 17), .inl (cI, 4, .inl lo)), ((q 18), .inl (cI, 64, .inl (upd fo (nd % 64) ob))), ((q 19), .inl (cI, 64, .inl (upd fm (nd % 64) (nI j)))), ((q 20), .inl (cI, 64, .inl (upd fs (nd % 64) (nI N)))), ((q 21), .inl (cL, 256, .inr (.inl (wv_ fv (nd % 64 * 4) (fun i => cv_ kn bi i (nI (ty_N (ty j) N i))) N)))), ((q 22), .inl (cL, 64, .inr (.inl wa)))] := hD
    refine hx_callWv (va_runV (As := [.long (if nw = 0 then 0 else wa sa)]) (rest := []) ⟨hx, hb, hml, hown, hts⟩ (mc_D_close (q 5) (q 18) (q 19) (q 20) (q 21) nd lg (upd fo (nd % 64) ob) (upd fm (nd % 64) (nI j)) (upd fs (nd % 64) (nI N)) fv (if nw = 0 then 0 else wa sa) _) (cwV 1 hts (goodIn_sub (hx_m5 km_524 km_525 km_526 km_6 km_527) (by decide +kernel)) rfl rfl rfl (by decide +kernel) ⟨Nat.le_of_ble_eq_true rfl, Nat.le_of_ble_eq_true rfl⟩) (pw_V (hC.S hS) hP hD hS hA [5] (by decide) rfl (ci := 5) rfl (q0 := 0) rfl) rfl rfl hl.1 rfl (lv_room (Nat.le_of_ble_eq_true rfl)) kd_B_writeDown_83 ⟨Nat.le_of_ble_eq_true rfl, Nat.le_of_ble_eq_true rfl⟩) hP hD hS hA [5] rfl rfl (fun H locs hP hD hS hF => ?_)
    have hP : va_P D cl_all [((q 0), .inr (0, [.ref (q 1), .ref (q 2), .ref (q 3), .ref (q 4), .ref (q 5), .ref (q 6)])), ((q 1), .inr (1, [.ref (q 7), .ref (q 8), .int (nI nc), .int (nI no)])), ((q 2), .inr (2, [.ref (q 9), .ref (q 10), .ref (q 11), .ref (q 12), .int (nI nm)])), ((q 3), .inr (3, [.ref (q 1), .ref (q 13), .ref (q 14), .ref (q 15), .int (nI nar)])), ((q 4), .inr (4, [.ref (q 1), .ref (q 2), .ref (q 3), .ref (q 16), .ref (q 17), .int ck])), ((q 5), .inr (5, [.ref (q 18), .ref (q 19), .ref (q 20), .ref (q 21), .long (if nw = 0 then 0 else wa sa), .int (nI (nd + 1))])), ((q 6), .inr (6, [.ref (q 22), .int (nI (if nw = 0 then sa else (sa + 1) % 64)), .int (nI (nw - 1))])), ((q 7), .inl (cI, 16, .inl pa)), ((q 8), .inl (cI, 64, .inl co)), ((q 9), .inl (cI, 64, .inl ho)), ((q 10), .inl (cI, 64, .inl nn)), ((q 11), .inl (cI, 64, .inl si)), ((q 12), .inl (cI, 64, .inl ty)), ((q 13), .inl (cI, 4, .inl kn)), ((q 14), .inl (cI, 4, .inl so)), ((q 15), .inl (cL, 4, .inr (.inl bi))), ((q 16), .inl (cI, 64, .inl ca)), ((q 17), .inl (cI, 4, .inl lo)), ((q 18), .inl (cI, 64, .inl (upd fo (nd % 64) ob))), ((q 19), .inl (cI, 64, .inl (upd fm (nd % 64) (nI j)))), ((q 20), .inl (cI, 64, .inl (upd fs (nd % 64) (nI N)))), ((q 21), .inl (cL, 256, .inr (.inl (wv_ fv (nd % 64 * 4) (fun i => cv_ kn bi i (nI (ty_N (ty j) N i))) N)))), ((q 22), .inl (cL, 64, .inr (.inl wa)))] H := hP
    have hD : va_D A [((q 0), .inr (0, [.ref (q 1), .ref (q 2), .ref (q 3), .ref (q 4), .ref (q 5), .ref (q 6)])), ((q 1), .inr (1, [.ref (q 7), .ref (q 8), .int (nI nc), .int (nI no)])), ((q 2), .inr (2, [.ref (q 9), .ref (q 10), .ref (q 11), .ref (q 12), .int (nI nm)])), ((q 3), .inr (3, [.ref (q 1), .ref (q 13), .ref (q 14), .ref (q 15), .int (nI nar)])), ((q 4), .inr (4, [.ref (q 1), .ref (q 2), .ref (q 3), .ref (q 16), .ref (q 17), .int ck])), ((q 5), .inr (5, [.ref (q 18), .ref (q 19), .ref (q 20), .ref (q 21), .long (if nw = 0 then 0 else wa sa), .int (nI (nd + 1))])), ((q 6), .inr (6, [.ref (q 22), .int (nI (if nw = 0 then sa else (sa + 1) % 64)), .int (nI (nw - 1))])), ((q 7), .inl (cI, 16, .inl pa)), ((q 8), .inl (cI, 64, .inl co)), ((q 9), .inl (cI, 64, .inl ho)), ((q 10), .inl (cI, 64, .inl nn)), ((q 11), .inl (cI, 64, .inl si)), ((q 12), .inl (cI, 64, .inl ty)), ((q 13), .inl (cI, 4, .inl kn)), ((q 14), .inl (cI, 4, .inl so)), ((q 15), .inl (cL, 4, .inr (.inl bi))), ((q 16), .inl (cI, 64, .inl ca)), ((q 17), .inl (cI, 4, .inl lo)), ((q 18), .inl (cI, 64, .inl (upd fo (nd % 64) ob))), ((q 19), .inl (cI, 64, .inl (upd fm (nd % 64) (nI j)))), ((q 20), .inl (cI, 64, .inl (upd fs (nd % 64) (nI N)))), ((q 21), .inl (cL, 256, .inr (.inl (wv_ fv (nd % 64 * 4) (fun i => cv_ kn bi i (nI (ty_N (ty j) N i))) N)))), ((q 22), .inl (cL, 64, .inr (.inl wa)))] := hD
    exact hx_vretW hx hb hr hlocks (hP.sub [0, 1, 2, 3, 4, 5, 6, 7, 8, 9, 10, 11, 12, 13, 14, 15, 16, 17, 18, 19, 20, 21, 22] rfl) hS kd_B_writeDown_86
  · skip
    have hin : i < N := by rw [nI_leI (by omega) (by omega)] at c_37; omega
    refine lv_aload_n hx hb kd_B_writeDown_40 rfl (lv_at hl 0 rfl) ?_
    refine va_get (D := D) (ci := 0) (v := .ref (q 5)) (C := "HostBridge") (T := ct_B) (N := 6) hx hb hts cw_B hown hK hP 0 rfl rfl 4 (by decide) (hts _ km_176) (fun _ h9 => h9) rfl kd_B_writeDown_41 ?_
    refine lv_iload hx hb kd_B_writeDown_44 (lv_at hl 3 rfl) ?_
    refine lv_aload_n hx hb kd_B_writeDown_46 rfl (lv_at hl 0 rfl) ?_
    refine va_get (D := D) (ci := 0) (v := .ref (q 3)) (C := "HostBridge") (T := ct_B) (N := 6) hx hb hts cw_B hown hK hP 0 rfl rfl 2 (by decide) (hts _ km_174) (fun _ h9 => h9) rfl kd_B_writeDown_47 ?_
    refine lv_iload hx hb kd_B_writeDown_50 (lv_at hl 3 rfl) ?_
    refine lv_iload hx hb kd_B_writeDown_52 (lv_at hl 2 rfl) ?_
    refine lv_iload_n hx hb kd_B_writeDown_54 rfl (lv_at hl 1 rfl) ?_
    refine lv_iload hx hb kd_B_writeDown_55 (lv_at hl 3 rfl) ?_
    refine hx_callRi (va_runS (As := [.int (ty j), .int (nI N), .int (nI i)]) (rest := [.int (nI i), .ref (q 3), .int (nI i), .ref (q 5)]) ⟨hx, hb, hml, hown, hts⟩ (mc_B_typeAt (ty j) N i hin hN4) (va_cwS 3 hts (goodIn_sub (hx_m4 km_502 km_315 km_1 km_316) (by decide +kernel)) rfl rfl rfl (by decide +kernel) ⟨Nat.le_of_ble_eq_true rfl, Nat.le_of_ble_eq_true rfl⟩) (pr_S (hC.S hS) hP [] rfl) rfl rfl hl.1 rfl (lv_room (Nat.le_of_ble_eq_true rfl)) kd_B_writeDown_57 ⟨Nat.le_of_ble_eq_true rfl, Nat.le_of_ble_eq_true rfl⟩) ?_
    refine hx_callRl (va_runV (As := [.int (nI i), .int (nI (ty_N (ty j) N i))]) (rest := [.int (nI i), .ref (q 5)]) ⟨hx, hb, hml, hown, hts⟩ (mc_A_convert (q 3) (q 1) (q 13) (q 14) (q 15) nar kn so bi i (nI (ty_N (ty j) N i)) (by omega)) (cwV 2 hts (goodIn_sub (hx_m5 km_503 km_504 km_505 km_4 km_506) (by decide +kernel)) rfl rfl rfl (by decide +kernel) ⟨Nat.le_of_ble_eq_true rfl, Nat.le_of_ble_eq_true rfl⟩) (pr_V (hC.S hS) hP [3, 13, 14, 15] rfl (ci := 3) rfl (q0 := 0) rfl) rfl rfl hl.1 rfl (lv_room (Nat.le_of_ble_eq_true rfl)) kd_B_writeDown_60 ⟨Nat.le_of_ble_eq_true rfl, Nat.le_of_ble_eq_true rfl⟩) ?_
    refine hx_callWv (va_runV (As := [.int (nI i), .long (cv_ kn bi i (nI (ty_N (ty j) N i)))]) (rest := []) ⟨hx, hb, hml, hown, hts⟩ (mc_D_setValue (q 5) (q 18) (q 19) (q 20) (q 21) nd lg (upd fo (nd % 64) ob) (upd fm (nd % 64) (nI j)) (upd fs (nd % 64) (nI N)) (wv_ fv (nd % 64 * 4) (fun i => cv_ kn bi i (nI (ty_N (ty j) N i))) i) i (cv_ kn bi i (nI (ty_N (ty j) N i))) hnd (by omega) _) (cwV 2 hts (goodIn_sub (hx_m5 km_516 km_517 km_518 km_6 km_519) (by decide +kernel)) rfl rfl rfl (by decide +kernel) ⟨Nat.le_of_ble_eq_true rfl, Nat.le_of_ble_eq_true rfl⟩) (pw_V (hC.S hS) hP hD hS hA [5, 21] (by decide) rfl (ci := 5) rfl (q0 := 0) rfl) rfl rfl hl.1 rfl (lv_room (Nat.le_of_ble_eq_true rfl)) kd_B_writeDown_63 ⟨Nat.le_of_ble_eq_true rfl, Nat.le_of_ble_eq_true rfl⟩) hP hD hS hA [5, 21] rfl rfl (fun H locs hP hD hS hF => ?_)
    have hP : va_P D cl_all [((q 0), .inr (0, [.ref (q 1), .ref (q 2), .ref (q 3), .ref (q 4), .ref (q 5), .ref (q 6)])), ((q 1), .inr (1, [.ref (q 7), .ref (q 8), .int (nI nc), .int (nI no)])), ((q 2), .inr (2, [.ref (q 9), .ref (q 10), .ref (q 11), .ref (q 12), .int (nI nm)])), ((q 3), .inr (3, [.ref (q 1), .ref (q 13), .ref (q 14), .ref (q 15), .int (nI nar)])), ((q 4), .inr (4, [.ref (q 1), .ref (q 2), .ref (q 3), .ref (q 16), .ref (q 17), .int ck])), ((q 5), .inr (5, [.ref (q 18), .ref (q 19), .ref (q 20), .ref (q 21), .long lg, .int (nI nd)])), ((q 6), .inr (6, [.ref (q 22), .int (nI sa), .int (nI nw)])), ((q 7), .inl (cI, 16, .inl pa)), ((q 8), .inl (cI, 64, .inl co)), ((q 9), .inl (cI, 64, .inl ho)), ((q 10), .inl (cI, 64, .inl nn)), ((q 11), .inl (cI, 64, .inl si)), ((q 12), .inl (cI, 64, .inl ty)), ((q 13), .inl (cI, 4, .inl kn)), ((q 14), .inl (cI, 4, .inl so)), ((q 15), .inl (cL, 4, .inr (.inl bi))), ((q 16), .inl (cI, 64, .inl ca)), ((q 17), .inl (cI, 4, .inl lo)), ((q 18), .inl (cI, 64, .inl (upd fo (nd % 64) ob))), ((q 19), .inl (cI, 64, .inl (upd fm (nd % 64) (nI j)))), ((q 20), .inl (cI, 64, .inl (upd fs (nd % 64) (nI N)))), ((q 21), .inl (cL, 256, .inr (.inl (vp_updL (wv_ fv (nd % 64 * 4) (fun i => cv_ kn bi i (nI (ty_N (ty j) N i))) i) (nd % 64 * 4 + i) (cv_ kn bi i (nI (ty_N (ty j) N i))))))), ((q 22), .inl (cL, 64, .inr (.inl wa)))] H := hP
    have hD : va_D A [((q 0), .inr (0, [.ref (q 1), .ref (q 2), .ref (q 3), .ref (q 4), .ref (q 5), .ref (q 6)])), ((q 1), .inr (1, [.ref (q 7), .ref (q 8), .int (nI nc), .int (nI no)])), ((q 2), .inr (2, [.ref (q 9), .ref (q 10), .ref (q 11), .ref (q 12), .int (nI nm)])), ((q 3), .inr (3, [.ref (q 1), .ref (q 13), .ref (q 14), .ref (q 15), .int (nI nar)])), ((q 4), .inr (4, [.ref (q 1), .ref (q 2), .ref (q 3), .ref (q 16), .ref (q 17), .int ck])), ((q 5), .inr (5, [.ref (q 18), .ref (q 19), .ref (q 20), .ref (q 21), .long lg, .int (nI nd)])), ((q 6), .inr (6, [.ref (q 22), .int (nI sa), .int (nI nw)])), ((q 7), .inl (cI, 16, .inl pa)), ((q 8), .inl (cI, 64, .inl co)), ((q 9), .inl (cI, 64, .inl ho)), ((q 10), .inl (cI, 64, .inl nn)), ((q 11), .inl (cI, 64, .inl si)), ((q 12), .inl (cI, 64, .inl ty)), ((q 13), .inl (cI, 4, .inl kn)), ((q 14), .inl (cI, 4, .inl so)), ((q 15), .inl (cL, 4, .inr (.inl bi))), ((q 16), .inl (cI, 64, .inl ca)), ((q 17), .inl (cI, 4, .inl lo)), ((q 18), .inl (cI, 64, .inl (upd fo (nd % 64) ob))), ((q 19), .inl (cI, 64, .inl (upd fm (nd % 64) (nI j)))), ((q 20), .inl (cI, 64, .inl (upd fs (nd % 64) (nI N)))), ((q 21), .inl (cL, 256, .inr (.inl (vp_updL (wv_ fv (nd % 64 * 4) (fun i => cv_ kn bi i (nI (ty_N (ty j) N i))) i) (nd % 64 * 4 + i) (cv_ kn bi i (nI (ty_N (ty j) N i))))))), ((q 22), .inl (cL, 64, .inr (.inl wa)))] := hD
    have hP : va_P D cl_all [((q 0), .inr (0, [.ref (q 1), .ref (q 2), .ref (q 3), .ref (q 4), .ref (q 5), .ref (q 6)])), ((q 1), .inr (1, [.ref (q 7), .ref (q 8), .int (nI nc), .int (nI no)])), ((q 2), .inr (2, [.ref (q 9), .ref (q 10), .ref (q 11), .ref (q 12), .int (nI nm)])), ((q 3), .inr (3, [.ref (q 1), .ref (q 13), .ref (q 14), .ref (q 15), .int (nI nar)])), ((q 4), .inr (4, [.ref (q 1), .ref (q 2), .ref (q 3), .ref (q 16), .ref (q 17), .int ck])), ((q 5), .inr (5, [.ref (q 18), .ref (q 19), .ref (q 20), .ref (q 21), .long lg, .int (nI nd)])), ((q 6), .inr (6, [.ref (q 22), .int (nI sa), .int (nI nw)])), ((q 7), .inl (cI, 16, .inl pa)), ((q 8), .inl (cI, 64, .inl co)), ((q 9), .inl (cI, 64, .inl ho)), ((q 10), .inl (cI, 64, .inl nn)), ((q 11), .inl (cI, 64, .inl si)), ((q 12), .inl (cI, 64, .inl ty)), ((q 13), .inl (cI, 4, .inl kn)), ((q 14), .inl (cI, 4, .inl so)), ((q 15), .inl (cL, 4, .inr (.inl bi))), ((q 16), .inl (cI, 64, .inl ca)), ((q 17), .inl (cI, 4, .inl lo)), ((q 18), .inl (cI, 64, .inl (upd fo (nd % 64) ob))), ((q 19), .inl (cI, 64, .inl (upd fm (nd % 64) (nI j)))), ((q 20), .inl (cI, 64, .inl (upd fs (nd % 64) (nI N)))), ((q 21), .inl (cL, 256, .inr (.inl (wv_ fv (nd % 64 * 4) (fun i => cv_ kn bi i (nI (ty_N (ty j) N i))) (i + 1))))), ((q 22), .inl (cL, 64, .inr (.inl wa)))] H := by rw [← wv_s]; exact hP
    have hD : va_D A [((q 0), .inr (0, [.ref (q 1), .ref (q 2), .ref (q 3), .ref (q 4), .ref (q 5), .ref (q 6)])), ((q 1), .inr (1, [.ref (q 7), .ref (q 8), .int (nI nc), .int (nI no)])), ((q 2), .inr (2, [.ref (q 9), .ref (q 10), .ref (q 11), .ref (q 12), .int (nI nm)])), ((q 3), .inr (3, [.ref (q 1), .ref (q 13), .ref (q 14), .ref (q 15), .int (nI nar)])), ((q 4), .inr (4, [.ref (q 1), .ref (q 2), .ref (q 3), .ref (q 16), .ref (q 17), .int ck])), ((q 5), .inr (5, [.ref (q 18), .ref (q 19), .ref (q 20), .ref (q 21), .long lg, .int (nI nd)])), ((q 6), .inr (6, [.ref (q 22), .int (nI sa), .int (nI nw)])), ((q 7), .inl (cI, 16, .inl pa)), ((q 8), .inl (cI, 64, .inl co)), ((q 9), .inl (cI, 64, .inl ho)), ((q 10), .inl (cI, 64, .inl nn)), ((q 11), .inl (cI, 64, .inl si)), ((q 12), .inl (cI, 64, .inl ty)), ((q 13), .inl (cI, 4, .inl kn)), ((q 14), .inl (cI, 4, .inl so)), ((q 15), .inl (cL, 4, .inr (.inl bi))), ((q 16), .inl (cI, 64, .inl ca)), ((q 17), .inl (cI, 4, .inl lo)), ((q 18), .inl (cI, 64, .inl (upd fo (nd % 64) ob))), ((q 19), .inl (cI, 64, .inl (upd fm (nd % 64) (nI j)))), ((q 20), .inl (cI, 64, .inl (upd fs (nd % 64) (nI N)))), ((q 21), .inl (cL, 256, .inr (.inl (wv_ fv (nd % 64 * 4) (fun i => cv_ kn bi i (nI (ty_N (ty j) N i))) (i + 1))))), ((q 22), .inl (cL, 64, .inr (.inl wa)))] := by rw [← wv_s]; exact hD
    refine lv_iinc (v := nI (i + 1)) (lv' := [(5, .int (nI (i + 1))), (0, .ref (q 0)), (3, .int (nI N)), (4, .int (ty j))]) hx hb kd_B_writeDown_66 hl (k := 3) rfl (nI_1 i) (by decide) rfl (fun ls hl => ?_)
    refine lv_goto (tgt := 34) hx hb kd_B_writeDown_69 (by decide) ?_
    exact ih34 (i + 1) _ _ _ (by omega) ⟨lv_sub hl [1, 2, 3, 0] rfl, hP, hD, hS, by omega⟩
end
