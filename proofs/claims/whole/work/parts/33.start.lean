/-! THE LAW'S START: what the Statement gives, as the rows want it -/
def R_law : String := "HostBridgeLaw"
def lw_P (b : Addr) (xs : List Int32) (args : Array Value) (s : State) : Prop := args = #[.ref b] ∧ s.IntsAt b xs ∧ xs.length ≤ 3072 ∧ (Jvm.Cond.and given_1 narrow_1).before args s = true
def lw_Q (_ : Array Value) (s : State) (o : Outcome) (t : State) : Prop := o = .returned (some (.int 1)) ∧ Framed s o t [] 1093 10469
def lw_Z (below : List Frame) (a : Array Value) (s : State) : State → Prop := fun t => ∃ o, t.status = .running ∧ Ended t below o ∧ lw_Q a s o t
/-- the law's own end, with 1 on the stack, nothing written that was there before, its room as the claim has it -/
theorem lw_ret {p : Program} {l : Launch} {e : Env} {s : State} {m : MethodId} {below : List Frame} {meth : Method} {c : Code} {b : Nat} (hx : p.tables.exec = Jvm.exec) (hb : c.code = code) (hr : meth.sig.returnType = ret) (hlocks : meth.locks = false) {pc : Nat} {H : Heap} {ls : Array Slot} (hdg : decode code pc = .ok (.ireturn, 1)) : W p l e room_1 s m #[Value.ref b] below meth c H [] 1093 10469 (lw_Z below #[Value.ref b] s) (F0 m pc ls [.int 1]) := by
  intro T hT X
  obtain ⟨fs, hret, hrun, hended, hW, hframe⟩ := X.leave (v := some (.int 1)) (hlocks := hlocks) (fun h => by rw [hr] at h; cases h)
  have hmeth' : T.vm.method? m = some meth := X.method'
  refine ⟨T.setFrames fs, ?_, .returned (some (.int 1)), hrun, hended, rfl, ⟨_, rfl⟩, hW, hframe⟩
  jvm_step X.here [X.here.top, hx, hb, hdg, hmeth', hr, ret, narrow_b1]
  (try refine ⟨rfl, ?_⟩); (try refine ⟨rfl, ?_⟩)
  first | (intro acts; rw [hret _ acts rfl rfl rfl]) | rw [hret _ _ rfl rfl rfl]
  exact Steps.refl _
/-- what holds at the law's entry -/
def lw_At (p : Program) (s : State) (m : MethodId) (meth : Method) (c : Code) (b L : Nat) (xs : Nat → Int32) : Prop :=
  p.tables.exec = Jvm.exec ∧ c.code = code ∧ meth.sig.returnType = ret ∧ c.maxLocals = 8 ∧ s.vm.findClass R_law = some m.cls ∧ (∀ w ∈ lw_tbl, w.before #[Value.ref b] s = true) ∧ va_X b L xs s s.heap ∧ b < s.heap.size ∧ meth.locks = false ∧ (Jvm.Cond.and given_1 narrow_1).before #[Value.ref b] s = true
abbrev nw_F : List Cond := flatC (Jvm.Cond.and given_1 narrow_1)
set_option maxRecDepth 100000 in
theorem nw_W : ∀ j, j < 63 → Cond.eq (.elem (.static "HostBridge$Arguments" "WEIGHTS" "[I") (.int (Int32.ofNat j))) (.int (wt_ j)) ∈ nw_F := by decide +kernel
set_option maxRecDepth 100000 in
theorem nw_A : Cond.arrayOf (.static "HostBridge$Arguments" "WEIGHTS" "[I") .int ∈ nw_F ∧ Cond.eq (.length (.static "HostBridge$Arguments" "WEIGHTS" "[I")) (.int 63) ∈ nw_F ∧ Cond.isRef (.static "java/lang/Throwable" "UNASSIGNED_STACK" "[Ljava/lang/StackTraceElement;") ∈ nw_F ∧ Cond.isRef (.static "java/lang/Throwable" "SUPPRESSED_SENTINEL" "Ljava/util/List;") ∈ nw_F := by decide +kernel
set_option maxRecDepth 100000 in
theorem nw_S : ∀ q ∈ cx_strs, Cond.exactly (.string "HostBridge" q.1) "java/lang/String" ∈ nw_F := by decide +kernel
set_option maxRecDepth 100000 in
theorem nw_N : Cond.not (.castable "java/lang/IllegalStateException" "java/lang/IllegalArgumentException") ∈ nw_F ∧ Cond.not (.castable "java/util/NoSuchElementException" "java/lang/IllegalArgumentException") ∈ nw_F ∧ Cond.not (.castable "java/lang/IndexOutOfBoundsException" "java/lang/IllegalArgumentException") ∈ nw_F ∧ Cond.not (.castable "java/lang/IllegalStateException" "java/util/NoSuchElementException") ∈ nw_F := by decide +kernel
theorem tb_S : ∀ q ∈ cx_strs, Cond.stringRef "HostBridge" q.1 q.2 ∈ lw_tbl := by decide +kernel
theorem tb_Z : Cond.laysStatic "HostBridge$Arguments" "WEIGHTS" "[I" ∈ lw_tbl ∧ Cond.initialized "HostBridge$Arguments" ∈ lw_tbl ∧ Cond.laysStatic "java/lang/Throwable" "UNASSIGNED_STACK" "[Ljava/lang/StackTraceElement;" ∈ lw_tbl ∧ Cond.laysStatic "java/lang/Throwable" "SUPPRESSED_SENTINEL" "Ljava/util/List;" ∈ lw_tbl ∧ Cond.initialized "java/lang/Throwable" ∈ lw_tbl := by decide +kernel
theorem cx_start {s : State} {b : Nat} (hts0 : ∀ w ∈ lw_tbl, w.before #[Value.ref b] s = true) (hgv : (Jvm.Cond.and given_1 narrow_1).before #[Value.ref b] s = true) : ∃ (D : va_G) (cI cL cZ : ClassId) (tb : Nat), cx D cI cL cZ tb (fun q => s.heap.size ≤ q) s s.heap ∧ xc_N s := by
  have hf := flat_of_before _ hgv
  have hA : ∀ a : Nat, a < s.heap.size → ¬ (fun q => s.heap.size ≤ q) a := fun a h => Nat.not_le.mpr h
  have hts : ∀ w ∈ cx_T, w.before #[Value.ref b] s = true := fun w hw => hts0 w (List.mem_filter.mp hw).1
  obtain ⟨cI, kI, oI, i1, i2, i3⟩ := Cond.arrayClass_spec (hts _ km_50)
  obtain ⟨cL, kL, oL, l1, l2, l3⟩ := Cond.arrayClass_spec (hts _ km_101)
  obtain ⟨cZ, kZ, oZ, z1, z2, z3⟩ := Cond.arrayClass_spec (hts _ km_691)
  obtain ⟨c0, s0, k0⟩ := u_known (C := "HostBridge") (T := ct_B) (N := 6) (n := 6) hts cw_B (hts _ km_19)
  obtain ⟨c1, s1, k1⟩ := u_known (C := "HostBridge$World") (T := ct_W) (N := 4) (n := 4) hts cw_W (hts _ km_27)
  obtain ⟨c2, s2, k2⟩ := u_known (C := "HostBridge$Methods") (T := ct_M) (N := 5) (n := 5) hts cw_M (hts _ km_52)
  obtain ⟨c3, s3, k3⟩ := u_known (C := "HostBridge$Arguments") (T := ct_A) (N := 5) (n := 5) hts cw_A (hts _ km_79)
  obtain ⟨c4, s4, k4⟩ := u_known (C := "HostBridge$Choice") (T := ct_C) (N := 6) (n := 6) hts cw_C (hts _ km_103)
  obtain ⟨c5, s5, k5⟩ := u_known (C := "HostBridge$Diary") (T := ct_D) (N := 6) (n := 6) hts cw_D (hts _ km_129)
  obtain ⟨c6, s6, k6⟩ := u_known (C := "HostBridge$Answers") (T := ct_S) (N := 3) (n := 3) hts cw_S (hts _ km_156)
  obtain ⟨c7, s7, k7⟩ := u_known (C := "HostBridgeModel") (T := ct_R) (N := 23) (n := 23) hts cw_R (hts _ km_616)
  have hK : va_K ((fun k => match k with | 0 => c0 | 1 => c1 | 2 => c2 | 3 => c3 | 4 => c4 | 5 => c5 | 6 => c6 | _ => c7), (fun k => match k with | 0 => s0 | 1 => s1 | 2 => s2 | 3 => s3 | 4 => s4 | 5 => s5 | 6 => s6 | _ => s7)) cl_all (cx_ty cI cL cZ) s := by
    refine ⟨?_, ?_⟩
    · intro k q hq
      match k, hq with
      | 0, hq => cases hq; exact k0
      | 1, hq => cases hq; exact k1
      | 2, hq => cases hq; exact k2
      | 3, hq => cases hq; exact k3
      | 4, hq => cases hq; exact k4
      | 5, hq => cases hq; exact k5
      | 6, hq => cases hq; exact k6
      | 7, hq => cases hq; exact k7
      | k + 8, hq => simp [cl_all] at hq
    · intro k q hq
      match k, hq with
      | 0, hq => cases hq; exact ⟨fun n z => ⟨fun k h => (by cases h), kI, i2, oI, i3⟩, i1⟩
      | 1, hq => cases hq; exact ⟨fun n z => ⟨fun k h => (by cases h), kL, l2, oL, l3⟩, l1⟩
      | 2, hq => cases hq; exact ⟨fun n z => ⟨fun k h => (by cases h), kZ, z2, oZ, z3⟩, z1⟩
      | k + 3, hq => simp at hq
  have hS : cx_S s := by
    intro q hq
    obtain ⟨a, c, cA, kA, q1, -⟩ := Cond.exactly_spec (args := #[Value.ref b]) (first := s) (o := none) (s := s) (idx := []) (t := .string "HostBridge" q.1) (cls := "java/lang/String") (hf _ (nw_S q hq))
    exact ⟨a, vk_R.of (hts0 _ (tb_S q hq)) q1⟩
  obtain ⟨tb, ht, hT⟩ := va_Tof (ty := .int) (N := 63) (f := fun j => .int (wt_ j)) (A := fun q => s.heap.size ≤ q) (by decide) (hf _ nw_A.1) (va_eqt (hf _ nw_A.2.1)) (fun j hj => va_eqt (hf _ (nw_W j hj))) hA
  refine ⟨_, cI, cL, cZ, tb, ⟨fun w hw => cx_warm (State.WarmedH.refl s) (List.mem_filter.mp hw).2 (hts w hw), hK, hS, va_Zref (hts0 _ tb_Z.1) (hts0 _ tb_Z.2.1) ht hA, hT, vx_Zqof (hts0 _ tb_Z.2.2.1) (hts0 _ tb_Z.2.2.2.2) (hf _ nw_A.2.2.1) hA, vx_Zqof (hts0 _ tb_Z.2.2.2.1) (hts0 _ tb_Z.2.2.2.2) (hf _ nw_A.2.2.2) hA⟩, va_Nc.of (hf _ nw_N.1), va_Nc.of (hf _ nw_N.2.1), va_Nc.of (hf _ nw_N.2.2.1), va_Nc.of (hf _ nw_N.2.2.2)⟩
