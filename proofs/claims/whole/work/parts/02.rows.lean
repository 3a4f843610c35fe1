/-! CONTEXT AND CALL ROWS: what every method of the class and of the reference may lean on, carried in one predicate; calls of methods that only read; calls of methods that write. -/
/-- words that stay true while the tables grow warm -/
def cx_st : Cond → Bool
  | .arrayClass _ => true
  | .fieldLinkNest .. => true
  | .methodLinkNest .. => true
  | w => w.onTables && w.keepsFace
theorem cx_warm {w : Cond} {A A' : Array Value} {s U : State} (hW : s.WarmedH U.vm) (hw : cx_st w = true) (h : w.before A s = true) : w.before A' U = true := by
  have key : (w.onTables && w.keepsFace) = true → w.before A' U = true := by
    intro hk
    simp only [Bool.and_eq_true] at hk
    have h1 : w.before A (s.setVm U.vm) = true := Cond.before_shiftedFace (State.Shifted.of_warmed hW) w hk.2 h
    exact va_tabs hk.1 (rfl : (s.setVm U.vm).vm = U.vm) h1
  cases w with
  | arrayClass ty => exact word_at hW (Or.inr ⟨ty, rfl⟩) h
  | fieldLinkNest a i b n d hh => exact va_Nw.use rfl (va_Nw.warmF hW (va_Nw.of rfl h))
  | methodLinkNest a i x hh => exact va_Nw.use rfl (va_Nw.warmM hW (va_Nw.of rfl h))
  | _ => exact key hw
def cx_T : List Cond := lw_tbl.filter cx_st
theorem cx_mem {w : Cond} (h : w ∈ lw_tbl) (hs : cx_st w = true) : w ∈ cx_T := List.mem_filter.mpr ⟨h, hs⟩
theorem cx_tab {w : Cond} {i : Nat} (h : tables_1[i]? = some w) (hs : cx_st w = true) : w ∈ cx_T := cx_mem (List.mem_append_right _ (List.mem_of_getElem? h)) hs
def cx_G (U : State) : Prop := ∀ w ∈ cx_T, w.before #[] U = true
theorem cx_G.warm {s U : State} (hW : s.WarmedH U.vm) (h : cx_G s) : cx_G U := fun w hw => cx_warm hW (List.mem_filter.mp hw).2 (h w hw)
theorem cx_G.at {s : State} (h : cx_G s) (A : Array Value) : ∀ w ∈ cx_T, w.before A s = true := fun w hw => cx_warm (State.WarmedH.refl s) (List.mem_filter.mp hw).2 (h w hw)
/-- the classes, their fields -/
def ct_B : u_T := fun k => match k with
  | 0 => ("HostBridge", "world", "LHostBridge$World;", true)
  | 1 => ("HostBridge", "methods", "LHostBridge$Methods;", true)
  | 2 => ("HostBridge", "arguments", "LHostBridge$Arguments;", true)
  | 3 => ("HostBridge", "choice", "LHostBridge$Choice;", true)
  | 4 => ("HostBridge", "diary", "LHostBridge$Diary;", true)
  | _ => ("HostBridge", "answers", "LHostBridge$Answers;", true)
def cy_B : Nat → FieldType := fun k => match k with
  | 0 => .object "HostBridge$World"
  | 1 => .object "HostBridge$Methods"
  | 2 => .object "HostBridge$Arguments"
  | 3 => .object "HostBridge$Choice"
  | 4 => .object "HostBridge$Diary"
  | _ => .object "HostBridge$Answers"
theorem cn_B : ∀ a, a < 6 → ∀ b, b < 6 → a ≠ b → (ct_B a).2.1 ≠ (ct_B b).2.1 := by decide +kernel
theorem cp_B : ∀ k, k < 6 → parseFieldDescriptor (ct_B k).2.2.1 = some (cy_B k) := by decide +kernel
theorem cw_B : ∀ w ∈ u_ws "HostBridge" ct_B 6, w ∈ cx_T := by decide +kernel
def ct_W : u_T := fun k => match k with
  | 0 => ("HostBridge$World", "parents", "[I", true)
  | 1 => ("HostBridge$World", "classOf", "[I", true)
  | 2 => ("HostBridge$World", "classes", "I", false)
  | _ => ("HostBridge$World", "objects", "I", false)
def cy_W : Nat → FieldType := fun k => match k with
  | 0 => .array .int
  | 1 => .array .int
  | 2 => .int
  | _ => .int
theorem cn_W : ∀ a, a < 4 → ∀ b, b < 4 → a ≠ b → (ct_W a).2.1 ≠ (ct_W b).2.1 := by decide +kernel
theorem cp_W : ∀ k, k < 4 → parseFieldDescriptor (ct_W k).2.2.1 = some (cy_W k) := by decide +kernel
theorem cw_W : ∀ w ∈ u_ws "HostBridge$World" ct_W 4, w ∈ cx_T := by decide +kernel
def ct_M : u_T := fun k => match k with
  | 0 => ("HostBridge$Methods", "homes", "[I", true)
  | 1 => ("HostBridge$Methods", "names", "[I", true)
  | 2 => ("HostBridge$Methods", "sizes", "[I", true)
  | 3 => ("HostBridge$Methods", "types", "[I", true)
  | _ => ("HostBridge$Methods", "count", "I", false)
def cy_M : Nat → FieldType := fun k => match k with
  | 0 => .array .int
  | 1 => .array .int
  | 2 => .array .int
  | 3 => .array .int
  | _ => .int
theorem cn_M : ∀ a, a < 5 → ∀ b, b < 5 → a ≠ b → (ct_M a).2.1 ≠ (ct_M b).2.1 := by decide +kernel
theorem cp_M : ∀ k, k < 5 → parseFieldDescriptor (ct_M k).2.2.1 = some (cy_M k) := by decide +kernel
theorem cw_M : ∀ w ∈ u_ws "HostBridge$Methods" ct_M 5, w ∈ cx_T := by decide +kernel
def ct_A : u_T := fun k => match k with
  | 0 => ("HostBridge$Arguments", "world", "LHostBridge$World;", true)
  | 1 => ("HostBridge$Arguments", "kinds", "[I", true)
  | 2 => ("HostBridge$Arguments", "sorts", "[I", true)
  | 3 => ("HostBridge$Arguments", "bits", "[J", true)
  | _ => ("HostBridge$Arguments", "count", "I", false)
def cy_A : Nat → FieldType := fun k => match k with
  | 0 => .object "HostBridge$World"
  | 1 => .array .int
  | 2 => .array .int
  | 3 => .array .long
  | _ => .int
theorem cn_A : ∀ a, a < 5 → ∀ b, b < 5 → a ≠ b → (ct_A a).2.1 ≠ (ct_A b).2.1 := by decide +kernel
theorem cp_A : ∀ k, k < 5 → parseFieldDescriptor (ct_A k).2.2.1 = some (cy_A k) := by decide +kernel
theorem cw_A : ∀ w ∈ u_ws "HostBridge$Arguments" ct_A 5, w ∈ cx_T := by decide +kernel
def ct_C : u_T := fun k => match k with
  | 0 => ("HostBridge$Choice", "world", "LHostBridge$World;", true)
  | 1 => ("HostBridge$Choice", "methods", "LHostBridge$Methods;", true)
  | 2 => ("HostBridge$Choice", "arguments", "LHostBridge$Arguments;", true)
  | 3 => ("HostBridge$Choice", "candidates", "[I", true)
  | 4 => ("HostBridge$Choice", "lowest", "[I", true)
  | _ => ("HostBridge$Choice", "count", "I", false)
def cy_C : Nat → FieldType := fun k => match k with
  | 0 => .object "HostBridge$World"
  | 1 => .object "HostBridge$Methods"
  | 2 => .object "HostBridge$Arguments"
  | 3 => .array .int
  | 4 => .array .int
  | _ => .int
theorem cn_C : ∀ a, a < 6 → ∀ b, b < 6 → a ≠ b → (ct_C a).2.1 ≠ (ct_C b).2.1 := by decide +kernel
theorem cp_C : ∀ k, k < 6 → parseFieldDescriptor (ct_C k).2.2.1 = some (cy_C k) := by decide +kernel
theorem cw_C : ∀ w ∈ u_ws "HostBridge$Choice" ct_C 6, w ∈ cx_T := by decide +kernel
def ct_D : u_T := fun k => match k with
  | 0 => ("HostBridge$Diary", "objects", "[I", true)
  | 1 => ("HostBridge$Diary", "methods", "[I", true)
  | 2 => ("HostBridge$Diary", "sizes", "[I", true)
  | 3 => ("HostBridge$Diary", "values", "[J", true)
  | 4 => ("HostBridge$Diary", "latestGiven", "J", false)
  | _ => ("HostBridge$Diary", "count", "I", false)
def cy_D : Nat → FieldType := fun k => match k with
  | 0 => .array .int
  | 1 => .array .int
  | 2 => .array .int
  | 3 => .array .long
  | 4 => .long
  | _ => .int
theorem cn_D : ∀ a, a < 6 → ∀ b, b < 6 → a ≠ b → (ct_D a).2.1 ≠ (ct_D b).2.1 := by decide +kernel
theorem cp_D : ∀ k, k < 6 → parseFieldDescriptor (ct_D k).2.2.1 = some (cy_D k) := by decide +kernel
theorem cw_D : ∀ w ∈ u_ws "HostBridge$Diary" ct_D 6, w ∈ cx_T := by decide +kernel
def ct_S : u_T := fun k => match k with
  | 0 => ("HostBridge$Answers", "waiting", "[J", true)
  | 1 => ("HostBridge$Answers", "start", "I", false)
  | _ => ("HostBridge$Answers", "count", "I", false)
def cy_S : Nat → FieldType := fun k => match k with
  | 0 => .array .long
  | 1 => .int
  | _ => .int
theorem cn_S : ∀ a, a < 3 → ∀ b, b < 3 → a ≠ b → (ct_S a).2.1 ≠ (ct_S b).2.1 := by decide +kernel
theorem cp_S : ∀ k, k < 3 → parseFieldDescriptor (ct_S k).2.2.1 = some (cy_S k) := by decide +kernel
theorem cw_S : ∀ w ∈ u_ws "HostBridge$Answers" ct_S 3, w ∈ cx_T := by decide +kernel
def ct_R : u_T := fun k => match k with
  | 0 => ("HostBridgeModel", "thrown", "I", false)
  | 1 => ("HostBridgeModel", "classes", "I", false)
  | 2 => ("HostBridgeModel", "parent", "[I", true)
  | 3 => ("HostBridgeModel", "objects", "I", false)
  | 4 => ("HostBridgeModel", "klass", "[I", true)
  | 5 => ("HostBridgeModel", "methods", "I", false)
  | 6 => ("HostBridgeModel", "owner", "[I", true)
  | 7 => ("HostBridgeModel", "names", "[I", true)
  | 8 => ("HostBridgeModel", "counts", "[I", true)
  | 9 => ("HostBridgeModel", "types", "[I", true)
  | 10 => ("HostBridgeModel", "many", "I", false)
  | 11 => ("HostBridgeModel", "kind", "[I", true)
  | 12 => ("HostBridgeModel", "bits", "[J", true)
  | 13 => ("HostBridgeModel", "asked", "[I", true)
  | 14 => ("HostBridgeModel", "candidate", "[Z", true)
  | 15 => ("HostBridgeModel", "calls", "I", false)
  | 16 => ("HostBridgeModel", "calledObject", "[I", true)
  | 17 => ("HostBridgeModel", "calledMethod", "[I", true)
  | 18 => ("HostBridgeModel", "calledMany", "[I", true)
  | 19 => ("HostBridgeModel", "calledWith", "[J", true)
  | 20 => ("HostBridgeModel", "answers", "I", false)
  | 21 => ("HostBridgeModel", "answer", "[J", true)
  | _ => ("HostBridgeModel", "given", "J", false)
def cy_R : Nat → FieldType := fun k => match k with
  | 0 => .int
  | 1 => .int
  | 2 => .array .int
  | 3 => .int
  | 4 => .array .int
  | 5 => .int
  | 6 => .array .int
  | 7 => .array .int
  | 8 => .array .int
  | 9 => .array .int
  | 10 => .int
  | 11 => .array .int
  | 12 => .array .long
  | 13 => .array .int
  | 14 => .array .boolean
  | 15 => .int
  | 16 => .array .int
  | 17 => .array .int
  | 18 => .array .int
  | 19 => .array .long
  | 20 => .int
  | 21 => .array .long
  | _ => .long
theorem cn_R : ∀ a, a < 23 → ∀ b, b < 23 → a ≠ b → (ct_R a).2.1 ≠ (ct_R b).2.1 := by decide +kernel
theorem cp_R : ∀ k, k < 23 → parseFieldDescriptor (ct_R k).2.2.1 = some (cy_R k) := by decide +kernel
theorem cw_R : ∀ w ∈ u_ws "HostBridgeModel" ct_R 23, w ∈ cx_T := by decide +kernel
abbrev cl_all : List vw_C := [("HostBridge", ct_B, 6), ("HostBridge$World", ct_W, 4), ("HostBridge$Methods", ct_M, 5), ("HostBridge$Arguments", ct_A, 5), ("HostBridge$Choice", ct_C, 6), ("HostBridge$Diary", ct_D, 6), ("HostBridge$Answers", ct_S, 3), ("HostBridgeModel", ct_R, 23)]
def cx_strs : List (Nat × String) := [(61, "there is no such parent"), (72, "there are 16 classes"), (79, "there is no such class"), (84, "there is no such name"), (86, "there is no such number of parameters"), (95, "there is no such type"), (101, "the class has this method"), (106, "there are 64 methods"), (114, "there are 64 objects"), (123, "there is no such value"), (126, "there are 4 arguments"), (131, "there is no such argument"), (144, "there is no such object"), (157, "there are no candidates"), (163, "no candidate is the best"), (172, "there is no such method"), (177, "the arguments do not fit"), (180, "there are 64 answers not given yet"), (186, "there was no call"), (192, "there is no such what"), (199, "there is no such call, or it is not kept")]
def wt_l : List Int32 := [-1, -1, -1, -1, 41, 0, -1, -1, -1, -1, -1, 2, 0, 1, 0, -1, -1, -1, 3, 2, -1, 6, -1, -1, 0, 5, 4, -1, -1, -1, -1, -1, 0, 2, -1, -1, -1, -1, -1, 40, 20, -1, -1, -1, -1, -1, 40, 0, -1, 6, 0, 1, 2, 5, 4, -1, 6, -1, 0, 1, 5, 4, -1]
def wt_ (j : Nat) : Int32 := wt_l.getD j 0
section CX
variable {D : va_G} {cI cL cZ : ClassId} {tb : Nat}
abbrev cx_ty (cI cL cZ : ClassId) : List (ClassId × FieldType) := [(cI, .int), (cL, .long), (cZ, .boolean)]
def cx_S (U : State) : Prop := ∀ q ∈ cx_strs, ∃ a, vk_R "HostBridge" q.1 q.2 a U
def cx_Z (tb : Nat) (A : Nat → Prop) (U : State) (H : Heap) : Prop :=
  va_Z "HostBridge$Arguments" "WEIGHTS" "[I" (.ref tb) A U H ∧ va_T .int tb 63 (fun j => .int (wt_ j)) A U H ∧ vx_Zq Bundle.tN "UNASSIGNED_STACK" Bundle.steD A U H ∧ vx_Zq Bundle.tN "SUPPRESSED_SENTINEL" Bundle.listD A U H
def cx (D : va_G) (cI cL cZ : ClassId) (tb : Nat) (A : Nat → Prop) (U : State) (H : Heap) : Prop :=
  cx_G U ∧ va_K D cl_all (cx_ty cI cL cZ) U ∧ cx_S U ∧ cx_Z tb A U H
theorem cx.warm {A : Nat → Prop} {s U : State} {H : Heap} (hW : s.WarmedH U.vm) (h : cx D cI cL cZ tb A s H) : cx D cI cL cZ tb A U H := by
  obtain ⟨h1, h2, h3, h4, h5, h6, h7⟩ := h
  refine ⟨h1.warm hW, va_K.moved hW.alike h2, fun q hq => ?_, va_Z.moved hW.alike h4, va_T.moved hW.alike h5, vx_Zq.moved hW.alike h6, vx_Zq.moved hW.alike h7⟩
  obtain ⟨a, ha⟩ := h3 q hq
  exact ⟨a, vk_R.warm hW ha⟩
theorem cx.kept {A : Nat → Prop} {s : State} {H H1 : Heap} (h : cx D cI cL cZ tb A s H) (hq : ∀ a : Nat, a < H.size → ¬ A a → H1[a]? = H[a]?) : cx D cI cL cZ tb A s H1 :=
  ⟨h.1, h.2.1, h.2.2.1, va_Z.kept h.2.2.2.1 hq, va_T.kept h.2.2.2.2.1 hq, vx_Zq.kept h.2.2.2.2.2.1 hq, vx_Zq.kept h.2.2.2.2.2.2 hq⟩
theorem cx.narrow {A B : Nat → Prop} {s : State} {H : Heap} (h : cx D cI cL cZ tb A s H) (hAB : ∀ q, B q → A q) : cx D cI cL cZ tb B s H :=
  ⟨h.1, h.2.1, h.2.2.1, va_Z.narrow h.2.2.2.1 hAB, va_T.narrow h.2.2.2.2.1 hAB, vx_Zq.narrow h.2.2.2.2.2.1 hAB, vx_Zq.narrow h.2.2.2.2.2.2 hAB⟩
theorem cx.K {A : Nat → Prop} {s : State} {H : Heap} (h : cx D cI cL cZ tb A s H) : va_K D cl_all (cx_ty cI cL cZ) s := h.2.1
theorem cx.ts {A : Nat → Prop} {s : State} {H : Heap} (h : cx D cI cL cZ tb A s H) (a : Array Value) : ∀ w ∈ cx_T, w.before a s = true := h.1.at a
theorem cx.S {A : Nat → Prop} {s : State} {H H1 : Heap} {locs : List Loc} (h : cx D cI cL cZ tb A s H) (hS : va_S A H H1 locs) : cx D cI cL cZ tb A s H1 := h.kept hS.2.1
/-- what a method that only reads starts from -/
def pr_B (D : va_G) (cI cL cZ : ClassId) (tb : Nat) (ws : va_W) (U : State) : Prop := cx D cI cL cZ tb (fun _ => False) U U.heap ∧ va_P D cl_all ws U.heap
abbrev pr_P (D : va_G) (cI cL cZ : ClassId) (tb : Nat) (ws : va_W) (av : List Value) : Array Value → State → Prop := va_Pc av (pr_B D cI cL cZ tb ws)
theorem pr_blind {ws : va_W} {av : List Value} : FrameBlind (pr_P D cI cL cZ tb ws av) := by
  intro a U g mk h
  obtain ⟨h1, h2, h3⟩ := h
  exact ⟨h1, cx.warm (U := U.calling g mk a) (State.WarmedH.refl U) h2, h3⟩
theorem pr_at {A : Nat → Prop} {s U : State} {H : Heap} {ws ws' : va_W} (hC : cx D cI cL cZ tb A s H) (hP : va_P D cl_all ws H) (is : List Nat) (hs : is.filterMap (fun i => ws[i]?) = ws') (hU : U.heap = H) (hW : s.WarmedH U.vm) : pr_B D cI cL cZ tb ws' U := by
  refine ⟨?_, ?_⟩
  · rw [hU]; exact (hC.narrow (fun _ h => h.elim)).warm hW
  · rw [hU]; exact hP.sub is hs
theorem pr_V {A : Nat → Prop} {s : State} {H : Heap} {ws ws' : va_W} {As : List Value} {ci q0 b : Nat} {q : vw_C} {fs : List Value} (hC : cx D cI cL cZ tb A s H) (hP : va_P D cl_all ws H) (is : List Nat) (hs : is.filterMap (fun i => ws[i]?) = ws') (hc : cl_all[ci]? = some q) (he : ws'[q0]? = some (b, .inr (ci, fs))) :
    PreV s H q.1 b (pr_P D cI cL cZ tb ws' (.ref b :: As)) As :=
  ⟨pr_blind, va_recv hC.K (hP.sub is hs) hc he, fun U hU hW => ⟨rfl, pr_at hC hP is hs hU hW⟩⟩
theorem pr_S {A : Nat → Prop} {s : State} {H : Heap} {ws ws' : va_W} {As : List Value} (hC : cx D cI cL cZ tb A s H) (hP : va_P D cl_all ws H) (is : List Nat) (hs : is.filterMap (fun i => ws[i]?) = ws') :
    PreS s H (pr_P D cI cL cZ tb ws' As) As :=
  ⟨pr_blind, fun U hU hW => ⟨rfl, pr_at hC hP is hs hU hW⟩⟩
/-- what a method that writes starts from -/
def pw_B (D : va_G) (cI cL cZ : ClassId) (tb : Nat) (ws : va_W) (sz : Nat) (U : State) : Prop := U.heap.size = sz ∧ cx D cI cL cZ tb (va_A ws sz) U U.heap ∧ va_P D cl_all ws U.heap ∧ va_D (fun _ => True) ws
abbrev pw_P (D : va_G) (cI cL cZ : ClassId) (tb : Nat) (ws : va_W) (sz : Nat) (av : List Value) : Array Value → State → Prop := va_Pc av (pw_B D cI cL cZ tb ws sz)
theorem pw_blind {ws : va_W} {sz : Nat} {av : List Value} : FrameBlind (pw_P D cI cL cZ tb ws sz av) := by
  intro a U g mk h
  obtain ⟨h1, h2, h3, h4, h5⟩ := h
  exact ⟨h1, h2, cx.warm (U := U.calling g mk a) (State.WarmedH.refl U) h3, h4, h5⟩
theorem pw_at {A : Nat → Prop} {s U : State} {H : Heap} {ws ws' : va_W} {locs : List Loc} (hC : cx D cI cL cZ tb A s H) (hP : va_P D cl_all ws H) (hD : va_D A ws) (hS : va_S A s.heap H locs) (hA : ∀ q, s.heap.size ≤ q → A q) (is : List Nat) (hn : va_nd is = true) (hs : is.map (fun i => ws[i]?) = ws'.map some) (hU : U.heap = H) (hW : s.WarmedH U.vm) : pw_B D cI cL cZ tb ws' H.size U := by
  have hf : is.filterMap (fun i => ws[i]?) = ws' := by
    have h1 : is.filterMap (fun i => ws[i]?) = (is.map (fun i => ws[i]?)).filterMap id := by rw [List.filterMap_map]; rfl
    rw [h1, hs, List.filterMap_map]
    simp
  refine ⟨by rw [hU], ?_, ?_, (hD.sub is hn hs).weaken (fun _ _ _ _ => trivial)⟩
  · rw [hU]; exact (hC.narrow (va_free hD hS hA is hs)).warm hW
  · rw [hU]; exact hP.sub is hf
theorem pw_V {A : Nat → Prop} {s : State} {H : Heap} {ws ws' : va_W} {As : List Value} {locs : List Loc} {ci q0 b : Nat} {q : vw_C} {fs : List Value} (hC : cx D cI cL cZ tb A s H) (hP : va_P D cl_all ws H) (hD : va_D A ws) (hS : va_S A s.heap H locs) (hA : ∀ q, s.heap.size ≤ q → A q) (is : List Nat) (hn : va_nd is = true) (hs : is.map (fun i => ws[i]?) = ws'.map some) (hc : cl_all[ci]? = some q) (he : ws'[q0]? = some (b, .inr (ci, fs))) :
    PreV s H q.1 b (pw_P D cI cL cZ tb ws' H.size (.ref b :: As)) As := by
  refine ⟨pw_blind, ?_, fun U hU hW => ⟨rfl, pw_at hC hP hD hS hA is hn hs hU hW⟩⟩
  have hf : is.filterMap (fun i => ws[i]?) = ws' := by
    have h1 : is.filterMap (fun i => ws[i]?) = (is.map (fun i => ws[i]?)).filterMap id := by rw [List.filterMap_map]; rfl
    rw [h1, hs, List.filterMap_map]
    simp
  exact va_recv hC.K (hP.sub is hf) hc he
theorem pw_S {A : Nat → Prop} {s : State} {H : Heap} {ws ws' : va_W} {As : List Value} {locs : List Loc} (hC : cx D cI cL cZ tb A s H) (hP : va_P D cl_all ws H) (hD : va_D A ws) (hS : va_S A s.heap H locs) (hA : ∀ q, s.heap.size ≤ q → A q) (is : List Nat) (hn : va_nd is = true) (hs : is.map (fun i => ws[i]?) = ws'.map some) :
    PreS s H (pw_P D cI cL cZ tb ws' H.size As) As := ⟨pw_blind, fun U hU hW => ⟨rfl, pw_at hC hP hD hS hA is hn hs hU hW⟩⟩
end CX
/-- a world with some of its places put anew -/
def hx_put (ws : va_W) : List Nat → va_W → va_W
  | i :: is, q :: w => hx_put (ws.set i q) is w
  | _, _ => ws
theorem hx_put_at : ∀ (is : List Nat) (w ws : va_W), is.length = w.length → ∀ (k : Nat) (q : Nat × va_E), (hx_put ws is w)[k]? = some q → (∃ j : Nat, is[j]? = some k ∧ w[j]? = some q) ∨ (k ∉ is ∧ ws[k]? = some q)
  | [], [], ws, _, k, q, h => Or.inr ⟨List.not_mem_nil, h⟩
  | [], _ :: _, _, hl, _, _, _ => by simp at hl
  | _ :: _, [], _, hl, _, _, _ => by simp at hl
  | i :: is, q0 :: w, ws, hl, k, q, h => by
    rcases hx_put_at is w (ws.set i q0) (by simpa using hl) k q h with ⟨j, h1, h2⟩ | ⟨h1, h2⟩
    · exact Or.inl ⟨j + 1, by simpa using h1, by simpa using h2⟩
    · by_cases hk : k = i
      · subst hk
        have hlt : k < ws.length := by
          have := (List.getElem?_eq_some_iff.mp h2).1
          simpa using this
        rw [List.getElem?_set_self hlt] at h2
        exact Or.inl ⟨0, rfl, by simpa using h2⟩
      · rw [List.getElem?_set_ne (Ne.symm hk)] at h2
        exact Or.inr ⟨fun hm => (List.mem_cons.mp hm).elim hk h1, h2⟩
theorem hx_join {A0 : Nat → Prop} {D : va_G} {cl : List vw_C} {ws wc w1 : va_W} {H H1 : Heap} (hP : va_P D cl ws H) (hD : va_D A0 ws) (is : List Nat) (hC : is.map (fun i => ws[i]?) = wc.map some) (ha : w1.map (fun q => q.1) = wc.map (fun q => q.1))
    (hk : ∀ q : Nat, q < H.size → ¬ va_A wc H.size q → H1[q]? = H[q]?) (hP1 : va_P D cl w1 H1) : va_P D cl (hx_put ws is w1) H1 ∧ va_D A0 (hx_put ws is w1) := by
  have hl : is.length = w1.length := by
    have h1 := congrArg List.length hC
    have h2 := congrArg List.length ha
    simp only [List.length_map] at h1 h2
    omega
  have atC : ∀ (j i : Nat), is[j]? = some i → ∃ q, wc[j]? = some q ∧ ws[i]? = some q := by
    intro j i hj
    have h1 : (is.map (fun i => ws[i]?))[j]? = some (ws[i]?) := by rw [List.getElem?_map, hj]; rfl
    rw [hC, List.getElem?_map] at h1
    cases hw : wc[j]? with
    | none => rw [hw] at h1; cases h1
    | some q => rw [hw] at h1; exact ⟨q, rfl, (Option.some.inj h1).symm⟩
  have adr : ∀ (j : Nat) (q : Nat × va_E), w1[j]? = some q → ∃ q', wc[j]? = some q' ∧ q'.1 = q.1 := by
    intro j q hj
    have h1 : (w1.map (fun q => q.1))[j]? = some q.1 := by rw [List.getElem?_map, hj]; rfl
    rw [ha, List.getElem?_map] at h1
    cases hw : wc[j]? with
    | none => rw [hw] at h1; cases h1
    | some q' => rw [hw] at h1; exact ⟨q', rfl, Option.some.inj h1⟩
  have same : ∀ (k : Nat) (q : Nat × va_E), (hx_put ws is w1)[k]? = some q → ∃ q', ws[k]? = some q' ∧ q'.1 = q.1 := by
    intro k q h
    rcases hx_put_at is w1 ws hl k q h with ⟨j, h1, h2⟩ | ⟨-, h2⟩
    · obtain ⟨q1, e1, e2⟩ := atC j k h1
      obtain ⟨q2, e3, e4⟩ := adr j q h2
      cases Option.some.inj (e1.symm.trans e3)
      exact ⟨q1, e2, e4⟩
    · exact ⟨q, h2, rfl⟩
  refine ⟨fun k q h => ?_, fun i j x y hi hj hxy => ?_, fun k q h => ?_⟩
  · rcases hx_put_at is w1 ws hl k q h with ⟨j, h1, h2⟩ | ⟨h1, h2⟩
    · exact hP1 j q h2
    · have hlt := (hP k q h2).lt
      refine (hP k q h2).kept (hk q.1 hlt (fun hA => ?_))
      rcases hA with ⟨j, e, he⟩ | hz
      · have hj : j < is.length := by
          have h3 := (List.getElem?_eq_some_iff.mp he).1
          have h2' := congrArg List.length ha
          simp only [List.length_map] at h2'
          omega
        obtain ⟨i, hi⟩ : ∃ i, is[j]? = some i := ⟨_, List.getElem?_eq_getElem hj⟩
        obtain ⟨q1, e1, e2⟩ := atC j i hi
        cases Option.some.inj (e1.symm.trans he)
        have hki := hD.1 k i q _ h2 e2 rfl
        subst hki
        exact h1 (List.mem_of_getElem? hi)
      · omega
  · obtain ⟨x0, h1, h2⟩ := same i x hi
    obtain ⟨y0, h3, h4⟩ := same j y hj
    exact hD.1 i j x0 y0 h1 h3 (h2.trans (hxy.trans h4.symm))
  · obtain ⟨q0, h1, h2⟩ := same k q h
    rw [← h2]
    exact hD.2 k q0 h1
section HX
variable {p : Program} {l : Launch} {e : Env} {R : Room} {s : State} {m : MethodId} {args : Array Value} {below : List Frame} {meth : Method} {c : Code} {H : Heap} {locs : List Loc} {cells slots : Nat} {Q : State → Prop}
variable {pc : Nat} {ls : Array Slot} {rest st0 : List Value} {a : Array Value} {cc : ByteArray}
/-- a method that only reads: what it answers; the heap stays -/
def hx_QR (v : Option Value) : Array Value → State → Outcome → State → Prop := fun _ st o t => o = .returned v ∧ t.heap = st.heap
/-- a method that writes: what it answers, the world behind it -/
def hx_QW (D : va_G) (v : Option Value) (w' : va_W) (A : Nat → Prop) : Array Value → State → Outcome → State → Prop := fun _ st o t => o = .returned v ∧ va_P D cl_all w' t.heap ∧ va_F A st t
theorem hx_callR {v : Option Value} (hr : va_Run p l e R s m args below meth c H locs cells slots 0 0 (F0 m pc ls st0) rest (hx_QR v a) (fun _ => False)) (kk : W p l e R s m args below meth c H locs cells slots Q (F0 m (pc + 3) ls (v.toList ++ rest))) : W p l e R s m args below meth c H locs cells slots Q (F0 m pc ls st0) := by
  intro T hT X
  obtain ⟨v', st₀, t, T', L, h0, X', hL, e1, -, ⟨hv, hh⟩, st⟩ := hr T hT X
  cases hv
  obtain ⟨t2, a1, b1⟩ := kk T' (by rw [e1, hh, h0]) (Stand.forget X' (fun q h => (hL q h).elim))
  exact ⟨t2, st t2 a1, b1⟩
theorem hx_callW {D : va_G} {v : Option Value} {ws wc w1 : va_W} {A0 : Nat → Prop} {mc ms : Nat} (hr : va_Run p l e R s m args below meth c H locs cells slots mc ms (F0 m pc ls st0) rest (hx_QW D v w1 (va_A wc H.size) a) (va_A wc H.size)) (hP : va_P D cl_all ws H) (hD : va_D A0 ws) (hS : va_S A0 s.heap H locs) (hA : ∀ q, s.heap.size ≤ q → A0 q) (is : List Nat) (hC : is.map (fun i => ws[i]?) = wc.map some) (ha : w1.map (fun q => q.1) = wc.map (fun q => q.1))
    (kk : ∀ (H1 : Heap) (locs1 : List Loc), va_P D cl_all (hx_put ws is w1) H1 → va_D A0 (hx_put ws is w1) → va_S A0 s.heap H1 locs1 → (∀ q : Nat, q < H.size → ¬ va_A wc H.size q → H1[q]? = H[q]?) → W p l e R s m args below meth c H1 locs1 (cells + mc) (slots + ms) Q (F0 m (pc + 3) ls (v.toList ++ rest))) : W p l e R s m args below meth c H locs cells slots Q (F0 m pc ls st0) := by
  intro T hT X
  obtain ⟨v', st₀, t, T', L, h0, X', hL, e1, -, ⟨hv, hp, hF⟩, st⟩ := hr T hT X
  cases hv
  have hfr := va_free hD hS hA is hC
  obtain ⟨k1, k2, k3⟩ := vx_keep h0 e1 hS (fun q _ h => hfr q h) hfr hL hF
  obtain ⟨j1, j2⟩ := hx_join hP hD is hC ha k2 (by rw [e1]; exact hp)
  obtain ⟨t2, a1, b1⟩ := kk T'.heap (locs ++ L) j1 j2 k3 k2 T' rfl X'
  exact ⟨t2, st t2 a1, b1⟩
/-- a number on the stack by another name -/
theorem hx_topi {x y : Int32} (h : x = y) (k : W p l e R s m args below meth c H locs cells slots Q (F0 m pc ls (.int y :: rest))) : W p l e R s m args below meth c H locs cells slots Q (F0 m pc ls (.int x :: rest)) := by subst h; exact k
theorem hx_topl {x y : Int64} (h : x = y) (k : W p l e R s m args below meth c H locs cells slots Q (F0 m pc ls (.long y :: rest))) : W p l e R s m args below meth c H locs cells slots Q (F0 m pc ls (.long x :: rest)) := by subst h; exact k
theorem hx_iretR {v r : Int32} (hx : p.tables.exec = Jvm.exec) (hb : c.code = cc) (hr : meth.sig.returnType = some .int) (hlocks : meth.locks = false) (h : v = r) (hdg : decode cc pc = .ok (.ireturn, 1)) : W p l e R s m args below meth c s.heap [] 0 0 (MQ below (hx_QR (some (.int r))) args s 0 0 (fun _ => False)) (F0 m pc ls [.int v]) := by
  subst h
  exact W.iret hx hb hr (fun t ht _ => ⟨rfl, ht⟩) (fun q h => by cases h) hdg hlocks
/-- a truth as the machine has it -/
def b2_ (b : Bool) : Int32 := if b then 1 else 0
theorem b2_nar (b : Bool) : narrow .boolean (.int (b2_ b)) = .int (b2_ b) := by cases b <;> decide
theorem hx_zretR {v : Int32} {r : Bool} (hx : p.tables.exec = Jvm.exec) (hb : c.code = cc) (hr : meth.sig.returnType = some .boolean) (hlocks : meth.locks = false) (h : v = b2_ r) (hdg : decode cc pc = .ok (.ireturn, 1)) : W p l e R s m args below meth c s.heap [] 0 0 (MQ below (hx_QR (some (.int (b2_ r)))) args s 0 0 (fun _ => False)) (F0 m pc ls [.int v]) := by
  subst h
  exact W.zret hx hb hr (b2_nar r) (fun t ht _ => ⟨rfl, ht⟩) (fun q h => by cases h) hdg hlocks
theorem hx_lretR {v r : Int64} (hx : p.tables.exec = Jvm.exec) (hb : c.code = cc) (hr : meth.sig.returnType = some .long) (hlocks : meth.locks = false) (h : v = r) (hdg : decode cc pc = .ok (.lreturn, 1)) : W p l e R s m args below meth c s.heap [] 0 0 (MQ below (hx_QR (some (.long r))) args s 0 0 (fun _ => False)) (F0 m pc ls [.long v]) := by
  subst h
  exact W.lret hx hb hr (fun t ht _ => ⟨rfl, ht⟩) (fun q h => by cases h) hdg hlocks
theorem hx_iretW {D : va_G} {w' : va_W} {A : Nat → Prop} {v r : Int32} (hx : p.tables.exec = Jvm.exec) (hb : c.code = cc) (hr : meth.sig.returnType = some .int) (hlocks : meth.locks = false) (h : v = r) (hP : va_P D cl_all w' H) (hS : va_S A s.heap H locs) (hdg : decode cc pc = .ok (.ireturn, 1)) : W p l e R s m args below meth c H locs cells slots (MQ below (hx_QW D (some (.int r)) w' A) args s cells slots A) (F0 m pc ls [.int v]) := by
  subst h
  exact W.iret hx hb hr (fun t ht _ => ⟨rfl, by rw [ht]; exact hP, hS.F ht⟩) hS.2.2 hdg hlocks
theorem hx_zretW {D : va_G} {w' : va_W} {A : Nat → Prop} {v : Int32} {r : Bool} (hx : p.tables.exec = Jvm.exec) (hb : c.code = cc) (hr : meth.sig.returnType = some .boolean) (hlocks : meth.locks = false) (h : v = b2_ r) (hP : va_P D cl_all w' H) (hS : va_S A s.heap H locs) (hdg : decode cc pc = .ok (.ireturn, 1)) : W p l e R s m args below meth c H locs cells slots (MQ below (hx_QW D (some (.int (b2_ r))) w' A) args s cells slots A) (F0 m pc ls [.int v]) := by
  subst h
  exact W.zret hx hb hr (b2_nar r) (fun t ht _ => ⟨rfl, by rw [ht]; exact hP, hS.F ht⟩) hS.2.2 hdg hlocks
theorem hx_lretW {D : va_G} {w' : va_W} {A : Nat → Prop} {v r : Int64} (hx : p.tables.exec = Jvm.exec) (hb : c.code = cc) (hr : meth.sig.returnType = some .long) (hlocks : meth.locks = false) (h : v = r) (hP : va_P D cl_all w' H) (hS : va_S A s.heap H locs) (hdg : decode cc pc = .ok (.lreturn, 1)) : W p l e R s m args below meth c H locs cells slots (MQ below (hx_QW D (some (.long r)) w' A) args s cells slots A) (F0 m pc ls [.long v]) := by
  subst h
  exact W.lret hx hb hr (fun t ht _ => ⟨rfl, by rw [ht]; exact hP, hS.F ht⟩) hS.2.2 hdg hlocks
theorem hx_vretW {D : va_G} {w' : va_W} {A : Nat → Prop} (hx : p.tables.exec = Jvm.exec) (hb : c.code = cc) (hr : meth.sig.returnType = none) (hlocks : meth.locks = false) (hP : va_P D cl_all w' H) (hS : va_S A s.heap H locs) (hdg : decode cc pc = .ok (.return_, 1)) : W p l e R s m args below meth c H locs cells slots (MQ below (hx_QW D none w' A) args s cells slots A) (F0 m pc ls []) :=
  W.vret hx hb hr (fun t ht _ => ⟨rfl, by rw [ht]; exact hP, hS.F ht⟩) hS.2.2 hdg hlocks
variable {D : va_G} {cI cL cZ : ClassId} {ws : va_W} {A : Nat → Prop}
/-- arrays, the place by its number -/
theorem hx_iald (hexec : p.tables.exec = Jvm.exec) (hb : c.code = cc) (hK : va_K D cl_all (cx_ty cI cL cZ) s) (hP : va_P D cl_all ws H) (q0 : Nat) {b n : Nat} {f : Nat → Int32} (ha : ws[q0]? = some (b, .inl (cI, n, .inl f))) {i : Int32} {j : Nat} (hj : i = nI j) (hlt : j < n) (hn : n < 2 ^ 31) (hdg : decode cc pc = .ok (.iaload, 1))
    (kk : W p l e R s m args below meth c H locs cells slots Q (F0 m (pc + 1) ls (.int (f j) :: rest))) : W p l e R s m args below meth c H locs cells slots Q (F0 m pc ls (.int i :: .ref b :: rest)) := by
  subst hj
  refine va_iald hexec hb hK hP q0 0 ha rfl (vp_in_nI hlt hn) hdg ?_
  rw [nI_clamp (Nat.lt_trans hlt hn)]
  exact kk
theorem hx_lald (hexec : p.tables.exec = Jvm.exec) (hb : c.code = cc) (hK : va_K D cl_all (cx_ty cI cL cZ) s) (hP : va_P D cl_all ws H) (q0 : Nat) {b n : Nat} {f : Nat → Int64} (ha : ws[q0]? = some (b, .inl (cL, n, .inr (.inl f)))) {i : Int32} {j : Nat} (hj : i = nI j) (hlt : j < n) (hn : n < 2 ^ 31) (hdg : decode cc pc = .ok (.laload, 1))
    (kk : W p l e R s m args below meth c H locs cells slots Q (F0 m (pc + 1) ls (.long (f j) :: rest))) : W p l e R s m args below meth c H locs cells slots Q (F0 m pc ls (.int i :: .ref b :: rest)) := by
  subst hj
  refine va_lald hexec hb hK hP q0 1 ha rfl (vp_in_nI hlt hn) hdg ?_
  rw [nI_clamp (Nat.lt_trans hlt hn)]
  exact kk
theorem hx_zald (hexec : p.tables.exec = Jvm.exec) (hb : c.code = cc) (hK : va_K D cl_all (cx_ty cI cL cZ) s) (hP : va_P D cl_all ws H) (q0 : Nat) {b n : Nat} {f : Nat → Int32} (ha : ws[q0]? = some (b, .inl (cZ, n, .inl f))) {i : Int32} {j : Nat} (hj : i = nI j) (hlt : j < n) (hn : n < 2 ^ 31) (hdg : decode cc pc = .ok (.baload, 1))
    (kk : W p l e R s m args below meth c H locs cells slots Q (F0 m (pc + 1) ls (.int (f j) :: rest))) : W p l e R s m args below meth c H locs cells slots Q (F0 m pc ls (.int i :: .ref b :: rest)) := by
  subst hj
  refine va_zald hexec hb hK hP q0 2 ha rfl (vp_in_nI hlt hn) hdg ?_
  rw [nI_clamp (Nat.lt_trans hlt hn)]
  exact kk
theorem hx_iast (hexec : p.tables.exec = Jvm.exec) (hb : c.code = cc) (hK : va_K D cl_all (cx_ty cI cL cZ) s) (hP : va_P D cl_all ws H) (hD : va_D A ws) (hS : va_S A s.heap H locs) (q0 : Nat) {b n : Nat} {f : Nat → Int32} (ha : ws[q0]? = some (b, .inl (cI, n, .inl f))) {i x : Int32} {j : Nat} (hj : i = nI j) (hlt : j < n) (hn : n < 2 ^ 31) (hdg : decode cc pc = .ok (.iastore, 1))
    (kk : ∀ (H1 : Heap) (locs1 : List Loc), va_P D cl_all (ws.set q0 (b, .inl (cI, n, .inl (upd f j x)))) H1 → va_D A (ws.set q0 (b, .inl (cI, n, .inl (upd f j x)))) → va_S A s.heap H1 locs1 → W p l e R s m args below meth c H1 locs1 cells slots Q (F0 m (pc + 1) ls rest)) : W p l e R s m args below meth c H locs cells slots Q (F0 m pc ls (.int x :: .int i :: .ref b :: rest)) := by
  subst hj
  refine va_iast hexec hb hK hP hD hS q0 0 ha rfl (vp_in_nI hlt hn) hdg ?_
  rw [nI_clamp (Nat.lt_trans hlt hn)]
  exact kk
theorem hx_last (hexec : p.tables.exec = Jvm.exec) (hb : c.code = cc) (hK : va_K D cl_all (cx_ty cI cL cZ) s) (hP : va_P D cl_all ws H) (hD : va_D A ws) (hS : va_S A s.heap H locs) (q0 : Nat) {b n : Nat} {f : Nat → Int64} (ha : ws[q0]? = some (b, .inl (cL, n, .inr (.inl f)))) {i : Int32} {x : Int64} {j : Nat} (hj : i = nI j) (hlt : j < n) (hn : n < 2 ^ 31) (hdg : decode cc pc = .ok (.lastore, 1))
    (kk : ∀ (H1 : Heap) (locs1 : List Loc), va_P D cl_all (ws.set q0 (b, .inl (cL, n, .inr (.inl (vp_updL f j x))))) H1 → va_D A (ws.set q0 (b, .inl (cL, n, .inr (.inl (vp_updL f j x))))) → va_S A s.heap H1 locs1 → W p l e R s m args below meth c H1 locs1 cells slots Q (F0 m (pc + 1) ls rest)) : W p l e R s m args below meth c H locs cells slots Q (F0 m pc ls (.long x :: .int i :: .ref b :: rest)) := by
  subst hj
  refine va_last hexec hb hK hP hD hS q0 1 ha rfl (vp_in_nI hlt hn) hdg ?_
  rw [nI_clamp (Nat.lt_trans hlt hn)]
  exact kk
end HX
