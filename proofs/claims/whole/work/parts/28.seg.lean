/-! WORLDS IN PARTS: a callee's cells, the others kept beside them; what the law's helpers lean on -/
def sg_ap (a b : va_W) : Prop := ∀ (i j : Nat) (x y : Nat × va_E), a[i]? = some x → b[j]? = some y → x.1 ≠ y.1
theorem sg_fst {a a' : va_W} (h : a'.map (fun q => q.1) = a.map (fun q => q.1)) {j : Nat} {x : Nat × va_E} (hj : a'[j]? = some x) : ∃ y, a[j]? = some y ∧ y.1 = x.1 := by
  have h1 : (a'.map (fun q => q.1))[j]? = some x.1 := by rw [List.getElem?_map, hj]; rfl
  rw [h, List.getElem?_map] at h1
  cases hw : a[j]? with
  | none => rw [hw] at h1; cases h1
  | some y => rw [hw] at h1; exact ⟨y, rfl, Option.some.inj h1⟩
theorem sg_ap.new {a a' b b' : va_W} (h : sg_ap a b) (ha : a'.map (fun q => q.1) = a.map (fun q => q.1)) (hb : b'.map (fun q => q.1) = b.map (fun q => q.1)) : sg_ap a' b' := by
  intro i j x y hi hj
  obtain ⟨x0, h1, h2⟩ := sg_fst ha hi
  obtain ⟨y0, h3, h4⟩ := sg_fst hb hj
  rw [← h2, ← h4]
  exact h i j x0 y0 h1 h3
theorem sg_ap.symm {a b : va_W} (h : sg_ap a b) : sg_ap b a := fun i j x y hi hj e => h j i y x hj hi e.symm
theorem sg_cons {D : va_G} {cl : List vw_C} {o : Nat × va_E} {w : va_W} {H : Heap} : va_P D cl (o :: w) H ↔ va_P D cl [o] H ∧ va_P D cl w H := by
  constructor
  · intro h
    refine ⟨fun k q hk => ?_, fun k q hk => h (k + 1) q hk⟩
    cases k with
    | zero => exact h 0 q hk
    | succ k => simp at hk
  · intro h k q hk
    cases k with
    | zero => exact h.1 0 q hk
    | succ k => exact h.2 k q hk
theorem sg_Dt {A : Nat → Prop} {o : Nat × va_E} {w : va_W} (h : va_D A (o :: w)) : va_D A [o] ∧ va_D A w ∧ sg_ap [o] w := by
  refine ⟨⟨fun i j p q hi hj _ => ?_, fun k q hk => ?_⟩, ⟨fun i j p q hi hj e => ?_, fun k q hk => h.2 (k + 1) q hk⟩, fun i j x y hi hj e => ?_⟩
  · have := (List.getElem?_eq_some_iff.mp hi).1
    have := (List.getElem?_eq_some_iff.mp hj).1
    simp at *
    omega
  · cases k with
    | zero => exact h.2 0 q hk
    | succ k => simp at hk
  · have := h.1 (i + 1) (j + 1) p q hi hj e
    omega
  · cases i with
    | zero =>
      have := h.1 0 (j + 1) x y hi hj e
      omega
    | succ i => simp at hi
theorem sg_Dc {A : Nat → Prop} {o : Nat × va_E} {w : va_W} (h1 : va_D A [o]) (h2 : va_D A w) (h3 : sg_ap [o] w) : va_D A (o :: w) := by
  refine ⟨fun i j p q hi hj e => ?_, fun k q hk => ?_⟩
  · cases i with
    | zero =>
      cases j with
      | zero => rfl
      | succ j => exact absurd e (h3 0 j p q hi hj)
    | succ i =>
      cases j with
      | zero => exact absurd e.symm (h3 0 i q p hj hi)
      | succ j => rw [h2.1 i j p q hi hj e]
  · cases k with
    | zero => exact h1.2 0 q hk
    | succ k => exact h2.2 k q hk
theorem sg_free {A : Nat → Prop} {w : va_W} {H0 H : Heap} {locs : List Loc} (hD : va_D A w) (hS : va_S A H0 H locs) (hA : ∀ q, H0.size ≤ q → A q) : ∀ q, va_A w H.size q → A q := by
  intro q h
  rcases h with ⟨k, e, h⟩ | h
  · exact hD.2 k _ h
  · exact hA q (Nat.le_trans hS.1 h)
theorem sg_keep {D : va_G} {cl : List vw_C} {w wo : va_W} {H H1 : Heap} (hap : sg_ap w wo) (hk : ∀ q : Nat, q < H.size → ¬ va_A w H.size q → H1[q]? = H[q]?) (hP : va_P D cl wo H) : va_P D cl wo H1 := by
  intro k q h
  have hlt := (hP k q h).lt
  refine (hP k q h).kept (hk q.1 hlt (fun hA => ?_))
  rcases hA with ⟨j, e, he⟩ | hz
  · exact hap j k _ q he h rfl
  · omega
/-- exceptions that a row of the law's tables passes over -/
def xc_N (U : State) : Prop := va_Nc "java/lang/IllegalStateException" "java/lang/IllegalArgumentException" U ∧ va_Nc "java/util/NoSuchElementException" "java/lang/IllegalArgumentException" U ∧ va_Nc "java/lang/IndexOutOfBoundsException" "java/lang/IllegalArgumentException" U ∧ va_Nc "java/lang/IllegalStateException" "java/util/NoSuchElementException" U
theorem xc_N.moved {u U : State} (hvm : u.vm.Alike U.vm) (h : xc_N u) : xc_N U := ⟨h.1.moved hvm, h.2.1.moved hvm, h.2.2.1.moved hvm, h.2.2.2.moved hvm⟩
section SG
variable {D : va_G} {cI cL cZ : ClassId} {tb : Nat}
abbrev lp_P (D : va_G) (cI cL cZ : ClassId) (tb : Nat) (ws : va_W) (sz : Nat) (av : List Value) : Array Value → State → Prop := va_Pc av (fun U => pw_B D cI cL cZ tb ws sz U ∧ xc_N U)
theorem lp_blind {ws : va_W} {sz : Nat} {av : List Value} : FrameBlind (lp_P D cI cL cZ tb ws sz av) := by
  intro a U g mk h
  obtain ⟨h1, ⟨h2, h3, h4, h5⟩, h6⟩ := h
  exact ⟨h1, ⟨h2, cx.warm (U := U.calling g mk a) (State.WarmedH.refl U) h3, h4, h5⟩, h6.moved (Vm.Alike.refl U.vm)⟩
theorem sg_B {A : Nat → Prop} {s U : State} {H : Heap} {w : va_W} {locs : List Loc} (hC : cx D cI cL cZ tb A s H) (hP : va_P D cl_all w H) (hD : va_D A w) (hS : va_S A s.heap H locs) (hA : ∀ q, s.heap.size ≤ q → A q) (hU : U.heap = H) (hW : s.WarmedH U.vm) : pw_B D cI cL cZ tb w H.size U := by
  refine ⟨by rw [hU], ?_, by rw [hU]; exact hP, hD.weaken (fun _ _ _ _ => trivial)⟩
  rw [hU]; exact (hC.narrow (sg_free hD hS hA)).warm hW
theorem sg_V {A : Nat → Prop} {s : State} {H : Heap} {w : va_W} {As : List Value} {locs : List Loc} {ci q0 b : Nat} {q : vw_C} {fs : List Value} (hC : cx D cI cL cZ tb A s H) (hP : va_P D cl_all w H) (hD : va_D A w) (hS : va_S A s.heap H locs) (hA : ∀ q, s.heap.size ≤ q → A q) (hc : cl_all[ci]? = some q) (he : w[q0]? = some (b, .inr (ci, fs))) :
    PreV s H q.1 b (pw_P D cI cL cZ tb w H.size (.ref b :: As)) As :=
  ⟨pw_blind, va_recv hC.K hP hc he, fun U hU hW => ⟨rfl, sg_B hC hP hD hS hA hU hW⟩⟩
theorem sg_S {A : Nat → Prop} {s : State} {H : Heap} {w : va_W} {As : List Value} {locs : List Loc} (hC : cx D cI cL cZ tb A s H) (hN : xc_N s) (hP : va_P D cl_all w H) (hD : va_D A w) (hS : va_S A s.heap H locs) (hA : ∀ q, s.heap.size ≤ q → A q) :
    PreS s H (lp_P D cI cL cZ tb w H.size As) As :=
  ⟨lp_blind, fun U hU hW => ⟨rfl, sg_B hC hP hD hS hA hU hW, hN.moved hW.alike⟩⟩
end SG
section SC
variable {p : Program} {l : Launch} {e : Env} {R : Room} {s : State} {m : MethodId} {args : Array Value} {below : List Frame} {meth : Method} {c : Code} {H : Heap} {locs : List Loc} {cells slots : Nat} {Q : State → Prop} {pc : Nat} {ls : Array Slot} {rest st0 : List Value} {a : Array Value} {D : va_G} {w w1 wo : va_W} {A0 : Nat → Prop} {mc ms : Nat}
/-- behind a call of a method that writes: its cells, the others -/
theorem sg_call {v : Option Value} (hr : va_Run p l e R s m args below meth c H locs cells slots mc ms (F0 m pc ls st0) rest (hx_QW D v w1 (va_A w H.size) a) (va_A w H.size)) (hD : va_D A0 w) (hS : va_S A0 s.heap H locs) (hA : ∀ q, s.heap.size ≤ q → A0 q) (ha : w1.map (fun q => q.1) = w.map (fun q => q.1)) (hap : sg_ap w wo) (hPo : va_P D cl_all wo H)
    (kk : ∀ (H1 : Heap) (locs1 : List Loc), va_P D cl_all w1 H1 → va_D A0 w1 → va_P D cl_all wo H1 → va_S A0 s.heap H1 locs1 → W p l e R s m args below meth c H1 locs1 (cells + mc) (slots + ms) Q (F0 m (pc + 3) ls (v.toList ++ rest))) : W p l e R s m args below meth c H locs cells slots Q (F0 m pc ls st0) := by
  intro T hT X
  obtain ⟨v', st₀, t, T', L, h0, X', hL, e1, -, ⟨hv, hp, hF⟩, st⟩ := hr T hT X
  cases hv
  have hfr := sg_free hD hS hA
  obtain ⟨k1, k2, k3⟩ := vx_keep h0 e1 hS (fun q _ h => hfr q h) hfr hL hF
  obtain ⟨t2, a1, b1⟩ := kk T'.heap (locs ++ L) (by rw [e1]; exact hp) (hx_Da hD ha) (sg_keep hap k2 hPo) k3 T' rfl X'
  exact ⟨t2, st t2 a1, b1⟩
/-- behind a call of a method that throws -/
theorem sg_callX {cls : String} (hr : vx_Run p l e R s m args below meth c H locs cells slots mc ms (F0 m pc ls st0) rest (fun _ _ _ => False) (xt_X D cls w1 (va_A w H.size)) (va_A w H.size)) (hD : va_D A0 w) (hS : va_S A0 s.heap H locs) (hA : ∀ q, s.heap.size ≤ q → A0 q) (ha : w1.map (fun q => q.1) = w.map (fun q => q.1)) (hap : sg_ap w wo) (hPo : va_P D cl_all wo H)
    (kx : ∀ (q9 : Addr) (ce : Cell) (H1 : Heap) (locs1 : List Loc), va_P D cl_all w1 H1 → va_D A0 w1 → va_P D cl_all wo H1 → va_S A0 s.heap H1 locs1 → H1[q9]? = some ce → ce.vm = .none → s.vm.findClass cls = some ce.cls → vx_W p l e R s m args below meth c H1 locs1 (cells + mc) (slots + ms) Q (F0 m pc ls rest) q9) : W p l e R s m args below meth c H locs cells slots Q (F0 m pc ls st0) := by
  intro T hT X
  rcases hr T hT X with ⟨v, st₀, t, T', L, h0, X', hL, e1, e2, hf, st⟩ | ⟨q, st₀, t, T', L, E, ce, h0, X', hL, e1, e2, ⟨hE, hp, hF⟩, hce, hcv, hcl, st⟩
  · exact absurd hf (fun h => h)
  · subst hE
    have hfr := sg_free hD hS hA
    obtain ⟨k1, k2, k3⟩ := vx_keep h0 e1 hS (fun q _ h => hfr q h) hfr hL hF
    obtain ⟨t2, a1, b1⟩ := kx q ce T'.heap (locs ++ L) (by rw [e1]; exact hp) (hx_Da hD ha) (sg_keep hap k2 hPo) k3 (by rw [e1]; exact hce) hcv hcl T' rfl X'
    exact ⟨t2, st.trans a1, b1⟩
end SC
