/-! THE REFERENCE: the methods that write -/
theorem hx_callWai {p : Program} {l : Launch} {e : Env} {R : Room} {s : State} {m : MethodId} {args : Array Value} {below : List Frame} {meth : Method} {c : Code} {H : Heap} {locs : List Loc} {cells slots : Nat} {Q : State → Prop} {pc : Nat} {ls : Array Slot} {rest st0 : List Value} {a : Array Value} {D : va_G} {r : Int32} {ws w1 : va_W} {A0 : Nat → Prop} {mc ms : Nat} (hr : va_Run p l e R s m args below meth c H locs cells slots mc ms (F0 m pc ls st0) rest (hx_QW D (some (.int r)) w1 (va_A ws H.size) a) (va_A ws H.size)) (hP : va_P D cl_all ws H) (hD : va_D A0 ws) (hS : va_S A0 s.heap H locs) (hA : ∀ q, s.heap.size ≤ q → A0 q) (ha : w1.map (fun q => q.1) = ws.map (fun q => q.1))
    (kk : ∀ (H1 : Heap) (locs1 : List Loc), va_P D cl_all w1 H1 → va_D A0 w1 → va_S A0 s.heap H1 locs1 → W p l e R s m args below meth c H1 locs1 (cells + mc) (slots + ms) Q (F0 m (pc + 3) ls (.int r :: rest))) : W p l e R s m args below meth c H locs cells slots Q (F0 m pc ls st0) := by
  intro T hT X
  obtain ⟨v', st₀, t, T', L, h0, X', hL, e1, -, ⟨hv, hp, hF⟩, st⟩ := hr T hT X
  cases hv
  have hfr : ∀ q, va_A ws H.size q → A0 q := by
    intro q h
    rcases h with ⟨k, e, h⟩ | h
    · exact hD.2 k _ h
    · exact hA q (Nat.le_trans hS.1 h)
  obtain ⟨k1, k2, k3⟩ := vx_keep h0 e1 hS (fun q _ h => hfr q h) hfr hL hF
  obtain ⟨t2, a1, b1⟩ := kk T'.heap (locs ++ L) (by rw [e1]; exact hp) (hx_Da hD ha) k3 T' rfl X'
  exact ⟨t2, st t2 a1, b1⟩
/-- the answers not given yet, moved up -/
def sq_ (an : Nat → Int64) (i : Nat) : Nat → Int64 := fun z => if z + 1 < i then an (z + 1) else an z
theorem sq_1 (an : Nat → Int64) : sq_ an 1 = an := by
  funext z
  simp only [sq_]
  rw [if_neg (by omega)]
theorem sq_0 (an : Nat → Int64) : sq_ an 0 = an := by
  funext z
  simp only [sq_]
  rw [if_neg (by omega)]
theorem sq_at (an : Nat → Int64) (i : Nat) : sq_ an i i = an i := by
  simp only [sq_]
  rw [if_neg (by omega)]
theorem sq_s (an : Nat → Int64) {i : Nat} (h : 1 ≤ i) : vp_updL (sq_ an i) (i - 1) (an i) = sq_ an (i + 1) := by
  funext z
  simp only [vp_updL, sq_]
  by_cases h1 : z = i - 1
  · subst h1
    rw [if_pos rfl, if_pos (by omega), show i - 1 + 1 = i by omega]
  · rw [if_neg h1]
    by_cases h2 : z + 1 < i
    · rw [if_pos h2, if_pos (by omega)]
    · rw [if_neg h2, if_neg (by omega)]
theorem nI_m1 {n : Nat} (h : 0 < n) : nI n - 1 = nI (n - 1) := by
  obtain ⟨k, rfl⟩ : ∃ k, n = k + 1 := ⟨n - 1, by omega⟩
  exact nI_pred k
/-- the candidates -/
def cc_ (rp rk ow rn ct rt ki : Nat → Int32) (rb : Nat → Int64) (rm ra o : Nat) (n : Int32) (z : Nat) : Bool := decide (rn z = n) && !decide (99 ≤ fa_ rp rk o (ow z)) && fr_ rp rk ki rb ct rt ra z && !an_ (hs_ rp rk ow rn ct rt o ra z) rm
/-- the best of them -/
def bp_ (rp rk ki : Nat → Int32) (rb : Nat → Int64) (rt : Nat → Int32) (C : Nat → Bool) (rm ra z : Nat) : Bool := C z && al_ (bw_ rp rk ki rb rt C ra z) rm
def cb_ (C : Nat → Bool) : Nat → Int32 := fun z => b2_ (C z)

set_option maxHeartbeats 4000000 in
set_option maxRecDepth 100000 in
theorem mr_weight0 {l : Launch} {D : va_G} {cI cL cZ : ClassId} {tb : Nat} (r : Nat → Nat) (rc ro rm ra rl rw : Nat) (th : Int32) (gv : Int64) (rp rk ow rn ct rt ki aq cd g1 g2 g3 : Nat → Int32) (rb gw an : Nat → Int64) (i : Nat) (t : Int32) (hra : ra ≤ 4) (hi : i < ra) (ht : fb_in t (6 + rc) = true) (hok : ∀ i, i < ra → ki i = 5 → ∃ o : Nat, o < ro ∧ rb i = lN o) (hln : ln_ok rc rp) (hno : ro ≤ 64) (hco : ∀ j, j < ro → ∃ q : Nat, q < rc ∧ rk j = nI q) (sz : Nat) : Met l ky_R_weight kw_R_weight { frames := 3, cells := 0, slots := 0, locals := 76 } (pw_P D cI cL cZ tb [((r 0), .inr (7, [.int th, .int (nI rc), .ref (r 1), .int (nI ro), .ref (r 2), .int (nI rm), .ref (r 3), .ref (r 4), .ref (r 5), .ref (r 6), .int (nI ra), .ref (r 7), .ref (r 8), .ref (r 9), .ref (r 10), .int (nI rl), .ref (r 11), .ref (r 12), .ref (r 13), .ref (r 14), .int (nI rw), .ref (r 15), .long gv])), ((r 1), .inl (cI, 16, .inl rp)), ((r 2), .inl (cI, 64, .inl rk)), ((r 3), .inl (cI, 64, .inl ow)), ((r 4), .inl (cI, 64, .inl rn)), ((r 5), .inl (cI, 64, .inl ct)), ((r 6), .inl (cI, 256, .inl rt)), ((r 7), .inl (cI, 4, .inl ki)), ((r 8), .inl (cL, 4, .inr (.inl rb))), ((r 9), .inl (cI, 4, .inl aq)), ((r 10), .inl (cZ, 64, .inl cd)), ((r 11), .inl (cI, 64, .inl g1)), ((r 12), .inl (cI, 64, .inl g2)), ((r 13), .inl (cI, 64, .inl g3)), ((r 14), .inl (cL, 256, .inr (.inl gw))), ((r 15), .inl (cL, 64, .inr (.inl an)))] sz [.ref (r 0), .int (nI i), .int t]) (hx_QW D (some (.int (rw_ rp rk ki rb i t))) [((r 0), .inr (7, [.int 0, .int (nI rc), .ref (r 1), .int (nI ro), .ref (r 2), .int (nI rm), .ref (r 3), .ref (r 4), .ref (r 5), .ref (r 6), .int (nI ra), .ref (r 7), .ref (r 8), .ref (r 9), .ref (r 10), .int (nI rl), .ref (r 11), .ref (r 12), .ref (r 13), .ref (r 14), .int (nI rw), .ref (r 15), .long gv])), ((r 1), .inl (cI, 16, .inl rp)), ((r 2), .inl (cI, 64, .inl rk)), ((r 3), .inl (cI, 64, .inl ow)), ((r 4), .inl (cI, 64, .inl rn)), ((r 5), .inl (cI, 64, .inl ct)), ((r 6), .inl (cI, 256, .inl rt)), ((r 7), .inl (cI, 4, .inl ki)), ((r 8), .inl (cL, 4, .inr (.inl rb))), ((r 9), .inl (cI, 4, .inl aq)), ((r 10), .inl (cZ, 64, .inl cd)), ((r 11), .inl (cI, 64, .inl g1)), ((r 12), .inl (cI, 64, .inl g2)), ((r 13), .inl (cI, 64, .inl g3)), ((r 14), .inl (cL, 256, .inr (.inl gw))), ((r 15), .inl (cL, 64, .inr (.inl an)))] (va_A [((r 0), .inr (7, [.int th, .int (nI rc), .ref (r 1), .int (nI ro), .ref (r 2), .int (nI rm), .ref (r 3), .ref (r 4), .ref (r 5), .ref (r 6), .int (nI ra), .ref (r 7), .ref (r 8), .ref (r 9), .ref (r 10), .int (nI rl), .ref (r 11), .ref (r 12), .ref (r 13), .ref (r 14), .int (nI rw), .ref (r 15), .long gv])), ((r 1), .inl (cI, 16, .inl rp)), ((r 2), .inl (cI, 64, .inl rk)), ((r 3), .inl (cI, 64, .inl ow)), ((r 4), .inl (cI, 64, .inl rn)), ((r 5), .inl (cI, 64, .inl ct)), ((r 6), .inl (cI, 256, .inl rt)), ((r 7), .inl (cI, 4, .inl ki)), ((r 8), .inl (cL, 4, .inr (.inl rb))), ((r 9), .inl (cI, 4, .inl aq)), ((r 10), .inl (cZ, 64, .inl cd)), ((r 11), .inl (cI, 64, .inl g1)), ((r 12), .inl (cI, 64, .inl g2)), ((r 13), .inl (cI, 64, .inl g3)), ((r 14), .inl (cL, 256, .inr (.inl gw))), ((r 15), .inl (cL, 64, .inr (.inl an)))] sz)) 0 0 (va_A [((r 0), .inr (7, [.int th, .int (nI rc), .ref (r 1), .int (nI ro), .ref (r 2), .int (nI rm), .ref (r 3), .ref (r 4), .ref (r 5), .ref (r 6), .int (nI ra), .ref (r 7), .ref (r 8), .ref (r 9), .ref (r 10), .int (nI rl), .ref (r 11), .ref (r 12), .ref (r 13), .ref (r 14), .int (nI rw), .ref (r 15), .long gv])), ((r 1), .inl (cI, 16, .inl rp)), ((r 2), .inl (cI, 64, .inl rk)), ((r 3), .inl (cI, 64, .inl ow)), ((r 4), .inl (cI, 64, .inl rn)), ((r 5), .inl (cI, 64, .inl ct)), ((r 6), .inl (cI, 256, .inl rt)), ((r 7), .inl (cI, 4, .inl ki)), ((r 8), .inl (cL, 4, .inr (.inl rb))), ((r 9), .inl (cI, 4, .inl aq)), ((r 10), .inl (cZ, 64, .inl cd)), ((r 11), .inl (cI, 64, .inl g1)), ((r 12), .inl (cI, 64, .inl g2)), ((r 13), .inl (cI, 64, .inl g3)), ((r 14), .inl (cL, 256, .inr (.inl gw))), ((r 15), .inl (cL, 64, .inr (.inl an)))] sz) := by
  refine Met.ofW (cc := kc_R_weight) (maxL := 3) (ret := (some .int)) (by decide) rfl ?_
  intro p e s m args below meth c s₁ B hml hv
  obtain ⟨rfl, hsz, hC, hP, hD0⟩ := hv
  have hx := B.exec
  have hb := B.bytes
  have hr := B.returns
  have hlocks := B.notSynchronized
  have hown : s.vm.findClass "HostBridgeModel" = some m.cls := findClass_of_methodNamed B.named
  subst hsz
  have hD := hD0.self (sz := s.heap.size)
  generalize hAe : va_A [((r 0), .inr (7, [.int th, .int (nI rc), .ref (r 1), .int (nI ro), .ref (r 2), .int (nI rm), .ref (r 3), .ref (r 4), .ref (r 5), .ref (r 6), .int (nI ra), .ref (r 7), .ref (r 8), .ref (r 9), .ref (r 10), .int (nI rl), .ref (r 11), .ref (r 12), .ref (r 13), .ref (r 14), .int (nI rw), .ref (r 15), .long gv])), ((r 1), .inl (cI, 16, .inl rp)), ((r 2), .inl (cI, 64, .inl rk)), ((r 3), .inl (cI, 64, .inl ow)), ((r 4), .inl (cI, 64, .inl rn)), ((r 5), .inl (cI, 64, .inl ct)), ((r 6), .inl (cI, 256, .inl rt)), ((r 7), .inl (cI, 4, .inl ki)), ((r 8), .inl (cL, 4, .inr (.inl rb))), ((r 9), .inl (cI, 4, .inl aq)), ((r 10), .inl (cZ, 64, .inl cd)), ((r 11), .inl (cI, 64, .inl g1)), ((r 12), .inl (cI, 64, .inl g2)), ((r 13), .inl (cI, 64, .inl g3)), ((r 14), .inl (cL, 256, .inr (.inl gw))), ((r 15), .inl (cL, 64, .inr (.inl an)))] s.heap.size = A at hD hC ⊢
  have hA : ∀ q : Nat, s.heap.size ≤ q → A q := fun q h => by rw [← hAe]; exact Or.inr h
  have hS : va_S A s.heap s.heap [] := va_S.rf
  have hK := hC.K
  have hts := hC.ts [.ref (r 0), .int (nI i), .int t].toArray
  have hl := lv_entry ([.ref (r 0), .int (nI i), .int t]) (n := 3) (Nat.le_of_ble_eq_true rfl)
  rw [lg_entry_eq]
  generalize (lg_sl ([.ref (r 0), .int (nI i), .int t]) ++ List.replicate (3 - (lg_sl ([.ref (r 0), .int (nI i), .int t])).length) Slot.unset).toArray = ls at hl ⊢
  have hl : lv_has ls 3 [(0, .ref (r 0)), (1, .int (nI i)), (2, .int t)] := hl
  refine lv_aload_n hx hb kd_R_weight_0 rfl (lv_at hl 0 rfl) ?_
  refine lv_iload_n hx hb kd_R_weight_1 rfl (lv_at hl 1 rfl) ?_
  refine lv_aload_n hx hb kd_R_weight_2 rfl (lv_at hl 0 rfl) ?_
  refine va_get (D := D) (ci := 7) (v := .int (nI ra)) (C := "HostBridgeModel") (T := ct_R) (N := 23) hx hb hts cw_R hown hK hP 0 rfl rfl 10 (by decide) (hts _ km_631) (fun _ h9 => h9) rfl kd_R_weight_3 ?_
  refine hx_callRi (va_runS (As := [.int (nI i), .int (nI ra)]) (rest := [.ref (r 0)]) ⟨hx, hb, hml, hown, hts⟩ (mr_isNo (nI i) ra) (va_cwS 2 hts (goodIn_sub (hx_m4 km_700 km_701 km_8 km_702) (by decide +kernel)) rfl rfl rfl (by decide +kernel) ⟨Nat.le_of_ble_eq_true rfl, Nat.le_of_ble_eq_true rfl⟩) (pr_S (hC.S hS) hP [] rfl) rfl rfl hl.1 rfl (lv_room (Nat.le_of_ble_eq_true rfl)) kd_R_weight_6 ⟨Nat.le_of_ble_eq_true rfl, Nat.le_of_ble_eq_true rfl⟩) ?_
  refine hx_topi (y := 0) (by rw [(fb_in_iff (by omega)).mpr ⟨i, hi, rfl⟩]; rfl) ?_
  refine lv_if_ne (tgt := 26) hx hb kd_R_weight_9 (by decide) (fun c_9 => ?_) (fun c_9 => ?_)
  · exact absurd c_9 (not_not_intro rfl)
  · skip
    refine lv_iload_n hx hb kd_R_weight_12 rfl (lv_at hl 2 rfl) ?_
    refine lv_bipush (v := 6) hx hb kd_R_weight_13 (by decide) ?_
    refine lv_aload_n hx hb kd_R_weight_15 rfl (lv_at hl 0 rfl) ?_
    refine va_get (D := D) (ci := 7) (v := .int (nI rc)) (C := "HostBridgeModel") (T := ct_R) (N := 23) hx hb hts cw_R hown hK hP 0 rfl rfl 1 (by decide) (hts _ km_622) (fun _ h9 => h9) rfl kd_R_weight_16 ?_
    refine lv_iadd hx hb kd_R_weight_19 ?_
    refine hx_topi (y := nI (6 + rc)) (by rw [show (6 : Int32) = nI 6 from rfl, nI_add]) ?_
    refine hx_callRi (va_runS (As := [.int t, .int (nI (6 + rc))]) (rest := [.ref (r 0)]) ⟨hx, hb, hml, hown, hts⟩ (mr_isNo t (6 + rc)) (va_cwS 2 hts (goodIn_sub (hx_m4 km_700 km_701 km_8 km_702) (by decide +kernel)) rfl rfl rfl (by decide +kernel) ⟨Nat.le_of_ble_eq_true rfl, Nat.le_of_ble_eq_true rfl⟩) (pr_S (hC.S hS) hP [] rfl) rfl rfl hl.1 rfl (lv_room (Nat.le_of_ble_eq_true rfl)) kd_R_weight_20 ⟨Nat.le_of_ble_eq_true rfl, Nat.le_of_ble_eq_true rfl⟩) ?_
    refine hx_topi (y := 0) (by rw [ht]; rfl) ?_
    refine lv_if_eq (tgt := 30) hx hb kd_R_weight_23 (by decide) (fun c_23 => ?_) (fun c_23 => ?_)
    · skip
      refine lv_iconst (v := 0) hx hb kd_R_weight_30 (by decide) ?_
      refine lv_iconst (v := 0) hx hb kd_R_weight_31 (by decide) ?_
      refine lv_iconst (v := 0) hx hb kd_R_weight_32 (by decide) ?_
      refine hx_callWi (va_runV (As := [.int 0, .int 0, .int 0]) (rest := []) ⟨hx, hb, hml, hown, hts⟩ (mr_throwing0 r rc ro rm ra rl rw th gv rp rk ow rn ct rt ki aq cd g1 g2 g3 rb gw an _) (cwV 3 hts (goodIn_sub (hx_m5 km_703 km_705 kv_R_throwing km_8 km_706) (by decide +kernel)) rfl rfl rfl (by decide +kernel) ⟨Nat.le_of_ble_eq_true rfl, Nat.le_of_ble_eq_true rfl⟩) (pw_V (hC.S hS) hP hD hS hA [0] (by decide) rfl (ci := 7) rfl (q0 := 0) rfl) rfl rfl hl.1 rfl (lv_room (Nat.le_of_ble_eq_true rfl)) kd_R_weight_33 ⟨Nat.le_of_ble_eq_true rfl, Nat.le_of_ble_eq_true rfl⟩) hP hD hS hA [0] rfl rfl (fun H locs hP hD hS hF => ?_)
      have hP : va_P D cl_all [((r 0), .inr (7, [.int 0, .int (nI rc), .ref (r 1), .int (nI ro), .ref (r 2), .int (nI rm), .ref (r 3), .ref (r 4), .ref (r 5), .ref (r 6), .int (nI ra), .ref (r 7), .ref (r 8), .ref (r 9), .ref (r 10), .int (nI rl), .ref (r 11), .ref (r 12), .ref (r 13), .ref (r 14), .int (nI rw), .ref (r 15), .long gv])), ((r 1), .inl (cI, 16, .inl rp)), ((r 2), .inl (cI, 64, .inl rk)), ((r 3), .inl (cI, 64, .inl ow)), ((r 4), .inl (cI, 64, .inl rn)), ((r 5), .inl (cI, 64, .inl ct)), ((r 6), .inl (cI, 256, .inl rt)), ((r 7), .inl (cI, 4, .inl ki)), ((r 8), .inl (cL, 4, .inr (.inl rb))), ((r 9), .inl (cI, 4, .inl aq)), ((r 10), .inl (cZ, 64, .inl cd)), ((r 11), .inl (cI, 64, .inl g1)), ((r 12), .inl (cI, 64, .inl g2)), ((r 13), .inl (cI, 64, .inl g3)), ((r 14), .inl (cL, 256, .inr (.inl gw))), ((r 15), .inl (cL, 64, .inr (.inl an)))] H := hP
      have hD : va_D A [((r 0), .inr (7, [.int 0, .int (nI rc), .ref (r 1), .int (nI ro), .ref (r 2), .int (nI rm), .ref (r 3), .ref (r 4), .ref (r 5), .ref (r 6), .int (nI ra), .ref (r 7), .ref (r 8), .ref (r 9), .ref (r 10), .int (nI rl), .ref (r 11), .ref (r 12), .ref (r 13), .ref (r 14), .int (nI rw), .ref (r 15), .long gv])), ((r 1), .inl (cI, 16, .inl rp)), ((r 2), .inl (cI, 64, .inl rk)), ((r 3), .inl (cI, 64, .inl ow)), ((r 4), .inl (cI, 64, .inl rn)), ((r 5), .inl (cI, 64, .inl ct)), ((r 6), .inl (cI, 256, .inl rt)), ((r 7), .inl (cI, 4, .inl ki)), ((r 8), .inl (cL, 4, .inr (.inl rb))), ((r 9), .inl (cI, 4, .inl aq)), ((r 10), .inl (cZ, 64, .inl cd)), ((r 11), .inl (cI, 64, .inl g1)), ((r 12), .inl (cI, 64, .inl g2)), ((r 13), .inl (cI, 64, .inl g3)), ((r 14), .inl (cL, 256, .inr (.inl gw))), ((r 15), .inl (cL, 64, .inr (.inl an)))] := hD
      refine hx_topi (y := 0) (rfl) ?_
      refine lv_if_eq (tgt := 43) hx hb kd_R_weight_36 (by decide) (fun c_36 => ?_) (fun c_36 => ?_)
      · skip
        refine lv_aload_n hx hb kd_R_weight_43 rfl (lv_at hl 0 rfl) ?_
        refine lv_iload_n hx hb kd_R_weight_44 rfl (lv_at hl 1 rfl) ?_
        refine lv_iload_n hx hb kd_R_weight_45 rfl (lv_at hl 2 rfl) ?_
        refine hx_callRi (va_runV (As := [.int (nI i), .int t]) (rest := []) ⟨hx, hb, hml, hown, hts⟩ (mr_weightOf r rc ro rm ra rl rw 0 gv rp rk ow rn ct rt ki aq cd g1 g2 g3 rb gw an i t (by omega) (hok i hi) hln hno hco) (cwV 2 hts (goodIn_sub (hx_m5 km_731 km_733 kv_R_weightOf km_8 km_734) (by decide +kernel)) rfl rfl rfl (by decide +kernel) ⟨Nat.le_of_ble_eq_true rfl, Nat.le_of_ble_eq_true rfl⟩) (pr_V (hC.S hS) hP [0, 1, 2, 3, 4, 5, 6, 7, 8, 9, 10, 11, 12, 13, 14, 15] rfl (ci := 7) rfl (q0 := 0) rfl) rfl rfl hl.1 rfl (lv_room (Nat.le_of_ble_eq_true rfl)) kd_R_weight_46 ⟨Nat.le_of_ble_eq_true rfl, Nat.le_of_ble_eq_true rfl⟩) ?_
        exact hx_iretW hx hb hr hlocks (rfl) (hP) hS kd_R_weight_49
      · exact absurd c_36 (not_not_intro rfl)
    · exact absurd c_23 (not_not_intro rfl)

set_option maxHeartbeats 4000000 in
set_option maxRecDepth 100000 in
theorem mr_weight1 {l : Launch} {D : va_G} {cI cL cZ : ClassId} {tb : Nat} (r : Nat → Nat) (rc ro rm ra rl rw : Nat) (th : Int32) (gv : Int64) (rp rk ow rn ct rt ki aq cd g1 g2 g3 : Nat → Int32) (rb gw an : Nat → Int64) (i t : Int32) (hf : (fb_in i ra && fb_in t (6 + rc)) = false) (sz : Nat) : Met l ky_R_weight kw_R_weight { frames := 1, cells := 0, slots := 0, locals := 23 } (pw_P D cI cL cZ tb [((r 0), .inr (7, [.int th, .int (nI rc), .ref (r 1), .int (nI ro), .ref (r 2), .int (nI rm), .ref (r 3), .ref (r 4), .ref (r 5), .ref (r 6), .int (nI ra), .ref (r 7), .ref (r 8), .ref (r 9), .ref (r 10), .int (nI rl), .ref (r 11), .ref (r 12), .ref (r 13), .ref (r 14), .int (nI rw), .ref (r 15), .long gv])), ((r 1), .inl (cI, 16, .inl rp)), ((r 2), .inl (cI, 64, .inl rk)), ((r 3), .inl (cI, 64, .inl ow)), ((r 4), .inl (cI, 64, .inl rn)), ((r 5), .inl (cI, 64, .inl ct)), ((r 6), .inl (cI, 256, .inl rt)), ((r 7), .inl (cI, 4, .inl ki)), ((r 8), .inl (cL, 4, .inr (.inl rb))), ((r 9), .inl (cI, 4, .inl aq)), ((r 10), .inl (cZ, 64, .inl cd)), ((r 11), .inl (cI, 64, .inl g1)), ((r 12), .inl (cI, 64, .inl g2)), ((r 13), .inl (cI, 64, .inl g3)), ((r 14), .inl (cL, 256, .inr (.inl gw))), ((r 15), .inl (cL, 64, .inr (.inl an)))] sz [.ref (r 0), .int i, .int t]) (hx_QW D (some (.int 0)) [((r 0), .inr (7, [.int 1, .int (nI rc), .ref (r 1), .int (nI ro), .ref (r 2), .int (nI rm), .ref (r 3), .ref (r 4), .ref (r 5), .ref (r 6), .int (nI ra), .ref (r 7), .ref (r 8), .ref (r 9), .ref (r 10), .int (nI rl), .ref (r 11), .ref (r 12), .ref (r 13), .ref (r 14), .int (nI rw), .ref (r 15), .long gv])), ((r 1), .inl (cI, 16, .inl rp)), ((r 2), .inl (cI, 64, .inl rk)), ((r 3), .inl (cI, 64, .inl ow)), ((r 4), .inl (cI, 64, .inl rn)), ((r 5), .inl (cI, 64, .inl ct)), ((r 6), .inl (cI, 256, .inl rt)), ((r 7), .inl (cI, 4, .inl ki)), ((r 8), .inl (cL, 4, .inr (.inl rb))), ((r 9), .inl (cI, 4, .inl aq)), ((r 10), .inl (cZ, 64, .inl cd)), ((r 11), .inl (cI, 64, .inl g1)), ((r 12), .inl (cI, 64, .inl g2)), ((r 13), .inl (cI, 64, .inl g3)), ((r 14), .inl (cL, 256, .inr (.inl gw))), ((r 15), .inl (cL, 64, .inr (.inl an)))] (va_A [((r 0), .inr (7, [.int th, .int (nI rc), .ref (r 1), .int (nI ro), .ref (r 2), .int (nI rm), .ref (r 3), .ref (r 4), .ref (r 5), .ref (r 6), .int (nI ra), .ref (r 7), .ref (r 8), .ref (r 9), .ref (r 10), .int (nI rl), .ref (r 11), .ref (r 12), .ref (r 13), .ref (r 14), .int (nI rw), .ref (r 15), .long gv])), ((r 1), .inl (cI, 16, .inl rp)), ((r 2), .inl (cI, 64, .inl rk)), ((r 3), .inl (cI, 64, .inl ow)), ((r 4), .inl (cI, 64, .inl rn)), ((r 5), .inl (cI, 64, .inl ct)), ((r 6), .inl (cI, 256, .inl rt)), ((r 7), .inl (cI, 4, .inl ki)), ((r 8), .inl (cL, 4, .inr (.inl rb))), ((r 9), .inl (cI, 4, .inl aq)), ((r 10), .inl (cZ, 64, .inl cd)), ((r 11), .inl (cI, 64, .inl g1)), ((r 12), .inl (cI, 64, .inl g2)), ((r 13), .inl (cI, 64, .inl g3)), ((r 14), .inl (cL, 256, .inr (.inl gw))), ((r 15), .inl (cL, 64, .inr (.inl an)))] sz)) 0 0 (va_A [((r 0), .inr (7, [.int th, .int (nI rc), .ref (r 1), .int (nI ro), .ref (r 2), .int (nI rm), .ref (r 3), .ref (r 4), .ref (r 5), .ref (r 6), .int (nI ra), .ref (r 7), .ref (r 8), .ref (r 9), .ref (r 10), .int (nI rl), .ref (r 11), .ref (r 12), .ref (r 13), .ref (r 14), .int (nI rw), .ref (r 15), .long gv])), ((r 1), .inl (cI, 16, .inl rp)), ((r 2), .inl (cI, 64, .inl rk)), ((r 3), .inl (cI, 64, .inl ow)), ((r 4), .inl (cI, 64, .inl rn)), ((r 5), .inl (cI, 64, .inl ct)), ((r 6), .inl (cI, 256, .inl rt)), ((r 7), .inl (cI, 4, .inl ki)), ((r 8), .inl (cL, 4, .inr (.inl rb))), ((r 9), .inl (cI, 4, .inl aq)), ((r 10), .inl (cZ, 64, .inl cd)), ((r 11), .inl (cI, 64, .inl g1)), ((r 12), .inl (cI, 64, .inl g2)), ((r 13), .inl (cI, 64, .inl g3)), ((r 14), .inl (cL, 256, .inr (.inl gw))), ((r 15), .inl (cL, 64, .inr (.inl an)))] sz) := by
  refine Met.ofW (cc := kc_R_weight) (maxL := 3) (ret := (some .int)) (by decide) rfl ?_
  intro p e s m args below meth c s₁ B hml hv
  obtain ⟨rfl, hsz, hC, hP, hD0⟩ := hv
  have hx := B.exec
  have hb := B.bytes
  have hr := B.returns
  have hlocks := B.notSynchronized
  have hown : s.vm.findClass "HostBridgeModel" = some m.cls := findClass_of_methodNamed B.named
  subst hsz
  have hD := hD0.self (sz := s.heap.size)
  generalize hAe : va_A [((r 0), .inr (7, [.int th, .int (nI rc), .ref (r 1), .int (nI ro), .ref (r 2), .int (nI rm), .ref (r 3), .ref (r 4), .ref (r 5), .ref (r 6), .int (nI ra), .ref (r 7), .ref (r 8), .ref (r 9), .ref (r 10), .int (nI rl), .ref (r 11), .ref (r 12), .ref (r 13), .ref (r 14), .int (nI rw), .ref (r 15), .long gv])), ((r 1), .inl (cI, 16, .inl rp)), ((r 2), .inl (cI, 64, .inl rk)), ((r 3), .inl (cI, 64, .inl ow)), ((r 4), .inl (cI, 64, .inl rn)), ((r 5), .inl (cI, 64, .inl ct)), ((r 6), .inl (cI, 256, .inl rt)), ((r 7), .inl (cI, 4, .inl ki)), ((r 8), .inl (cL, 4, .inr (.inl rb))), ((r 9), .inl (cI, 4, .inl aq)), ((r 10), .inl (cZ, 64, .inl cd)), ((r 11), .inl (cI, 64, .inl g1)), ((r 12), .inl (cI, 64, .inl g2)), ((r 13), .inl (cI, 64, .inl g3)), ((r 14), .inl (cL, 256, .inr (.inl gw))), ((r 15), .inl (cL, 64, .inr (.inl an)))] s.heap.size = A at hD hC ⊢
  have hA : ∀ q : Nat, s.heap.size ≤ q → A q := fun q h => by rw [← hAe]; exact Or.inr h
  have hS : va_S A s.heap s.heap [] := va_S.rf
  have hK := hC.K
  have hts := hC.ts [.ref (r 0), .int i, .int t].toArray
  have hl := lv_entry ([.ref (r 0), .int i, .int t]) (n := 3) (Nat.le_of_ble_eq_true rfl)
  rw [lg_entry_eq]
  generalize (lg_sl ([.ref (r 0), .int i, .int t]) ++ List.replicate (3 - (lg_sl ([.ref (r 0), .int i, .int t])).length) Slot.unset).toArray = ls at hl ⊢
  have hl : lv_has ls 3 [(0, .ref (r 0)), (1, .int i), (2, .int t)] := hl
  refine lv_aload_n hx hb kd_R_weight_0 rfl (lv_at hl 0 rfl) ?_
  refine lv_iload_n hx hb kd_R_weight_1 rfl (lv_at hl 1 rfl) ?_
  refine lv_aload_n hx hb kd_R_weight_2 rfl (lv_at hl 0 rfl) ?_
  refine va_get (D := D) (ci := 7) (v := .int (nI ra)) (C := "HostBridgeModel") (T := ct_R) (N := 23) hx hb hts cw_R hown hK hP 0 rfl rfl 10 (by decide) (hts _ km_631) (fun _ h9 => h9) rfl kd_R_weight_3 ?_
  refine hx_callRi (va_runS (As := [.int i, .int (nI ra)]) (rest := [.ref (r 0)]) ⟨hx, hb, hml, hown, hts⟩ (mr_isNo i ra) (va_cwS 2 hts (goodIn_sub (hx_m4 km_700 km_701 km_8 km_702) (by decide +kernel)) rfl rfl rfl (by decide +kernel) ⟨Nat.le_of_ble_eq_true rfl, Nat.le_of_ble_eq_true rfl⟩) (pr_S (hC.S hS) hP [] rfl) rfl rfl hl.1 rfl (lv_room (Nat.le_of_ble_eq_true rfl)) kd_R_weight_6 ⟨Nat.le_of_ble_eq_true rfl, Nat.le_of_ble_eq_true rfl⟩) ?_
  refine lv_if_ne (tgt := 26) hx hb kd_R_weight_9 (by decide) (fun c_9 => ?_) (fun c_9 => ?_)
  · skip
    refine lv_iconst (v := 1) hx hb kd_R_weight_26 (by decide) ?_
    refine lv_goto (tgt := 31) hx hb kd_R_weight_27 (by decide) ?_
    refine lv_iconst (v := 0) hx hb kd_R_weight_31 (by decide) ?_
    refine lv_iconst (v := 0) hx hb kd_R_weight_32 (by decide) ?_
    refine hx_callWi (va_runV (As := [.int 1, .int 0, .int 0]) (rest := []) ⟨hx, hb, hml, hown, hts⟩ (mr_throwing1 r rc ro rm ra rl rw th gv rp rk ow rn ct rt ki aq cd g1 g2 g3 rb gw an _) (cwV 3 hts (goodIn_sub (hx_m5 km_703 km_705 kv_R_throwing km_8 km_706) (by decide +kernel)) rfl rfl rfl (by decide +kernel) ⟨Nat.le_of_ble_eq_true rfl, Nat.le_of_ble_eq_true rfl⟩) (pw_V (hC.S hS) hP hD hS hA [0] (by decide) rfl (ci := 7) rfl (q0 := 0) rfl) rfl rfl hl.1 rfl (lv_room (Nat.le_of_ble_eq_true rfl)) kd_R_weight_33 ⟨Nat.le_of_ble_eq_true rfl, Nat.le_of_ble_eq_true rfl⟩) hP hD hS hA [0] rfl rfl (fun H locs hP hD hS hF => ?_)
    have hP : va_P D cl_all [((r 0), .inr (7, [.int 1, .int (nI rc), .ref (r 1), .int (nI ro), .ref (r 2), .int (nI rm), .ref (r 3), .ref (r 4), .ref (r 5), .ref (r 6), .int (nI ra), .ref (r 7), .ref (r 8), .ref (r 9), .ref (r 10), .int (nI rl), .ref (r 11), .ref (r 12), .ref (r 13), .ref (r 14), .int (nI rw), .ref (r 15), .long gv])), ((r 1), .inl (cI, 16, .inl rp)), ((r 2), .inl (cI, 64, .inl rk)), ((r 3), .inl (cI, 64, .inl ow)), ((r 4), .inl (cI, 64, .inl rn)), ((r 5), .inl (cI, 64, .inl ct)), ((r 6), .inl (cI, 256, .inl rt)), ((r 7), .inl (cI, 4, .inl ki)), ((r 8), .inl (cL, 4, .inr (.inl rb))), ((r 9), .inl (cI, 4, .inl aq)), ((r 10), .inl (cZ, 64, .inl cd)), ((r 11), .inl (cI, 64, .inl g1)), ((r 12), .inl (cI, 64, .inl g2)), ((r 13), .inl (cI, 64, .inl g3)), ((r 14), .inl (cL, 256, .inr (.inl gw))), ((r 15), .inl (cL, 64, .inr (.inl an)))] H := hP
    have hD : va_D A [((r 0), .inr (7, [.int 1, .int (nI rc), .ref (r 1), .int (nI ro), .ref (r 2), .int (nI rm), .ref (r 3), .ref (r 4), .ref (r 5), .ref (r 6), .int (nI ra), .ref (r 7), .ref (r 8), .ref (r 9), .ref (r 10), .int (nI rl), .ref (r 11), .ref (r 12), .ref (r 13), .ref (r 14), .int (nI rw), .ref (r 15), .long gv])), ((r 1), .inl (cI, 16, .inl rp)), ((r 2), .inl (cI, 64, .inl rk)), ((r 3), .inl (cI, 64, .inl ow)), ((r 4), .inl (cI, 64, .inl rn)), ((r 5), .inl (cI, 64, .inl ct)), ((r 6), .inl (cI, 256, .inl rt)), ((r 7), .inl (cI, 4, .inl ki)), ((r 8), .inl (cL, 4, .inr (.inl rb))), ((r 9), .inl (cI, 4, .inl aq)), ((r 10), .inl (cZ, 64, .inl cd)), ((r 11), .inl (cI, 64, .inl g1)), ((r 12), .inl (cI, 64, .inl g2)), ((r 13), .inl (cI, 64, .inl g3)), ((r 14), .inl (cL, 256, .inr (.inl gw))), ((r 15), .inl (cL, 64, .inr (.inl an)))] := hD
    refine hx_topi (y := 1) (rfl) ?_
    refine lv_if_eq (tgt := 43) hx hb kd_R_weight_36 (by decide) (fun c_36 => ?_) (fun c_36 => ?_)
    · exact absurd c_36 (by decide)
    · skip
      refine lv_iconst (v := 0) hx hb kd_R_weight_39 (by decide) ?_
      refine lv_goto (tgt := 49) hx hb kd_R_weight_40 (by decide) ?_
      exact hx_iretW hx hb hr hlocks (rfl) (hP) hS kd_R_weight_49
  · skip
    refine lv_iload_n hx hb kd_R_weight_12 rfl (lv_at hl 2 rfl) ?_
    refine lv_bipush (v := 6) hx hb kd_R_weight_13 (by decide) ?_
    refine lv_aload_n hx hb kd_R_weight_15 rfl (lv_at hl 0 rfl) ?_
    refine va_get (D := D) (ci := 7) (v := .int (nI rc)) (C := "HostBridgeModel") (T := ct_R) (N := 23) hx hb hts cw_R hown hK hP 0 rfl rfl 1 (by decide) (hts _ km_622) (fun _ h9 => h9) rfl kd_R_weight_16 ?_
    refine lv_iadd hx hb kd_R_weight_19 ?_
    refine hx_topi (y := nI (6 + rc)) (by rw [show (6 : Int32) = nI 6 from rfl, nI_add]) ?_
    refine hx_callRi (va_runS (As := [.int t, .int (nI (6 + rc))]) (rest := [.ref (r 0)]) ⟨hx, hb, hml, hown, hts⟩ (mr_isNo t (6 + rc)) (va_cwS 2 hts (goodIn_sub (hx_m4 km_700 km_701 km_8 km_702) (by decide +kernel)) rfl rfl rfl (by decide +kernel) ⟨Nat.le_of_ble_eq_true rfl, Nat.le_of_ble_eq_true rfl⟩) (pr_S (hC.S hS) hP [] rfl) rfl rfl hl.1 rfl (lv_room (Nat.le_of_ble_eq_true rfl)) kd_R_weight_20 ⟨Nat.le_of_ble_eq_true rfl, Nat.le_of_ble_eq_true rfl⟩) ?_
    refine lv_if_eq (tgt := 30) hx hb kd_R_weight_23 (by decide) (fun c_23 => ?_) (fun c_23 => ?_)
    · exact absurd hf (by rw [show fb_in i ra = true by simpa using b2_f c_9, show fb_in t (6 + rc) = true by simpa using b2_f c_23]; decide)
    · skip
      refine lv_iconst (v := 1) hx hb kd_R_weight_26 (by decide) ?_
      refine lv_goto (tgt := 31) hx hb kd_R_weight_27 (by decide) ?_
      refine lv_iconst (v := 0) hx hb kd_R_weight_31 (by decide) ?_
      refine lv_iconst (v := 0) hx hb kd_R_weight_32 (by decide) ?_
      refine hx_callWi (va_runV (As := [.int 1, .int 0, .int 0]) (rest := []) ⟨hx, hb, hml, hown, hts⟩ (mr_throwing1 r rc ro rm ra rl rw th gv rp rk ow rn ct rt ki aq cd g1 g2 g3 rb gw an _) (cwV 3 hts (goodIn_sub (hx_m5 km_703 km_705 kv_R_throwing km_8 km_706) (by decide +kernel)) rfl rfl rfl (by decide +kernel) ⟨Nat.le_of_ble_eq_true rfl, Nat.le_of_ble_eq_true rfl⟩) (pw_V (hC.S hS) hP hD hS hA [0] (by decide) rfl (ci := 7) rfl (q0 := 0) rfl) rfl rfl hl.1 rfl (lv_room (Nat.le_of_ble_eq_true rfl)) kd_R_weight_33 ⟨Nat.le_of_ble_eq_true rfl, Nat.le_of_ble_eq_true rfl⟩) hP hD hS hA [0] rfl rfl (fun H locs hP hD hS hF => ?_)
      have hP : va_P D cl_all [((r 0), .inr (7, [.int 1, .int (nI rc), .ref (r 1), .int (nI ro), .ref (r 2), .int (nI rm), .ref (r 3), .ref (r 4), .ref (r 5), .ref (r 6), .int (nI ra), .ref (r 7), .ref (r 8), .ref (r 9), .ref (r 10), .int (nI rl), .ref (r 11), .ref (r 12), .ref (r 13), .ref (r 14), .int (nI rw), .ref (r 15), .long gv])), ((r 1), .inl (cI, 16, .inl rp)), ((r 2), .inl (cI, 64, .inl rk)), ((r 3), .inl (cI, 64, .inl ow)), ((r 4), .inl (cI, 64, .inl rn)), ((r 5), .inl (cI, 64, .inl ct)), ((r 6), .inl (cI, 256, .inl rt)), ((r 7), .inl (cI, 4, .inl ki)), ((r 8), .inl (cL, 4, .inr (.inl rb))), ((r 9), .inl (cI, 4, .inl aq)), ((r 10), .inl (cZ, 64, .inl cd)), ((r 11), .inl (cI, 64, .inl g1)), ((r 12), .inl (cI, 64, .inl g2)), ((r 13), .inl (cI, 64, .inl g3)), ((r 14), .inl (cL, 256, .inr (.inl gw))), ((r 15), .inl (cL, 64, .inr (.inl an)))] H := hP
      have hD : va_D A [((r 0), .inr (7, [.int 1, .int (nI rc), .ref (r 1), .int (nI ro), .ref (r 2), .int (nI rm), .ref (r 3), .ref (r 4), .ref (r 5), .ref (r 6), .int (nI ra), .ref (r 7), .ref (r 8), .ref (r 9), .ref (r 10), .int (nI rl), .ref (r 11), .ref (r 12), .ref (r 13), .ref (r 14), .int (nI rw), .ref (r 15), .long gv])), ((r 1), .inl (cI, 16, .inl rp)), ((r 2), .inl (cI, 64, .inl rk)), ((r 3), .inl (cI, 64, .inl ow)), ((r 4), .inl (cI, 64, .inl rn)), ((r 5), .inl (cI, 64, .inl ct)), ((r 6), .inl (cI, 256, .inl rt)), ((r 7), .inl (cI, 4, .inl ki)), ((r 8), .inl (cL, 4, .inr (.inl rb))), ((r 9), .inl (cI, 4, .inl aq)), ((r 10), .inl (cZ, 64, .inl cd)), ((r 11), .inl (cI, 64, .inl g1)), ((r 12), .inl (cI, 64, .inl g2)), ((r 13), .inl (cI, 64, .inl g3)), ((r 14), .inl (cL, 256, .inr (.inl gw))), ((r 15), .inl (cL, 64, .inr (.inl an)))] := hD
      refine hx_topi (y := 1) (rfl) ?_
      refine lv_if_eq (tgt := 43) hx hb kd_R_weight_36 (by decide) (fun c_36 => ?_) (fun c_36 => ?_)
      · exact absurd c_36 (by decide)
      · skip
        refine lv_iconst (v := 0) hx hb kd_R_weight_39 (by decide) ?_
        refine lv_goto (tgt := 49) hx hb kd_R_weight_40 (by decide) ?_
        exact hx_iretW hx hb hr hlocks (rfl) (hP) hS kd_R_weight_49

set_option maxHeartbeats 4000000 in
set_option maxRecDepth 100000 in
theorem mr_make {l : Launch} {D : va_G} {cI cL cZ : ClassId} {tb : Nat} (r : Nat → Nat) (rc ro rm ra rl rw : Nat) (th : Int32) (gv : Int64) (rp rk ow rn ct rt ki aq cd g1 g2 g3 : Nat → Int32) (rb gw an : Nat → Int64) (o y : Nat) (hy : y < 64) (hra : ra ≤ 4) (hrl : rl < 2 ^ 31) (hrw : rw ≤ 64) (sz : Nat) : Met l ky_R_make kw_R_make { frames := 2, cells := 0, slots := 0, locals := 48 } (pw_P D cI cL cZ tb [((r 0), .inr (7, [.int th, .int (nI rc), .ref (r 1), .int (nI ro), .ref (r 2), .int (nI rm), .ref (r 3), .ref (r 4), .ref (r 5), .ref (r 6), .int (nI ra), .ref (r 7), .ref (r 8), .ref (r 9), .ref (r 10), .int (nI rl), .ref (r 11), .ref (r 12), .ref (r 13), .ref (r 14), .int (nI rw), .ref (r 15), .long gv])), ((r 1), .inl (cI, 16, .inl rp)), ((r 2), .inl (cI, 64, .inl rk)), ((r 3), .inl (cI, 64, .inl ow)), ((r 4), .inl (cI, 64, .inl rn)), ((r 5), .inl (cI, 64, .inl ct)), ((r 6), .inl (cI, 256, .inl rt)), ((r 7), .inl (cI, 4, .inl ki)), ((r 8), .inl (cL, 4, .inr (.inl rb))), ((r 9), .inl (cI, 4, .inl aq)), ((r 10), .inl (cZ, 64, .inl cd)), ((r 11), .inl (cI, 64, .inl g1)), ((r 12), .inl (cI, 64, .inl g2)), ((r 13), .inl (cI, 64, .inl g3)), ((r 14), .inl (cL, 256, .inr (.inl gw))), ((r 15), .inl (cL, 64, .inr (.inl an)))] sz [.ref (r 0), .int (nI o), .int (nI y)]) (hx_QW D (some (.int (nI y))) [((r 0), .inr (7, [.int th, .int (nI rc), .ref (r 1), .int (nI ro), .ref (r 2), .int (nI rm), .ref (r 3), .ref (r 4), .ref (r 5), .ref (r 6), .int (nI 0), .ref (r 7), .ref (r 8), .ref (r 9), .ref (r 10), .int (nI (rl + 1)), .ref (r 11), .ref (r 12), .ref (r 13), .ref (r 14), .int (nI (rw - 1)), .ref (r 15), .long (if rw = 0 then 0 else an 0)])), ((r 1), .inl (cI, 16, .inl rp)), ((r 2), .inl (cI, 64, .inl rk)), ((r 3), .inl (cI, 64, .inl ow)), ((r 4), .inl (cI, 64, .inl rn)), ((r 5), .inl (cI, 64, .inl ct)), ((r 6), .inl (cI, 256, .inl rt)), ((r 7), .inl (cI, 4, .inl ki)), ((r 8), .inl (cL, 4, .inr (.inl rb))), ((r 9), .inl (cI, 4, .inl aq)), ((r 10), .inl (cZ, 64, .inl cd)), ((r 11), .inl (cI, 64, .inl (upd g1 (rl % 64) (nI o)))), ((r 12), .inl (cI, 64, .inl (upd g2 (rl % 64) (nI y)))), ((r 13), .inl (cI, 64, .inl (upd g3 (rl % 64) (nI ra)))), ((r 14), .inl (cL, 256, .inr (.inl (wv_ gw (4 * (rl % 64)) (fun i => tu_ ki rb i (rt (4 * y + i))) ra)))), ((r 15), .inl (cL, 64, .inr (.inl (sq_ an rw))))] (va_A [((r 0), .inr (7, [.int th, .int (nI rc), .ref (r 1), .int (nI ro), .ref (r 2), .int (nI rm), .ref (r 3), .ref (r 4), .ref (r 5), .ref (r 6), .int (nI ra), .ref (r 7), .ref (r 8), .ref (r 9), .ref (r 10), .int (nI rl), .ref (r 11), .ref (r 12), .ref (r 13), .ref (r 14), .int (nI rw), .ref (r 15), .long gv])), ((r 1), .inl (cI, 16, .inl rp)), ((r 2), .inl (cI, 64, .inl rk)), ((r 3), .inl (cI, 64, .inl ow)), ((r 4), .inl (cI, 64, .inl rn)), ((r 5), .inl (cI, 64, .inl ct)), ((r 6), .inl (cI, 256, .inl rt)), ((r 7), .inl (cI, 4, .inl ki)), ((r 8), .inl (cL, 4, .inr (.inl rb))), ((r 9), .inl (cI, 4, .inl aq)), ((r 10), .inl (cZ, 64, .inl cd)), ((r 11), .inl (cI, 64, .inl g1)), ((r 12), .inl (cI, 64, .inl g2)), ((r 13), .inl (cI, 64, .inl g3)), ((r 14), .inl (cL, 256, .inr (.inl gw))), ((r 15), .inl (cL, 64, .inr (.inl an)))] sz)) 0 0 (va_A [((r 0), .inr (7, [.int th, .int (nI rc), .ref (r 1), .int (nI ro), .ref (r 2), .int (nI rm), .ref (r 3), .ref (r 4), .ref (r 5), .ref (r 6), .int (nI ra), .ref (r 7), .ref (r 8), .ref (r 9), .ref (r 10), .int (nI rl), .ref (r 11), .ref (r 12), .ref (r 13), .ref (r 14), .int (nI rw), .ref (r 15), .long gv])), ((r 1), .inl (cI, 16, .inl rp)), ((r 2), .inl (cI, 64, .inl rk)), ((r 3), .inl (cI, 64, .inl ow)), ((r 4), .inl (cI, 64, .inl rn)), ((r 5), .inl (cI, 64, .inl ct)), ((r 6), .inl (cI, 256, .inl rt)), ((r 7), .inl (cI, 4, .inl ki)), ((r 8), .inl (cL, 4, .inr (.inl rb))), ((r 9), .inl (cI, 4, .inl aq)), ((r 10), .inl (cZ, 64, .inl cd)), ((r 11), .inl (cI, 64, .inl g1)), ((r 12), .inl (cI, 64, .inl g2)), ((r 13), .inl (cI, 64, .inl g3)), ((r 14), .inl (cL, 256, .inr (.inl gw))), ((r 15), .inl (cL, 64, .inr (.inl an)))] sz) := by
  refine Met.ofW (cc := kc_R_make) (maxL := 5) (ret := (some .int)) (by decide) rfl ?_
  intro p e s m args below meth c s₁ B hml hv
  obtain ⟨rfl, hsz, hC, hP, hD0⟩ := hv
  have hx := B.exec
  have hb := B.bytes
  have hr := B.returns
  have hlocks := B.notSynchronized
  have hown : s.vm.findClass "HostBridgeModel" = some m.cls := findClass_of_methodNamed B.named
  subst hsz
  have hD := hD0.self (sz := s.heap.size)
  generalize hAe : va_A [((r 0), .inr (7, [.int th, .int (nI rc), .ref (r 1), .int (nI ro), .ref (r 2), .int (nI rm), .ref (r 3), .ref (r 4), .ref (r 5), .ref (r 6), .int (nI ra), .ref (r 7), .ref (r 8), .ref (r 9), .ref (r 10), .int (nI rl), .ref (r 11), .ref (r 12), .ref (r 13), .ref (r 14), .int (nI rw), .ref (r 15), .long gv])), ((r 1), .inl (cI, 16, .inl rp)), ((r 2), .inl (cI, 64, .inl rk)), ((r 3), .inl (cI, 64, .inl ow)), ((r 4), .inl (cI, 64, .inl rn)), ((r 5), .inl (cI, 64, .inl ct)), ((r 6), .inl (cI, 256, .inl rt)), ((r 7), .inl (cI, 4, .inl ki)), ((r 8), .inl (cL, 4, .inr (.inl rb))), ((r 9), .inl (cI, 4, .inl aq)), ((r 10), .inl (cZ, 64, .inl cd)), ((r 11), .inl (cI, 64, .inl g1)), ((r 12), .inl (cI, 64, .inl g2)), ((r 13), .inl (cI, 64, .inl g3)), ((r 14), .inl (cL, 256, .inr (.inl gw))), ((r 15), .inl (cL, 64, .inr (.inl an)))] s.heap.size = A at hD hC ⊢
  have hA : ∀ q : Nat, s.heap.size ≤ q → A q := fun q h => by rw [← hAe]; exact Or.inr h
  have hS : va_S A s.heap s.heap [] := va_S.rf
  have hK := hC.K
  have hts := hC.ts [.ref (r 0), .int (nI o), .int (nI y)].toArray
  have hl := lv_entry ([.ref (r 0), .int (nI o), .int (nI y)]) (n := 5) (Nat.le_of_ble_eq_true rfl)
  rw [lg_entry_eq]
  generalize (lg_sl ([.ref (r 0), .int (nI o), .int (nI y)]) ++ List.replicate (5 - (lg_sl ([.ref (r 0), .int (nI o), .int (nI y)])).length) Slot.unset).toArray = ls at hl ⊢
  have hl : lv_has ls 5 [(0, .ref (r 0)), (1, .int (nI o)), (2, .int (nI y))] := hl
  refine lv_aload_n hx hb kd_R_make_0 rfl (lv_at hl 0 rfl) ?_
  refine va_get (D := D) (ci := 7) (v := .int (nI rl)) (C := "HostBridgeModel") (T := ct_R) (N := 23) hx hb hts cw_R hown hK hP 0 rfl rfl 15 (by decide) (hts _ km_636) (fun _ h9 => h9) rfl kd_R_make_1 ?_
  refine lv_bipush (v := 64) hx hb kd_R_make_4 (by decide) ?_
  refine lv_irem hx hb kd_R_make_6 (by decide) ?_
  refine hx_topi (y := nI (rl % 64)) (rm_64 hrl) ?_
  refine lv_istore_n (lv' := [(3, .int (nI (rl % 64))), (0, .ref (r 0)), (1, .int (nI o)), (2, .int (nI y))]) hx hb kd_R_make_7 rfl hl (by decide) rfl (fun ls hl => ?_)
  refine lv_aload_n hx hb kd_R_make_8 rfl (lv_at hl 1 rfl) ?_
  refine va_get (D := D) (ci := 7) (v := .ref (r 11)) (C := "HostBridgeModel") (T := ct_R) (N := 23) hx hb hts cw_R hown hK hP 0 rfl rfl 16 (by decide) (hts _ km_637) (fun _ h9 => h9) rfl kd_R_make_9 ?_
  refine lv_iload_n hx hb kd_R_make_12 rfl (lv_at hl 0 rfl) ?_
  refine lv_iload_n hx hb kd_R_make_13 rfl (lv_at hl 2 rfl) ?_
  refine hx_iast (j := rl % 64) hx hb hK hP hD hS 11 rfl (rfl) (Nat.mod_lt _ (by decide)) (by decide) kd_R_make_14 (fun H locs hP hD hS => ?_)
  have hP : va_P D cl_all [((r 0), .inr (7, [.int th, .int (nI rc), .ref (r 1), .int (nI ro), .ref (r 2), .int (nI rm), .ref (r 3), .ref (r 4), .ref (r 5), .ref (r 6), .int (nI ra), .ref (r 7), .ref (r 8), .ref (r 9), .ref (r 10), .int (nI rl), .ref (r 11), .ref (r 12), .ref (r 13), .ref (r 14), .int (nI rw), .ref (r 15), .long gv])), ((r 1), .inl (cI, 16, .inl rp)), ((r 2), .inl (cI, 64, .inl rk)), ((r 3), .inl (cI, 64, .inl ow)), ((r 4), .inl (cI, 64, .inl rn)), ((r 5), .inl (cI, 64, .inl ct)), ((r 6), .inl (cI, 256, .inl rt)), ((r 7), .inl (cI, 4, .inl ki)), ((r 8), .inl (cL, 4, .inr (.inl rb))), ((r 9), .inl (cI, 4, .inl aq)), ((r 10), .inl (cZ, 64, .inl cd)), ((r 11), .inl (cI, 64, .inl (upd g1 (rl % 64) (nI o)))), ((r 12), .inl (cI, 64, .inl g2)), ((r 13), .inl (cI, 64, .inl g3)), ((r 14), .inl (cL, 256, .inr (.inl gw))), ((r 15), .inl (cL, 64, .inr (.inl an)))] H := hP
  have hD : va_D A [((r 0), .inr (7, [.int th, .int (nI rc), .ref (r 1), .int (nI ro), .ref (r 2), .int (nI rm), .ref (r 3), .ref (r 4), .ref (r 5), .ref (r 6), .int (nI ra), .ref (r 7), .ref (r 8), .ref (r 9), .ref (r 10), .int (nI rl), .ref (r 11), .ref (r 12), .ref (r 13), .ref (r 14), .int (nI rw), .ref (r 15), .long gv])), ((r 1), .inl (cI, 16, .inl rp)), ((r 2), .inl (cI, 64, .inl rk)), ((r 3), .inl (cI, 64, .inl ow)), ((r 4), .inl (cI, 64, .inl rn)), ((r 5), .inl (cI, 64, .inl ct)), ((r 6), .inl (cI, 256, .inl rt)), ((r 7), .inl (cI, 4, .inl ki)), ((r 8), .inl (cL, 4, .inr (.inl rb))), ((r 9), .inl (cI, 4, .inl aq)), ((r 10), .inl (cZ, 64, .inl cd)), ((r 11), .inl (cI, 64, .inl (upd g1 (rl % 64) (nI o)))), ((r 12), .inl (cI, 64, .inl g2)), ((r 13), .inl (cI, 64, .inl g3)), ((r 14), .inl (cL, 256, .inr (.inl gw))), ((r 15), .inl (cL, 64, .inr (.inl an)))] := hD
  refine lv_aload_n hx hb kd_R_make_15 rfl (lv_at hl 1 rfl) ?_
  refine va_get (D := D) (ci := 7) (v := .ref (r 12)) (C := "HostBridgeModel") (T := ct_R) (N := 23) hx hb hts cw_R hown hK hP 0 rfl rfl 17 (by decide) (hts _ km_638) (fun _ h9 => h9) rfl kd_R_make_16 ?_
  refine lv_iload_n hx hb kd_R_make_19 rfl (lv_at hl 0 rfl) ?_
  refine lv_iload_n hx hb kd_R_make_20 rfl (lv_at hl 3 rfl) ?_
  refine hx_iast (j := rl % 64) hx hb hK hP hD hS 12 rfl (rfl) (Nat.mod_lt _ (by decide)) (by decide) kd_R_make_21 (fun H locs hP hD hS => ?_)
  have hP : va_P D cl_all [((r 0), .inr (7, [.int th, .int (nI rc), .ref (r 1), .int (nI ro), .ref (r 2), .int (nI rm), .ref (r 3), .ref (r 4), .ref (r 5), .ref (r 6), .int (nI ra), .ref (r 7), .ref (r 8), .ref (r 9), .ref (r 10), .int (nI rl), .ref (r 11), .ref (r 12), .ref (r 13), .ref (r 14), .int (nI rw), .ref (r 15), .long gv])), ((r 1), .inl (cI, 16, .inl rp)), ((r 2), .inl (cI, 64, .inl rk)), ((r 3), .inl (cI, 64, .inl ow)), ((r 4), .inl (cI, 64, .inl rn)), ((r 5), .inl (cI, 64, .inl ct)), ((r 6), .inl (cI, 256, .inl rt)), ((r 7), .inl (cI, 4, .inl ki)), ((r 8), .inl (cL, 4, .inr (.inl rb))), ((r 9), .inl (cI, 4, .inl aq)), ((r 10), .inl (cZ, 64, .inl cd)), ((r 11), .inl (cI, 64, .inl (upd g1 (rl % 64) (nI o)))), ((r 12), .inl (cI, 64, .inl (upd g2 (rl % 64) (nI y)))), ((r 13), .inl (cI, 64, .inl g3)), ((r 14), .inl (cL, 256, .inr (.inl gw))), ((r 15), .inl (cL, 64, .inr (.inl an)))] H := hP
  have hD : va_D A [((r 0), .inr (7, [.int th, .int (nI rc), .ref (r 1), .int (nI ro), .ref (r 2), .int (nI rm), .ref (r 3), .ref (r 4), .ref (r 5), .ref (r 6), .int (nI ra), .ref (r 7), .ref (r 8), .ref (r 9), .ref (r 10), .int (nI rl), .ref (r 11), .ref (r 12), .ref (r 13), .ref (r 14), .int (nI rw), .ref (r 15), .long gv])), ((r 1), .inl (cI, 16, .inl rp)), ((r 2), .inl (cI, 64, .inl rk)), ((r 3), .inl (cI, 64, .inl ow)), ((r 4), .inl (cI, 64, .inl rn)), ((r 5), .inl (cI, 64, .inl ct)), ((r 6), .inl (cI, 256, .inl rt)), ((r 7), .inl (cI, 4, .inl ki)), ((r 8), .inl (cL, 4, .inr (.inl rb))), ((r 9), .inl (cI, 4, .inl aq)), ((r 10), .inl (cZ, 64, .inl cd)), ((r 11), .inl (cI, 64, .inl (upd g1 (rl % 64) (nI o)))), ((r 12), .inl (cI, 64, .inl (upd g2 (rl % 64) (nI y)))), ((r 13), .inl (cI, 64, .inl g3)), ((r 14), .inl (cL, 256, .inr (.inl gw))), ((r 15), .inl (cL, 64, .inr (.inl an)))] := hD
  refine lv_aload_n hx hb kd_R_make_22 rfl (lv_at hl 1 rfl) ?_
  refine va_get (D := D) (ci := 7) (v := .ref (r 13)) (C := "HostBridgeModel") (T := ct_R) (N := 23) hx hb hts cw_R hown hK hP 0 rfl rfl 18 (by decide) (hts _ km_639) (fun _ h9 => h9) rfl kd_R_make_23 ?_
  refine lv_iload_n hx hb kd_R_make_26 rfl (lv_at hl 0 rfl) ?_
  refine lv_aload_n hx hb kd_R_make_27 rfl (lv_at hl 1 rfl) ?_
  refine va_get (D := D) (ci := 7) (v := .int (nI ra)) (C := "HostBridgeModel") (T := ct_R) (N := 23) hx hb hts cw_R hown hK hP 0 rfl rfl 10 (by decide) (hts _ km_631) (fun _ h9 => h9) rfl kd_R_make_28 ?_
  refine hx_iast (j := rl % 64) hx hb hK hP hD hS 13 rfl (rfl) (Nat.mod_lt _ (by decide)) (by decide) kd_R_make_31 (fun H locs hP hD hS => ?_)
  have hP : va_P D cl_all [((r 0), .inr (7, [.int th, .int (nI rc), .ref (r 1), .int (nI ro), .ref (r 2), .int (nI rm), .ref (r 3), .ref (r 4), .ref (r 5), .ref (r 6), .int (nI ra), .ref (r 7), .ref (r 8), .ref (r 9), .ref (r 10), .int (nI rl), .ref (r 11), .ref (r 12), .ref (r 13), .ref (r 14), .int (nI rw), .ref (r 15), .long gv])), ((r 1), .inl (cI, 16, .inl rp)), ((r 2), .inl (cI, 64, .inl rk)), ((r 3), .inl (cI, 64, .inl ow)), ((r 4), .inl (cI, 64, .inl rn)), ((r 5), .inl (cI, 64, .inl ct)), ((r 6), .inl (cI, 256, .inl rt)), ((r 7), .inl (cI, 4, .inl ki)), ((r 8), .inl (cL, 4, .inr (.inl rb))), ((r 9), .inl (cI, 4, .inl aq)), ((r 10), .inl (cZ, 64, .inl cd)), ((r 11), .inl (cI, 64, .inl (upd g1 (rl % 64) (nI o)))), ((r 12), .inl (cI, 64, .inl (upd g2 (rl % 64) (nI y)))), ((r 13), .inl (cI, 64, .inl (upd g3 (rl % 64) (nI ra)))), ((r 14), .inl (cL, 256, .inr (.inl gw))), ((r 15), .inl (cL, 64, .inr (.inl an)))] H := hP
  have hD : va_D A [((r 0), .inr (7, [.int th, .int (nI rc), .ref (r 1), .int (nI ro), .ref (r 2), .int (nI rm), .ref (r 3), .ref (r 4), .ref (r 5), .ref (r 6), .int (nI ra), .ref (r 7), .ref (r 8), .ref (r 9), .ref (r 10), .int (nI rl), .ref (r 11), .ref (r 12), .ref (r 13), .ref (r 14), .int (nI rw), .ref (r 15), .long gv])), ((r 1), .inl (cI, 16, .inl rp)), ((r 2), .inl (cI, 64, .inl rk)), ((r 3), .inl (cI, 64, .inl ow)), ((r 4), .inl (cI, 64, .inl rn)), ((r 5), .inl (cI, 64, .inl ct)), ((r 6), .inl (cI, 256, .inl rt)), ((r 7), .inl (cI, 4, .inl ki)), ((r 8), .inl (cL, 4, .inr (.inl rb))), ((r 9), .inl (cI, 4, .inl aq)), ((r 10), .inl (cZ, 64, .inl cd)), ((r 11), .inl (cI, 64, .inl (upd g1 (rl % 64) (nI o)))), ((r 12), .inl (cI, 64, .inl (upd g2 (rl % 64) (nI y)))), ((r 13), .inl (cI, 64, .inl (upd g3 (rl % 64) (nI ra)))), ((r 14), .inl (cL, 256, .inr (.inl gw))), ((r 15), .inl (cL, 64, .inr (.inl an)))] := hD
  refine lv_iconst (v := 0) hx hb kd_R_make_32 (by decide) ?_
  refine hx_topi (y := nI 0) (rfl) ?_
  refine lv_istore (lv' := [(4, .int (nI 0)), (3, .int (nI (rl % 64))), (0, .ref (r 0)), (1, .int (nI o)), (2, .int (nI y))]) hx hb kd_R_make_33 hl (by decide) rfl (fun ls hl => ?_)
  refine hx_loopW (σ := Nat) (I := fun i ls H locs => lv_has ls 5 [(0, .ref (r 0)), (1, .int (nI o)), (2, .int (nI y)), (3, .int (nI (rl % 64))), (4, .int (nI i))] ∧ va_P D cl_all [((r 0), .inr (7, [.int th, .int (nI rc), .ref (r 1), .int (nI ro), .ref (r 2), .int (nI rm), .ref (r 3), .ref (r 4), .ref (r 5), .ref (r 6), .int (nI ra), .ref (r 7), .ref (r 8), .ref (r 9), .ref (r 10), .int (nI rl), .ref (r 11), .ref (r 12), .ref (r 13), .ref (r 14), .int (nI rw), .ref (r 15), .long gv])), ((r 1), .inl (cI, 16, .inl rp)), ((r 2), .inl (cI, 64, .inl rk)), ((r 3), .inl (cI, 64, .inl ow)), ((r 4), .inl (cI, 64, .inl rn)), ((r 5), .inl (cI, 64, .inl ct)), ((r 6), .inl (cI, 256, .inl rt)), ((r 7), .inl (cI, 4, .inl ki)), ((r 8), .inl (cL, 4, .inr (.inl rb))), ((r 9), .inl (cI, 4, .inl aq)), ((r 10), .inl (cZ, 64, .inl cd)), ((r 11), .inl (cI, 64, .inl (upd g1 (rl % 64) (nI o)))), ((r 12), .inl (cI, 64, .inl (upd g2 (rl % 64) (nI y)))), ((r 13), .inl (cI, 64, .inl (upd g3 (rl % 64) (nI ra)))), ((r 14), .inl (cL, 256, .inr (.inl (wv_ gw (4 * (rl % 64)) (fun i => tu_ ki rb i (rt (4 * y + i))) i)))), ((r 15), .inl (cL, 64, .inr (.inl an)))] H ∧ va_D A [((r 0), .inr (7, [.int th, .int (nI rc), .ref (r 1), .int (nI ro), .ref (r 2), .int (nI rm), .ref (r 3), .ref (r 4), .ref (r 5), .ref (r 6), .int (nI ra), .ref (r 7), .ref (r 8), .ref (r 9), .ref (r 10), .int (nI rl), .ref (r 11), .ref (r 12), .ref (r 13), .ref (r 14), .int (nI rw), .ref (r 15), .long gv])), ((r 1), .inl (cI, 16, .inl rp)), ((r 2), .inl (cI, 64, .inl rk)), ((r 3), .inl (cI, 64, .inl ow)), ((r 4), .inl (cI, 64, .inl rn)), ((r 5), .inl (cI, 64, .inl ct)), ((r 6), .inl (cI, 256, .inl rt)), ((r 7), .inl (cI, 4, .inl ki)), ((r 8), .inl (cL, 4, .inr (.inl rb))), ((r 9), .inl (cI, 4, .inl aq)), ((r 10), .inl (cZ, 64, .inl cd)), ((r 11), .inl (cI, 64, .inl (upd g1 (rl % 64) (nI o)))), ((r 12), .inl (cI, 64, .inl (upd g2 (rl % 64) (nI y)))), ((r 13), .inl (cI, 64, .inl (upd g3 (rl % 64) (nI ra)))), ((r 14), .inl (cL, 256, .inr (.inl (wv_ gw (4 * (rl % 64)) (fun i => tu_ ki rb i (rt (4 * y + i))) i)))), ((r 15), .inl (cL, 64, .inr (.inl an)))] ∧ va_S A s.heap H locs ∧ i ≤ ra) (μ := fun i => ra - i) ?_ 0 ⟨lv_sub hl [2, 3, 4, 1, 0] rfl, by rw [wv_0]; exact hP, by rw [wv_0]; exact hD, hS, Nat.zero_le _⟩
  intro i ls H locs hI ih35
  obtain ⟨hl, hP, hD, hS, hi⟩ := hI
  refine lv_iload hx hb kd_R_make_35 (lv_at hl 4 rfl) ?_
  refine lv_aload_n hx hb kd_R_make_37 rfl (lv_at hl 0 rfl) ?_
  refine va_get (D := D) (ci := 7) (v := .int (nI ra)) (C := "HostBridgeModel") (T := ct_R) (N := 23) hx hb hts cw_R hown hK hP 0 rfl rfl 10 (by decide) (hts _ km_631) (fun _ h9 => h9) rfl kd_R_make_38 ?_
  refine lv_icmp_ge (tgt := 78) hx hb kd_R_make_41 (by decide) (fun c_41 => ?_) (fun c_41 => ?_)
  · skip
    have hin : i = ra := by rw [nI_leI (by omega) (by omega)] at c_41; omega
    rw [hin] at hP hD
    refine lv_aload_n hx hb kd_R_make_78 rfl (lv_at hl 0 rfl) ?_
    refine lv_dup hx hb kd_R_make_79 rfl ?_
    refine va_get (D := D) (ci := 7) (v := .int (nI rl)) (C := "HostBridgeModel") (T := ct_R) (N := 23) hx hb hts cw_R hown hK hP 0 rfl rfl 15 (by decide) (hts _ km_636) (fun _ h9 => h9) rfl kd_R_make_80 ?_
    refine lv_iconst (v := 1) hx hb kd_R_make_83 (by decide) ?_
    refine lv_iadd hx hb kd_R_make_84 ?_
    refine hx_topi (y := nI (rl + 1)) (nI_1 rl) ?_
    refine va_put (D := D) (ci := 7) (v := .int (nI (rl + 1))) (ty := .int) (C := "HostBridgeModel") (T := ct_R) (N := 23) hx hb hts cw_R cy_R cp_R cn_R hown hK hP hD hS 0 rfl rfl 15 (by decide) (hts _ km_636) (fun _ h9 => h9) rfl (by decide +kernel) rfl rfl (Nat.le_of_ble_eq_true rfl) kd_R_make_85 (fun H locs hP hD hS => ?_)
    have hP : va_P D cl_all [((r 0), .inr (7, [.int th, .int (nI rc), .ref (r 1), .int (nI ro), .ref (r 2), .int (nI rm), .ref (r 3), .ref (r 4), .ref (r 5), .ref (r 6), .int (nI ra), .ref (r 7), .ref (r 8), .ref (r 9), .ref (r 10), .int (nI (rl + 1)), .ref (r 11), .ref (r 12), .ref (r 13), .ref (r 14), .int (nI rw), .ref (r 15), .long gv])), ((r 1), .inl (cI, 16, .inl rp)), ((r 2), .inl (cI, 64, .inl rk)), ((r 3), .inl (cI, 64, .inl ow)), ((r 4), .inl (cI, 64, .inl rn)), ((r 5), .inl (cI, 64, .inl ct)), ((r 6), .inl (cI, 256, .inl rt)), ((r 7), .inl (cI, 4, .inl ki)), ((r 8), .inl (cL, 4, .inr (.inl rb))), ((r 9), .inl (cI, 4, .inl aq)), ((r 10), .inl (cZ, 64, .inl cd)), ((r 11), .inl (cI, 64, .inl (upd g1 (rl % 64) (nI o)))), ((r 12), .inl (cI, 64, .inl (upd g2 (rl % 64) (nI y)))), ((r 13), .inl (cI, 64, .inl (upd g3 (rl % 64) (nI ra)))), ((r 14), .inl (cL, 256, .inr (.inl (wv_ gw (4 * (rl % 64)) (fun i => tu_ ki rb i (rt (4 * y + i))) ra)))), ((r 15), .inl (cL, 64, .inr (.inl an)))] H := hP
    have hD : va_D A [((r 0), .inr (7, [.int th, .int (nI rc), .ref (r 1), .int (nI ro), .ref (r 2), .int (nI rm), .ref (r 3), .ref (r 4), .ref (r 5), .ref (r 6), .int (nI ra), .ref (r 7), .ref (r 8), .ref (r 9), .ref (r 10), .int (nI (rl + 1)), .ref (r 11), .ref (r 12), .ref (r 13), .ref (r 14), .int (nI rw), .ref (r 15), .long gv])), ((r 1), .inl (cI, 16, .inl rp)), ((r 2), .inl (cI, 64, .inl rk)), ((r 3), .inl (cI, 64, .inl ow)), ((r 4), .inl (cI, 64, .inl rn)), ((r 5), .inl (cI, 64, .inl ct)), ((r 6), .inl (cI, 256, .inl rt)), ((r 7), .inl (cI, 4, .inl ki)), ((r 8), .inl (cL, 4, .inr (.inl rb))), ((r 9), .inl (cI, 4, .inl aq)), ((r 10), .inl (cZ, 64, .inl cd)), ((r 11), .inl (cI, 64, .inl (upd g1 (rl % 64) (nI o)))), ((r 12), .inl (cI, 64, .inl (upd g2 (rl % 64) (nI y)))), ((r 13), .inl (cI, 64, .inl (upd g3 (rl % 64) (nI ra)))), ((r 14), .inl (cL, 256, .inr (.inl (wv_ gw (4 * (rl % 64)) (fun i => tu_ ki rb i (rt (4 * y + i))) ra)))), ((r 15), .inl (cL, 64, .inr (.inl an)))] := hD
    refine lv_aload_n hx hb kd_R_make_88 rfl (lv_at hl 0 rfl) ?_
    refine lv_iconst (v := 0) hx hb kd_R_make_89 (by decide) ?_
    refine hx_topi (y := nI 0) (rfl) ?_
    refine va_put (D := D) (ci := 7) (v := .int (nI 0)) (ty := .int) (C := "HostBridgeModel") (T := ct_R) (N := 23) hx hb hts cw_R cy_R cp_R cn_R hown hK hP hD hS 0 rfl rfl 10 (by decide) (hts _ km_631) (fun _ h9 => h9) rfl (by decide +kernel) rfl rfl (Nat.le_of_ble_eq_true rfl) kd_R_make_90 (fun H locs hP hD hS => ?_)
    have hP : va_P D cl_all [((r 0), .inr (7, [.int th, .int (nI rc), .ref (r 1), .int (nI ro), .ref (r 2), .int (nI rm), .ref (r 3), .ref (r 4), .ref (r 5), .ref (r 6), .int (nI 0), .ref (r 7), .ref (r 8), .ref (r 9), .ref (r 10), .int (nI (rl + 1)), .ref (r 11), .ref (r 12), .ref (r 13), .ref (r 14), .int (nI rw), .ref (r 15), .long gv])), ((r 1), .inl (cI, 16, .inl rp)), ((r 2), .inl (cI, 64, .inl rk)), ((r 3), .inl (cI, 64, .inl ow)), ((r 4), .inl (cI, 64, .inl rn)), ((r 5), .inl (cI, 64, .inl ct)), ((r 6), .inl (cI, 256, .inl rt)), ((r 7), .inl (cI, 4, .inl ki)), ((r 8), .inl (cL, 4, .inr (.inl rb))), ((r 9), .inl (cI, 4, .inl aq)), ((r 10), .inl (cZ, 64, .inl cd)), ((r 11), .inl (cI, 64, .inl (upd g1 (rl % 64) (nI o)))), ((r 12), .inl (cI, 64, .inl (upd g2 (rl % 64) (nI y)))), ((r 13), .inl (cI, 64, .inl (upd g3 (rl % 64) (nI ra)))), ((r 14), .inl (cL, 256, .inr (.inl (wv_ gw (4 * (rl % 64)) (fun i => tu_ ki rb i (rt (4 * y + i))) ra)))), ((r 15), .inl (cL, 64, .inr (.inl an)))] H := hP
    have hD : va_D A [((r 0), .inr (7, [.int th, .int (nI rc), .ref (r 1), .int (nI ro), .ref (r 2), .int (nI rm), .ref (r 3), .ref (r 4), .ref (r 5), .ref (r 6), .int (nI 0), .ref (r 7), .ref (r 8), .ref (r 9), .ref (r 10), .int (nI (rl + 1)), .ref (r 11), .ref (r 12), .ref (r 13), .ref (r 14), .int (nI rw), .ref (r 15), .long gv])), ((r 1), .inl (cI, 16, .inl rp)), ((r 2), .inl (cI, 64, .inl rk)), ((r 3), .inl (cI, 64, .inl ow)), ((r 4), .inl (cI, 64, .inl rn)), ((r 5), .inl (cI, 64, .inl ct)), ((r 6), .inl (cI, 256, .inl rt)), ((r 7), .inl (cI, 4, .inl ki)), ((r 8), .inl (cL, 4, .inr (.inl rb))), ((r 9), .inl (cI, 4, .inl aq)), ((r 10), .inl (cZ, 64, .inl cd)), ((r 11), .inl (cI, 64, .inl (upd g1 (rl % 64) (nI o)))), ((r 12), .inl (cI, 64, .inl (upd g2 (rl % 64) (nI y)))), ((r 13), .inl (cI, 64, .inl (upd g3 (rl % 64) (nI ra)))), ((r 14), .inl (cL, 256, .inr (.inl (wv_ gw (4 * (rl % 64)) (fun i => tu_ ki rb i (rt (4 * y + i))) ra)))), ((r 15), .inl (cL, 64, .inr (.inl an)))] := hD
    refine lv_aload_n hx hb kd_R_make_93 rfl (lv_at hl 0 rfl) ?_
    refine hx_cutl (pc2 := 111) (ls2 := ls) (rest2 := [.ref (r 0)]) (P := fun x => x = (if rw = 0 then 0 else an 0)) ?_ (fun hj1 => ?_)
    · intro x2 e3
      subst e3
      refine va_put (D := D) (ci := 7) (v := .long (if rw = 0 then 0 else an 0)) (ty := .long) (C := "HostBridgeModel") (T := ct_R) (N := 23) hx hb hts cw_R cy_R cp_R cn_R hown hK hP hD hS 0 rfl rfl 22 (by decide) (hts _ km_643) (fun _ h9 => h9) rfl (by decide +kernel) rfl rfl (Nat.le_of_ble_eq_true rfl) kd_R_make_111 (fun H locs hP hD hS => ?_)
      have hP : va_P D cl_all [((r 0), .inr (7, [.int th, .int (nI rc), .ref (r 1), .int (nI ro), .ref (r 2), .int (nI rm), .ref (r 3), .ref (r 4), .ref (r 5), .ref (r 6), .int (nI 0), .ref (r 7), .ref (r 8), .ref (r 9), .ref (r 10), .int (nI (rl + 1)), .ref (r 11), .ref (r 12), .ref (r 13), .ref (r 14), .int (nI rw), .ref (r 15), .long (if rw = 0 then 0 else an 0)])), ((r 1), .inl (cI, 16, .inl rp)), ((r 2), .inl (cI, 64, .inl rk)), ((r 3), .inl (cI, 64, .inl ow)), ((r 4), .inl (cI, 64, .inl rn)), ((r 5), .inl (cI, 64, .inl ct)), ((r 6), .inl (cI, 256, .inl rt)), ((r 7), .inl (cI, 4, .inl ki)), ((r 8), .inl (cL, 4, .inr (.inl rb))), ((r 9), .inl (cI, 4, .inl aq)), ((r 10), .inl (cZ, 64, .inl cd)), ((r 11), .inl (cI, 64, .inl (upd g1 (rl % 64) (nI o)))), ((r 12), .inl (cI, 64, .inl (upd g2 (rl % 64) (nI y)))), ((r 13), .inl (cI, 64, .inl (upd g3 (rl % 64) (nI ra)))), ((r 14), .inl (cL, 256, .inr (.inl (wv_ gw (4 * (rl % 64)) (fun i => tu_ ki rb i (rt (4 * y + i))) ra)))), ((r 15), .inl (cL, 64, .inr (.inl an)))] H := hP
      have hD : va_D A [((r 0), .inr (7, [.int th, .int (nI rc), .ref (r 1), .int (nI ro), .ref (r 2), .int (nI rm), .ref (r 3), .ref (r 4), .ref (r 5), .ref (r 6), .int (nI 0), .ref (r 7), .ref (r 8), .ref (r 9), .ref (r 10), .int (nI (rl + 1)), .ref (r 11), .ref (r 12), .ref (r 13), .ref (r 14), .int (nI rw), .ref (r 15), .long (if rw = 0 then 0 else an 0)])), ((r 1), .inl (cI, 16, .inl rp)), ((r 2), .inl (cI, 64, .inl rk)), ((r 3), .inl (cI, 64, .inl ow)), ((r 4), .inl (cI, 64, .inl rn)), ((r 5), .inl (cI, 64, .inl ct)), ((r 6), .inl (cI, 256, .inl rt)), ((r 7), .inl (cI, 4, .inl ki)), ((r 8), .inl (cL, 4, .inr (.inl rb))), ((r 9), .inl (cI, 4, .inl aq)), ((r 10), .inl (cZ, 64, .inl cd)), ((r 11), .inl (cI, 64, .inl (upd g1 (rl % 64) (nI o)))), ((r 12), .inl (cI, 64, .inl (upd g2 (rl % 64) (nI y)))), ((r 13), .inl (cI, 64, .inl (upd g3 (rl % 64) (nI ra)))), ((r 14), .inl (cL, 256, .inr (.inl (wv_ gw (4 * (rl % 64)) (fun i => tu_ ki rb i (rt (4 * y + i))) ra)))), ((r 15), .inl (cL, 64, .inr (.inl an)))] := hD
      refine lv_iconst (v := 1) hx hb kd_R_make_114 (by decide) ?_
      refine hx_topi (y := nI 1) (rfl) ?_
      refine lv_istore (lv' := [(4, .int (nI 1)), (0, .ref (r 0)), (1, .int (nI o)), (2, .int (nI y)), (3, .int (nI (rl % 64)))]) hx hb kd_R_make_115 hl (by decide) rfl (fun ls hl => ?_)
      refine hx_loopW (σ := Nat) (I := fun i ls H locs => lv_has ls 5 [(0, .ref (r 0)), (2, .int (nI y)), (4, .int (nI i))] ∧ va_P D cl_all [((r 0), .inr (7, [.int th, .int (nI rc), .ref (r 1), .int (nI ro), .ref (r 2), .int (nI rm), .ref (r 3), .ref (r 4), .ref (r 5), .ref (r 6), .int (nI 0), .ref (r 7), .ref (r 8), .ref (r 9), .ref (r 10), .int (nI (rl + 1)), .ref (r 11), .ref (r 12), .ref (r 13), .ref (r 14), .int (nI rw), .ref (r 15), .long (if rw = 0 then 0 else an 0)])), ((r 1), .inl (cI, 16, .inl rp)), ((r 2), .inl (cI, 64, .inl rk)), ((r 3), .inl (cI, 64, .inl ow)), ((r 4), .inl (cI, 64, .inl rn)), ((r 5), .inl (cI, 64, .inl ct)), ((r 6), .inl (cI, 256, .inl rt)), ((r 7), .inl (cI, 4, .inl ki)), ((r 8), .inl (cL, 4, .inr (.inl rb))), ((r 9), .inl (cI, 4, .inl aq)), ((r 10), .inl (cZ, 64, .inl cd)), ((r 11), .inl (cI, 64, .inl (upd g1 (rl % 64) (nI o)))), ((r 12), .inl (cI, 64, .inl (upd g2 (rl % 64) (nI y)))), ((r 13), .inl (cI, 64, .inl (upd g3 (rl % 64) (nI ra)))), ((r 14), .inl (cL, 256, .inr (.inl (wv_ gw (4 * (rl % 64)) (fun i => tu_ ki rb i (rt (4 * y + i))) ra)))), ((r 15), .inl (cL, 64, .inr (.inl (sq_ an i))))] H ∧ va_D A [((r 0), .inr (7, [.int th, .int (nI rc), .ref (r 1), .int (nI ro), .ref (r 2), .int (nI rm), .ref (r 3), .ref (r 4), .ref (r 5), .ref (r 6), .int (nI 0), .ref (r 7), .ref (r 8), .ref (r 9), .ref (r 10), .int (nI (rl + 1)), .ref (r 11), .ref (r 12), .ref (r 13), .ref (r 14), .int (nI rw), .ref (r 15), .long (if rw = 0 then 0 else an 0)])), ((r 1), .inl (cI, 16, .inl rp)), ((r 2), .inl (cI, 64, .inl rk)), ((r 3), .inl (cI, 64, .inl ow)), ((r 4), .inl (cI, 64, .inl rn)), ((r 5), .inl (cI, 64, .inl ct)), ((r 6), .inl (cI, 256, .inl rt)), ((r 7), .inl (cI, 4, .inl ki)), ((r 8), .inl (cL, 4, .inr (.inl rb))), ((r 9), .inl (cI, 4, .inl aq)), ((r 10), .inl (cZ, 64, .inl cd)), ((r 11), .inl (cI, 64, .inl (upd g1 (rl % 64) (nI o)))), ((r 12), .inl (cI, 64, .inl (upd g2 (rl % 64) (nI y)))), ((r 13), .inl (cI, 64, .inl (upd g3 (rl % 64) (nI ra)))), ((r 14), .inl (cL, 256, .inr (.inl (wv_ gw (4 * (rl % 64)) (fun i => tu_ ki rb i (rt (4 * y + i))) ra)))), ((r 15), .inl (cL, 64, .inr (.inl (sq_ an i))))] ∧ va_S A s.heap H locs ∧ 1 ≤ i ∧ (i ≤ rw ∨ i = 1)) (μ := fun i => rw - i) ?_ 1 ⟨lv_sub hl [1, 3, 0] rfl, by rw [sq_1]; exact hP, by rw [sq_1]; exact hD, hS, Nat.le_refl _, Or.inr rfl⟩
      intro i ls H locs hI ih117
      obtain ⟨hl, hP, hD, hS, hi1, hi2⟩ := hI
      refine lv_iload hx hb kd_R_make_117 (lv_at hl 2 rfl) ?_
      refine lv_aload_n hx hb kd_R_make_119 rfl (lv_at hl 0 rfl) ?_
      refine va_get (D := D) (ci := 7) (v := .int (nI rw)) (C := "HostBridgeModel") (T := ct_R) (N := 23) hx hb hts cw_R hown hK hP 0 rfl rfl 20 (by decide) (hts _ km_641) (fun _ h9 => h9) rfl kd_R_make_120 ?_
      refine lv_icmp_ge (tgt := 148) hx hb kd_R_make_123 (by decide) (fun c_123 => ?_) (fun c_123 => ?_)
      · skip
        have hin : rw ≤ i := by rw [nI_leI (by omega) (by omega)] at c_123; omega
        have hsq : sq_ an i = sq_ an rw := by
          rcases hi2 with h9 | h9
          · rw [show i = rw by omega]
          · have h8 : rw = 0 ∨ rw = 1 := by omega
            rcases h8 with h8 | h8
            · rw [h9, h8, sq_1, sq_0]
            · rw [h9, h8]
        rw [hsq] at hP hD
        refine lv_aload_n hx hb kd_R_make_148 rfl (lv_at hl 0 rfl) ?_
        refine hx_cut (pc2 := 166) (ls2 := ls) (rest2 := [.ref (r 0)]) (P := fun x => x = nI (rw - 1)) ?_ (fun hj4 => ?_)
        · intro x5 e6
          subst e6
          refine va_put (D := D) (ci := 7) (v := .int (nI (rw - 1))) (ty := .int) (C := "HostBridgeModel") (T := ct_R) (N := 23) hx hb hts cw_R cy_R cp_R cn_R hown hK hP hD hS 0 rfl rfl 20 (by decide) (hts _ km_641) (fun _ h9 => h9) rfl (by decide +kernel) rfl rfl (Nat.le_of_ble_eq_true rfl) kd_R_make_166 (fun H locs hP hD hS => ?_)
          have hP : va_P D cl_all [((r 0), .inr (7, [.int th, .int (nI rc), .ref (r 1), .int (nI ro), .ref (r 2), .int (nI rm), .ref (r 3), .ref (r 4), .ref (r 5), .ref (r 6), .int (nI 0), .ref (r 7), .ref (r 8), .ref (r 9), .ref (r 10), .int (nI (rl + 1)), .ref (r 11), .ref (r 12), .ref (r 13), .ref (r 14), .int (nI (rw - 1)), .ref (r 15), .long (if rw = 0 then 0 else an 0)])), ((r 1), .inl (cI, 16, .inl rp)), ((r 2), .inl (cI, 64, .inl rk)), ((r 3), .inl (cI, 64, .inl ow)), ((r 4), .inl (cI, 64, .inl rn)), ((r 5), .inl (cI, 64, .inl ct)), ((r 6), .inl (cI, 256, .inl rt)), ((r 7), .inl (cI, 4, .inl ki)), ((r 8), .inl (cL, 4, .inr (.inl rb))), ((r 9), .inl (cI, 4, .inl aq)), ((r 10), .inl (cZ, 64, .inl cd)), ((r 11), .inl (cI, 64, .inl (upd g1 (rl % 64) (nI o)))), ((r 12), .inl (cI, 64, .inl (upd g2 (rl % 64) (nI y)))), ((r 13), .inl (cI, 64, .inl (upd g3 (rl % 64) (nI ra)))), ((r 14), .inl (cL, 256, .inr (.inl (wv_ gw (4 * (rl % 64)) (fun i => tu_ ki rb i (rt (4 * y + i))) ra)))), ((r 15), .inl (cL, 64, .inr (.inl (sq_ an rw))))] H := hP
          have hD : va_D A [((r 0), .inr (7, [.int th, .int (nI rc), .ref (r 1), .int (nI ro), .ref (r 2), .int (nI rm), .ref (r 3), .ref (r 4), .ref (r 5), .ref (r 6), .int (nI 0), .ref (r 7), .ref (r 8), .ref (r 9), .ref (r 10), .int (nI (rl + 1)), .ref (r 11), .ref (r 12), .ref (r 13), .ref (r 14), .int (nI (rw - 1)), .ref (r 15), .long (if rw = 0 then 0 else an 0)])), ((r 1), .inl (cI, 16, .inl rp)), ((r 2), .inl (cI, 64, .inl rk)), ((r 3), .inl (cI, 64, .inl ow)), ((r 4), .inl (cI, 64, .inl rn)), ((r 5), .inl (cI, 64, .inl ct)), ((r 6), .inl (cI, 256, .inl rt)), ((r 7), .inl (cI, 4, .inl ki)), ((r 8), .inl (cL, 4, .inr (.inl rb))), ((r 9), .inl (cI, 4, .inl aq)), ((r 10), .inl (cZ, 64, .inl cd)), ((r 11), .inl (cI, 64, .inl (upd g1 (rl % 64) (nI o)))), ((r 12), .inl (cI, 64, .inl (upd g2 (rl % 64) (nI y)))), ((r 13), .inl (cI, 64, .inl (upd g3 (rl % 64) (nI ra)))), ((r 14), .inl (cL, 256, .inr (.inl (wv_ gw (4 * (rl % 64)) (fun i => tu_ ki rb i (rt (4 * y + i))) ra)))), ((r 15), .inl (cL, 64, .inr (.inl (sq_ an rw))))] := hD
          refine lv_iload_n hx hb kd_R_make_169 rfl (lv_at hl 1 rfl) ?_
          exact hx_iretW hx hb hr hlocks (rfl) (hP) hS kd_R_make_170
        · skip
          refine lv_aload_n hx hb kd_R_make_149 rfl (lv_at hl 0 rfl) ?_
          refine va_get (D := D) (ci := 7) (v := .int (nI rw)) (C := "HostBridgeModel") (T := ct_R) (N := 23) hx hb hts cw_R hown hK hP 0 rfl rfl 20 (by decide) (hts _ km_641) (fun _ h9 => h9) rfl kd_R_make_150 ?_
          refine lv_if_le (tgt := 165) hx hb kd_R_make_153 (by decide) (fun c_153 => ?_) (fun c_153 => ?_)
          · skip
            refine lv_iconst (v := 0) hx hb kd_R_make_165 (by decide) ?_
            exact hj4 _ (by
                have h8 : rw = 0 := by have h9 : nI rw ≤ nI 0 := c_153; rw [nI_leI (by omega) (by decide)] at h9; omega
                rw [h8]; rfl)
          · skip
            refine lv_aload_n hx hb kd_R_make_156 rfl (lv_at hl 0 rfl) ?_
            refine va_get (D := D) (ci := 7) (v := .int (nI rw)) (C := "HostBridgeModel") (T := ct_R) (N := 23) hx hb hts cw_R hown hK hP 0 rfl rfl 20 (by decide) (hts _ km_641) (fun _ h9 => h9) rfl kd_R_make_157 ?_
            refine lv_iconst (v := 1) hx hb kd_R_make_160 (by decide) ?_
            refine lv_isub hx hb kd_R_make_161 ?_
            refine lv_goto (tgt := 166) hx hb kd_R_make_162 (by decide) ?_
            exact hj4 _ (nI_m1 (Nat.pos_of_ne_zero (fun h9 => c_153 (by rw [h9]; decide))))
      · skip
        have hin : i < rw := by rw [nI_leI (by omega) (by omega)] at c_123; omega
        refine lv_aload_n hx hb kd_R_make_126 rfl (lv_at hl 0 rfl) ?_
        refine va_get (D := D) (ci := 7) (v := .ref (r 15)) (C := "HostBridgeModel") (T := ct_R) (N := 23) hx hb hts cw_R hown hK hP 0 rfl rfl 21 (by decide) (hts _ km_642) (fun _ h9 => h9) rfl kd_R_make_127 ?_
        refine lv_iload hx hb kd_R_make_130 (lv_at hl 2 rfl) ?_
        refine lv_iconst (v := 1) hx hb kd_R_make_132 (by decide) ?_
        refine lv_isub hx hb kd_R_make_133 ?_
        refine hx_topi (y := nI (i - 1)) (nI_m1 hi1) ?_
        refine lv_aload_n hx hb kd_R_make_134 rfl (lv_at hl 0 rfl) ?_
        refine va_get (D := D) (ci := 7) (v := .ref (r 15)) (C := "HostBridgeModel") (T := ct_R) (N := 23) hx hb hts cw_R hown hK hP 0 rfl rfl 21 (by decide) (hts _ km_642) (fun _ h9 => h9) rfl kd_R_make_135 ?_
        refine lv_iload hx hb kd_R_make_138 (lv_at hl 2 rfl) ?_
        refine hx_lald (j := i) hx hb hK hP 15 rfl (rfl) (by omega) (by decide) kd_R_make_140 ?_
        refine hx_topl (y := an i) (sq_at an i) ?_
        refine hx_last (j := i - 1) hx hb hK hP hD hS 15 rfl (rfl) (by omega) (by decide) kd_R_make_141 (fun H locs hP hD hS => ?_)
        have hP : va_P D cl_all [((r 0), .inr (7, [.int th, .int (nI rc), .ref (r 1), .int (nI ro), .ref (r 2), .int (nI rm), .ref (r 3), .ref (r 4), .ref (r 5), .ref (r 6), .int (nI 0), .ref (r 7), .ref (r 8), .ref (r 9), .ref (r 10), .int (nI (rl + 1)), .ref (r 11), .ref (r 12), .ref (r 13), .ref (r 14), .int (nI rw), .ref (r 15), .long (if rw = 0 then 0 else an 0)])), ((r 1), .inl (cI, 16, .inl rp)), ((r 2), .inl (cI, 64, .inl rk)), ((r 3), .inl (cI, 64, .inl ow)), ((r 4), .inl (cI, 64, .inl rn)), ((r 5), .inl (cI, 64, .inl ct)), ((r 6), .inl (cI, 256, .inl rt)), ((r 7), .inl (cI, 4, .inl ki)), ((r 8), .inl (cL, 4, .inr (.inl rb))), ((r 9), .inl (cI, 4, .inl aq)), ((r 10), .inl (cZ, 64, .inl cd)), ((r 11), .inl (cI, 64, .inl (upd g1 (rl % 64) (nI o)))), ((r 12), .inl (cI, 64, .inl (upd g2 (rl % 64) (nI y)))), ((r 13), .inl (cI, 64, .inl (upd g3 (rl % 64) (nI ra)))), ((r 14), .inl (cL, 256, .inr (.inl (wv_ gw (4 * (rl % 64)) (fun i => tu_ ki rb i (rt (4 * y + i))) ra)))), ((r 15), .inl (cL, 64, .inr (.inl (vp_updL (sq_ an i) (i - 1) (an i)))))] H := hP
        have hD : va_D A [((r 0), .inr (7, [.int th, .int (nI rc), .ref (r 1), .int (nI ro), .ref (r 2), .int (nI rm), .ref (r 3), .ref (r 4), .ref (r 5), .ref (r 6), .int (nI 0), .ref (r 7), .ref (r 8), .ref (r 9), .ref (r 10), .int (nI (rl + 1)), .ref (r 11), .ref (r 12), .ref (r 13), .ref (r 14), .int (nI rw), .ref (r 15), .long (if rw = 0 then 0 else an 0)])), ((r 1), .inl (cI, 16, .inl rp)), ((r 2), .inl (cI, 64, .inl rk)), ((r 3), .inl (cI, 64, .inl ow)), ((r 4), .inl (cI, 64, .inl rn)), ((r 5), .inl (cI, 64, .inl ct)), ((r 6), .inl (cI, 256, .inl rt)), ((r 7), .inl (cI, 4, .inl ki)), ((r 8), .inl (cL, 4, .inr (.inl rb))), ((r 9), .inl (cI, 4, .inl aq)), ((r 10), .inl (cZ, 64, .inl cd)), ((r 11), .inl (cI, 64, .inl (upd g1 (rl % 64) (nI o)))), ((r 12), .inl (cI, 64, .inl (upd g2 (rl % 64) (nI y)))), ((r 13), .inl (cI, 64, .inl (upd g3 (rl % 64) (nI ra)))), ((r 14), .inl (cL, 256, .inr (.inl (wv_ gw (4 * (rl % 64)) (fun i => tu_ ki rb i (rt (4 * y + i))) ra)))), ((r 15), .inl (cL, 64, .inr (.inl (vp_updL (sq_ an i) (i - 1) (an i)))))] := hD
        rw [sq_s an hi1] at hP hD
        refine lv_iinc (v := nI (i + 1)) (lv' := [(4, .int (nI (i + 1))), (0, .ref (r 0)), (2, .int (nI y))]) hx hb kd_R_make_142 hl (k := 2) rfl (nI_1 i) (by decide) rfl (fun ls hl => ?_)
        refine lv_goto (tgt := 117) hx hb kd_R_make_145 (by decide) ?_
        exact ih117 (i + 1) _ _ _ (by omega) ⟨lv_sub hl [1, 2, 0] rfl, hP, hD, hS, by omega, by omega⟩
    · skip
      refine lv_aload_n hx hb kd_R_make_94 rfl (lv_at hl 0 rfl) ?_
      refine va_get (D := D) (ci := 7) (v := .int (nI rw)) (C := "HostBridgeModel") (T := ct_R) (N := 23) hx hb hts cw_R hown hK hP 0 rfl rfl 20 (by decide) (hts _ km_641) (fun _ h9 => h9) rfl kd_R_make_95 ?_
      refine lv_if_le (tgt := 110) hx hb kd_R_make_98 (by decide) (fun c_98 => ?_) (fun c_98 => ?_)
      · skip
        refine lv_lconst (v := 0) hx hb kd_R_make_110 (by decide) ?_
        exact hj1 _ (by rw [if_pos (show rw = 0 by have h9 : nI rw ≤ nI 0 := c_98; rw [nI_leI (by omega) (by decide)] at h9; omega)])
      · skip
        refine lv_aload_n hx hb kd_R_make_101 rfl (lv_at hl 0 rfl) ?_
        refine va_get (D := D) (ci := 7) (v := .ref (r 15)) (C := "HostBridgeModel") (T := ct_R) (N := 23) hx hb hts cw_R hown hK hP 0 rfl rfl 21 (by decide) (hts _ km_642) (fun _ h9 => h9) rfl kd_R_make_102 ?_
        refine lv_iconst (v := 0) hx hb kd_R_make_105 (by decide) ?_
        refine hx_lald (j := 0) hx hb hK hP 15 rfl (rfl) (by decide) (by decide) kd_R_make_106 ?_
        refine lv_goto (tgt := 111) hx hb kd_R_make_107 (by decide) ?_
        exact hj1 _ (by rw [if_neg (show ¬ rw = 0 from fun h9 => c_98 (by rw [h9]; decide))])
  · skip
    have hin : i < ra := by rw [nI_leI (by omega) (by omega)] at c_41; omega
    refine lv_aload_n hx hb kd_R_make_44 rfl (lv_at hl 0 rfl) ?_
    refine va_get (D := D) (ci := 7) (v := .ref (r 14)) (C := "HostBridgeModel") (T := ct_R) (N := 23) hx hb hts cw_R hown hK hP 0 rfl rfl 19 (by decide) (hts _ km_640) (fun _ h9 => h9) rfl kd_R_make_45 ?_
    refine lv_iconst (v := 4) hx hb kd_R_make_48 (by decide) ?_
    refine lv_iload_n hx hb kd_R_make_49 rfl (lv_at hl 3 rfl) ?_
    refine lv_imul hx hb kd_R_make_50 ?_
    refine hx_topi (y := nI (4 * (rl % 64))) (by rw [show (4 : Int32) = nI 4 from rfl, pk_mul]) ?_
    refine lv_iload hx hb kd_R_make_51 (lv_at hl 4 rfl) ?_
    refine lv_iadd hx hb kd_R_make_53 ?_
    refine hx_topi (y := nI (4 * (rl % 64) + i)) (nI_add _ _) ?_
    refine lv_aload_n hx hb kd_R_make_54 rfl (lv_at hl 0 rfl) ?_
    refine lv_iload hx hb kd_R_make_55 (lv_at hl 4 rfl) ?_
    refine lv_aload_n hx hb kd_R_make_57 rfl (lv_at hl 0 rfl) ?_
    refine va_get (D := D) (ci := 7) (v := .ref (r 6)) (C := "HostBridgeModel") (T := ct_R) (N := 23) hx hb hts cw_R hown hK hP 0 rfl rfl 9 (by decide) (hts _ km_630) (fun _ h9 => h9) rfl kd_R_make_58 ?_
    refine lv_iconst (v := 4) hx hb kd_R_make_61 (by decide) ?_
    refine lv_iload_n hx hb kd_R_make_62 rfl (lv_at hl 2 rfl) ?_
    refine lv_imul hx hb kd_R_make_63 ?_
    refine hx_topi (y := nI (4 * y)) (by rw [show (4 : Int32) = nI 4 from rfl, pk_mul]) ?_
    refine lv_iload hx hb kd_R_make_64 (lv_at hl 4 rfl) ?_
    refine lv_iadd hx hb kd_R_make_66 ?_
    refine hx_topi (y := nI (4 * y + i)) (nI_add _ _) ?_
    refine hx_iald (j := 4 * y + i) hx hb hK hP 6 rfl (rfl) (by omega) (by decide) kd_R_make_67 ?_
    refine hx_callRl (va_runV (As := [.int (nI i), .int (rt (4 * y + i))]) (rest := [.int (nI (4 * (rl % 64) + i)), .ref (r 14)]) ⟨hx, hb, hml, hown, hts⟩ (mr_turned r rc ro rm ra rl rw th gv rp rk ow rn ct rt ki aq cd (upd g1 (rl % 64) (nI o)) (upd g2 (rl % 64) (nI y)) (upd g3 (rl % 64) (nI ra)) rb (wv_ gw (4 * (rl % 64)) (fun i => tu_ ki rb i (rt (4 * y + i))) i) an i (rt (4 * y + i)) (by omega)) (cwV 2 hts (goodIn_sub (hx_m5 km_777 km_779 kv_R_turned km_8 km_780) (by decide +kernel)) rfl rfl rfl (by decide +kernel) ⟨Nat.le_of_ble_eq_true rfl, Nat.le_of_ble_eq_true rfl⟩) (pr_V (hC.S hS) hP [0, 1, 2, 3, 4, 5, 6, 7, 8, 9, 10, 11, 12, 13, 14, 15] rfl (ci := 7) rfl (q0 := 0) rfl) rfl rfl hl.1 rfl (lv_room (Nat.le_of_ble_eq_true rfl)) kd_R_make_68 ⟨Nat.le_of_ble_eq_true rfl, Nat.le_of_ble_eq_true rfl⟩) ?_
    refine hx_last (j := 4 * (rl % 64) + i) hx hb hK hP hD hS 14 rfl (rfl) (by have : rl % 64 < 64 := Nat.mod_lt _ (by decide); omega) (by decide) kd_R_make_71 (fun H locs hP hD hS => ?_)
    have hP : va_P D cl_all [((r 0), .inr (7, [.int th, .int (nI rc), .ref (r 1), .int (nI ro), .ref (r 2), .int (nI rm), .ref (r 3), .ref (r 4), .ref (r 5), .ref (r 6), .int (nI ra), .ref (r 7), .ref (r 8), .ref (r 9), .ref (r 10), .int (nI rl), .ref (r 11), .ref (r 12), .ref (r 13), .ref (r 14), .int (nI rw), .ref (r 15), .long gv])), ((r 1), .inl (cI, 16, .inl rp)), ((r 2), .inl (cI, 64, .inl rk)), ((r 3), .inl (cI, 64, .inl ow)), ((r 4), .inl (cI, 64, .inl rn)), ((r 5), .inl (cI, 64, .inl ct)), ((r 6), .inl (cI, 256, .inl rt)), ((r 7), .inl (cI, 4, .inl ki)), ((r 8), .inl (cL, 4, .inr (.inl rb))), ((r 9), .inl (cI, 4, .inl aq)), ((r 10), .inl (cZ, 64, .inl cd)), ((r 11), .inl (cI, 64, .inl (upd g1 (rl % 64) (nI o)))), ((r 12), .inl (cI, 64, .inl (upd g2 (rl % 64) (nI y)))), ((r 13), .inl (cI, 64, .inl (upd g3 (rl % 64) (nI ra)))), ((r 14), .inl (cL, 256, .inr (.inl (vp_updL (wv_ gw (4 * (rl % 64)) (fun i => tu_ ki rb i (rt (4 * y + i))) i) (4 * (rl % 64) + i) (tu_ ki rb i (rt (4 * y + i))))))), ((r 15), .inl (cL, 64, .inr (.inl an)))] H := hP
    have hD : va_D A [((r 0), .inr (7, [.int th, .int (nI rc), .ref (r 1), .int (nI ro), .ref (r 2), .int (nI rm), .ref (r 3), .ref (r 4), .ref (r 5), .ref (r 6), .int (nI ra), .ref (r 7), .ref (r 8), .ref (r 9), .ref (r 10), .int (nI rl), .ref (r 11), .ref (r 12), .ref (r 13), .ref (r 14), .int (nI rw), .ref (r 15), .long gv])), ((r 1), .inl (cI, 16, .inl rp)), ((r 2), .inl (cI, 64, .inl rk)), ((r 3), .inl (cI, 64, .inl ow)), ((r 4), .inl (cI, 64, .inl rn)), ((r 5), .inl (cI, 64, .inl ct)), ((r 6), .inl (cI, 256, .inl rt)), ((r 7), .inl (cI, 4, .inl ki)), ((r 8), .inl (cL, 4, .inr (.inl rb))), ((r 9), .inl (cI, 4, .inl aq)), ((r 10), .inl (cZ, 64, .inl cd)), ((r 11), .inl (cI, 64, .inl (upd g1 (rl % 64) (nI o)))), ((r 12), .inl (cI, 64, .inl (upd g2 (rl % 64) (nI y)))), ((r 13), .inl (cI, 64, .inl (upd g3 (rl % 64) (nI ra)))), ((r 14), .inl (cL, 256, .inr (.inl (vp_updL (wv_ gw (4 * (rl % 64)) (fun i => tu_ ki rb i (rt (4 * y + i))) i) (4 * (rl % 64) + i) (tu_ ki rb i (rt (4 * y + i))))))), ((r 15), .inl (cL, 64, .inr (.inl an)))] := hD
    rw [wv_s] at hP hD
    refine lv_iinc (v := nI (i + 1)) (lv' := [(4, .int (nI (i + 1))), (0, .ref (r 0)), (1, .int (nI o)), (2, .int (nI y)), (3, .int (nI (rl % 64)))]) hx hb kd_R_make_72 hl (k := 4) rfl (nI_1 i) (by decide) rfl (fun ls hl => ?_)
    refine lv_goto (tgt := 35) hx hb kd_R_make_75 (by decide) ?_
    exact ih35 (i + 1) _ _ _ (by omega) ⟨lv_sub hl [1, 2, 3, 4, 0] rfl, hP, hD, hS, by omega⟩

set_option maxHeartbeats 4000000 in
set_option maxRecDepth 100000 in
theorem mr_method0 {l : Launch} {D : va_G} {cI cL cZ : ClassId} {tb : Nat} (r : Nat → Nat) (rc ro rm ra rl rw : Nat) (th : Int32) (gv : Int64) (rp rk ow rn ct rt ki aq cd g1 g2 g3 : Nat → Int32) (rb gw an : Nat → Int64) (k n : Int32) (N : Nat) (w rs : Int32) (hc : fb_in k rc = true) (hn1 : fb_in n 1000 = true) (hN : N ≤ 4) (hr1 : fb_in rs (6 + rc) = true) (hrc : rc ≤ 16) (hrm : rm ≤ 64) (ht : ty_ok rc w N = true) (hnm : rm < 64) (hfd : la_ (mq_ ow rn ct rt (lf_ (as_ w N) aq N) k n N) rm = -1) (sz : Nat) : Met l ky_R_method kw_R_method { frames := 1, cells := 0, slots := 0, locals := 27 } (pw_P D cI cL cZ tb [((r 0), .inr (7, [.int th, .int (nI rc), .ref (r 1), .int (nI ro), .ref (r 2), .int (nI rm), .ref (r 3), .ref (r 4), .ref (r 5), .ref (r 6), .int (nI ra), .ref (r 7), .ref (r 8), .ref (r 9), .ref (r 10), .int (nI rl), .ref (r 11), .ref (r 12), .ref (r 13), .ref (r 14), .int (nI rw), .ref (r 15), .long gv])), ((r 1), .inl (cI, 16, .inl rp)), ((r 2), .inl (cI, 64, .inl rk)), ((r 3), .inl (cI, 64, .inl ow)), ((r 4), .inl (cI, 64, .inl rn)), ((r 5), .inl (cI, 64, .inl ct)), ((r 6), .inl (cI, 256, .inl rt)), ((r 7), .inl (cI, 4, .inl ki)), ((r 8), .inl (cL, 4, .inr (.inl rb))), ((r 9), .inl (cI, 4, .inl aq)), ((r 10), .inl (cZ, 64, .inl cd)), ((r 11), .inl (cI, 64, .inl g1)), ((r 12), .inl (cI, 64, .inl g2)), ((r 13), .inl (cI, 64, .inl g3)), ((r 14), .inl (cL, 256, .inr (.inl gw))), ((r 15), .inl (cL, 64, .inr (.inl an)))] sz [.ref (r 0), .int k, .int n, .int (nI N), .int w, .int rs]) (hx_QW D (some (.int (nI rm))) [((r 0), .inr (7, [.int 0, .int (nI rc), .ref (r 1), .int (nI ro), .ref (r 2), .int (nI (rm + 1)), .ref (r 3), .ref (r 4), .ref (r 5), .ref (r 6), .int (nI ra), .ref (r 7), .ref (r 8), .ref (r 9), .ref (r 10), .int (nI rl), .ref (r 11), .ref (r 12), .ref (r 13), .ref (r 14), .int (nI rw), .ref (r 15), .long gv])), ((r 1), .inl (cI, 16, .inl rp)), ((r 2), .inl (cI, 64, .inl rk)), ((r 3), .inl (cI, 64, .inl (upd ow rm k))), ((r 4), .inl (cI, 64, .inl (upd rn rm n))), ((r 5), .inl (cI, 64, .inl (upd ct rm (nI N)))), ((r 6), .inl (cI, 256, .inl (wi_ rt (4 * rm) (as_ w N) N))), ((r 7), .inl (cI, 4, .inl ki)), ((r 8), .inl (cL, 4, .inr (.inl rb))), ((r 9), .inl (cI, 4, .inl (lf_ (as_ w N) aq N))), ((r 10), .inl (cZ, 64, .inl cd)), ((r 11), .inl (cI, 64, .inl g1)), ((r 12), .inl (cI, 64, .inl g2)), ((r 13), .inl (cI, 64, .inl g3)), ((r 14), .inl (cL, 256, .inr (.inl gw))), ((r 15), .inl (cL, 64, .inr (.inl an)))] (va_A [((r 0), .inr (7, [.int th, .int (nI rc), .ref (r 1), .int (nI ro), .ref (r 2), .int (nI rm), .ref (r 3), .ref (r 4), .ref (r 5), .ref (r 6), .int (nI ra), .ref (r 7), .ref (r 8), .ref (r 9), .ref (r 10), .int (nI rl), .ref (r 11), .ref (r 12), .ref (r 13), .ref (r 14), .int (nI rw), .ref (r 15), .long gv])), ((r 1), .inl (cI, 16, .inl rp)), ((r 2), .inl (cI, 64, .inl rk)), ((r 3), .inl (cI, 64, .inl ow)), ((r 4), .inl (cI, 64, .inl rn)), ((r 5), .inl (cI, 64, .inl ct)), ((r 6), .inl (cI, 256, .inl rt)), ((r 7), .inl (cI, 4, .inl ki)), ((r 8), .inl (cL, 4, .inr (.inl rb))), ((r 9), .inl (cI, 4, .inl aq)), ((r 10), .inl (cZ, 64, .inl cd)), ((r 11), .inl (cI, 64, .inl g1)), ((r 12), .inl (cI, 64, .inl g2)), ((r 13), .inl (cI, 64, .inl g3)), ((r 14), .inl (cL, 256, .inr (.inl gw))), ((r 15), .inl (cL, 64, .inr (.inl an)))] sz)) 0 0 (va_A [((r 0), .inr (7, [.int th, .int (nI rc), .ref (r 1), .int (nI ro), .ref (r 2), .int (nI rm), .ref (r 3), .ref (r 4), .ref (r 5), .ref (r 6), .int (nI ra), .ref (r 7), .ref (r 8), .ref (r 9), .ref (r 10), .int (nI rl), .ref (r 11), .ref (r 12), .ref (r 13), .ref (r 14), .int (nI rw), .ref (r 15), .long gv])), ((r 1), .inl (cI, 16, .inl rp)), ((r 2), .inl (cI, 64, .inl rk)), ((r 3), .inl (cI, 64, .inl ow)), ((r 4), .inl (cI, 64, .inl rn)), ((r 5), .inl (cI, 64, .inl ct)), ((r 6), .inl (cI, 256, .inl rt)), ((r 7), .inl (cI, 4, .inl ki)), ((r 8), .inl (cL, 4, .inr (.inl rb))), ((r 9), .inl (cI, 4, .inl aq)), ((r 10), .inl (cZ, 64, .inl cd)), ((r 11), .inl (cI, 64, .inl g1)), ((r 12), .inl (cI, 64, .inl g2)), ((r 13), .inl (cI, 64, .inl g3)), ((r 14), .inl (cL, 256, .inr (.inl gw))), ((r 15), .inl (cL, 64, .inr (.inl an)))] sz) := by
  refine Met.ofW (cc := kc_R_method) (maxL := 9) (ret := (some .int)) (by decide) rfl ?_
  intro p e s m args below meth c s₁ B hml hv
  obtain ⟨rfl, hsz, hC, hP, hD0⟩ := hv
  have hx := B.exec
  have hb := B.bytes
  have hr := B.returns
  have hlocks := B.notSynchronized
  have hown : s.vm.findClass "HostBridgeModel" = some m.cls := findClass_of_methodNamed B.named
  subst hsz
  have hD := hD0.self (sz := s.heap.size)
  generalize hAe : va_A [((r 0), .inr (7, [.int th, .int (nI rc), .ref (r 1), .int (nI ro), .ref (r 2), .int (nI rm), .ref (r 3), .ref (r 4), .ref (r 5), .ref (r 6), .int (nI ra), .ref (r 7), .ref (r 8), .ref (r 9), .ref (r 10), .int (nI rl), .ref (r 11), .ref (r 12), .ref (r 13), .ref (r 14), .int (nI rw), .ref (r 15), .long gv])), ((r 1), .inl (cI, 16, .inl rp)), ((r 2), .inl (cI, 64, .inl rk)), ((r 3), .inl (cI, 64, .inl ow)), ((r 4), .inl (cI, 64, .inl rn)), ((r 5), .inl (cI, 64, .inl ct)), ((r 6), .inl (cI, 256, .inl rt)), ((r 7), .inl (cI, 4, .inl ki)), ((r 8), .inl (cL, 4, .inr (.inl rb))), ((r 9), .inl (cI, 4, .inl aq)), ((r 10), .inl (cZ, 64, .inl cd)), ((r 11), .inl (cI, 64, .inl g1)), ((r 12), .inl (cI, 64, .inl g2)), ((r 13), .inl (cI, 64, .inl g3)), ((r 14), .inl (cL, 256, .inr (.inl gw))), ((r 15), .inl (cL, 64, .inr (.inl an)))] s.heap.size = A at hD hC ⊢
  have hA : ∀ q : Nat, s.heap.size ≤ q → A q := fun q h => by rw [← hAe]; exact Or.inr h
  have hS : va_S A s.heap s.heap [] := va_S.rf
  have hK := hC.K
  have hts := hC.ts [.ref (r 0), .int k, .int n, .int (nI N), .int w, .int rs].toArray
  have hl := lv_entry ([.ref (r 0), .int k, .int n, .int (nI N), .int w, .int rs]) (n := 9) (Nat.le_of_ble_eq_true rfl)
  rw [lg_entry_eq]
  generalize (lg_sl ([.ref (r 0), .int k, .int n, .int (nI N), .int w, .int rs]) ++ List.replicate (9 - (lg_sl ([.ref (r 0), .int k, .int n, .int (nI N), .int w, .int rs])).length) Slot.unset).toArray = ls at hl ⊢
  have hl : lv_has ls 9 [(0, .ref (r 0)), (1, .int k), (2, .int n), (3, .int (nI N)), (4, .int w), (5, .int rs)] := hl
  refine lv_iload_n hx hb kd_R_method_0 rfl (lv_at hl 1 rfl) ?_
  refine lv_aload_n hx hb kd_R_method_1 rfl (lv_at hl 0 rfl) ?_
  refine va_get (D := D) (ci := 7) (v := .int (nI rc)) (C := "HostBridgeModel") (T := ct_R) (N := 23) hx hb hts cw_R hown hK hP 0 rfl rfl 1 (by decide) (hts _ km_622) (fun _ h9 => h9) rfl kd_R_method_2 ?_
  refine hx_callRi (va_runS (As := [.int k, .int (nI rc)]) (rest := []) ⟨hx, hb, hml, hown, hts⟩ (mr_isNo k rc) (va_cwS 2 hts (goodIn_sub (hx_m4 km_700 km_701 km_8 km_702) (by decide +kernel)) rfl rfl rfl (by decide +kernel) ⟨Nat.le_of_ble_eq_true rfl, Nat.le_of_ble_eq_true rfl⟩) (pr_S (hC.S hS) hP [] rfl) rfl rfl hl.1 rfl (lv_room (Nat.le_of_ble_eq_true rfl)) kd_R_method_5 ⟨Nat.le_of_ble_eq_true rfl, Nat.le_of_ble_eq_true rfl⟩) ?_
  refine hx_topi (y := 0) (by rw [hc]; rfl) ?_
  refine lv_if_ne (tgt := 44) hx hb kd_R_method_8 (by decide) (fun c_8 => ?_) (fun c_8 => ?_)
  · exact absurd c_8 (not_not_intro rfl)
  · skip
    refine lv_iload_n hx hb kd_R_method_11 rfl (lv_at hl 2 rfl) ?_
    refine lv_sipush (v := 1000) hx hb kd_R_method_12 (by decide) ?_
    refine hx_topi (y := nI 1000) (by decide) ?_
    refine hx_callRi (va_runS (As := [.int n, .int (nI 1000)]) (rest := []) ⟨hx, hb, hml, hown, hts⟩ (mr_isNo n 1000) (va_cwS 2 hts (goodIn_sub (hx_m4 km_700 km_701 km_8 km_702) (by decide +kernel)) rfl rfl rfl (by decide +kernel) ⟨Nat.le_of_ble_eq_true rfl, Nat.le_of_ble_eq_true rfl⟩) (pr_S (hC.S hS) hP [] rfl) rfl rfl hl.1 rfl (lv_room (Nat.le_of_ble_eq_true rfl)) kd_R_method_15 ⟨Nat.le_of_ble_eq_true rfl, Nat.le_of_ble_eq_true rfl⟩) ?_
    refine hx_topi (y := 0) (by rw [hn1]; rfl) ?_
    refine lv_if_ne (tgt := 44) hx hb kd_R_method_18 (by decide) (fun c_18 => ?_) (fun c_18 => ?_)
    · exact absurd c_18 (not_not_intro rfl)
    · skip
      refine lv_iload_n hx hb kd_R_method_21 rfl (lv_at hl 3 rfl) ?_
      refine lv_iconst (v := 5) hx hb kd_R_method_22 (by decide) ?_
      refine hx_topi (y := nI 5) (by decide) ?_
      refine hx_callRi (va_runS (As := [.int (nI N), .int (nI 5)]) (rest := []) ⟨hx, hb, hml, hown, hts⟩ (mr_isNo (nI N) 5) (va_cwS 2 hts (goodIn_sub (hx_m4 km_700 km_701 km_8 km_702) (by decide +kernel)) rfl rfl rfl (by decide +kernel) ⟨Nat.le_of_ble_eq_true rfl, Nat.le_of_ble_eq_true rfl⟩) (pr_S (hC.S hS) hP [] rfl) rfl rfl hl.1 rfl (lv_room (Nat.le_of_ble_eq_true rfl)) kd_R_method_23 ⟨Nat.le_of_ble_eq_true rfl, Nat.le_of_ble_eq_true rfl⟩) ?_
      refine hx_topi (y := 0) (by rw [(fb_in_iff (by decide)).mpr ⟨N, by omega, rfl⟩]; rfl) ?_
      refine lv_if_ne (tgt := 44) hx hb kd_R_method_26 (by decide) (fun c_26 => ?_) (fun c_26 => ?_)
      · exact absurd c_26 (not_not_intro rfl)
      · skip
        refine lv_iload hx hb kd_R_method_29 (lv_at hl 5 rfl) ?_
        refine lv_bipush (v := 6) hx hb kd_R_method_31 (by decide) ?_
        refine lv_aload_n hx hb kd_R_method_33 rfl (lv_at hl 0 rfl) ?_
        refine va_get (D := D) (ci := 7) (v := .int (nI rc)) (C := "HostBridgeModel") (T := ct_R) (N := 23) hx hb hts cw_R hown hK hP 0 rfl rfl 1 (by decide) (hts _ km_622) (fun _ h9 => h9) rfl kd_R_method_34 ?_
        refine lv_iadd hx hb kd_R_method_37 ?_
        refine hx_topi (y := nI (6 + rc)) (by rw [show (6 : Int32) = nI 6 from rfl, nI_add]) ?_
        refine hx_callRi (va_runS (As := [.int rs, .int (nI (6 + rc))]) (rest := []) ⟨hx, hb, hml, hown, hts⟩ (mr_isNo rs (6 + rc)) (va_cwS 2 hts (goodIn_sub (hx_m4 km_700 km_701 km_8 km_702) (by decide +kernel)) rfl rfl rfl (by decide +kernel) ⟨Nat.le_of_ble_eq_true rfl, Nat.le_of_ble_eq_true rfl⟩) (pr_S (hC.S hS) hP [] rfl) rfl rfl hl.1 rfl (lv_room (Nat.le_of_ble_eq_true rfl)) kd_R_method_38 ⟨Nat.le_of_ble_eq_true rfl, Nat.le_of_ble_eq_true rfl⟩) ?_
        refine hx_topi (y := 0) (by rw [hr1]; rfl) ?_
        refine lv_if_eq (tgt := 48) hx hb kd_R_method_41 (by decide) (fun c_41 => ?_) (fun c_41 => ?_)
        · skip
          refine lv_iconst (v := 0) hx hb kd_R_method_48 (by decide) ?_
          refine lv_istore (lv' := [(6, .int 0), (0, .ref (r 0)), (1, .int k), (2, .int n), (3, .int (nI N)), (4, .int w), (5, .int rs)]) hx hb kd_R_method_49 hl (by decide) rfl (fun ls hl => ?_)
          refine lv_iload hx hb kd_R_method_51 (lv_at hl 0 rfl) ?_
          refine lv_if_ne (tgt := 66) hx hb kd_R_method_53 (by decide) (fun c_53 => ?_) (fun c_53 => ?_)
          · exact absurd c_53 (not_not_intro rfl)
          · skip
            refine lv_aload_n hx hb kd_R_method_56 rfl (lv_at hl 1 rfl) ?_
            refine lv_iload_n hx hb kd_R_method_57 rfl (lv_at hl 4 rfl) ?_
            refine lv_iload hx hb kd_R_method_58 (lv_at hl 5 rfl) ?_
            refine hx_callWai (va_runV (As := [.int (nI N), .int w]) (rest := []) ⟨hx, hb, hml, hown, hts⟩ (mr_asks r rc ro rm ra rl rw th gv rp rk ow rn ct rt ki aq cd g1 g2 g3 rb gw an N w hN hrc _) (cwV 2 hts (goodIn_sub (hx_m5 km_711 km_713 kv_R_asks km_8 km_714) (by decide +kernel)) rfl rfl rfl (by decide +kernel) ⟨Nat.le_of_ble_eq_true rfl, Nat.le_of_ble_eq_true rfl⟩) (pw_V (hC.S hS) hP hD hS hA [0, 1, 2, 3, 4, 5, 6, 7, 8, 9, 10, 11, 12, 13, 14, 15] (by decide) rfl (ci := 7) rfl (q0 := 0) rfl) rfl rfl hl.1 rfl (lv_room (Nat.le_of_ble_eq_true rfl)) kd_R_method_60 ⟨Nat.le_of_ble_eq_true rfl, Nat.le_of_ble_eq_true rfl⟩) hP hD hS hA rfl (fun H locs hP hD hS => ?_)
            refine hx_topi (y := 1) (by rw [ht]; rfl) ?_
            refine lv_if_ne (tgt := 70) hx hb kd_R_method_63 (by decide) (fun c_63 => ?_) (fun c_63 => ?_)
            · skip
              refine lv_iconst (v := 0) hx hb kd_R_method_70 (by decide) ?_
              refine lv_istore (lv' := [(6, .int 0), (0, .ref (r 0)), (1, .int k), (2, .int n), (3, .int (nI N)), (4, .int w), (5, .int rs)]) hx hb kd_R_method_71 hl (by decide) rfl (fun ls hl => ?_)
              refine lv_iload hx hb kd_R_method_73 (lv_at hl 0 rfl) ?_
              refine lv_if_ne (tgt := 101) hx hb kd_R_method_75 (by decide) (fun c_75 => ?_) (fun c_75 => ?_)
              · exact absurd c_75 (not_not_intro rfl)
              · skip
                refine lv_aload_n hx hb kd_R_method_78 rfl (lv_at hl 1 rfl) ?_
                refine va_get (D := D) (ci := 7) (v := .int (nI rm)) (C := "HostBridgeModel") (T := ct_R) (N := 23) hx hb hts cw_R hown hK hP 0 rfl rfl 5 (by decide) (hts _ km_626) (fun _ h9 => h9) rfl kd_R_method_79 ?_
                refine lv_bipush (v := 64) hx hb kd_R_method_82 (by decide) ?_
                refine lv_icmp_eq (tgt := 97) hx hb kd_R_method_84 (by decide) (fun c_84 => ?_) (fun c_84 => ?_)
                · exact absurd c_84 (fun h => absurd ((nI_eq (a := rm) (b := 64) (by omega) (by decide)).mp h) (by omega))
                · skip
                  refine lv_aload_n hx hb kd_R_method_87 rfl (lv_at hl 1 rfl) ?_
                  refine lv_iload_n hx hb kd_R_method_88 rfl (lv_at hl 2 rfl) ?_
                  refine lv_iload_n hx hb kd_R_method_89 rfl (lv_at hl 3 rfl) ?_
                  refine lv_iload_n hx hb kd_R_method_90 rfl (lv_at hl 4 rfl) ?_
                  refine hx_callRi (va_runV (As := [.int k, .int n, .int (nI N)]) (rest := []) ⟨hx, hb, hml, hown, hts⟩ (mr_methodOf r rc ro rm ra rl rw th gv rp rk ow rn ct rt ki (lf_ (as_ w N) aq N) cd g1 g2 g3 rb gw an k n N hrm hN) (cwV 3 hts (goodIn_sub (hx_m5 km_715 km_717 kv_R_methodOf km_8 km_718) (by decide +kernel)) rfl rfl rfl (by decide +kernel) ⟨Nat.le_of_ble_eq_true rfl, Nat.le_of_ble_eq_true rfl⟩) (pr_V (hC.S hS) hP [0, 1, 2, 3, 4, 5, 6, 7, 8, 9, 10, 11, 12, 13, 14, 15] rfl (ci := 7) rfl (q0 := 0) rfl) rfl rfl hl.1 rfl (lv_room (Nat.le_of_ble_eq_true rfl)) kd_R_method_91 ⟨Nat.le_of_ble_eq_true rfl, Nat.le_of_ble_eq_true rfl⟩) ?_
                  refine hx_topi (y := (-1)) (hfd) ?_
                  refine lv_if_lt (tgt := 101) hx hb kd_R_method_94 (by decide) (fun c_94 => ?_) (fun c_94 => ?_)
                  · skip
                    refine lv_iconst (v := 0) hx hb kd_R_method_101 (by decide) ?_
                    refine lv_istore (lv' := [(7, .int 0), (6, .int 0), (0, .ref (r 0)), (1, .int k), (2, .int n), (3, .int (nI N)), (4, .int w), (5, .int rs)]) hx hb kd_R_method_102 hl (by decide) rfl (fun ls hl => ?_)
                    refine lv_aload_n hx hb kd_R_method_104 rfl (lv_at hl 2 rfl) ?_
                    refine lv_iload hx hb kd_R_method_105 (lv_at hl 1 rfl) ?_
                    refine lv_iload hx hb kd_R_method_107 (lv_at hl 0 rfl) ?_
                    refine lv_iconst (v := 0) hx hb kd_R_method_109 (by decide) ?_
                    refine hx_callWi (va_runV (As := [.int 0, .int 0, .int 0]) (rest := []) ⟨hx, hb, hml, hown, hts⟩ (mr_throwing0 r rc ro rm ra rl rw th gv rp rk ow rn ct rt ki aq cd g1 g2 g3 rb gw an _) (cwV 3 hts (goodIn_sub (hx_m5 km_703 km_705 kv_R_throwing km_8 km_706) (by decide +kernel)) rfl rfl rfl (by decide +kernel) ⟨Nat.le_of_ble_eq_true rfl, Nat.le_of_ble_eq_true rfl⟩) (pw_V (hC.S hS) hP hD hS hA [0] (by decide) rfl (ci := 7) rfl (q0 := 0) rfl) rfl rfl hl.1 rfl (lv_room (Nat.le_of_ble_eq_true rfl)) kd_R_method_110 ⟨Nat.le_of_ble_eq_true rfl, Nat.le_of_ble_eq_true rfl⟩) hP hD hS hA [0] rfl rfl (fun H locs hP hD hS hF => ?_)
                    have hP : va_P D cl_all [((r 0), .inr (7, [.int 0, .int (nI rc), .ref (r 1), .int (nI ro), .ref (r 2), .int (nI rm), .ref (r 3), .ref (r 4), .ref (r 5), .ref (r 6), .int (nI ra), .ref (r 7), .ref (r 8), .ref (r 9), .ref (r 10), .int (nI rl), .ref (r 11), .ref (r 12), .ref (r 13), .ref (r 14), .int (nI rw), .ref (r 15), .long gv])), ((r 1), .inl (cI, 16, .inl rp)), ((r 2), .inl (cI, 64, .inl rk)), ((r 3), .inl (cI, 64, .inl ow)), ((r 4), .inl (cI, 64, .inl rn)), ((r 5), .inl (cI, 64, .inl ct)), ((r 6), .inl (cI, 256, .inl rt)), ((r 7), .inl (cI, 4, .inl ki)), ((r 8), .inl (cL, 4, .inr (.inl rb))), ((r 9), .inl (cI, 4, .inl (lf_ (as_ w N) aq N))), ((r 10), .inl (cZ, 64, .inl cd)), ((r 11), .inl (cI, 64, .inl g1)), ((r 12), .inl (cI, 64, .inl g2)), ((r 13), .inl (cI, 64, .inl g3)), ((r 14), .inl (cL, 256, .inr (.inl gw))), ((r 15), .inl (cL, 64, .inr (.inl an)))] H := hP
                    have hD : va_D A [((r 0), .inr (7, [.int 0, .int (nI rc), .ref (r 1), .int (nI ro), .ref (r 2), .int (nI rm), .ref (r 3), .ref (r 4), .ref (r 5), .ref (r 6), .int (nI ra), .ref (r 7), .ref (r 8), .ref (r 9), .ref (r 10), .int (nI rl), .ref (r 11), .ref (r 12), .ref (r 13), .ref (r 14), .int (nI rw), .ref (r 15), .long gv])), ((r 1), .inl (cI, 16, .inl rp)), ((r 2), .inl (cI, 64, .inl rk)), ((r 3), .inl (cI, 64, .inl ow)), ((r 4), .inl (cI, 64, .inl rn)), ((r 5), .inl (cI, 64, .inl ct)), ((r 6), .inl (cI, 256, .inl rt)), ((r 7), .inl (cI, 4, .inl ki)), ((r 8), .inl (cL, 4, .inr (.inl rb))), ((r 9), .inl (cI, 4, .inl (lf_ (as_ w N) aq N))), ((r 10), .inl (cZ, 64, .inl cd)), ((r 11), .inl (cI, 64, .inl g1)), ((r 12), .inl (cI, 64, .inl g2)), ((r 13), .inl (cI, 64, .inl g3)), ((r 14), .inl (cL, 256, .inr (.inl gw))), ((r 15), .inl (cL, 64, .inr (.inl an)))] := hD
                    refine hx_topi (y := 0) (rfl) ?_
                    refine lv_if_eq (tgt := 118) hx hb kd_R_method_113 (by decide) (fun c_113 => ?_) (fun c_113 => ?_)
                    · skip
                      refine lv_aload_n hx hb kd_R_method_118 rfl (lv_at hl 2 rfl) ?_
                      refine va_get (D := D) (ci := 7) (v := .ref (r 3)) (C := "HostBridgeModel") (T := ct_R) (N := 23) hx hb hts cw_R hown hK hP 0 rfl rfl 6 (by decide) (hts _ km_627) (fun _ h9 => h9) rfl kd_R_method_119 ?_
                      refine lv_aload_n hx hb kd_R_method_122 rfl (lv_at hl 2 rfl) ?_
                      refine va_get (D := D) (ci := 7) (v := .int (nI rm)) (C := "HostBridgeModel") (T := ct_R) (N := 23) hx hb hts cw_R hown hK hP 0 rfl rfl 5 (by decide) (hts _ km_626) (fun _ h9 => h9) rfl kd_R_method_123 ?_
                      refine lv_iload_n hx hb kd_R_method_126 rfl (lv_at hl 3 rfl) ?_
                      refine hx_iast (j := rm) hx hb hK hP hD hS 3 rfl (rfl) (by omega) (by decide) kd_R_method_127 (fun H locs hP hD hS => ?_)
                      have hP : va_P D cl_all [((r 0), .inr (7, [.int 0, .int (nI rc), .ref (r 1), .int (nI ro), .ref (r 2), .int (nI rm), .ref (r 3), .ref (r 4), .ref (r 5), .ref (r 6), .int (nI ra), .ref (r 7), .ref (r 8), .ref (r 9), .ref (r 10), .int (nI rl), .ref (r 11), .ref (r 12), .ref (r 13), .ref (r 14), .int (nI rw), .ref (r 15), .long gv])), ((r 1), .inl (cI, 16, .inl rp)), ((r 2), .inl (cI, 64, .inl rk)), ((r 3), .inl (cI, 64, .inl (upd ow rm k))), ((r 4), .inl (cI, 64, .inl rn)), ((r 5), .inl (cI, 64, .inl ct)), ((r 6), .inl (cI, 256, .inl rt)), ((r 7), .inl (cI, 4, .inl ki)), ((r 8), .inl (cL, 4, .inr (.inl rb))), ((r 9), .inl (cI, 4, .inl (lf_ (as_ w N) aq N))), ((r 10), .inl (cZ, 64, .inl cd)), ((r 11), .inl (cI, 64, .inl g1)), ((r 12), .inl (cI, 64, .inl g2)), ((r 13), .inl (cI, 64, .inl g3)), ((r 14), .inl (cL, 256, .inr (.inl gw))), ((r 15), .inl (cL, 64, .inr (.inl an)))] H := hP
                      have hD : va_D A [((r 0), .inr (7, [.int 0, .int (nI rc), .ref (r 1), .int (nI ro), .ref (r 2), .int (nI rm), .ref (r 3), .ref (r 4), .ref (r 5), .ref (r 6), .int (nI ra), .ref (r 7), .ref (r 8), .ref (r 9), .ref (r 10), .int (nI rl), .ref (r 11), .ref (r 12), .ref (r 13), .ref (r 14), .int (nI rw), .ref (r 15), .long gv])), ((r 1), .inl (cI, 16, .inl rp)), ((r 2), .inl (cI, 64, .inl rk)), ((r 3), .inl (cI, 64, .inl (upd ow rm k))), ((r 4), .inl (cI, 64, .inl rn)), ((r 5), .inl (cI, 64, .inl ct)), ((r 6), .inl (cI, 256, .inl rt)), ((r 7), .inl (cI, 4, .inl ki)), ((r 8), .inl (cL, 4, .inr (.inl rb))), ((r 9), .inl (cI, 4, .inl (lf_ (as_ w N) aq N))), ((r 10), .inl (cZ, 64, .inl cd)), ((r 11), .inl (cI, 64, .inl g1)), ((r 12), .inl (cI, 64, .inl g2)), ((r 13), .inl (cI, 64, .inl g3)), ((r 14), .inl (cL, 256, .inr (.inl gw))), ((r 15), .inl (cL, 64, .inr (.inl an)))] := hD
                      refine lv_aload_n hx hb kd_R_method_128 rfl (lv_at hl 2 rfl) ?_
                      refine va_get (D := D) (ci := 7) (v := .ref (r 4)) (C := "HostBridgeModel") (T := ct_R) (N := 23) hx hb hts cw_R hown hK hP 0 rfl rfl 7 (by decide) (hts _ km_628) (fun _ h9 => h9) rfl kd_R_method_129 ?_
                      refine lv_aload_n hx hb kd_R_method_132 rfl (lv_at hl 2 rfl) ?_
                      refine va_get (D := D) (ci := 7) (v := .int (nI rm)) (C := "HostBridgeModel") (T := ct_R) (N := 23) hx hb hts cw_R hown hK hP 0 rfl rfl 5 (by decide) (hts _ km_626) (fun _ h9 => h9) rfl kd_R_method_133 ?_
                      refine lv_iload_n hx hb kd_R_method_136 rfl (lv_at hl 4 rfl) ?_
                      refine hx_iast (j := rm) hx hb hK hP hD hS 4 rfl (rfl) (by omega) (by decide) kd_R_method_137 (fun H locs hP hD hS => ?_)
                      have hP : va_P D cl_all [((r 0), .inr (7, [.int 0, .int (nI rc), .ref (r 1), .int (nI ro), .ref (r 2), .int (nI rm), .ref (r 3), .ref (r 4), .ref (r 5), .ref (r 6), .int (nI ra), .ref (r 7), .ref (r 8), .ref (r 9), .ref (r 10), .int (nI rl), .ref (r 11), .ref (r 12), .ref (r 13), .ref (r 14), .int (nI rw), .ref (r 15), .long gv])), ((r 1), .inl (cI, 16, .inl rp)), ((r 2), .inl (cI, 64, .inl rk)), ((r 3), .inl (cI, 64, .inl (upd ow rm k))), ((r 4), .inl (cI, 64, .inl (upd rn rm n))), ((r 5), .inl (cI, 64, .inl ct)), ((r 6), .inl (cI, 256, .inl rt)), ((r 7), .inl (cI, 4, .inl ki)), ((r 8), .inl (cL, 4, .inr (.inl rb))), ((r 9), .inl (cI, 4, .inl (lf_ (as_ w N) aq N))), ((r 10), .inl (cZ, 64, .inl cd)), ((r 11), .inl (cI, 64, .inl g1)), ((r 12), .inl (cI, 64, .inl g2)), ((r 13), .inl (cI, 64, .inl g3)), ((r 14), .inl (cL, 256, .inr (.inl gw))), ((r 15), .inl (cL, 64, .inr (.inl an)))] H := hP
                      have hD : va_D A [((r 0), .inr (7, [.int 0, .int (nI rc), .ref (r 1), .int (nI ro), .ref (r 2), .int (nI rm), .ref (r 3), .ref (r 4), .ref (r 5), .ref (r 6), .int (nI ra), .ref (r 7), .ref (r 8), .ref (r 9), .ref (r 10), .int (nI rl), .ref (r 11), .ref (r 12), .ref (r 13), .ref (r 14), .int (nI rw), .ref (r 15), .long gv])), ((r 1), .inl (cI, 16, .inl rp)), ((r 2), .inl (cI, 64, .inl rk)), ((r 3), .inl (cI, 64, .inl (upd ow rm k))), ((r 4), .inl (cI, 64, .inl (upd rn rm n))), ((r 5), .inl (cI, 64, .inl ct)), ((r 6), .inl (cI, 256, .inl rt)), ((r 7), .inl (cI, 4, .inl ki)), ((r 8), .inl (cL, 4, .inr (.inl rb))), ((r 9), .inl (cI, 4, .inl (lf_ (as_ w N) aq N))), ((r 10), .inl (cZ, 64, .inl cd)), ((r 11), .inl (cI, 64, .inl g1)), ((r 12), .inl (cI, 64, .inl g2)), ((r 13), .inl (cI, 64, .inl g3)), ((r 14), .inl (cL, 256, .inr (.inl gw))), ((r 15), .inl (cL, 64, .inr (.inl an)))] := hD
                      refine lv_aload_n hx hb kd_R_method_138 rfl (lv_at hl 2 rfl) ?_
                      refine va_get (D := D) (ci := 7) (v := .ref (r 5)) (C := "HostBridgeModel") (T := ct_R) (N := 23) hx hb hts cw_R hown hK hP 0 rfl rfl 8 (by decide) (hts _ km_629) (fun _ h9 => h9) rfl kd_R_method_139 ?_
                      refine lv_aload_n hx hb kd_R_method_142 rfl (lv_at hl 2 rfl) ?_
                      refine va_get (D := D) (ci := 7) (v := .int (nI rm)) (C := "HostBridgeModel") (T := ct_R) (N := 23) hx hb hts cw_R hown hK hP 0 rfl rfl 5 (by decide) (hts _ km_626) (fun _ h9 => h9) rfl kd_R_method_143 ?_
                      refine lv_iload_n hx hb kd_R_method_146 rfl (lv_at hl 5 rfl) ?_
                      refine hx_iast (j := rm) hx hb hK hP hD hS 5 rfl (rfl) (by omega) (by decide) kd_R_method_147 (fun H locs hP hD hS => ?_)
                      have hP : va_P D cl_all [((r 0), .inr (7, [.int 0, .int (nI rc), .ref (r 1), .int (nI ro), .ref (r 2), .int (nI rm), .ref (r 3), .ref (r 4), .ref (r 5), .ref (r 6), .int (nI ra), .ref (r 7), .ref (r 8), .ref (r 9), .ref (r 10), .int (nI rl), .ref (r 11), .ref (r 12), .ref (r 13), .ref (r 14), .int (nI rw), .ref (r 15), .long gv])), ((r 1), .inl (cI, 16, .inl rp)), ((r 2), .inl (cI, 64, .inl rk)), ((r 3), .inl (cI, 64, .inl (upd ow rm k))), ((r 4), .inl (cI, 64, .inl (upd rn rm n))), ((r 5), .inl (cI, 64, .inl (upd ct rm (nI N)))), ((r 6), .inl (cI, 256, .inl rt)), ((r 7), .inl (cI, 4, .inl ki)), ((r 8), .inl (cL, 4, .inr (.inl rb))), ((r 9), .inl (cI, 4, .inl (lf_ (as_ w N) aq N))), ((r 10), .inl (cZ, 64, .inl cd)), ((r 11), .inl (cI, 64, .inl g1)), ((r 12), .inl (cI, 64, .inl g2)), ((r 13), .inl (cI, 64, .inl g3)), ((r 14), .inl (cL, 256, .inr (.inl gw))), ((r 15), .inl (cL, 64, .inr (.inl an)))] H := hP
                      have hD : va_D A [((r 0), .inr (7, [.int 0, .int (nI rc), .ref (r 1), .int (nI ro), .ref (r 2), .int (nI rm), .ref (r 3), .ref (r 4), .ref (r 5), .ref (r 6), .int (nI ra), .ref (r 7), .ref (r 8), .ref (r 9), .ref (r 10), .int (nI rl), .ref (r 11), .ref (r 12), .ref (r 13), .ref (r 14), .int (nI rw), .ref (r 15), .long gv])), ((r 1), .inl (cI, 16, .inl rp)), ((r 2), .inl (cI, 64, .inl rk)), ((r 3), .inl (cI, 64, .inl (upd ow rm k))), ((r 4), .inl (cI, 64, .inl (upd rn rm n))), ((r 5), .inl (cI, 64, .inl (upd ct rm (nI N)))), ((r 6), .inl (cI, 256, .inl rt)), ((r 7), .inl (cI, 4, .inl ki)), ((r 8), .inl (cL, 4, .inr (.inl rb))), ((r 9), .inl (cI, 4, .inl (lf_ (as_ w N) aq N))), ((r 10), .inl (cZ, 64, .inl cd)), ((r 11), .inl (cI, 64, .inl g1)), ((r 12), .inl (cI, 64, .inl g2)), ((r 13), .inl (cI, 64, .inl g3)), ((r 14), .inl (cL, 256, .inr (.inl gw))), ((r 15), .inl (cL, 64, .inr (.inl an)))] := hD
                      refine lv_iconst (v := 0) hx hb kd_R_method_148 (by decide) ?_
                      refine hx_topi (y := nI 0) (rfl) ?_
                      refine lv_istore (lv' := [(8, .int (nI 0)), (7, .int 0), (6, .int 0), (0, .ref (r 0)), (1, .int k), (2, .int n), (3, .int (nI N)), (4, .int w), (5, .int rs)]) hx hb kd_R_method_149 hl (by decide) rfl (fun ls hl => ?_)
                      refine hx_loopW (σ := Nat) (I := fun i ls H locs => lv_has ls 9 [(0, .ref (r 0)), (3, .int (nI N)), (8, .int (nI i))] ∧ va_P D cl_all [((r 0), .inr (7, [.int 0, .int (nI rc), .ref (r 1), .int (nI ro), .ref (r 2), .int (nI rm), .ref (r 3), .ref (r 4), .ref (r 5), .ref (r 6), .int (nI ra), .ref (r 7), .ref (r 8), .ref (r 9), .ref (r 10), .int (nI rl), .ref (r 11), .ref (r 12), .ref (r 13), .ref (r 14), .int (nI rw), .ref (r 15), .long gv])), ((r 1), .inl (cI, 16, .inl rp)), ((r 2), .inl (cI, 64, .inl rk)), ((r 3), .inl (cI, 64, .inl (upd ow rm k))), ((r 4), .inl (cI, 64, .inl (upd rn rm n))), ((r 5), .inl (cI, 64, .inl (upd ct rm (nI N)))), ((r 6), .inl (cI, 256, .inl (wi_ rt (4 * rm) (as_ w N) i))), ((r 7), .inl (cI, 4, .inl ki)), ((r 8), .inl (cL, 4, .inr (.inl rb))), ((r 9), .inl (cI, 4, .inl (lf_ (as_ w N) aq N))), ((r 10), .inl (cZ, 64, .inl cd)), ((r 11), .inl (cI, 64, .inl g1)), ((r 12), .inl (cI, 64, .inl g2)), ((r 13), .inl (cI, 64, .inl g3)), ((r 14), .inl (cL, 256, .inr (.inl gw))), ((r 15), .inl (cL, 64, .inr (.inl an)))] H ∧ va_D A [((r 0), .inr (7, [.int 0, .int (nI rc), .ref (r 1), .int (nI ro), .ref (r 2), .int (nI rm), .ref (r 3), .ref (r 4), .ref (r 5), .ref (r 6), .int (nI ra), .ref (r 7), .ref (r 8), .ref (r 9), .ref (r 10), .int (nI rl), .ref (r 11), .ref (r 12), .ref (r 13), .ref (r 14), .int (nI rw), .ref (r 15), .long gv])), ((r 1), .inl (cI, 16, .inl rp)), ((r 2), .inl (cI, 64, .inl rk)), ((r 3), .inl (cI, 64, .inl (upd ow rm k))), ((r 4), .inl (cI, 64, .inl (upd rn rm n))), ((r 5), .inl (cI, 64, .inl (upd ct rm (nI N)))), ((r 6), .inl (cI, 256, .inl (wi_ rt (4 * rm) (as_ w N) i))), ((r 7), .inl (cI, 4, .inl ki)), ((r 8), .inl (cL, 4, .inr (.inl rb))), ((r 9), .inl (cI, 4, .inl (lf_ (as_ w N) aq N))), ((r 10), .inl (cZ, 64, .inl cd)), ((r 11), .inl (cI, 64, .inl g1)), ((r 12), .inl (cI, 64, .inl g2)), ((r 13), .inl (cI, 64, .inl g3)), ((r 14), .inl (cL, 256, .inr (.inl gw))), ((r 15), .inl (cL, 64, .inr (.inl an)))] ∧ va_S A s.heap H locs ∧ i ≤ N) (μ := fun i => N - i) ?_ 0 ⟨lv_sub hl [3, 6, 0] rfl, by rw [wi_0]; exact hP, by rw [wi_0]; exact hD, hS, Nat.zero_le _⟩
                      intro i ls H locs hI ih151
                      obtain ⟨hl, hP, hD, hS, hi⟩ := hI
                      refine lv_iload hx hb kd_R_method_151 (lv_at hl 2 rfl) ?_
                      refine lv_iload_n hx hb kd_R_method_153 rfl (lv_at hl 1 rfl) ?_
                      refine lv_icmp_ge (tgt := 184) hx hb kd_R_method_154 (by decide) (fun c_154 => ?_) (fun c_154 => ?_)
                      · skip
                        have hin : i = N := by rw [nI_leI (by omega) (by omega)] at c_154; omega
                        rw [hin] at hP hD
                        refine lv_aload_n hx hb kd_R_method_184 rfl (lv_at hl 0 rfl) ?_
                        refine lv_dup hx hb kd_R_method_185 rfl ?_
                        refine va_get (D := D) (ci := 7) (v := .int (nI rm)) (C := "HostBridgeModel") (T := ct_R) (N := 23) hx hb hts cw_R hown hK hP 0 rfl rfl 5 (by decide) (hts _ km_626) (fun _ h9 => h9) rfl kd_R_method_186 ?_
                        refine lv_iconst (v := 1) hx hb kd_R_method_189 (by decide) ?_
                        refine lv_iadd hx hb kd_R_method_190 ?_
                        refine hx_topi (y := nI (rm + 1)) (nI_1 rm) ?_
                        refine va_put (D := D) (ci := 7) (v := .int (nI (rm + 1))) (ty := .int) (C := "HostBridgeModel") (T := ct_R) (N := 23) hx hb hts cw_R cy_R cp_R cn_R hown hK hP hD hS 0 rfl rfl 5 (by decide) (hts _ km_626) (fun _ h9 => h9) rfl (by decide +kernel) rfl rfl (Nat.le_of_ble_eq_true rfl) kd_R_method_191 (fun H locs hP hD hS => ?_)
                        have hP : va_P D cl_all [((r 0), .inr (7, [.int 0, .int (nI rc), .ref (r 1), .int (nI ro), .ref (r 2), .int (nI (rm + 1)), .ref (r 3), .ref (r 4), .ref (r 5), .ref (r 6), .int (nI ra), .ref (r 7), .ref (r 8), .ref (r 9), .ref (r 10), .int (nI rl), .ref (r 11), .ref (r 12), .ref (r 13), .ref (r 14), .int (nI rw), .ref (r 15), .long gv])), ((r 1), .inl (cI, 16, .inl rp)), ((r 2), .inl (cI, 64, .inl rk)), ((r 3), .inl (cI, 64, .inl (upd ow rm k))), ((r 4), .inl (cI, 64, .inl (upd rn rm n))), ((r 5), .inl (cI, 64, .inl (upd ct rm (nI N)))), ((r 6), .inl (cI, 256, .inl (wi_ rt (4 * rm) (as_ w N) N))), ((r 7), .inl (cI, 4, .inl ki)), ((r 8), .inl (cL, 4, .inr (.inl rb))), ((r 9), .inl (cI, 4, .inl (lf_ (as_ w N) aq N))), ((r 10), .inl (cZ, 64, .inl cd)), ((r 11), .inl (cI, 64, .inl g1)), ((r 12), .inl (cI, 64, .inl g2)), ((r 13), .inl (cI, 64, .inl g3)), ((r 14), .inl (cL, 256, .inr (.inl gw))), ((r 15), .inl (cL, 64, .inr (.inl an)))] H := hP
                        have hD : va_D A [((r 0), .inr (7, [.int 0, .int (nI rc), .ref (r 1), .int (nI ro), .ref (r 2), .int (nI (rm + 1)), .ref (r 3), .ref (r 4), .ref (r 5), .ref (r 6), .int (nI ra), .ref (r 7), .ref (r 8), .ref (r 9), .ref (r 10), .int (nI rl), .ref (r 11), .ref (r 12), .ref (r 13), .ref (r 14), .int (nI rw), .ref (r 15), .long gv])), ((r 1), .inl (cI, 16, .inl rp)), ((r 2), .inl (cI, 64, .inl rk)), ((r 3), .inl (cI, 64, .inl (upd ow rm k))), ((r 4), .inl (cI, 64, .inl (upd rn rm n))), ((r 5), .inl (cI, 64, .inl (upd ct rm (nI N)))), ((r 6), .inl (cI, 256, .inl (wi_ rt (4 * rm) (as_ w N) N))), ((r 7), .inl (cI, 4, .inl ki)), ((r 8), .inl (cL, 4, .inr (.inl rb))), ((r 9), .inl (cI, 4, .inl (lf_ (as_ w N) aq N))), ((r 10), .inl (cZ, 64, .inl cd)), ((r 11), .inl (cI, 64, .inl g1)), ((r 12), .inl (cI, 64, .inl g2)), ((r 13), .inl (cI, 64, .inl g3)), ((r 14), .inl (cL, 256, .inr (.inl gw))), ((r 15), .inl (cL, 64, .inr (.inl an)))] := hD
                        refine lv_aload_n hx hb kd_R_method_194 rfl (lv_at hl 0 rfl) ?_
                        refine va_get (D := D) (ci := 7) (v := .int (nI (rm + 1))) (C := "HostBridgeModel") (T := ct_R) (N := 23) hx hb hts cw_R hown hK hP 0 rfl rfl 5 (by decide) (hts _ km_626) (fun _ h9 => h9) rfl kd_R_method_195 ?_
                        refine lv_iconst (v := 1) hx hb kd_R_method_198 (by decide) ?_
                        refine lv_isub hx hb kd_R_method_199 ?_
                        refine hx_topi (y := nI rm) (nI_pred rm) ?_
                        exact hx_iretW hx hb hr hlocks (rfl) (hP) hS kd_R_method_200
                      · skip
                        have hin : i < N := by rw [nI_leI (by omega) (by omega)] at c_154; omega
                        refine lv_aload_n hx hb kd_R_method_157 rfl (lv_at hl 0 rfl) ?_
                        refine va_get (D := D) (ci := 7) (v := .ref (r 6)) (C := "HostBridgeModel") (T := ct_R) (N := 23) hx hb hts cw_R hown hK hP 0 rfl rfl 9 (by decide) (hts _ km_630) (fun _ h9 => h9) rfl kd_R_method_158 ?_
                        refine lv_iconst (v := 4) hx hb kd_R_method_161 (by decide) ?_
                        refine lv_aload_n hx hb kd_R_method_162 rfl (lv_at hl 0 rfl) ?_
                        refine va_get (D := D) (ci := 7) (v := .int (nI rm)) (C := "HostBridgeModel") (T := ct_R) (N := 23) hx hb hts cw_R hown hK hP 0 rfl rfl 5 (by decide) (hts _ km_626) (fun _ h9 => h9) rfl kd_R_method_163 ?_
                        refine lv_imul hx hb kd_R_method_166 ?_
                        refine hx_topi (y := nI (4 * rm)) (by rw [show (4 : Int32) = nI 4 from rfl, pk_mul]) ?_
                        refine lv_iload hx hb kd_R_method_167 (lv_at hl 2 rfl) ?_
                        refine lv_iadd hx hb kd_R_method_169 ?_
                        refine hx_topi (y := nI (4 * rm + i)) (nI_add _ _) ?_
                        refine lv_aload_n hx hb kd_R_method_170 rfl (lv_at hl 0 rfl) ?_
                        refine va_get (D := D) (ci := 7) (v := .ref (r 9)) (C := "HostBridgeModel") (T := ct_R) (N := 23) hx hb hts cw_R hown hK hP 0 rfl rfl 13 (by decide) (hts _ km_634) (fun _ h9 => h9) rfl kd_R_method_171 ?_
                        refine lv_iload hx hb kd_R_method_174 (lv_at hl 2 rfl) ?_
                        refine hx_iald (j := i) hx hb hK hP 9 rfl (rfl) (by omega) (by decide) kd_R_method_176 ?_
                        refine hx_topi (y := as_ w N i) (by rw [lf_, if_pos hin]) ?_
                        refine hx_iast (j := 4 * rm + i) hx hb hK hP hD hS 6 rfl (rfl) (by omega) (by decide) kd_R_method_177 (fun H locs hP hD hS => ?_)
                        have hP : va_P D cl_all [((r 0), .inr (7, [.int 0, .int (nI rc), .ref (r 1), .int (nI ro), .ref (r 2), .int (nI rm), .ref (r 3), .ref (r 4), .ref (r 5), .ref (r 6), .int (nI ra), .ref (r 7), .ref (r 8), .ref (r 9), .ref (r 10), .int (nI rl), .ref (r 11), .ref (r 12), .ref (r 13), .ref (r 14), .int (nI rw), .ref (r 15), .long gv])), ((r 1), .inl (cI, 16, .inl rp)), ((r 2), .inl (cI, 64, .inl rk)), ((r 3), .inl (cI, 64, .inl (upd ow rm k))), ((r 4), .inl (cI, 64, .inl (upd rn rm n))), ((r 5), .inl (cI, 64, .inl (upd ct rm (nI N)))), ((r 6), .inl (cI, 256, .inl (upd (wi_ rt (4 * rm) (as_ w N) i) (4 * rm + i) (as_ w N i)))), ((r 7), .inl (cI, 4, .inl ki)), ((r 8), .inl (cL, 4, .inr (.inl rb))), ((r 9), .inl (cI, 4, .inl (lf_ (as_ w N) aq N))), ((r 10), .inl (cZ, 64, .inl cd)), ((r 11), .inl (cI, 64, .inl g1)), ((r 12), .inl (cI, 64, .inl g2)), ((r 13), .inl (cI, 64, .inl g3)), ((r 14), .inl (cL, 256, .inr (.inl gw))), ((r 15), .inl (cL, 64, .inr (.inl an)))] H := hP
                        have hD : va_D A [((r 0), .inr (7, [.int 0, .int (nI rc), .ref (r 1), .int (nI ro), .ref (r 2), .int (nI rm), .ref (r 3), .ref (r 4), .ref (r 5), .ref (r 6), .int (nI ra), .ref (r 7), .ref (r 8), .ref (r 9), .ref (r 10), .int (nI rl), .ref (r 11), .ref (r 12), .ref (r 13), .ref (r 14), .int (nI rw), .ref (r 15), .long gv])), ((r 1), .inl (cI, 16, .inl rp)), ((r 2), .inl (cI, 64, .inl rk)), ((r 3), .inl (cI, 64, .inl (upd ow rm k))), ((r 4), .inl (cI, 64, .inl (upd rn rm n))), ((r 5), .inl (cI, 64, .inl (upd ct rm (nI N)))), ((r 6), .inl (cI, 256, .inl (upd (wi_ rt (4 * rm) (as_ w N) i) (4 * rm + i) (as_ w N i)))), ((r 7), .inl (cI, 4, .inl ki)), ((r 8), .inl (cL, 4, .inr (.inl rb))), ((r 9), .inl (cI, 4, .inl (lf_ (as_ w N) aq N))), ((r 10), .inl (cZ, 64, .inl cd)), ((r 11), .inl (cI, 64, .inl g1)), ((r 12), .inl (cI, 64, .inl g2)), ((r 13), .inl (cI, 64, .inl g3)), ((r 14), .inl (cL, 256, .inr (.inl gw))), ((r 15), .inl (cL, 64, .inr (.inl an)))] := hD
                        rw [wi_s] at hP hD
                        refine lv_iinc (v := nI (i + 1)) (lv' := [(8, .int (nI (i + 1))), (0, .ref (r 0)), (3, .int (nI N))]) hx hb kd_R_method_178 hl (k := 2) rfl (nI_1 i) (by decide) rfl (fun ls hl => ?_)
                        refine lv_goto (tgt := 151) hx hb kd_R_method_181 (by decide) ?_
                        exact ih151 (i + 1) _ _ _ (by omega) ⟨lv_sub hl [1, 2, 0] rfl, hP, hD, hS, by omega⟩
                    · exact absurd c_113 (not_not_intro rfl)
                  · exact absurd c_94 (not_not_intro (by decide))
            · exact absurd c_63 (by decide)
        · exact absurd c_41 (not_not_intro rfl)

set_option maxHeartbeats 4000000 in
set_option maxRecDepth 100000 in
theorem mr_method1a {l : Launch} {D : va_G} {cI cL cZ : ClassId} {tb : Nat} (r : Nat → Nat) (rc ro rm ra rl rw : Nat) (th : Int32) (gv : Int64) (rp rk ow rn ct rt ki aq cd g1 g2 g3 : Nat → Int32) (rb gw an : Nat → Int64) (k n mn w rs : Int32) (hf : (fb_in k rc && fb_in n 1000 && fb_in mn 5 && fb_in rs (6 + rc)) = false) (sz : Nat) : Met l ky_R_method kw_R_method { frames := 1, cells := 0, slots := 0, locals := 23 } (pw_P D cI cL cZ tb [((r 0), .inr (7, [.int th, .int (nI rc), .ref (r 1), .int (nI ro), .ref (r 2), .int (nI rm), .ref (r 3), .ref (r 4), .ref (r 5), .ref (r 6), .int (nI ra), .ref (r 7), .ref (r 8), .ref (r 9), .ref (r 10), .int (nI rl), .ref (r 11), .ref (r 12), .ref (r 13), .ref (r 14), .int (nI rw), .ref (r 15), .long gv])), ((r 1), .inl (cI, 16, .inl rp)), ((r 2), .inl (cI, 64, .inl rk)), ((r 3), .inl (cI, 64, .inl ow)), ((r 4), .inl (cI, 64, .inl rn)), ((r 5), .inl (cI, 64, .inl ct)), ((r 6), .inl (cI, 256, .inl rt)), ((r 7), .inl (cI, 4, .inl ki)), ((r 8), .inl (cL, 4, .inr (.inl rb))), ((r 9), .inl (cI, 4, .inl aq)), ((r 10), .inl (cZ, 64, .inl cd)), ((r 11), .inl (cI, 64, .inl g1)), ((r 12), .inl (cI, 64, .inl g2)), ((r 13), .inl (cI, 64, .inl g3)), ((r 14), .inl (cL, 256, .inr (.inl gw))), ((r 15), .inl (cL, 64, .inr (.inl an)))] sz [.ref (r 0), .int k, .int n, .int mn, .int w, .int rs]) (hx_QW D (some (.int 0)) [((r 0), .inr (7, [.int 1, .int (nI rc), .ref (r 1), .int (nI ro), .ref (r 2), .int (nI rm), .ref (r 3), .ref (r 4), .ref (r 5), .ref (r 6), .int (nI ra), .ref (r 7), .ref (r 8), .ref (r 9), .ref (r 10), .int (nI rl), .ref (r 11), .ref (r 12), .ref (r 13), .ref (r 14), .int (nI rw), .ref (r 15), .long gv])), ((r 1), .inl (cI, 16, .inl rp)), ((r 2), .inl (cI, 64, .inl rk)), ((r 3), .inl (cI, 64, .inl ow)), ((r 4), .inl (cI, 64, .inl rn)), ((r 5), .inl (cI, 64, .inl ct)), ((r 6), .inl (cI, 256, .inl rt)), ((r 7), .inl (cI, 4, .inl ki)), ((r 8), .inl (cL, 4, .inr (.inl rb))), ((r 9), .inl (cI, 4, .inl aq)), ((r 10), .inl (cZ, 64, .inl cd)), ((r 11), .inl (cI, 64, .inl g1)), ((r 12), .inl (cI, 64, .inl g2)), ((r 13), .inl (cI, 64, .inl g3)), ((r 14), .inl (cL, 256, .inr (.inl gw))), ((r 15), .inl (cL, 64, .inr (.inl an)))] (va_A [((r 0), .inr (7, [.int th, .int (nI rc), .ref (r 1), .int (nI ro), .ref (r 2), .int (nI rm), .ref (r 3), .ref (r 4), .ref (r 5), .ref (r 6), .int (nI ra), .ref (r 7), .ref (r 8), .ref (r 9), .ref (r 10), .int (nI rl), .ref (r 11), .ref (r 12), .ref (r 13), .ref (r 14), .int (nI rw), .ref (r 15), .long gv])), ((r 1), .inl (cI, 16, .inl rp)), ((r 2), .inl (cI, 64, .inl rk)), ((r 3), .inl (cI, 64, .inl ow)), ((r 4), .inl (cI, 64, .inl rn)), ((r 5), .inl (cI, 64, .inl ct)), ((r 6), .inl (cI, 256, .inl rt)), ((r 7), .inl (cI, 4, .inl ki)), ((r 8), .inl (cL, 4, .inr (.inl rb))), ((r 9), .inl (cI, 4, .inl aq)), ((r 10), .inl (cZ, 64, .inl cd)), ((r 11), .inl (cI, 64, .inl g1)), ((r 12), .inl (cI, 64, .inl g2)), ((r 13), .inl (cI, 64, .inl g3)), ((r 14), .inl (cL, 256, .inr (.inl gw))), ((r 15), .inl (cL, 64, .inr (.inl an)))] sz)) 0 0 (va_A [((r 0), .inr (7, [.int th, .int (nI rc), .ref (r 1), .int (nI ro), .ref (r 2), .int (nI rm), .ref (r 3), .ref (r 4), .ref (r 5), .ref (r 6), .int (nI ra), .ref (r 7), .ref (r 8), .ref (r 9), .ref (r 10), .int (nI rl), .ref (r 11), .ref (r 12), .ref (r 13), .ref (r 14), .int (nI rw), .ref (r 15), .long gv])), ((r 1), .inl (cI, 16, .inl rp)), ((r 2), .inl (cI, 64, .inl rk)), ((r 3), .inl (cI, 64, .inl ow)), ((r 4), .inl (cI, 64, .inl rn)), ((r 5), .inl (cI, 64, .inl ct)), ((r 6), .inl (cI, 256, .inl rt)), ((r 7), .inl (cI, 4, .inl ki)), ((r 8), .inl (cL, 4, .inr (.inl rb))), ((r 9), .inl (cI, 4, .inl aq)), ((r 10), .inl (cZ, 64, .inl cd)), ((r 11), .inl (cI, 64, .inl g1)), ((r 12), .inl (cI, 64, .inl g2)), ((r 13), .inl (cI, 64, .inl g3)), ((r 14), .inl (cL, 256, .inr (.inl gw))), ((r 15), .inl (cL, 64, .inr (.inl an)))] sz) := by
  refine Met.ofW (cc := kc_R_method) (maxL := 9) (ret := (some .int)) (by decide) rfl ?_
  intro p e s m args below meth c s₁ B hml hv
  obtain ⟨rfl, hsz, hC, hP, hD0⟩ := hv
  have hx := B.exec
  have hb := B.bytes
  have hr := B.returns
  have hlocks := B.notSynchronized
  have hown : s.vm.findClass "HostBridgeModel" = some m.cls := findClass_of_methodNamed B.named
  subst hsz
  have hD := hD0.self (sz := s.heap.size)
  generalize hAe : va_A [((r 0), .inr (7, [.int th, .int (nI rc), .ref (r 1), .int (nI ro), .ref (r 2), .int (nI rm), .ref (r 3), .ref (r 4), .ref (r 5), .ref (r 6), .int (nI ra), .ref (r 7), .ref (r 8), .ref (r 9), .ref (r 10), .int (nI rl), .ref (r 11), .ref (r 12), .ref (r 13), .ref (r 14), .int (nI rw), .ref (r 15), .long gv])), ((r 1), .inl (cI, 16, .inl rp)), ((r 2), .inl (cI, 64, .inl rk)), ((r 3), .inl (cI, 64, .inl ow)), ((r 4), .inl (cI, 64, .inl rn)), ((r 5), .inl (cI, 64, .inl ct)), ((r 6), .inl (cI, 256, .inl rt)), ((r 7), .inl (cI, 4, .inl ki)), ((r 8), .inl (cL, 4, .inr (.inl rb))), ((r 9), .inl (cI, 4, .inl aq)), ((r 10), .inl (cZ, 64, .inl cd)), ((r 11), .inl (cI, 64, .inl g1)), ((r 12), .inl (cI, 64, .inl g2)), ((r 13), .inl (cI, 64, .inl g3)), ((r 14), .inl (cL, 256, .inr (.inl gw))), ((r 15), .inl (cL, 64, .inr (.inl an)))] s.heap.size = A at hD hC ⊢
  have hA : ∀ q : Nat, s.heap.size ≤ q → A q := fun q h => by rw [← hAe]; exact Or.inr h
  have hS : va_S A s.heap s.heap [] := va_S.rf
  have hK := hC.K
  have hts := hC.ts [.ref (r 0), .int k, .int n, .int mn, .int w, .int rs].toArray
  have hl := lv_entry ([.ref (r 0), .int k, .int n, .int mn, .int w, .int rs]) (n := 9) (Nat.le_of_ble_eq_true rfl)
  rw [lg_entry_eq]
  generalize (lg_sl ([.ref (r 0), .int k, .int n, .int mn, .int w, .int rs]) ++ List.replicate (9 - (lg_sl ([.ref (r 0), .int k, .int n, .int mn, .int w, .int rs])).length) Slot.unset).toArray = ls at hl ⊢
  have hl : lv_has ls 9 [(0, .ref (r 0)), (1, .int k), (2, .int n), (3, .int mn), (4, .int w), (5, .int rs)] := hl
  refine lv_iload_n hx hb kd_R_method_0 rfl (lv_at hl 1 rfl) ?_
  refine lv_aload_n hx hb kd_R_method_1 rfl (lv_at hl 0 rfl) ?_
  refine va_get (D := D) (ci := 7) (v := .int (nI rc)) (C := "HostBridgeModel") (T := ct_R) (N := 23) hx hb hts cw_R hown hK hP 0 rfl rfl 1 (by decide) (hts _ km_622) (fun _ h9 => h9) rfl kd_R_method_2 ?_
  refine hx_callRi (va_runS (As := [.int k, .int (nI rc)]) (rest := []) ⟨hx, hb, hml, hown, hts⟩ (mr_isNo k rc) (va_cwS 2 hts (goodIn_sub (hx_m4 km_700 km_701 km_8 km_702) (by decide +kernel)) rfl rfl rfl (by decide +kernel) ⟨Nat.le_of_ble_eq_true rfl, Nat.le_of_ble_eq_true rfl⟩) (pr_S (hC.S hS) hP [] rfl) rfl rfl hl.1 rfl (lv_room (Nat.le_of_ble_eq_true rfl)) kd_R_method_5 ⟨Nat.le_of_ble_eq_true rfl, Nat.le_of_ble_eq_true rfl⟩) ?_
  refine lv_if_ne (tgt := 44) hx hb kd_R_method_8 (by decide) (fun c_8 => ?_) (fun c_8 => ?_)
  · skip
    refine lv_iconst (v := 1) hx hb kd_R_method_44 (by decide) ?_
    refine lv_goto (tgt := 49) hx hb kd_R_method_45 (by decide) ?_
    refine lv_istore (lv' := [(6, .int 1), (0, .ref (r 0)), (1, .int k), (2, .int n), (3, .int mn), (4, .int w), (5, .int rs)]) hx hb kd_R_method_49 hl (by decide) rfl (fun ls hl => ?_)
    refine lv_iload hx hb kd_R_method_51 (lv_at hl 0 rfl) ?_
    refine lv_if_ne (tgt := 66) hx hb kd_R_method_53 (by decide) (fun c_53 => ?_) (fun c_53 => ?_)
    · skip
      refine lv_iconst (v := 1) hx hb kd_R_method_66 (by decide) ?_
      refine lv_goto (tgt := 71) hx hb kd_R_method_67 (by decide) ?_
      refine lv_istore (lv' := [(6, .int 1), (0, .ref (r 0)), (1, .int k), (2, .int n), (3, .int mn), (4, .int w), (5, .int rs)]) hx hb kd_R_method_71 hl (by decide) rfl (fun ls hl => ?_)
      refine lv_iload hx hb kd_R_method_73 (lv_at hl 0 rfl) ?_
      refine lv_if_ne (tgt := 101) hx hb kd_R_method_75 (by decide) (fun c_75 => ?_) (fun c_75 => ?_)
      · skip
        refine lv_iconst (v := 0) hx hb kd_R_method_101 (by decide) ?_
        refine lv_istore (lv' := [(7, .int 0), (6, .int 1), (0, .ref (r 0)), (1, .int k), (2, .int n), (3, .int mn), (4, .int w), (5, .int rs)]) hx hb kd_R_method_102 hl (by decide) rfl (fun ls hl => ?_)
        refine lv_aload_n hx hb kd_R_method_104 rfl (lv_at hl 2 rfl) ?_
        refine lv_iload hx hb kd_R_method_105 (lv_at hl 1 rfl) ?_
        refine lv_iload hx hb kd_R_method_107 (lv_at hl 0 rfl) ?_
        refine lv_iconst (v := 0) hx hb kd_R_method_109 (by decide) ?_
        refine hx_callWi (va_runV (As := [.int 1, .int 0, .int 0]) (rest := []) ⟨hx, hb, hml, hown, hts⟩ (mr_throwing1 r rc ro rm ra rl rw th gv rp rk ow rn ct rt ki aq cd g1 g2 g3 rb gw an _) (cwV 3 hts (goodIn_sub (hx_m5 km_703 km_705 kv_R_throwing km_8 km_706) (by decide +kernel)) rfl rfl rfl (by decide +kernel) ⟨Nat.le_of_ble_eq_true rfl, Nat.le_of_ble_eq_true rfl⟩) (pw_V (hC.S hS) hP hD hS hA [0] (by decide) rfl (ci := 7) rfl (q0 := 0) rfl) rfl rfl hl.1 rfl (lv_room (Nat.le_of_ble_eq_true rfl)) kd_R_method_110 ⟨Nat.le_of_ble_eq_true rfl, Nat.le_of_ble_eq_true rfl⟩) hP hD hS hA [0] rfl rfl (fun H locs hP hD hS hF => ?_)
        have hP : va_P D cl_all [((r 0), .inr (7, [.int 1, .int (nI rc), .ref (r 1), .int (nI ro), .ref (r 2), .int (nI rm), .ref (r 3), .ref (r 4), .ref (r 5), .ref (r 6), .int (nI ra), .ref (r 7), .ref (r 8), .ref (r 9), .ref (r 10), .int (nI rl), .ref (r 11), .ref (r 12), .ref (r 13), .ref (r 14), .int (nI rw), .ref (r 15), .long gv])), ((r 1), .inl (cI, 16, .inl rp)), ((r 2), .inl (cI, 64, .inl rk)), ((r 3), .inl (cI, 64, .inl ow)), ((r 4), .inl (cI, 64, .inl rn)), ((r 5), .inl (cI, 64, .inl ct)), ((r 6), .inl (cI, 256, .inl rt)), ((r 7), .inl (cI, 4, .inl ki)), ((r 8), .inl (cL, 4, .inr (.inl rb))), ((r 9), .inl (cI, 4, .inl aq)), ((r 10), .inl (cZ, 64, .inl cd)), ((r 11), .inl (cI, 64, .inl g1)), ((r 12), .inl (cI, 64, .inl g2)), ((r 13), .inl (cI, 64, .inl g3)), ((r 14), .inl (cL, 256, .inr (.inl gw))), ((r 15), .inl (cL, 64, .inr (.inl an)))] H := hP
        have hD : va_D A [((r 0), .inr (7, [.int 1, .int (nI rc), .ref (r 1), .int (nI ro), .ref (r 2), .int (nI rm), .ref (r 3), .ref (r 4), .ref (r 5), .ref (r 6), .int (nI ra), .ref (r 7), .ref (r 8), .ref (r 9), .ref (r 10), .int (nI rl), .ref (r 11), .ref (r 12), .ref (r 13), .ref (r 14), .int (nI rw), .ref (r 15), .long gv])), ((r 1), .inl (cI, 16, .inl rp)), ((r 2), .inl (cI, 64, .inl rk)), ((r 3), .inl (cI, 64, .inl ow)), ((r 4), .inl (cI, 64, .inl rn)), ((r 5), .inl (cI, 64, .inl ct)), ((r 6), .inl (cI, 256, .inl rt)), ((r 7), .inl (cI, 4, .inl ki)), ((r 8), .inl (cL, 4, .inr (.inl rb))), ((r 9), .inl (cI, 4, .inl aq)), ((r 10), .inl (cZ, 64, .inl cd)), ((r 11), .inl (cI, 64, .inl g1)), ((r 12), .inl (cI, 64, .inl g2)), ((r 13), .inl (cI, 64, .inl g3)), ((r 14), .inl (cL, 256, .inr (.inl gw))), ((r 15), .inl (cL, 64, .inr (.inl an)))] := hD
        refine hx_topi (y := 1) (rfl) ?_
        refine lv_if_eq (tgt := 118) hx hb kd_R_method_113 (by decide) (fun c_113 => ?_) (fun c_113 => ?_)
        · exact absurd c_113 (by decide)
        · skip
          refine lv_iconst (v := 0) hx hb kd_R_method_116 (by decide) ?_
          exact hx_iretW hx hb hr hlocks (rfl) (hP) hS kd_R_method_117
      · exact absurd c_75 (by decide)
    · exact absurd c_53 (by decide)
  · skip
    refine lv_iload_n hx hb kd_R_method_11 rfl (lv_at hl 2 rfl) ?_
    refine lv_sipush (v := 1000) hx hb kd_R_method_12 (by decide) ?_
    refine hx_topi (y := nI 1000) (by decide) ?_
    refine hx_callRi (va_runS (As := [.int n, .int (nI 1000)]) (rest := []) ⟨hx, hb, hml, hown, hts⟩ (mr_isNo n 1000) (va_cwS 2 hts (goodIn_sub (hx_m4 km_700 km_701 km_8 km_702) (by decide +kernel)) rfl rfl rfl (by decide +kernel) ⟨Nat.le_of_ble_eq_true rfl, Nat.le_of_ble_eq_true rfl⟩) (pr_S (hC.S hS) hP [] rfl) rfl rfl hl.1 rfl (lv_room (Nat.le_of_ble_eq_true rfl)) kd_R_method_15 ⟨Nat.le_of_ble_eq_true rfl, Nat.le_of_ble_eq_true rfl⟩) ?_
    refine lv_if_ne (tgt := 44) hx hb kd_R_method_18 (by decide) (fun c_18 => ?_) (fun c_18 => ?_)
    · skip
      refine lv_iconst (v := 1) hx hb kd_R_method_44 (by decide) ?_
      refine lv_goto (tgt := 49) hx hb kd_R_method_45 (by decide) ?_
      refine lv_istore (lv' := [(6, .int 1), (0, .ref (r 0)), (1, .int k), (2, .int n), (3, .int mn), (4, .int w), (5, .int rs)]) hx hb kd_R_method_49 hl (by decide) rfl (fun ls hl => ?_)
      refine lv_iload hx hb kd_R_method_51 (lv_at hl 0 rfl) ?_
      refine lv_if_ne (tgt := 66) hx hb kd_R_method_53 (by decide) (fun c_53 => ?_) (fun c_53 => ?_)
      · skip
        refine lv_iconst (v := 1) hx hb kd_R_method_66 (by decide) ?_
        refine lv_goto (tgt := 71) hx hb kd_R_method_67 (by decide) ?_
        refine lv_istore (lv' := [(6, .int 1), (0, .ref (r 0)), (1, .int k), (2, .int n), (3, .int mn), (4, .int w), (5, .int rs)]) hx hb kd_R_method_71 hl (by decide) rfl (fun ls hl => ?_)
        refine lv_iload hx hb kd_R_method_73 (lv_at hl 0 rfl) ?_
        refine lv_if_ne (tgt := 101) hx hb kd_R_method_75 (by decide) (fun c_75 => ?_) (fun c_75 => ?_)
        · skip
          refine lv_iconst (v := 0) hx hb kd_R_method_101 (by decide) ?_
          refine lv_istore (lv' := [(7, .int 0), (6, .int 1), (0, .ref (r 0)), (1, .int k), (2, .int n), (3, .int mn), (4, .int w), (5, .int rs)]) hx hb kd_R_method_102 hl (by decide) rfl (fun ls hl => ?_)
          refine lv_aload_n hx hb kd_R_method_104 rfl (lv_at hl 2 rfl) ?_
          refine lv_iload hx hb kd_R_method_105 (lv_at hl 1 rfl) ?_
          refine lv_iload hx hb kd_R_method_107 (lv_at hl 0 rfl) ?_
          refine lv_iconst (v := 0) hx hb kd_R_method_109 (by decide) ?_
          refine hx_callWi (va_runV (As := [.int 1, .int 0, .int 0]) (rest := []) ⟨hx, hb, hml, hown, hts⟩ (mr_throwing1 r rc ro rm ra rl rw th gv rp rk ow rn ct rt ki aq cd g1 g2 g3 rb gw an _) (cwV 3 hts (goodIn_sub (hx_m5 km_703 km_705 kv_R_throwing km_8 km_706) (by decide +kernel)) rfl rfl rfl (by decide +kernel) ⟨Nat.le_of_ble_eq_true rfl, Nat.le_of_ble_eq_true rfl⟩) (pw_V (hC.S hS) hP hD hS hA [0] (by decide) rfl (ci := 7) rfl (q0 := 0) rfl) rfl rfl hl.1 rfl (lv_room (Nat.le_of_ble_eq_true rfl)) kd_R_method_110 ⟨Nat.le_of_ble_eq_true rfl, Nat.le_of_ble_eq_true rfl⟩) hP hD hS hA [0] rfl rfl (fun H locs hP hD hS hF => ?_)
          have hP : va_P D cl_all [((r 0), .inr (7, [.int 1, .int (nI rc), .ref (r 1), .int (nI ro), .ref (r 2), .int (nI rm), .ref (r 3), .ref (r 4), .ref (r 5), .ref (r 6), .int (nI ra), .ref (r 7), .ref (r 8), .ref (r 9), .ref (r 10), .int (nI rl), .ref (r 11), .ref (r 12), .ref (r 13), .ref (r 14), .int (nI rw), .ref (r 15), .long gv])), ((r 1), .inl (cI, 16, .inl rp)), ((r 2), .inl (cI, 64, .inl rk)), ((r 3), .inl (cI, 64, .inl ow)), ((r 4), .inl (cI, 64, .inl rn)), ((r 5), .inl (cI, 64, .inl ct)), ((r 6), .inl (cI, 256, .inl rt)), ((r 7), .inl (cI, 4, .inl ki)), ((r 8), .inl (cL, 4, .inr (.inl rb))), ((r 9), .inl (cI, 4, .inl aq)), ((r 10), .inl (cZ, 64, .inl cd)), ((r 11), .inl (cI, 64, .inl g1)), ((r 12), .inl (cI, 64, .inl g2)), ((r 13), .inl (cI, 64, .inl g3)), ((r 14), .inl (cL, 256, .inr (.inl gw))), ((r 15), .inl (cL, 64, .inr (.inl an)))] H := hP
          have hD : va_D A [((r 0), .inr (7, [.int 1, .int (nI rc), .ref (r 1), .int (nI ro), .ref (r 2), .int (nI rm), .ref (r 3), .ref (r 4), .ref (r 5), .ref (r 6), .int (nI ra), .ref (r 7), .ref (r 8), .ref (r 9), .ref (r 10), .int (nI rl), .ref (r 11), .ref (r 12), .ref (r 13), .ref (r 14), .int (nI rw), .ref (r 15), .long gv])), ((r 1), .inl (cI, 16, .inl rp)), ((r 2), .inl (cI, 64, .inl rk)), ((r 3), .inl (cI, 64, .inl ow)), ((r 4), .inl (cI, 64, .inl rn)), ((r 5), .inl (cI, 64, .inl ct)), ((r 6), .inl (cI, 256, .inl rt)), ((r 7), .inl (cI, 4, .inl ki)), ((r 8), .inl (cL, 4, .inr (.inl rb))), ((r 9), .inl (cI, 4, .inl aq)), ((r 10), .inl (cZ, 64, .inl cd)), ((r 11), .inl (cI, 64, .inl g1)), ((r 12), .inl (cI, 64, .inl g2)), ((r 13), .inl (cI, 64, .inl g3)), ((r 14), .inl (cL, 256, .inr (.inl gw))), ((r 15), .inl (cL, 64, .inr (.inl an)))] := hD
          refine hx_topi (y := 1) (rfl) ?_
          refine lv_if_eq (tgt := 118) hx hb kd_R_method_113 (by decide) (fun c_113 => ?_) (fun c_113 => ?_)
          · exact absurd c_113 (by decide)
          · skip
            refine lv_iconst (v := 0) hx hb kd_R_method_116 (by decide) ?_
            exact hx_iretW hx hb hr hlocks (rfl) (hP) hS kd_R_method_117
        · exact absurd c_75 (by decide)
      · exact absurd c_53 (by decide)
    · skip
      refine lv_iload_n hx hb kd_R_method_21 rfl (lv_at hl 3 rfl) ?_
      refine lv_iconst (v := 5) hx hb kd_R_method_22 (by decide) ?_
      refine hx_topi (y := nI 5) (by decide) ?_
      refine hx_callRi (va_runS (As := [.int mn, .int (nI 5)]) (rest := []) ⟨hx, hb, hml, hown, hts⟩ (mr_isNo mn 5) (va_cwS 2 hts (goodIn_sub (hx_m4 km_700 km_701 km_8 km_702) (by decide +kernel)) rfl rfl rfl (by decide +kernel) ⟨Nat.le_of_ble_eq_true rfl, Nat.le_of_ble_eq_true rfl⟩) (pr_S (hC.S hS) hP [] rfl) rfl rfl hl.1 rfl (lv_room (Nat.le_of_ble_eq_true rfl)) kd_R_method_23 ⟨Nat.le_of_ble_eq_true rfl, Nat.le_of_ble_eq_true rfl⟩) ?_
      refine lv_if_ne (tgt := 44) hx hb kd_R_method_26 (by decide) (fun c_26 => ?_) (fun c_26 => ?_)
      · skip
        refine lv_iconst (v := 1) hx hb kd_R_method_44 (by decide) ?_
        refine lv_goto (tgt := 49) hx hb kd_R_method_45 (by decide) ?_
        refine lv_istore (lv' := [(6, .int 1), (0, .ref (r 0)), (1, .int k), (2, .int n), (3, .int mn), (4, .int w), (5, .int rs)]) hx hb kd_R_method_49 hl (by decide) rfl (fun ls hl => ?_)
        refine lv_iload hx hb kd_R_method_51 (lv_at hl 0 rfl) ?_
        refine lv_if_ne (tgt := 66) hx hb kd_R_method_53 (by decide) (fun c_53 => ?_) (fun c_53 => ?_)
        · skip
          refine lv_iconst (v := 1) hx hb kd_R_method_66 (by decide) ?_
          refine lv_goto (tgt := 71) hx hb kd_R_method_67 (by decide) ?_
          refine lv_istore (lv' := [(6, .int 1), (0, .ref (r 0)), (1, .int k), (2, .int n), (3, .int mn), (4, .int w), (5, .int rs)]) hx hb kd_R_method_71 hl (by decide) rfl (fun ls hl => ?_)
          refine lv_iload hx hb kd_R_method_73 (lv_at hl 0 rfl) ?_
          refine lv_if_ne (tgt := 101) hx hb kd_R_method_75 (by decide) (fun c_75 => ?_) (fun c_75 => ?_)
          · skip
            refine lv_iconst (v := 0) hx hb kd_R_method_101 (by decide) ?_
            refine lv_istore (lv' := [(7, .int 0), (6, .int 1), (0, .ref (r 0)), (1, .int k), (2, .int n), (3, .int mn), (4, .int w), (5, .int rs)]) hx hb kd_R_method_102 hl (by decide) rfl (fun ls hl => ?_)
            refine lv_aload_n hx hb kd_R_method_104 rfl (lv_at hl 2 rfl) ?_
            refine lv_iload hx hb kd_R_method_105 (lv_at hl 1 rfl) ?_
            refine lv_iload hx hb kd_R_method_107 (lv_at hl 0 rfl) ?_
            refine lv_iconst (v := 0) hx hb kd_R_method_109 (by decide) ?_
            refine hx_callWi (va_runV (As := [.int 1, .int 0, .int 0]) (rest := []) ⟨hx, hb, hml, hown, hts⟩ (mr_throwing1 r rc ro rm ra rl rw th gv rp rk ow rn ct rt ki aq cd g1 g2 g3 rb gw an _) (cwV 3 hts (goodIn_sub (hx_m5 km_703 km_705 kv_R_throwing km_8 km_706) (by decide +kernel)) rfl rfl rfl (by decide +kernel) ⟨Nat.le_of_ble_eq_true rfl, Nat.le_of_ble_eq_true rfl⟩) (pw_V (hC.S hS) hP hD hS hA [0] (by decide) rfl (ci := 7) rfl (q0 := 0) rfl) rfl rfl hl.1 rfl (lv_room (Nat.le_of_ble_eq_true rfl)) kd_R_method_110 ⟨Nat.le_of_ble_eq_true rfl, Nat.le_of_ble_eq_true rfl⟩) hP hD hS hA [0] rfl rfl (fun H locs hP hD hS hF => ?_)
            have hP : va_P D cl_all [((r 0), .inr (7, [.int 1, .int (nI rc), .ref (r 1), .int (nI ro), .ref (r 2), .int (nI rm), .ref (r 3), .ref (r 4), .ref (r 5), .ref (r 6), .int (nI ra), .ref (r 7), .ref (r 8), .ref (r 9), .ref (r 10), .int (nI rl), .ref (r 11), .ref (r 12), .ref (r 13), .ref (r 14), .int (nI rw), .ref (r 15), .long gv])), ((r 1), .inl (cI, 16, .inl rp)), ((r 2), .inl (cI, 64, .inl rk)), ((r 3), .inl (cI, 64, .inl ow)), ((r 4), .inl (cI, 64, .inl rn)), ((r 5), .inl (cI, 64, .inl ct)), ((r 6), .inl (cI, 256, .inl rt)), ((r 7), .inl (cI, 4, .inl ki)), ((r 8), .inl (cL, 4, .inr (.inl rb))), ((r 9), .inl (cI, 4, .inl aq)), ((r 10), .inl (cZ, 64, .inl cd)), ((r 11), .inl (cI, 64, .inl g1)), ((r 12), .inl (cI, 64, .inl g2)), ((r 13), .inl (cI, 64, .inl g3)), ((r 14), .inl (cL, 256, .inr (.inl gw))), ((r 15), .inl (cL, 64, .inr (.inl an)))] H := hP
            have hD : va_D A [((r 0), .inr (7, [.int 1, .int (nI rc), .ref (r 1), .int (nI ro), .ref (r 2), .int (nI rm), .ref (r 3), .ref (r 4), .ref (r 5), .ref (r 6), .int (nI ra), .ref (r 7), .ref (r 8), .ref (r 9), .ref (r 10), .int (nI rl), .ref (r 11), .ref (r 12), .ref (r 13), .ref (r 14), .int (nI rw), .ref (r 15), .long gv])), ((r 1), .inl (cI, 16, .inl rp)), ((r 2), .inl (cI, 64, .inl rk)), ((r 3), .inl (cI, 64, .inl ow)), ((r 4), .inl (cI, 64, .inl rn)), ((r 5), .inl (cI, 64, .inl ct)), ((r 6), .inl (cI, 256, .inl rt)), ((r 7), .inl (cI, 4, .inl ki)), ((r 8), .inl (cL, 4, .inr (.inl rb))), ((r 9), .inl (cI, 4, .inl aq)), ((r 10), .inl (cZ, 64, .inl cd)), ((r 11), .inl (cI, 64, .inl g1)), ((r 12), .inl (cI, 64, .inl g2)), ((r 13), .inl (cI, 64, .inl g3)), ((r 14), .inl (cL, 256, .inr (.inl gw))), ((r 15), .inl (cL, 64, .inr (.inl an)))] := hD
            refine hx_topi (y := 1) (rfl) ?_
            refine lv_if_eq (tgt := 118) hx hb kd_R_method_113 (by decide) (fun c_113 => ?_) (fun c_113 => ?_)
            · exact absurd c_113 (by decide)
            · skip
              refine lv_iconst (v := 0) hx hb kd_R_method_116 (by decide) ?_
              exact hx_iretW hx hb hr hlocks (rfl) (hP) hS kd_R_method_117
          · exact absurd c_75 (by decide)
        · exact absurd c_53 (by decide)
      · skip
        refine lv_iload hx hb kd_R_method_29 (lv_at hl 5 rfl) ?_
        refine lv_bipush (v := 6) hx hb kd_R_method_31 (by decide) ?_
        refine lv_aload_n hx hb kd_R_method_33 rfl (lv_at hl 0 rfl) ?_
        refine va_get (D := D) (ci := 7) (v := .int (nI rc)) (C := "HostBridgeModel") (T := ct_R) (N := 23) hx hb hts cw_R hown hK hP 0 rfl rfl 1 (by decide) (hts _ km_622) (fun _ h9 => h9) rfl kd_R_method_34 ?_
        refine lv_iadd hx hb kd_R_method_37 ?_
        refine hx_topi (y := nI (6 + rc)) (by rw [show (6 : Int32) = nI 6 from rfl, nI_add]) ?_
        refine hx_callRi (va_runS (As := [.int rs, .int (nI (6 + rc))]) (rest := []) ⟨hx, hb, hml, hown, hts⟩ (mr_isNo rs (6 + rc)) (va_cwS 2 hts (goodIn_sub (hx_m4 km_700 km_701 km_8 km_702) (by decide +kernel)) rfl rfl rfl (by decide +kernel) ⟨Nat.le_of_ble_eq_true rfl, Nat.le_of_ble_eq_true rfl⟩) (pr_S (hC.S hS) hP [] rfl) rfl rfl hl.1 rfl (lv_room (Nat.le_of_ble_eq_true rfl)) kd_R_method_38 ⟨Nat.le_of_ble_eq_true rfl, Nat.le_of_ble_eq_true rfl⟩) ?_
        refine lv_if_eq (tgt := 48) hx hb kd_R_method_41 (by decide) (fun c_41 => ?_) (fun c_41 => ?_)
        · exact absurd hf (by rw [show fb_in k rc = true by simpa using b2_f c_8, show fb_in n 1000 = true by simpa using b2_f c_18, show fb_in mn 5 = true by simpa using b2_f c_26, show fb_in rs (6 + rc) = true by simpa using b2_f c_41]; decide)
        · skip
          refine lv_iconst (v := 1) hx hb kd_R_method_44 (by decide) ?_
          refine lv_goto (tgt := 49) hx hb kd_R_method_45 (by decide) ?_
          refine lv_istore (lv' := [(6, .int 1), (0, .ref (r 0)), (1, .int k), (2, .int n), (3, .int mn), (4, .int w), (5, .int rs)]) hx hb kd_R_method_49 hl (by decide) rfl (fun ls hl => ?_)
          refine lv_iload hx hb kd_R_method_51 (lv_at hl 0 rfl) ?_
          refine lv_if_ne (tgt := 66) hx hb kd_R_method_53 (by decide) (fun c_53 => ?_) (fun c_53 => ?_)
          · skip
            refine lv_iconst (v := 1) hx hb kd_R_method_66 (by decide) ?_
            refine lv_goto (tgt := 71) hx hb kd_R_method_67 (by decide) ?_
            refine lv_istore (lv' := [(6, .int 1), (0, .ref (r 0)), (1, .int k), (2, .int n), (3, .int mn), (4, .int w), (5, .int rs)]) hx hb kd_R_method_71 hl (by decide) rfl (fun ls hl => ?_)
            refine lv_iload hx hb kd_R_method_73 (lv_at hl 0 rfl) ?_
            refine lv_if_ne (tgt := 101) hx hb kd_R_method_75 (by decide) (fun c_75 => ?_) (fun c_75 => ?_)
            · skip
              refine lv_iconst (v := 0) hx hb kd_R_method_101 (by decide) ?_
              refine lv_istore (lv' := [(7, .int 0), (6, .int 1), (0, .ref (r 0)), (1, .int k), (2, .int n), (3, .int mn), (4, .int w), (5, .int rs)]) hx hb kd_R_method_102 hl (by decide) rfl (fun ls hl => ?_)
              refine lv_aload_n hx hb kd_R_method_104 rfl (lv_at hl 2 rfl) ?_
              refine lv_iload hx hb kd_R_method_105 (lv_at hl 1 rfl) ?_
              refine lv_iload hx hb kd_R_method_107 (lv_at hl 0 rfl) ?_
              refine lv_iconst (v := 0) hx hb kd_R_method_109 (by decide) ?_
              refine hx_callWi (va_runV (As := [.int 1, .int 0, .int 0]) (rest := []) ⟨hx, hb, hml, hown, hts⟩ (mr_throwing1 r rc ro rm ra rl rw th gv rp rk ow rn ct rt ki aq cd g1 g2 g3 rb gw an _) (cwV 3 hts (goodIn_sub (hx_m5 km_703 km_705 kv_R_throwing km_8 km_706) (by decide +kernel)) rfl rfl rfl (by decide +kernel) ⟨Nat.le_of_ble_eq_true rfl, Nat.le_of_ble_eq_true rfl⟩) (pw_V (hC.S hS) hP hD hS hA [0] (by decide) rfl (ci := 7) rfl (q0 := 0) rfl) rfl rfl hl.1 rfl (lv_room (Nat.le_of_ble_eq_true rfl)) kd_R_method_110 ⟨Nat.le_of_ble_eq_true rfl, Nat.le_of_ble_eq_true rfl⟩) hP hD hS hA [0] rfl rfl (fun H locs hP hD hS hF => ?_)
              have hP : va_P D cl_all [((r 0), .inr (7, [.int 1, .int (nI rc), .ref (r 1), .int (nI ro), .ref (r 2), .int (nI rm), .ref (r 3), .ref (r 4), .ref (r 5), .ref (r 6), .int (nI ra), .ref (r 7), .ref (r 8), .ref (r 9), .ref (r 10), .int (nI rl), .ref (r 11), .ref (r 12), .ref (r 13), .ref (r 14), .int (nI rw), .ref (r 15), .long gv])), ((r 1), .inl (cI, 16, .inl rp)), ((r 2), .inl (cI, 64, .inl rk)), ((r 3), .inl (cI, 64, .inl ow)), ((r 4), .inl (cI, 64, .inl rn)), ((r 5), .inl (cI, 64, .inl ct)), ((r 6), .inl (cI, 256, .inl rt)), ((r 7), .inl (cI, 4, .inl ki)), ((r 8), .inl (cL, 4, .inr (.inl rb))), ((r 9), .inl (cI, 4, .inl aq)), ((r 10), .inl (cZ, 64, .inl cd)), ((r 11), .inl (cI, 64, .inl g1)), ((r 12), .inl (cI, 64, .inl g2)), ((r 13), .inl (cI, 64, .inl g3)), ((r 14), .inl (cL, 256, .inr (.inl gw))), ((r 15), .inl (cL, 64, .inr (.inl an)))] H := hP
              have hD : va_D A [((r 0), .inr (7, [.int 1, .int (nI rc), .ref (r 1), .int (nI ro), .ref (r 2), .int (nI rm), .ref (r 3), .ref (r 4), .ref (r 5), .ref (r 6), .int (nI ra), .ref (r 7), .ref (r 8), .ref (r 9), .ref (r 10), .int (nI rl), .ref (r 11), .ref (r 12), .ref (r 13), .ref (r 14), .int (nI rw), .ref (r 15), .long gv])), ((r 1), .inl (cI, 16, .inl rp)), ((r 2), .inl (cI, 64, .inl rk)), ((r 3), .inl (cI, 64, .inl ow)), ((r 4), .inl (cI, 64, .inl rn)), ((r 5), .inl (cI, 64, .inl ct)), ((r 6), .inl (cI, 256, .inl rt)), ((r 7), .inl (cI, 4, .inl ki)), ((r 8), .inl (cL, 4, .inr (.inl rb))), ((r 9), .inl (cI, 4, .inl aq)), ((r 10), .inl (cZ, 64, .inl cd)), ((r 11), .inl (cI, 64, .inl g1)), ((r 12), .inl (cI, 64, .inl g2)), ((r 13), .inl (cI, 64, .inl g3)), ((r 14), .inl (cL, 256, .inr (.inl gw))), ((r 15), .inl (cL, 64, .inr (.inl an)))] := hD
              refine hx_topi (y := 1) (rfl) ?_
              refine lv_if_eq (tgt := 118) hx hb kd_R_method_113 (by decide) (fun c_113 => ?_) (fun c_113 => ?_)
              · exact absurd c_113 (by decide)
              · skip
                refine lv_iconst (v := 0) hx hb kd_R_method_116 (by decide) ?_
                exact hx_iretW hx hb hr hlocks (rfl) (hP) hS kd_R_method_117
            · exact absurd c_75 (by decide)
          · exact absurd c_53 (by decide)

set_option maxHeartbeats 4000000 in
set_option maxRecDepth 100000 in
theorem mr_method1b {l : Launch} {D : va_G} {cI cL cZ : ClassId} {tb : Nat} (r : Nat → Nat) (rc ro rm ra rl rw : Nat) (th : Int32) (gv : Int64) (rp rk ow rn ct rt ki aq cd g1 g2 g3 : Nat → Int32) (rb gw an : Nat → Int64) (k n : Int32) (N : Nat) (w rs : Int32) (hc : fb_in k rc = true) (hn1 : fb_in n 1000 = true) (hN : N ≤ 4) (hr1 : fb_in rs (6 + rc) = true) (hrc : rc ≤ 16) (hrm : rm ≤ 64) (ht : ty_ok rc w N = false) (sz : Nat) : Met l ky_R_method kw_R_method { frames := 1, cells := 0, slots := 0, locals := 26 } (pw_P D cI cL cZ tb [((r 0), .inr (7, [.int th, .int (nI rc), .ref (r 1), .int (nI ro), .ref (r 2), .int (nI rm), .ref (r 3), .ref (r 4), .ref (r 5), .ref (r 6), .int (nI ra), .ref (r 7), .ref (r 8), .ref (r 9), .ref (r 10), .int (nI rl), .ref (r 11), .ref (r 12), .ref (r 13), .ref (r 14), .int (nI rw), .ref (r 15), .long gv])), ((r 1), .inl (cI, 16, .inl rp)), ((r 2), .inl (cI, 64, .inl rk)), ((r 3), .inl (cI, 64, .inl ow)), ((r 4), .inl (cI, 64, .inl rn)), ((r 5), .inl (cI, 64, .inl ct)), ((r 6), .inl (cI, 256, .inl rt)), ((r 7), .inl (cI, 4, .inl ki)), ((r 8), .inl (cL, 4, .inr (.inl rb))), ((r 9), .inl (cI, 4, .inl aq)), ((r 10), .inl (cZ, 64, .inl cd)), ((r 11), .inl (cI, 64, .inl g1)), ((r 12), .inl (cI, 64, .inl g2)), ((r 13), .inl (cI, 64, .inl g3)), ((r 14), .inl (cL, 256, .inr (.inl gw))), ((r 15), .inl (cL, 64, .inr (.inl an)))] sz [.ref (r 0), .int k, .int n, .int (nI N), .int w, .int rs]) (hx_QW D (some (.int 0)) [((r 0), .inr (7, [.int 1, .int (nI rc), .ref (r 1), .int (nI ro), .ref (r 2), .int (nI rm), .ref (r 3), .ref (r 4), .ref (r 5), .ref (r 6), .int (nI ra), .ref (r 7), .ref (r 8), .ref (r 9), .ref (r 10), .int (nI rl), .ref (r 11), .ref (r 12), .ref (r 13), .ref (r 14), .int (nI rw), .ref (r 15), .long gv])), ((r 1), .inl (cI, 16, .inl rp)), ((r 2), .inl (cI, 64, .inl rk)), ((r 3), .inl (cI, 64, .inl ow)), ((r 4), .inl (cI, 64, .inl rn)), ((r 5), .inl (cI, 64, .inl ct)), ((r 6), .inl (cI, 256, .inl rt)), ((r 7), .inl (cI, 4, .inl ki)), ((r 8), .inl (cL, 4, .inr (.inl rb))), ((r 9), .inl (cI, 4, .inl (lf_ (as_ w N) aq N))), ((r 10), .inl (cZ, 64, .inl cd)), ((r 11), .inl (cI, 64, .inl g1)), ((r 12), .inl (cI, 64, .inl g2)), ((r 13), .inl (cI, 64, .inl g3)), ((r 14), .inl (cL, 256, .inr (.inl gw))), ((r 15), .inl (cL, 64, .inr (.inl an)))] (va_A [((r 0), .inr (7, [.int th, .int (nI rc), .ref (r 1), .int (nI ro), .ref (r 2), .int (nI rm), .ref (r 3), .ref (r 4), .ref (r 5), .ref (r 6), .int (nI ra), .ref (r 7), .ref (r 8), .ref (r 9), .ref (r 10), .int (nI rl), .ref (r 11), .ref (r 12), .ref (r 13), .ref (r 14), .int (nI rw), .ref (r 15), .long gv])), ((r 1), .inl (cI, 16, .inl rp)), ((r 2), .inl (cI, 64, .inl rk)), ((r 3), .inl (cI, 64, .inl ow)), ((r 4), .inl (cI, 64, .inl rn)), ((r 5), .inl (cI, 64, .inl ct)), ((r 6), .inl (cI, 256, .inl rt)), ((r 7), .inl (cI, 4, .inl ki)), ((r 8), .inl (cL, 4, .inr (.inl rb))), ((r 9), .inl (cI, 4, .inl aq)), ((r 10), .inl (cZ, 64, .inl cd)), ((r 11), .inl (cI, 64, .inl g1)), ((r 12), .inl (cI, 64, .inl g2)), ((r 13), .inl (cI, 64, .inl g3)), ((r 14), .inl (cL, 256, .inr (.inl gw))), ((r 15), .inl (cL, 64, .inr (.inl an)))] sz)) 0 0 (va_A [((r 0), .inr (7, [.int th, .int (nI rc), .ref (r 1), .int (nI ro), .ref (r 2), .int (nI rm), .ref (r 3), .ref (r 4), .ref (r 5), .ref (r 6), .int (nI ra), .ref (r 7), .ref (r 8), .ref (r 9), .ref (r 10), .int (nI rl), .ref (r 11), .ref (r 12), .ref (r 13), .ref (r 14), .int (nI rw), .ref (r 15), .long gv])), ((r 1), .inl (cI, 16, .inl rp)), ((r 2), .inl (cI, 64, .inl rk)), ((r 3), .inl (cI, 64, .inl ow)), ((r 4), .inl (cI, 64, .inl rn)), ((r 5), .inl (cI, 64, .inl ct)), ((r 6), .inl (cI, 256, .inl rt)), ((r 7), .inl (cI, 4, .inl ki)), ((r 8), .inl (cL, 4, .inr (.inl rb))), ((r 9), .inl (cI, 4, .inl aq)), ((r 10), .inl (cZ, 64, .inl cd)), ((r 11), .inl (cI, 64, .inl g1)), ((r 12), .inl (cI, 64, .inl g2)), ((r 13), .inl (cI, 64, .inl g3)), ((r 14), .inl (cL, 256, .inr (.inl gw))), ((r 15), .inl (cL, 64, .inr (.inl an)))] sz) := by
  refine Met.ofW (cc := kc_R_method) (maxL := 9) (ret := (some .int)) (by decide) rfl ?_
  intro p e s m args below meth c s₁ B hml hv
  obtain ⟨rfl, hsz, hC, hP, hD0⟩ := hv
  have hx := B.exec
  have hb := B.bytes
  have hr := B.returns
  have hlocks := B.notSynchronized
  have hown : s.vm.findClass "HostBridgeModel" = some m.cls := findClass_of_methodNamed B.named
  subst hsz
  have hD := hD0.self (sz := s.heap.size)
  generalize hAe : va_A [((r 0), .inr (7, [.int th, .int (nI rc), .ref (r 1), .int (nI ro), .ref (r 2), .int (nI rm), .ref (r 3), .ref (r 4), .ref (r 5), .ref (r 6), .int (nI ra), .ref (r 7), .ref (r 8), .ref (r 9), .ref (r 10), .int (nI rl), .ref (r 11), .ref (r 12), .ref (r 13), .ref (r 14), .int (nI rw), .ref (r 15), .long gv])), ((r 1), .inl (cI, 16, .inl rp)), ((r 2), .inl (cI, 64, .inl rk)), ((r 3), .inl (cI, 64, .inl ow)), ((r 4), .inl (cI, 64, .inl rn)), ((r 5), .inl (cI, 64, .inl ct)), ((r 6), .inl (cI, 256, .inl rt)), ((r 7), .inl (cI, 4, .inl ki)), ((r 8), .inl (cL, 4, .inr (.inl rb))), ((r 9), .inl (cI, 4, .inl aq)), ((r 10), .inl (cZ, 64, .inl cd)), ((r 11), .inl (cI, 64, .inl g1)), ((r 12), .inl (cI, 64, .inl g2)), ((r 13), .inl (cI, 64, .inl g3)), ((r 14), .inl (cL, 256, .inr (.inl gw))), ((r 15), .inl (cL, 64, .inr (.inl an)))] s.heap.size = A at hD hC ⊢
  have hA : ∀ q : Nat, s.heap.size ≤ q → A q := fun q h => by rw [← hAe]; exact Or.inr h
  have hS : va_S A s.heap s.heap [] := va_S.rf
  have hK := hC.K
  have hts := hC.ts [.ref (r 0), .int k, .int n, .int (nI N), .int w, .int rs].toArray
  have hl := lv_entry ([.ref (r 0), .int k, .int n, .int (nI N), .int w, .int rs]) (n := 9) (Nat.le_of_ble_eq_true rfl)
  rw [lg_entry_eq]
  generalize (lg_sl ([.ref (r 0), .int k, .int n, .int (nI N), .int w, .int rs]) ++ List.replicate (9 - (lg_sl ([.ref (r 0), .int k, .int n, .int (nI N), .int w, .int rs])).length) Slot.unset).toArray = ls at hl ⊢
  have hl : lv_has ls 9 [(0, .ref (r 0)), (1, .int k), (2, .int n), (3, .int (nI N)), (4, .int w), (5, .int rs)] := hl
  refine lv_iload_n hx hb kd_R_method_0 rfl (lv_at hl 1 rfl) ?_
  refine lv_aload_n hx hb kd_R_method_1 rfl (lv_at hl 0 rfl) ?_
  refine va_get (D := D) (ci := 7) (v := .int (nI rc)) (C := "HostBridgeModel") (T := ct_R) (N := 23) hx hb hts cw_R hown hK hP 0 rfl rfl 1 (by decide) (hts _ km_622) (fun _ h9 => h9) rfl kd_R_method_2 ?_
  refine hx_callRi (va_runS (As := [.int k, .int (nI rc)]) (rest := []) ⟨hx, hb, hml, hown, hts⟩ (mr_isNo k rc) (va_cwS 2 hts (goodIn_sub (hx_m4 km_700 km_701 km_8 km_702) (by decide +kernel)) rfl rfl rfl (by decide +kernel) ⟨Nat.le_of_ble_eq_true rfl, Nat.le_of_ble_eq_true rfl⟩) (pr_S (hC.S hS) hP [] rfl) rfl rfl hl.1 rfl (lv_room (Nat.le_of_ble_eq_true rfl)) kd_R_method_5 ⟨Nat.le_of_ble_eq_true rfl, Nat.le_of_ble_eq_true rfl⟩) ?_
  refine hx_topi (y := 0) (by rw [hc]; rfl) ?_
  refine lv_if_ne (tgt := 44) hx hb kd_R_method_8 (by decide) (fun c_8 => ?_) (fun c_8 => ?_)
  · exact absurd c_8 (not_not_intro rfl)
  · skip
    refine lv_iload_n hx hb kd_R_method_11 rfl (lv_at hl 2 rfl) ?_
    refine lv_sipush (v := 1000) hx hb kd_R_method_12 (by decide) ?_
    refine hx_topi (y := nI 1000) (by decide) ?_
    refine hx_callRi (va_runS (As := [.int n, .int (nI 1000)]) (rest := []) ⟨hx, hb, hml, hown, hts⟩ (mr_isNo n 1000) (va_cwS 2 hts (goodIn_sub (hx_m4 km_700 km_701 km_8 km_702) (by decide +kernel)) rfl rfl rfl (by decide +kernel) ⟨Nat.le_of_ble_eq_true rfl, Nat.le_of_ble_eq_true rfl⟩) (pr_S (hC.S hS) hP [] rfl) rfl rfl hl.1 rfl (lv_room (Nat.le_of_ble_eq_true rfl)) kd_R_method_15 ⟨Nat.le_of_ble_eq_true rfl, Nat.le_of_ble_eq_true rfl⟩) ?_
    refine hx_topi (y := 0) (by rw [hn1]; rfl) ?_
    refine lv_if_ne (tgt := 44) hx hb kd_R_method_18 (by decide) (fun c_18 => ?_) (fun c_18 => ?_)
    · exact absurd c_18 (not_not_intro rfl)
    · skip
      refine lv_iload_n hx hb kd_R_method_21 rfl (lv_at hl 3 rfl) ?_
      refine lv_iconst (v := 5) hx hb kd_R_method_22 (by decide) ?_
      refine hx_topi (y := nI 5) (by decide) ?_
      refine hx_callRi (va_runS (As := [.int (nI N), .int (nI 5)]) (rest := []) ⟨hx, hb, hml, hown, hts⟩ (mr_isNo (nI N) 5) (va_cwS 2 hts (goodIn_sub (hx_m4 km_700 km_701 km_8 km_702) (by decide +kernel)) rfl rfl rfl (by decide +kernel) ⟨Nat.le_of_ble_eq_true rfl, Nat.le_of_ble_eq_true rfl⟩) (pr_S (hC.S hS) hP [] rfl) rfl rfl hl.1 rfl (lv_room (Nat.le_of_ble_eq_true rfl)) kd_R_method_23 ⟨Nat.le_of_ble_eq_true rfl, Nat.le_of_ble_eq_true rfl⟩) ?_
      refine hx_topi (y := 0) (by rw [(fb_in_iff (by decide)).mpr ⟨N, by omega, rfl⟩]; rfl) ?_
      refine lv_if_ne (tgt := 44) hx hb kd_R_method_26 (by decide) (fun c_26 => ?_) (fun c_26 => ?_)
      · exact absurd c_26 (not_not_intro rfl)
      · skip
        refine lv_iload hx hb kd_R_method_29 (lv_at hl 5 rfl) ?_
        refine lv_bipush (v := 6) hx hb kd_R_method_31 (by decide) ?_
        refine lv_aload_n hx hb kd_R_method_33 rfl (lv_at hl 0 rfl) ?_
        refine va_get (D := D) (ci := 7) (v := .int (nI rc)) (C := "HostBridgeModel") (T := ct_R) (N := 23) hx hb hts cw_R hown hK hP 0 rfl rfl 1 (by decide) (hts _ km_622) (fun _ h9 => h9) rfl kd_R_method_34 ?_
        refine lv_iadd hx hb kd_R_method_37 ?_
        refine hx_topi (y := nI (6 + rc)) (by rw [show (6 : Int32) = nI 6 from rfl, nI_add]) ?_
        refine hx_callRi (va_runS (As := [.int rs, .int (nI (6 + rc))]) (rest := []) ⟨hx, hb, hml, hown, hts⟩ (mr_isNo rs (6 + rc)) (va_cwS 2 hts (goodIn_sub (hx_m4 km_700 km_701 km_8 km_702) (by decide +kernel)) rfl rfl rfl (by decide +kernel) ⟨Nat.le_of_ble_eq_true rfl, Nat.le_of_ble_eq_true rfl⟩) (pr_S (hC.S hS) hP [] rfl) rfl rfl hl.1 rfl (lv_room (Nat.le_of_ble_eq_true rfl)) kd_R_method_38 ⟨Nat.le_of_ble_eq_true rfl, Nat.le_of_ble_eq_true rfl⟩) ?_
        refine hx_topi (y := 0) (by rw [hr1]; rfl) ?_
        refine lv_if_eq (tgt := 48) hx hb kd_R_method_41 (by decide) (fun c_41 => ?_) (fun c_41 => ?_)
        · skip
          refine lv_iconst (v := 0) hx hb kd_R_method_48 (by decide) ?_
          refine lv_istore (lv' := [(6, .int 0), (0, .ref (r 0)), (1, .int k), (2, .int n), (3, .int (nI N)), (4, .int w), (5, .int rs)]) hx hb kd_R_method_49 hl (by decide) rfl (fun ls hl => ?_)
          refine lv_iload hx hb kd_R_method_51 (lv_at hl 0 rfl) ?_
          refine lv_if_ne (tgt := 66) hx hb kd_R_method_53 (by decide) (fun c_53 => ?_) (fun c_53 => ?_)
          · exact absurd c_53 (not_not_intro rfl)
          · skip
            refine lv_aload_n hx hb kd_R_method_56 rfl (lv_at hl 1 rfl) ?_
            refine lv_iload_n hx hb kd_R_method_57 rfl (lv_at hl 4 rfl) ?_
            refine lv_iload hx hb kd_R_method_58 (lv_at hl 5 rfl) ?_
            refine hx_callWai (va_runV (As := [.int (nI N), .int w]) (rest := []) ⟨hx, hb, hml, hown, hts⟩ (mr_asks r rc ro rm ra rl rw th gv rp rk ow rn ct rt ki aq cd g1 g2 g3 rb gw an N w hN hrc _) (cwV 2 hts (goodIn_sub (hx_m5 km_711 km_713 kv_R_asks km_8 km_714) (by decide +kernel)) rfl rfl rfl (by decide +kernel) ⟨Nat.le_of_ble_eq_true rfl, Nat.le_of_ble_eq_true rfl⟩) (pw_V (hC.S hS) hP hD hS hA [0, 1, 2, 3, 4, 5, 6, 7, 8, 9, 10, 11, 12, 13, 14, 15] (by decide) rfl (ci := 7) rfl (q0 := 0) rfl) rfl rfl hl.1 rfl (lv_room (Nat.le_of_ble_eq_true rfl)) kd_R_method_60 ⟨Nat.le_of_ble_eq_true rfl, Nat.le_of_ble_eq_true rfl⟩) hP hD hS hA rfl (fun H locs hP hD hS => ?_)
            refine hx_topi (y := 0) (by rw [ht]; rfl) ?_
            refine lv_if_ne (tgt := 70) hx hb kd_R_method_63 (by decide) (fun c_63 => ?_) (fun c_63 => ?_)
            · exact absurd c_63 (not_not_intro rfl)
            · skip
              refine lv_iconst (v := 1) hx hb kd_R_method_66 (by decide) ?_
              refine lv_goto (tgt := 71) hx hb kd_R_method_67 (by decide) ?_
              refine lv_istore (lv' := [(6, .int 1), (0, .ref (r 0)), (1, .int k), (2, .int n), (3, .int (nI N)), (4, .int w), (5, .int rs)]) hx hb kd_R_method_71 hl (by decide) rfl (fun ls hl => ?_)
              refine lv_iload hx hb kd_R_method_73 (lv_at hl 0 rfl) ?_
              refine lv_if_ne (tgt := 101) hx hb kd_R_method_75 (by decide) (fun c_75 => ?_) (fun c_75 => ?_)
              · skip
                refine lv_iconst (v := 0) hx hb kd_R_method_101 (by decide) ?_
                refine lv_istore (lv' := [(7, .int 0), (6, .int 1), (0, .ref (r 0)), (1, .int k), (2, .int n), (3, .int (nI N)), (4, .int w), (5, .int rs)]) hx hb kd_R_method_102 hl (by decide) rfl (fun ls hl => ?_)
                refine lv_aload_n hx hb kd_R_method_104 rfl (lv_at hl 2 rfl) ?_
                refine lv_iload hx hb kd_R_method_105 (lv_at hl 1 rfl) ?_
                refine lv_iload hx hb kd_R_method_107 (lv_at hl 0 rfl) ?_
                refine lv_iconst (v := 0) hx hb kd_R_method_109 (by decide) ?_
                refine hx_callWi (va_runV (As := [.int 1, .int 0, .int 0]) (rest := []) ⟨hx, hb, hml, hown, hts⟩ (mr_throwing1 r rc ro rm ra rl rw th gv rp rk ow rn ct rt ki aq cd g1 g2 g3 rb gw an _) (cwV 3 hts (goodIn_sub (hx_m5 km_703 km_705 kv_R_throwing km_8 km_706) (by decide +kernel)) rfl rfl rfl (by decide +kernel) ⟨Nat.le_of_ble_eq_true rfl, Nat.le_of_ble_eq_true rfl⟩) (pw_V (hC.S hS) hP hD hS hA [0] (by decide) rfl (ci := 7) rfl (q0 := 0) rfl) rfl rfl hl.1 rfl (lv_room (Nat.le_of_ble_eq_true rfl)) kd_R_method_110 ⟨Nat.le_of_ble_eq_true rfl, Nat.le_of_ble_eq_true rfl⟩) hP hD hS hA [0] rfl rfl (fun H locs hP hD hS hF => ?_)
                have hP : va_P D cl_all [((r 0), .inr (7, [.int 1, .int (nI rc), .ref (r 1), .int (nI ro), .ref (r 2), .int (nI rm), .ref (r 3), .ref (r 4), .ref (r 5), .ref (r 6), .int (nI ra), .ref (r 7), .ref (r 8), .ref (r 9), .ref (r 10), .int (nI rl), .ref (r 11), .ref (r 12), .ref (r 13), .ref (r 14), .int (nI rw), .ref (r 15), .long gv])), ((r 1), .inl (cI, 16, .inl rp)), ((r 2), .inl (cI, 64, .inl rk)), ((r 3), .inl (cI, 64, .inl ow)), ((r 4), .inl (cI, 64, .inl rn)), ((r 5), .inl (cI, 64, .inl ct)), ((r 6), .inl (cI, 256, .inl rt)), ((r 7), .inl (cI, 4, .inl ki)), ((r 8), .inl (cL, 4, .inr (.inl rb))), ((r 9), .inl (cI, 4, .inl (lf_ (as_ w N) aq N))), ((r 10), .inl (cZ, 64, .inl cd)), ((r 11), .inl (cI, 64, .inl g1)), ((r 12), .inl (cI, 64, .inl g2)), ((r 13), .inl (cI, 64, .inl g3)), ((r 14), .inl (cL, 256, .inr (.inl gw))), ((r 15), .inl (cL, 64, .inr (.inl an)))] H := hP
                have hD : va_D A [((r 0), .inr (7, [.int 1, .int (nI rc), .ref (r 1), .int (nI ro), .ref (r 2), .int (nI rm), .ref (r 3), .ref (r 4), .ref (r 5), .ref (r 6), .int (nI ra), .ref (r 7), .ref (r 8), .ref (r 9), .ref (r 10), .int (nI rl), .ref (r 11), .ref (r 12), .ref (r 13), .ref (r 14), .int (nI rw), .ref (r 15), .long gv])), ((r 1), .inl (cI, 16, .inl rp)), ((r 2), .inl (cI, 64, .inl rk)), ((r 3), .inl (cI, 64, .inl ow)), ((r 4), .inl (cI, 64, .inl rn)), ((r 5), .inl (cI, 64, .inl ct)), ((r 6), .inl (cI, 256, .inl rt)), ((r 7), .inl (cI, 4, .inl ki)), ((r 8), .inl (cL, 4, .inr (.inl rb))), ((r 9), .inl (cI, 4, .inl (lf_ (as_ w N) aq N))), ((r 10), .inl (cZ, 64, .inl cd)), ((r 11), .inl (cI, 64, .inl g1)), ((r 12), .inl (cI, 64, .inl g2)), ((r 13), .inl (cI, 64, .inl g3)), ((r 14), .inl (cL, 256, .inr (.inl gw))), ((r 15), .inl (cL, 64, .inr (.inl an)))] := hD
                refine hx_topi (y := 1) (rfl) ?_
                refine lv_if_eq (tgt := 118) hx hb kd_R_method_113 (by decide) (fun c_113 => ?_) (fun c_113 => ?_)
                · exact absurd c_113 (by decide)
                · skip
                  refine lv_iconst (v := 0) hx hb kd_R_method_116 (by decide) ?_
                  exact hx_iretW hx hb hr hlocks (rfl) (hP) hS kd_R_method_117
              · exact absurd c_75 (by decide)
        · exact absurd c_41 (not_not_intro rfl)

set_option maxHeartbeats 4000000 in
set_option maxRecDepth 100000 in
theorem mr_method2 {l : Launch} {D : va_G} {cI cL cZ : ClassId} {tb : Nat} (r : Nat → Nat) (rc ro rm ra rl rw : Nat) (th : Int32) (gv : Int64) (rp rk ow rn ct rt ki aq cd g1 g2 g3 : Nat → Int32) (rb gw an : Nat → Int64) (k n : Int32) (N : Nat) (w rs : Int32) (hc : fb_in k rc = true) (hn1 : fb_in n 1000 = true) (hN : N ≤ 4) (hr1 : fb_in rs (6 + rc) = true) (hrc : rc ≤ 16) (hrm : rm ≤ 64) (ht : ty_ok rc w N = true) (hfd : ¬ la_ (mq_ ow rn ct rt (lf_ (as_ w N) aq N) k n N) rm < 0 ∨ rm = 64) (sz : Nat) : Met l ky_R_method kw_R_method { frames := 1, cells := 0, slots := 0, locals := 27 } (pw_P D cI cL cZ tb [((r 0), .inr (7, [.int th, .int (nI rc), .ref (r 1), .int (nI ro), .ref (r 2), .int (nI rm), .ref (r 3), .ref (r 4), .ref (r 5), .ref (r 6), .int (nI ra), .ref (r 7), .ref (r 8), .ref (r 9), .ref (r 10), .int (nI rl), .ref (r 11), .ref (r 12), .ref (r 13), .ref (r 14), .int (nI rw), .ref (r 15), .long gv])), ((r 1), .inl (cI, 16, .inl rp)), ((r 2), .inl (cI, 64, .inl rk)), ((r 3), .inl (cI, 64, .inl ow)), ((r 4), .inl (cI, 64, .inl rn)), ((r 5), .inl (cI, 64, .inl ct)), ((r 6), .inl (cI, 256, .inl rt)), ((r 7), .inl (cI, 4, .inl ki)), ((r 8), .inl (cL, 4, .inr (.inl rb))), ((r 9), .inl (cI, 4, .inl aq)), ((r 10), .inl (cZ, 64, .inl cd)), ((r 11), .inl (cI, 64, .inl g1)), ((r 12), .inl (cI, 64, .inl g2)), ((r 13), .inl (cI, 64, .inl g3)), ((r 14), .inl (cL, 256, .inr (.inl gw))), ((r 15), .inl (cL, 64, .inr (.inl an)))] sz [.ref (r 0), .int k, .int n, .int (nI N), .int w, .int rs]) (hx_QW D (some (.int 0)) [((r 0), .inr (7, [.int 2, .int (nI rc), .ref (r 1), .int (nI ro), .ref (r 2), .int (nI rm), .ref (r 3), .ref (r 4), .ref (r 5), .ref (r 6), .int (nI ra), .ref (r 7), .ref (r 8), .ref (r 9), .ref (r 10), .int (nI rl), .ref (r 11), .ref (r 12), .ref (r 13), .ref (r 14), .int (nI rw), .ref (r 15), .long gv])), ((r 1), .inl (cI, 16, .inl rp)), ((r 2), .inl (cI, 64, .inl rk)), ((r 3), .inl (cI, 64, .inl ow)), ((r 4), .inl (cI, 64, .inl rn)), ((r 5), .inl (cI, 64, .inl ct)), ((r 6), .inl (cI, 256, .inl rt)), ((r 7), .inl (cI, 4, .inl ki)), ((r 8), .inl (cL, 4, .inr (.inl rb))), ((r 9), .inl (cI, 4, .inl (lf_ (as_ w N) aq N))), ((r 10), .inl (cZ, 64, .inl cd)), ((r 11), .inl (cI, 64, .inl g1)), ((r 12), .inl (cI, 64, .inl g2)), ((r 13), .inl (cI, 64, .inl g3)), ((r 14), .inl (cL, 256, .inr (.inl gw))), ((r 15), .inl (cL, 64, .inr (.inl an)))] (va_A [((r 0), .inr (7, [.int th, .int (nI rc), .ref (r 1), .int (nI ro), .ref (r 2), .int (nI rm), .ref (r 3), .ref (r 4), .ref (r 5), .ref (r 6), .int (nI ra), .ref (r 7), .ref (r 8), .ref (r 9), .ref (r 10), .int (nI rl), .ref (r 11), .ref (r 12), .ref (r 13), .ref (r 14), .int (nI rw), .ref (r 15), .long gv])), ((r 1), .inl (cI, 16, .inl rp)), ((r 2), .inl (cI, 64, .inl rk)), ((r 3), .inl (cI, 64, .inl ow)), ((r 4), .inl (cI, 64, .inl rn)), ((r 5), .inl (cI, 64, .inl ct)), ((r 6), .inl (cI, 256, .inl rt)), ((r 7), .inl (cI, 4, .inl ki)), ((r 8), .inl (cL, 4, .inr (.inl rb))), ((r 9), .inl (cI, 4, .inl aq)), ((r 10), .inl (cZ, 64, .inl cd)), ((r 11), .inl (cI, 64, .inl g1)), ((r 12), .inl (cI, 64, .inl g2)), ((r 13), .inl (cI, 64, .inl g3)), ((r 14), .inl (cL, 256, .inr (.inl gw))), ((r 15), .inl (cL, 64, .inr (.inl an)))] sz)) 0 0 (va_A [((r 0), .inr (7, [.int th, .int (nI rc), .ref (r 1), .int (nI ro), .ref (r 2), .int (nI rm), .ref (r 3), .ref (r 4), .ref (r 5), .ref (r 6), .int (nI ra), .ref (r 7), .ref (r 8), .ref (r 9), .ref (r 10), .int (nI rl), .ref (r 11), .ref (r 12), .ref (r 13), .ref (r 14), .int (nI rw), .ref (r 15), .long gv])), ((r 1), .inl (cI, 16, .inl rp)), ((r 2), .inl (cI, 64, .inl rk)), ((r 3), .inl (cI, 64, .inl ow)), ((r 4), .inl (cI, 64, .inl rn)), ((r 5), .inl (cI, 64, .inl ct)), ((r 6), .inl (cI, 256, .inl rt)), ((r 7), .inl (cI, 4, .inl ki)), ((r 8), .inl (cL, 4, .inr (.inl rb))), ((r 9), .inl (cI, 4, .inl aq)), ((r 10), .inl (cZ, 64, .inl cd)), ((r 11), .inl (cI, 64, .inl g1)), ((r 12), .inl (cI, 64, .inl g2)), ((r 13), .inl (cI, 64, .inl g3)), ((r 14), .inl (cL, 256, .inr (.inl gw))), ((r 15), .inl (cL, 64, .inr (.inl an)))] sz) := by
  refine Met.ofW (cc := kc_R_method) (maxL := 9) (ret := (some .int)) (by decide) rfl ?_
  intro p e s m args below meth c s₁ B hml hv
  obtain ⟨rfl, hsz, hC, hP, hD0⟩ := hv
  have hx := B.exec
  have hb := B.bytes
  have hr := B.returns
  have hlocks := B.notSynchronized
  have hown : s.vm.findClass "HostBridgeModel" = some m.cls := findClass_of_methodNamed B.named
  subst hsz
  have hD := hD0.self (sz := s.heap.size)
  generalize hAe : va_A [((r 0), .inr (7, [.int th, .int (nI rc), .ref (r 1), .int (nI ro), .ref (r 2), .int (nI rm), .ref (r 3), .ref (r 4), .ref (r 5), .ref (r 6), .int (nI ra), .ref (r 7), .ref (r 8), .ref (r 9), .ref (r 10), .int (nI rl), .ref (r 11), .ref (r 12), .ref (r 13), .ref (r 14), .int (nI rw), .ref (r 15), .long gv])), ((r 1), .inl (cI, 16, .inl rp)), ((r 2), .inl (cI, 64, .inl rk)), ((r 3), .inl (cI, 64, .inl ow)), ((r 4), .inl (cI, 64, .inl rn)), ((r 5), .inl (cI, 64, .inl ct)), ((r 6), .inl (cI, 256, .inl rt)), ((r 7), .inl (cI, 4, .inl ki)), ((r 8), .inl (cL, 4, .inr (.inl rb))), ((r 9), .inl (cI, 4, .inl aq)), ((r 10), .inl (cZ, 64, .inl cd)), ((r 11), .inl (cI, 64, .inl g1)), ((r 12), .inl (cI, 64, .inl g2)), ((r 13), .inl (cI, 64, .inl g3)), ((r 14), .inl (cL, 256, .inr (.inl gw))), ((r 15), .inl (cL, 64, .inr (.inl an)))] s.heap.size = A at hD hC ⊢
  have hA : ∀ q : Nat, s.heap.size ≤ q → A q := fun q h => by rw [← hAe]; exact Or.inr h
  have hS : va_S A s.heap s.heap [] := va_S.rf
  have hK := hC.K
  have hts := hC.ts [.ref (r 0), .int k, .int n, .int (nI N), .int w, .int rs].toArray
  have hl := lv_entry ([.ref (r 0), .int k, .int n, .int (nI N), .int w, .int rs]) (n := 9) (Nat.le_of_ble_eq_true rfl)
  rw [lg_entry_eq]
  generalize (lg_sl ([.ref (r 0), .int k, .int n, .int (nI N), .int w, .int rs]) ++ List.replicate (9 - (lg_sl ([.ref (r 0), .int k, .int n, .int (nI N), .int w, .int rs])).length) Slot.unset).toArray = ls at hl ⊢
  have hl : lv_has ls 9 [(0, .ref (r 0)), (1, .int k), (2, .int n), (3, .int (nI N)), (4, .int w), (5, .int rs)] := hl
  refine lv_iload_n hx hb kd_R_method_0 rfl (lv_at hl 1 rfl) ?_
  refine lv_aload_n hx hb kd_R_method_1 rfl (lv_at hl 0 rfl) ?_
  refine va_get (D := D) (ci := 7) (v := .int (nI rc)) (C := "HostBridgeModel") (T := ct_R) (N := 23) hx hb hts cw_R hown hK hP 0 rfl rfl 1 (by decide) (hts _ km_622) (fun _ h9 => h9) rfl kd_R_method_2 ?_
  refine hx_callRi (va_runS (As := [.int k, .int (nI rc)]) (rest := []) ⟨hx, hb, hml, hown, hts⟩ (mr_isNo k rc) (va_cwS 2 hts (goodIn_sub (hx_m4 km_700 km_701 km_8 km_702) (by decide +kernel)) rfl rfl rfl (by decide +kernel) ⟨Nat.le_of_ble_eq_true rfl, Nat.le_of_ble_eq_true rfl⟩) (pr_S (hC.S hS) hP [] rfl) rfl rfl hl.1 rfl (lv_room (Nat.le_of_ble_eq_true rfl)) kd_R_method_5 ⟨Nat.le_of_ble_eq_true rfl, Nat.le_of_ble_eq_true rfl⟩) ?_
  refine hx_topi (y := 0) (by rw [hc]; rfl) ?_
  refine lv_if_ne (tgt := 44) hx hb kd_R_method_8 (by decide) (fun c_8 => ?_) (fun c_8 => ?_)
  · exact absurd c_8 (not_not_intro rfl)
  · skip
    refine lv_iload_n hx hb kd_R_method_11 rfl (lv_at hl 2 rfl) ?_
    refine lv_sipush (v := 1000) hx hb kd_R_method_12 (by decide) ?_
    refine hx_topi (y := nI 1000) (by decide) ?_
    refine hx_callRi (va_runS (As := [.int n, .int (nI 1000)]) (rest := []) ⟨hx, hb, hml, hown, hts⟩ (mr_isNo n 1000) (va_cwS 2 hts (goodIn_sub (hx_m4 km_700 km_701 km_8 km_702) (by decide +kernel)) rfl rfl rfl (by decide +kernel) ⟨Nat.le_of_ble_eq_true rfl, Nat.le_of_ble_eq_true rfl⟩) (pr_S (hC.S hS) hP [] rfl) rfl rfl hl.1 rfl (lv_room (Nat.le_of_ble_eq_true rfl)) kd_R_method_15 ⟨Nat.le_of_ble_eq_true rfl, Nat.le_of_ble_eq_true rfl⟩) ?_
    refine hx_topi (y := 0) (by rw [hn1]; rfl) ?_
    refine lv_if_ne (tgt := 44) hx hb kd_R_method_18 (by decide) (fun c_18 => ?_) (fun c_18 => ?_)
    · exact absurd c_18 (not_not_intro rfl)
    · skip
      refine lv_iload_n hx hb kd_R_method_21 rfl (lv_at hl 3 rfl) ?_
      refine lv_iconst (v := 5) hx hb kd_R_method_22 (by decide) ?_
      refine hx_topi (y := nI 5) (by decide) ?_
      refine hx_callRi (va_runS (As := [.int (nI N), .int (nI 5)]) (rest := []) ⟨hx, hb, hml, hown, hts⟩ (mr_isNo (nI N) 5) (va_cwS 2 hts (goodIn_sub (hx_m4 km_700 km_701 km_8 km_702) (by decide +kernel)) rfl rfl rfl (by decide +kernel) ⟨Nat.le_of_ble_eq_true rfl, Nat.le_of_ble_eq_true rfl⟩) (pr_S (hC.S hS) hP [] rfl) rfl rfl hl.1 rfl (lv_room (Nat.le_of_ble_eq_true rfl)) kd_R_method_23 ⟨Nat.le_of_ble_eq_true rfl, Nat.le_of_ble_eq_true rfl⟩) ?_
      refine hx_topi (y := 0) (by rw [(fb_in_iff (by decide)).mpr ⟨N, by omega, rfl⟩]; rfl) ?_
      refine lv_if_ne (tgt := 44) hx hb kd_R_method_26 (by decide) (fun c_26 => ?_) (fun c_26 => ?_)
      · exact absurd c_26 (not_not_intro rfl)
      · skip
        refine lv_iload hx hb kd_R_method_29 (lv_at hl 5 rfl) ?_
        refine lv_bipush (v := 6) hx hb kd_R_method_31 (by decide) ?_
        refine lv_aload_n hx hb kd_R_method_33 rfl (lv_at hl 0 rfl) ?_
        refine va_get (D := D) (ci := 7) (v := .int (nI rc)) (C := "HostBridgeModel") (T := ct_R) (N := 23) hx hb hts cw_R hown hK hP 0 rfl rfl 1 (by decide) (hts _ km_622) (fun _ h9 => h9) rfl kd_R_method_34 ?_
        refine lv_iadd hx hb kd_R_method_37 ?_
        refine hx_topi (y := nI (6 + rc)) (by rw [show (6 : Int32) = nI 6 from rfl, nI_add]) ?_
        refine hx_callRi (va_runS (As := [.int rs, .int (nI (6 + rc))]) (rest := []) ⟨hx, hb, hml, hown, hts⟩ (mr_isNo rs (6 + rc)) (va_cwS 2 hts (goodIn_sub (hx_m4 km_700 km_701 km_8 km_702) (by decide +kernel)) rfl rfl rfl (by decide +kernel) ⟨Nat.le_of_ble_eq_true rfl, Nat.le_of_ble_eq_true rfl⟩) (pr_S (hC.S hS) hP [] rfl) rfl rfl hl.1 rfl (lv_room (Nat.le_of_ble_eq_true rfl)) kd_R_method_38 ⟨Nat.le_of_ble_eq_true rfl, Nat.le_of_ble_eq_true rfl⟩) ?_
        refine hx_topi (y := 0) (by rw [hr1]; rfl) ?_
        refine lv_if_eq (tgt := 48) hx hb kd_R_method_41 (by decide) (fun c_41 => ?_) (fun c_41 => ?_)
        · skip
          refine lv_iconst (v := 0) hx hb kd_R_method_48 (by decide) ?_
          refine lv_istore (lv' := [(6, .int 0), (0, .ref (r 0)), (1, .int k), (2, .int n), (3, .int (nI N)), (4, .int w), (5, .int rs)]) hx hb kd_R_method_49 hl (by decide) rfl (fun ls hl => ?_)
          refine lv_iload hx hb kd_R_method_51 (lv_at hl 0 rfl) ?_
          refine lv_if_ne (tgt := 66) hx hb kd_R_method_53 (by decide) (fun c_53 => ?_) (fun c_53 => ?_)
          · exact absurd c_53 (not_not_intro rfl)
          · skip
            refine lv_aload_n hx hb kd_R_method_56 rfl (lv_at hl 1 rfl) ?_
            refine lv_iload_n hx hb kd_R_method_57 rfl (lv_at hl 4 rfl) ?_
            refine lv_iload hx hb kd_R_method_58 (lv_at hl 5 rfl) ?_
            refine hx_callWai (va_runV (As := [.int (nI N), .int w]) (rest := []) ⟨hx, hb, hml, hown, hts⟩ (mr_asks r rc ro rm ra rl rw th gv rp rk ow rn ct rt ki aq cd g1 g2 g3 rb gw an N w hN hrc _) (cwV 2 hts (goodIn_sub (hx_m5 km_711 km_713 kv_R_asks km_8 km_714) (by decide +kernel)) rfl rfl rfl (by decide +kernel) ⟨Nat.le_of_ble_eq_true rfl, Nat.le_of_ble_eq_true rfl⟩) (pw_V (hC.S hS) hP hD hS hA [0, 1, 2, 3, 4, 5, 6, 7, 8, 9, 10, 11, 12, 13, 14, 15] (by decide) rfl (ci := 7) rfl (q0 := 0) rfl) rfl rfl hl.1 rfl (lv_room (Nat.le_of_ble_eq_true rfl)) kd_R_method_60 ⟨Nat.le_of_ble_eq_true rfl, Nat.le_of_ble_eq_true rfl⟩) hP hD hS hA rfl (fun H locs hP hD hS => ?_)
            refine hx_topi (y := 1) (by rw [ht]; rfl) ?_
            refine lv_if_ne (tgt := 70) hx hb kd_R_method_63 (by decide) (fun c_63 => ?_) (fun c_63 => ?_)
            · skip
              refine lv_iconst (v := 0) hx hb kd_R_method_70 (by decide) ?_
              refine lv_istore (lv' := [(6, .int 0), (0, .ref (r 0)), (1, .int k), (2, .int n), (3, .int (nI N)), (4, .int w), (5, .int rs)]) hx hb kd_R_method_71 hl (by decide) rfl (fun ls hl => ?_)
              refine lv_iload hx hb kd_R_method_73 (lv_at hl 0 rfl) ?_
              refine lv_if_ne (tgt := 101) hx hb kd_R_method_75 (by decide) (fun c_75 => ?_) (fun c_75 => ?_)
              · exact absurd c_75 (not_not_intro rfl)
              · skip
                refine lv_aload_n hx hb kd_R_method_78 rfl (lv_at hl 1 rfl) ?_
                refine va_get (D := D) (ci := 7) (v := .int (nI rm)) (C := "HostBridgeModel") (T := ct_R) (N := 23) hx hb hts cw_R hown hK hP 0 rfl rfl 5 (by decide) (hts _ km_626) (fun _ h9 => h9) rfl kd_R_method_79 ?_
                refine lv_bipush (v := 64) hx hb kd_R_method_82 (by decide) ?_
                refine lv_icmp_eq (tgt := 97) hx hb kd_R_method_84 (by decide) (fun c_84 => ?_) (fun c_84 => ?_)
                · skip
                  refine lv_iconst (v := 1) hx hb kd_R_method_97 (by decide) ?_
                  refine lv_goto (tgt := 102) hx hb kd_R_method_98 (by decide) ?_
                  refine lv_istore (lv' := [(7, .int 1), (6, .int 0), (0, .ref (r 0)), (1, .int k), (2, .int n), (3, .int (nI N)), (4, .int w), (5, .int rs)]) hx hb kd_R_method_102 hl (by decide) rfl (fun ls hl => ?_)
                  refine lv_aload_n hx hb kd_R_method_104 rfl (lv_at hl 2 rfl) ?_
                  refine lv_iload hx hb kd_R_method_105 (lv_at hl 1 rfl) ?_
                  refine lv_iload hx hb kd_R_method_107 (lv_at hl 0 rfl) ?_
                  refine lv_iconst (v := 0) hx hb kd_R_method_109 (by decide) ?_
                  refine hx_callWi (va_runV (As := [.int 0, .int 1, .int 0]) (rest := []) ⟨hx, hb, hml, hown, hts⟩ (mr_throwing2 r rc ro rm ra rl rw th gv rp rk ow rn ct rt ki aq cd g1 g2 g3 rb gw an _) (cwV 3 hts (goodIn_sub (hx_m5 km_703 km_705 kv_R_throwing km_8 km_706) (by decide +kernel)) rfl rfl rfl (by decide +kernel) ⟨Nat.le_of_ble_eq_true rfl, Nat.le_of_ble_eq_true rfl⟩) (pw_V (hC.S hS) hP hD hS hA [0] (by decide) rfl (ci := 7) rfl (q0 := 0) rfl) rfl rfl hl.1 rfl (lv_room (Nat.le_of_ble_eq_true rfl)) kd_R_method_110 ⟨Nat.le_of_ble_eq_true rfl, Nat.le_of_ble_eq_true rfl⟩) hP hD hS hA [0] rfl rfl (fun H locs hP hD hS hF => ?_)
                  have hP : va_P D cl_all [((r 0), .inr (7, [.int 2, .int (nI rc), .ref (r 1), .int (nI ro), .ref (r 2), .int (nI rm), .ref (r 3), .ref (r 4), .ref (r 5), .ref (r 6), .int (nI ra), .ref (r 7), .ref (r 8), .ref (r 9), .ref (r 10), .int (nI rl), .ref (r 11), .ref (r 12), .ref (r 13), .ref (r 14), .int (nI rw), .ref (r 15), .long gv])), ((r 1), .inl (cI, 16, .inl rp)), ((r 2), .inl (cI, 64, .inl rk)), ((r 3), .inl (cI, 64, .inl ow)), ((r 4), .inl (cI, 64, .inl rn)), ((r 5), .inl (cI, 64, .inl ct)), ((r 6), .inl (cI, 256, .inl rt)), ((r 7), .inl (cI, 4, .inl ki)), ((r 8), .inl (cL, 4, .inr (.inl rb))), ((r 9), .inl (cI, 4, .inl (lf_ (as_ w N) aq N))), ((r 10), .inl (cZ, 64, .inl cd)), ((r 11), .inl (cI, 64, .inl g1)), ((r 12), .inl (cI, 64, .inl g2)), ((r 13), .inl (cI, 64, .inl g3)), ((r 14), .inl (cL, 256, .inr (.inl gw))), ((r 15), .inl (cL, 64, .inr (.inl an)))] H := hP
                  have hD : va_D A [((r 0), .inr (7, [.int 2, .int (nI rc), .ref (r 1), .int (nI ro), .ref (r 2), .int (nI rm), .ref (r 3), .ref (r 4), .ref (r 5), .ref (r 6), .int (nI ra), .ref (r 7), .ref (r 8), .ref (r 9), .ref (r 10), .int (nI rl), .ref (r 11), .ref (r 12), .ref (r 13), .ref (r 14), .int (nI rw), .ref (r 15), .long gv])), ((r 1), .inl (cI, 16, .inl rp)), ((r 2), .inl (cI, 64, .inl rk)), ((r 3), .inl (cI, 64, .inl ow)), ((r 4), .inl (cI, 64, .inl rn)), ((r 5), .inl (cI, 64, .inl ct)), ((r 6), .inl (cI, 256, .inl rt)), ((r 7), .inl (cI, 4, .inl ki)), ((r 8), .inl (cL, 4, .inr (.inl rb))), ((r 9), .inl (cI, 4, .inl (lf_ (as_ w N) aq N))), ((r 10), .inl (cZ, 64, .inl cd)), ((r 11), .inl (cI, 64, .inl g1)), ((r 12), .inl (cI, 64, .inl g2)), ((r 13), .inl (cI, 64, .inl g3)), ((r 14), .inl (cL, 256, .inr (.inl gw))), ((r 15), .inl (cL, 64, .inr (.inl an)))] := hD
                  refine hx_topi (y := 1) (rfl) ?_
                  refine lv_if_eq (tgt := 118) hx hb kd_R_method_113 (by decide) (fun c_113 => ?_) (fun c_113 => ?_)
                  · exact absurd c_113 (by decide)
                  · skip
                    refine lv_iconst (v := 0) hx hb kd_R_method_116 (by decide) ?_
                    exact hx_iretW hx hb hr hlocks (rfl) (hP) hS kd_R_method_117
                · skip
                  refine lv_aload_n hx hb kd_R_method_87 rfl (lv_at hl 1 rfl) ?_
                  refine lv_iload_n hx hb kd_R_method_88 rfl (lv_at hl 2 rfl) ?_
                  refine lv_iload_n hx hb kd_R_method_89 rfl (lv_at hl 3 rfl) ?_
                  refine lv_iload_n hx hb kd_R_method_90 rfl (lv_at hl 4 rfl) ?_
                  refine hx_callRi (va_runV (As := [.int k, .int n, .int (nI N)]) (rest := []) ⟨hx, hb, hml, hown, hts⟩ (mr_methodOf r rc ro rm ra rl rw th gv rp rk ow rn ct rt ki (lf_ (as_ w N) aq N) cd g1 g2 g3 rb gw an k n N hrm hN) (cwV 3 hts (goodIn_sub (hx_m5 km_715 km_717 kv_R_methodOf km_8 km_718) (by decide +kernel)) rfl rfl rfl (by decide +kernel) ⟨Nat.le_of_ble_eq_true rfl, Nat.le_of_ble_eq_true rfl⟩) (pr_V (hC.S hS) hP [0, 1, 2, 3, 4, 5, 6, 7, 8, 9, 10, 11, 12, 13, 14, 15] rfl (ci := 7) rfl (q0 := 0) rfl) rfl rfl hl.1 rfl (lv_room (Nat.le_of_ble_eq_true rfl)) kd_R_method_91 ⟨Nat.le_of_ble_eq_true rfl, Nat.le_of_ble_eq_true rfl⟩) ?_
                  refine lv_if_lt (tgt := 101) hx hb kd_R_method_94 (by decide) (fun c_94 => ?_) (fun c_94 => ?_)
                  · exact absurd c_94 (by rcases hfd with h9 | h9; exact h9; exact absurd (by rw [h9]; rfl) c_84)
                  · skip
                    refine lv_iconst (v := 1) hx hb kd_R_method_97 (by decide) ?_
                    refine lv_goto (tgt := 102) hx hb kd_R_method_98 (by decide) ?_
                    refine lv_istore (lv' := [(7, .int 1), (6, .int 0), (0, .ref (r 0)), (1, .int k), (2, .int n), (3, .int (nI N)), (4, .int w), (5, .int rs)]) hx hb kd_R_method_102 hl (by decide) rfl (fun ls hl => ?_)
                    refine lv_aload_n hx hb kd_R_method_104 rfl (lv_at hl 2 rfl) ?_
                    refine lv_iload hx hb kd_R_method_105 (lv_at hl 1 rfl) ?_
                    refine lv_iload hx hb kd_R_method_107 (lv_at hl 0 rfl) ?_
                    refine lv_iconst (v := 0) hx hb kd_R_method_109 (by decide) ?_
                    refine hx_callWi (va_runV (As := [.int 0, .int 1, .int 0]) (rest := []) ⟨hx, hb, hml, hown, hts⟩ (mr_throwing2 r rc ro rm ra rl rw th gv rp rk ow rn ct rt ki aq cd g1 g2 g3 rb gw an _) (cwV 3 hts (goodIn_sub (hx_m5 km_703 km_705 kv_R_throwing km_8 km_706) (by decide +kernel)) rfl rfl rfl (by decide +kernel) ⟨Nat.le_of_ble_eq_true rfl, Nat.le_of_ble_eq_true rfl⟩) (pw_V (hC.S hS) hP hD hS hA [0] (by decide) rfl (ci := 7) rfl (q0 := 0) rfl) rfl rfl hl.1 rfl (lv_room (Nat.le_of_ble_eq_true rfl)) kd_R_method_110 ⟨Nat.le_of_ble_eq_true rfl, Nat.le_of_ble_eq_true rfl⟩) hP hD hS hA [0] rfl rfl (fun H locs hP hD hS hF => ?_)
                    have hP : va_P D cl_all [((r 0), .inr (7, [.int 2, .int (nI rc), .ref (r 1), .int (nI ro), .ref (r 2), .int (nI rm), .ref (r 3), .ref (r 4), .ref (r 5), .ref (r 6), .int (nI ra), .ref (r 7), .ref (r 8), .ref (r 9), .ref (r 10), .int (nI rl), .ref (r 11), .ref (r 12), .ref (r 13), .ref (r 14), .int (nI rw), .ref (r 15), .long gv])), ((r 1), .inl (cI, 16, .inl rp)), ((r 2), .inl (cI, 64, .inl rk)), ((r 3), .inl (cI, 64, .inl ow)), ((r 4), .inl (cI, 64, .inl rn)), ((r 5), .inl (cI, 64, .inl ct)), ((r 6), .inl (cI, 256, .inl rt)), ((r 7), .inl (cI, 4, .inl ki)), ((r 8), .inl (cL, 4, .inr (.inl rb))), ((r 9), .inl (cI, 4, .inl (lf_ (as_ w N) aq N))), ((r 10), .inl (cZ, 64, .inl cd)), ((r 11), .inl (cI, 64, .inl g1)), ((r 12), .inl (cI, 64, .inl g2)), ((r 13), .inl (cI, 64, .inl g3)), ((r 14), .inl (cL, 256, .inr (.inl gw))), ((r 15), .inl (cL, 64, .inr (.inl an)))] H := hP
                    have hD : va_D A [((r 0), .inr (7, [.int 2, .int (nI rc), .ref (r 1), .int (nI ro), .ref (r 2), .int (nI rm), .ref (r 3), .ref (r 4), .ref (r 5), .ref (r 6), .int (nI ra), .ref (r 7), .ref (r 8), .ref (r 9), .ref (r 10), .int (nI rl), .ref (r 11), .ref (r 12), .ref (r 13), .ref (r 14), .int (nI rw), .ref (r 15), .long gv])), ((r 1), .inl (cI, 16, .inl rp)), ((r 2), .inl (cI, 64, .inl rk)), ((r 3), .inl (cI, 64, .inl ow)), ((r 4), .inl (cI, 64, .inl rn)), ((r 5), .inl (cI, 64, .inl ct)), ((r 6), .inl (cI, 256, .inl rt)), ((r 7), .inl (cI, 4, .inl ki)), ((r 8), .inl (cL, 4, .inr (.inl rb))), ((r 9), .inl (cI, 4, .inl (lf_ (as_ w N) aq N))), ((r 10), .inl (cZ, 64, .inl cd)), ((r 11), .inl (cI, 64, .inl g1)), ((r 12), .inl (cI, 64, .inl g2)), ((r 13), .inl (cI, 64, .inl g3)), ((r 14), .inl (cL, 256, .inr (.inl gw))), ((r 15), .inl (cL, 64, .inr (.inl an)))] := hD
                    refine hx_topi (y := 1) (rfl) ?_
                    refine lv_if_eq (tgt := 118) hx hb kd_R_method_113 (by decide) (fun c_113 => ?_) (fun c_113 => ?_)
                    · exact absurd c_113 (by decide)
                    · skip
                      refine lv_iconst (v := 0) hx hb kd_R_method_116 (by decide) ?_
                      exact hx_iretW hx hb hr hlocks (rfl) (hP) hS kd_R_method_117
            · exact absurd c_63 (by decide)
        · exact absurd c_41 (not_not_intro rfl)
