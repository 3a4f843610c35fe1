/-! worlds side by side -/
theorem sg_app {D : va_G} {cl : List vw_C} {A : Nat → Prop} {u v : va_W} {H : Heap} (hP : va_P D cl (u ++ v) H) (hD : va_D A (u ++ v)) : va_P D cl u H ∧ va_P D cl v H ∧ va_D A u ∧ va_D A v ∧ sg_ap u v := by
  have hu : ∀ (i : Nat) (y : Nat × va_E), u[i]? = some y → (u ++ v)[i]? = some y := fun i y h => by
    rw [List.getElem?_append_left (List.getElem?_eq_some_iff.mp h).1]; exact h
  have hv : ∀ (i : Nat) (y : Nat × va_E), v[i]? = some y → (u ++ v)[u.length + i]? = some y := fun i y h => by
    rw [List.getElem?_append_right (Nat.le_add_right _ _), Nat.add_sub_cancel_left]; exact h
  refine ⟨fun k y h => hP k y (hu k y h), fun k y h => hP _ y (hv k y h), ⟨fun i j y z hi hj e => hD.1 i j y z (hu i y hi) (hu j z hj) e, fun k y h => hD.2 k y (hu k y h)⟩, ⟨fun i j y z hi hj e => ?_, fun k y h => hD.2 _ y (hv k y h)⟩, fun i j y z hi hj e => ?_⟩
  · have := hD.1 _ _ y z (hv i y hi) (hv j z hj) e
    omega
  · have h1 := hD.1 _ _ y z (hu i y hi) (hv j z hj) e
    have h2 := (List.getElem?_eq_some_iff.mp hi).1
    omega
theorem sg_glue {D : va_G} {cl : List vw_C} {A : Nat → Prop} {u v : va_W} {H : Heap} (hPu : va_P D cl u H) (hDu : va_D A u) (hPv : va_P D cl v H) (hDv : va_D A v) (hap : sg_ap u v) : va_P D cl (u ++ v) H ∧ va_D A (u ++ v) := by
  have key : ∀ (i : Nat) (y : Nat × va_E), (u ++ v)[i]? = some y → (i < u.length ∧ u[i]? = some y) ∨ (u.length ≤ i ∧ v[i - u.length]? = some y) := fun i y h => by
    by_cases hi : i < u.length
    · rw [List.getElem?_append_left hi] at h; exact Or.inl ⟨hi, h⟩
    · rw [List.getElem?_append_right (by omega)] at h; exact Or.inr ⟨by omega, h⟩
  refine ⟨fun k y h => ?_, fun i j y z hi hj e => ?_, fun k y h => ?_⟩
  · rcases key k y h with h | h
    · exact hPu _ _ h.2
    · exact hPv _ _ h.2
  · rcases key i y hi with h1 | h1 <;> rcases key j z hj with h2 | h2
    · exact hDu.1 i j y z h1.2 h2.2 e
    · exact absurd e (hap _ _ y z h1.2 h2.2)
    · exact absurd e.symm (hap _ _ z y h2.2 h1.2)
    · have := hDv.1 _ _ y z h1.2 h2.2 e
      omega
  · rcases key k y h with h | h
    · exact hDu.2 _ _ h.2
    · exact hDv.2 _ _ h.2
theorem sg_left {u v w : va_W} (h : sg_ap (u ++ v) w) : sg_ap u w := fun i j y z hi hj => h i j y z (by rw [List.getElem?_append_left (List.getElem?_eq_some_iff.mp hi).1]; exact hi) hj
theorem sg_right {u v w : va_W} (h : sg_ap (u ++ v) w) : sg_ap v w := fun i j y z hi hj => h (u.length + i) j y z (by rw [List.getElem?_append_right (Nat.le_add_right _ _), Nat.add_sub_cancel_left]; exact hi) hj
section SN
variable {p : Program} {l : Launch} {e : Env} {R : Room} {s : State} {m : MethodId} {args : Array Value} {below : List Frame} {meth : Method} {c : Code} {H : Heap} {locs : List Loc} {cells slots : Nat} {Q : State → Prop} {pc : Nat} {ls : Array Slot} {rest st0 : List Value} {a : Array Value} {D : va_G} {cI cL cZ : ClassId} {tb : Nat} {w wo : va_W} {A0 : Nat → Prop} {mc ms : Nat}
theorem sg_I {As : List Value} (hC : cx D cI cL cZ tb A0 s H) (hP : va_P D cl_all w H) (hD : va_D A0 w) (hS : va_S A0 s.heap H locs) (hA : ∀ q, s.heap.size ≤ q → A0 q) :
    PreS s H (pw_P D cI cL cZ tb w H.size As) As :=
  ⟨pw_blind, fun U hU hW => ⟨rfl, sg_B hC hP hD hS hA hU hW⟩⟩
/-- behind a constructor: its cells, the others -/
theorem sg_callN {σ : Type} {pp : σ → Prop} {wf : σ → va_W} (hr : va_Run p l e R s m args below meth c H locs cells slots mc ms (F0 m pc ls st0) rest (hx_QN D pp wf (va_A w H.size) a) (va_A w H.size)) (hD : va_D A0 w) (hS : va_S A0 s.heap H locs) (hA : ∀ q, s.heap.size ≤ q → A0 q) (hap : sg_ap w wo) (hPo : va_P D cl_all wo H)
    (kk : ∀ (x : σ) (H1 : Heap) (locs1 : List Loc), pp x → va_P D cl_all (wf x) H1 → va_D A0 (wf x) → va_P D cl_all wo H1 → sg_ap (wf x) wo → va_S A0 s.heap H1 locs1 → W p l e R s m args below meth c H1 locs1 (cells + mc) (slots + ms) Q (F0 m (pc + 3) ls rest)) : W p l e R s m args below meth c H locs cells slots Q (F0 m pc ls st0) := by
  intro T hT X
  obtain ⟨v', st₀, t, T', L, h0, X', hL, e1, -, ⟨hv, x, hpx, hp, hd, hF⟩, st⟩ := hr T hT X
  cases hv
  have hfr := sg_free hD hS hA
  obtain ⟨k1, k2, k3⟩ := vx_keep h0 e1 hS (fun q _ h => hfr q h) hfr hL hF
  have hap1 : sg_ap (wf x) wo := fun i j y z hi hj e9 => by
    rcases hd.2 i y hi with ⟨k, e8, h8⟩ | h8
    · exact hap k j _ z h8 hj e9
    · have := (hPo j z hj).lt
      omega
  obtain ⟨t2, a1, b1⟩ := kk x T'.heap (locs ++ L) hpx (by rw [e1]; exact hp) (hd.weaken (fun k y hk _ => hfr y.1 (hd.2 k y hk))) (sg_keep hap k2 hPo) hap1 k3 T' rfl X'
  exact ⟨t2, st t2 a1, b1⟩
end SN

/-! THE LAW'S LOOP -/
set_option maxHeartbeats 4000000 in
set_option maxRecDepth 100000 in
theorem lw_loop {p : Program} {l : Launch} {e : Env} {s : State} {m : MethodId} {below : List Frame} {meth : Method} {c : Code} {b L : Nat} {xs : Nat → Int32} {D : va_G} {cI cL cZ : ClassId} {tb : Nat} {q r : Nat → Nat} {qo : Nat} (hc : lw_C l p s m c b L xs D cI cL cZ tb) (hr : meth.sig.returnType = ret) (hlocks : meth.locks = false) : ∀ (n t : Nat) (ls : Array Slot) (H : Heap) (locs : List Loc), L < 6 * t + n → 6 * t ≤ L → lv_has ls 8 [(0, .ref b), (1, .ref (q 0)), (2, .ref (r 0)), (3, .ref qo), (4, .int (nI (6 * t)))] → lw_I D cI cL cZ q r qo t s H locs → W p l e room_1 s m #[Value.ref b] below meth c H locs (40 + t) (2103 + 6 * t) (lw_Z below #[Value.ref b] s) (F0 m 23 ls []) := by
  intro n
  induction n with
  | zero =>
    intro t ls H locs h1 h2
    exact absurd h1 (by omega)
  | succ n ih =>
    intro t ls H locs hn ht hl hst
    obtain ⟨htr, hx, hb, hml, hown, hX, hbl, hL, hC, hN⟩ := id hc
    have hown : s.vm.findClass "HostBridgeLaw" = some m.cls := hown
    have hA : ∀ q : Nat, s.heap.size ≤ q → lw_A s q := fun _ h => h
    have hbA : ¬ lw_A s b := Nat.not_le.mpr hbl
    have hK := hC.K
    have hts := hC.ts #[Value.ref b]
    obtain ⟨_, _, _, _, _, _, _, _, hS, _⟩ := id hst
    refine lv_iload hx hb kd_L_law_23 (lv_at hl 4 rfl) ?_
    refine lv_aload_n hx hb kd_L_law_25 rfl (lv_at hl 0 rfl) ?_
    refine va_slen hx hb hX hbl hbA hS kd_L_law_26 ?_
    refine lv_bipush (v := 6) hx hb kd_L_law_27 (by decide) ?_
    refine lv_isub hx hb kd_L_law_29 ?_
    refine lv_icmp_gt (tgt := 901) hx hb kd_L_law_30 (by decide) (fun c30 => ?_) (fun c30 => ?_)
    · refine lv_iconst (v := 1) hx hb kd_L_law_901 (by decide) ?_
      refine va_forget (fun q hq => hS.2.2 q hq) ?_
      refine W.widen (k := 1093) (n := 10469) (by omega) (by omega) ?_
      exact lw_ret hx hb hr hlocks kd_L_law_902
    · have h6 : 6 * t + 6 ≤ L := by
        have h8 : ¬ (nI L - nI 6 < nI (6 * t)) := c30
        rw [Int32.lt_iff_toInt_lt, pk_sub_toInt (by omega) (by decide), nI_toInt (by omega)] at h8
        omega
      refine lv_aload_n hx hb kd_L_law_33 rfl (lv_at hl 0 rfl) ?_
      refine lv_iload hx hb kd_L_law_34 (lv_at hl 4 rfl) ?_
      refine hx_sld (j := 6 * t) hx hb hX hbl hbA hS (by omega) rfl (by omega) kd_L_law_36 ?_
      refine lv_bipush (v := 15) hx hb kd_L_law_37 (by decide) ?_
      refine lv_iand hx hb kd_L_law_39 ?_
      obtain ⟨j, hj, ej⟩ := pk_andE (xs (6 * t)) (m := 15) 4 (by decide)
      refine hx_topi (y := nI j) ej ?_
      have back : ∀ (ls : Array Slot) (H : Heap) (locs : List Loc), lv_has ls 8 [(0, .ref b), (1, .ref (q 0)), (2, .ref (r 0)), (3, .ref qo), (4, .int (nI (6 * t)))] → lw_I D cI cL cZ q r qo (t + 1) s H locs → W p l e room_1 s m #[Value.ref b] below meth c H locs (40 + t + 1) (2103 + 6 * t + 6) (lw_Z below #[Value.ref b] s) (F0 m 895 ls []) := by
        intro ls H locs hl hst
        refine lv_iinc (v := nI (6 * t + 6)) (lv' := [(4, .int (nI (6 * t + 6))), (0, .ref b), (1, .ref (q 0)), (2, .ref (r 0)), (3, .ref qo)]) hx hb kd_L_law_895 hl (k := 4) rfl (nI_add (6 * t) 6) (by decide) rfl (fun ls hl => ?_)
        refine lv_goto (tgt := 23) hx hb kd_L_law_898 (by decide) ?_
        have e6 : 6 * (t + 1) = 6 * t + 6 := by omega
        have h9 := ih (t + 1) ls H locs (by omega) (by omega) (by rw [e6]; exact lv_sub hl [1, 2, 3, 4, 0] rfl) hst
        rw [e6] at h9
        exact h9
      rcases (show j = 0 ∨ j = 1 ∨ j = 2 ∨ j = 3 ∨ j = 4 ∨ j = 5 ∨ j = 6 ∨ j = 7 ∨ j = 8 ∨ j = 9 ∨ j = 10 ∨ j = 11 ∨ 12 ≤ j by omega) with rfl | rfl | rfl | rfl | rfl | rfl | rfl | rfl | rfl | rfl | rfl | rfl | hj
      · refine lv_tableIn (tgt := 104) (off := 64) hx hb kd_L_law_40 (by decide) (by decide) (by decide) (by decide) ?_
        exact lc_klass hc h6 hl hst back
      · refine lv_tableIn (tgt := 160) (off := 120) hx hb kd_L_law_40 (by decide) (by decide) (by decide) (by decide) ?_
        exact lc_method hc h6 hl hst back
      · refine lv_tableIn (tgt := 264) (off := 224) hx hb kd_L_law_40 (by decide) (by decide) (by decide) (by decide) ?_
        exact lc_object hc h6 hl hst back
      · refine lv_tableIn (tgt := 320) (off := 280) hx hb kd_L_law_40 (by decide) (by decide) (by decide) (by decide) ?_
        exact lc_argument hc h6 hl hst back
      · refine lv_tableIn (tgt := 420) (off := 380) hx hb kd_L_law_40 (by decide) (by decide) (by decide) (by decide) ?_
        exact lc_weight hc h6 hl hst back
      · refine lv_tableIn (tgt := 488) (off := 448) hx hb kd_L_law_40 (by decide) (by decide) (by decide) (by decide) ?_
        exact lc_call hc h6 hl hst back
      · refine lv_tableIn (tgt := 556) (off := 516) hx hb kd_L_law_40 (by decide) (by decide) (by decide) (by decide) ?_
        exact lc_exact hc h6 hl hst back
      · refine lv_tableIn (tgt := 636) (off := 596) hx hb kd_L_law_40 (by decide) (by decide) (by decide) (by decide) ?_
        exact lc_answer hc h6 hl hst back
      · refine lv_tableIn (tgt := 704) (off := 664) hx hb kd_L_law_40 (by decide) (by decide) (by decide) (by decide) ?_
        exact lc_given hc h6 hl hst back
      · refine lv_tableIn (tgt := 747) (off := 707) hx hb kd_L_law_40 (by decide) (by decide) (by decide) (by decide) ?_
        exact lc_calls hc h6 hl hst back
      · refine lv_tableIn (tgt := 760) (off := 720) hx hb kd_L_law_40 (by decide) (by decide) (by decide) (by decide) ?_
        exact lc_look hc h6 hl hst back
      · refine lv_tableIn (tgt := 828) (off := 788) hx hb kd_L_law_40 (by decide) (by decide) (by decide) (by decide) ?_
        exact lc_converted hc h6 hl hst back
      · refine lv_tableOut (tgt := 895) hx hb kd_L_law_40 (Or.inr (by rw [nI_toInt (by omega)]; omega)) (by decide) ?_
        refine W.widen (k := 40 + t + 1) (n := 2103 + 6 * t + 6) (by omega) (by omega) ?_
        exact back _ _ _ hl hst.next

/-! THE LAW, from its entry -/
set_option maxHeartbeats 4000000 in
set_option maxRecDepth 100000 in
theorem whole_start {p : Program} {e : Env} {s : State} {m : MethodId} {below : List Frame} {meth : Method} {c : Code} (l : Launch) (htr : l.stackTraces = false) {b L : Nat} {xs : Nat → Int32} (hL : L ≤ 3072) (C0 : lw_At p s m meth c b L xs) : W p l e room_1 s m #[Value.ref b] below meth c s.heap [] 0 0 (lw_Z below #[Value.ref b] s) (entryFrame m ([Value.ref b] : List Value).toArray 8) := by
  obtain ⟨hx, hb, hr, hml, hown0, hts0, hX, hbl, hlocks, hgv⟩ := C0
  obtain ⟨D, cI, cL, cZ, tb, hC0, hN⟩ := cx_start hts0 hgv
  have hC : cx D cI cL cZ tb (lw_A s) s s.heap := hC0
  have hown : s.vm.findClass "HostBridgeLaw" = some m.cls := hown0
  have hA : ∀ q : Nat, s.heap.size ≤ q → lw_A s q := fun _ h => h
  have hbA : ¬ lw_A s b := Nat.not_le.mpr hbl
  have hK := hC.K
  have hts := hC.ts #[Value.ref b]
  have hS : va_S (lw_A s) s.heap s.heap [] := va_S.rf
  have hP : va_P D cl_all [] s.heap := fun k q h => by simp at h
  have hD : va_D (lw_A s) [] := ⟨fun i j p q h => by simp at h, fun k q h => by simp at h⟩
  have hl := lv_entry ([.ref b]) (n := 8) (Nat.le_of_ble_eq_true rfl)
  rw [lg_entry_eq]
  generalize (lg_sl ([.ref b]) ++ List.replicate (8 - (lg_sl ([.ref b])).length) Slot.unset).toArray = ls at hl ⊢
  have hl : lv_has ls 8 [(0, .ref b)] := hl
  refine va_new (ci := 0) (fs := [.null, .null, .null, .null, .null, .null]) (C := "HostBridge") (T := ct_B) (N := 6) hx hb hts cw_B cy_B cp_B hown (hts _ km_18) (hts _ km_19) (hts _ km_1) hK hP hD hS hA rfl cf_B (Nat.le_of_ble_eq_true rfl) (Nat.le_of_ble_eq_true rfl) kd_L_law_0 (fun h H hP hD hS => ?_)
  refine lv_dup hx hb kd_L_law_3 rfl ?_
  have hP : va_P D cl_all [(h, .inr (0, [.null, .null, .null, .null, .null, .null]))] H := hP
  have hD : va_D (lw_A s) [(h, .inr (0, [.null, .null, .null, .null, .null, .null]))] := hD
  refine hx_callN (wr := []) (va_runI (As := []) (rest := [.ref h]) ⟨hx, hb, hml, hown, hts⟩ (mn_B h _) (cwI 0 hts (goodIn_sub (hx_m1 km_22) (by decide +kernel)) rfl rfl rfl (hts _ km_1) (hts _ km_20) (hts _ km_21) rfl (by decide +kernel) ⟨Nat.le_of_ble_eq_true rfl, Nat.le_of_ble_eq_true rfl⟩) (pw_S (hC.S hS) hP hD hS hA [0] (by decide) rfl) rfl rfl hl.1 rfl (lv_room (Nat.le_of_ble_eq_true rfl)) kd_L_law_4 ⟨Nat.le_of_ble_eq_true rfl, Nat.le_of_ble_eq_true rfl⟩) hP hD hS hA [0] [] rfl rfl (by decide) (by decide) (fun q H locs hq hP2 hD2 hS => ?_)
  subst hq
  have hP : va_P D cl_all [((q 0), .inr (0, [.ref (q 1), .ref (q 2), .ref (q 3), .ref (q 4), .ref (q 5), .ref (q 6)])), ((q 1), .inr (1, [.ref (q 7), .ref (q 8), .int (nI 0), .int (nI 0)])), ((q 2), .inr (2, [.ref (q 9), .ref (q 10), .ref (q 11), .ref (q 12), .int (nI 0)])), ((q 3), .inr (3, [.ref (q 1), .ref (q 13), .ref (q 14), .ref (q 15), .int (nI 0)])), ((q 4), .inr (4, [.ref (q 1), .ref (q 2), .ref (q 3), .ref (q 16), .ref (q 17), .int 0])), ((q 5), .inr (5, [.ref (q 18), .ref (q 19), .ref (q 20), .ref (q 21), .long 0, .int (nI 0)])), ((q 6), .inr (6, [.ref (q 22), .int (nI 0), .int (nI 0)])), ((q 7), .inl (cI, 16, .inl (fun _ => 0))), ((q 8), .inl (cI, 64, .inl (fun _ => 0))), ((q 9), .inl (cI, 64, .inl (fun _ => 0))), ((q 10), .inl (cI, 64, .inl (fun _ => 0))), ((q 11), .inl (cI, 64, .inl (fun _ => 0))), ((q 12), .inl (cI, 64, .inl (fun _ => 0))), ((q 13), .inl (cI, 4, .inl (fun _ => 0))), ((q 14), .inl (cI, 4, .inl (fun _ => 0))), ((q 15), .inl (cL, 4, .inr (.inl (fun _ => 0)))), ((q 16), .inl (cI, 64, .inl (fun _ => 0))), ((q 17), .inl (cI, 4, .inl (fun _ => 0))), ((q 18), .inl (cI, 64, .inl (fun _ => 0))), ((q 19), .inl (cI, 64, .inl (fun _ => 0))), ((q 20), .inl (cI, 64, .inl (fun _ => 0))), ((q 21), .inl (cL, 256, .inr (.inl (fun _ => 0)))), ((q 22), .inl (cL, 64, .inr (.inl (fun _ => 0))))] H := hP2
  have hD : va_D (lw_A s) [((q 0), .inr (0, [.ref (q 1), .ref (q 2), .ref (q 3), .ref (q 4), .ref (q 5), .ref (q 6)])), ((q 1), .inr (1, [.ref (q 7), .ref (q 8), .int (nI 0), .int (nI 0)])), ((q 2), .inr (2, [.ref (q 9), .ref (q 10), .ref (q 11), .ref (q 12), .int (nI 0)])), ((q 3), .inr (3, [.ref (q 1), .ref (q 13), .ref (q 14), .ref (q 15), .int (nI 0)])), ((q 4), .inr (4, [.ref (q 1), .ref (q 2), .ref (q 3), .ref (q 16), .ref (q 17), .int 0])), ((q 5), .inr (5, [.ref (q 18), .ref (q 19), .ref (q 20), .ref (q 21), .long 0, .int (nI 0)])), ((q 6), .inr (6, [.ref (q 22), .int (nI 0), .int (nI 0)])), ((q 7), .inl (cI, 16, .inl (fun _ => 0))), ((q 8), .inl (cI, 64, .inl (fun _ => 0))), ((q 9), .inl (cI, 64, .inl (fun _ => 0))), ((q 10), .inl (cI, 64, .inl (fun _ => 0))), ((q 11), .inl (cI, 64, .inl (fun _ => 0))), ((q 12), .inl (cI, 64, .inl (fun _ => 0))), ((q 13), .inl (cI, 4, .inl (fun _ => 0))), ((q 14), .inl (cI, 4, .inl (fun _ => 0))), ((q 15), .inl (cL, 4, .inr (.inl (fun _ => 0)))), ((q 16), .inl (cI, 64, .inl (fun _ => 0))), ((q 17), .inl (cI, 4, .inl (fun _ => 0))), ((q 18), .inl (cI, 64, .inl (fun _ => 0))), ((q 19), .inl (cI, 64, .inl (fun _ => 0))), ((q 20), .inl (cI, 64, .inl (fun _ => 0))), ((q 21), .inl (cL, 256, .inr (.inl (fun _ => 0)))), ((q 22), .inl (cL, 64, .inr (.inl (fun _ => 0))))] := hD2
  refine lv_astore_n (lv' := [(1, .ref (q 0)), (0, .ref b)]) hx hb kd_L_law_7 rfl hl (by decide) rfl (fun ls hl => ?_)
  generalize hwb : ([((q 0), .inr (0, [.ref (q 1), .ref (q 2), .ref (q 3), .ref (q 4), .ref (q 5), .ref (q 6)])), ((q 1), .inr (1, [.ref (q 7), .ref (q 8), .int (nI 0), .int (nI 0)])), ((q 2), .inr (2, [.ref (q 9), .ref (q 10), .ref (q 11), .ref (q 12), .int (nI 0)])), ((q 3), .inr (3, [.ref (q 1), .ref (q 13), .ref (q 14), .ref (q 15), .int (nI 0)])), ((q 4), .inr (4, [.ref (q 1), .ref (q 2), .ref (q 3), .ref (q 16), .ref (q 17), .int 0])), ((q 5), .inr (5, [.ref (q 18), .ref (q 19), .ref (q 20), .ref (q 21), .long 0, .int (nI 0)])), ((q 6), .inr (6, [.ref (q 22), .int (nI 0), .int (nI 0)])), ((q 7), .inl (cI, 16, .inl (fun _ => 0))), ((q 8), .inl (cI, 64, .inl (fun _ => 0))), ((q 9), .inl (cI, 64, .inl (fun _ => 0))), ((q 10), .inl (cI, 64, .inl (fun _ => 0))), ((q 11), .inl (cI, 64, .inl (fun _ => 0))), ((q 12), .inl (cI, 64, .inl (fun _ => 0))), ((q 13), .inl (cI, 4, .inl (fun _ => 0))), ((q 14), .inl (cI, 4, .inl (fun _ => 0))), ((q 15), .inl (cL, 4, .inr (.inl (fun _ => 0)))), ((q 16), .inl (cI, 64, .inl (fun _ => 0))), ((q 17), .inl (cI, 4, .inl (fun _ => 0))), ((q 18), .inl (cI, 64, .inl (fun _ => 0))), ((q 19), .inl (cI, 64, .inl (fun _ => 0))), ((q 20), .inl (cI, 64, .inl (fun _ => 0))), ((q 21), .inl (cL, 256, .inr (.inl (fun _ => 0)))), ((q 22), .inl (cL, 64, .inr (.inl (fun _ => 0))))] : va_W) = wb at hP hD
  refine va_new (ci := 7) (fs := [.int 0, .int 0, .null, .int 0, .null, .int 0, .null, .null, .null, .null, .int 0, .null, .null, .null, .null, .int 0, .null, .null, .null, .null, .int 0, .null, .long 0]) (C := "HostBridgeModel") (T := ct_R) (N := 23) hx hb hts cw_R cy_R cp_R hown (hts _ km_615) (hts _ km_616) (hts _ km_8) hK hP hD hS hA rfl cf_R (Nat.le_of_ble_eq_true rfl) (Nat.le_of_ble_eq_true rfl) kd_L_law_8 (fun h2 H hP hD hS => ?_)
  refine lv_dup hx hb kd_L_law_11 rfl ?_
  obtain ⟨hPw, hPo, hDw, hDo, hap⟩ := sg_app hP hD
  refine sg_callN (va_runI (As := []) (rest := [.ref h2]) ⟨hx, hb, hml, hown, hts⟩ (mn_R h2 _) (cwI 0 hts (goodIn_sub (hx_m1 km_619) (by decide +kernel)) rfl rfl rfl (hts _ km_8) (hts _ km_617) (hts _ km_618) rfl (by decide +kernel) ⟨Nat.le_of_ble_eq_true rfl, Nat.le_of_ble_eq_true rfl⟩) (sg_I (hC.S hS) hPo hDo hS hA) rfl rfl hl.1 rfl (lv_room (Nat.le_of_ble_eq_true rfl)) kd_L_law_12 ⟨Nat.le_of_ble_eq_true rfl, Nat.le_of_ble_eq_true rfl⟩) hDo hS hA hap.symm hPw (fun r H locs hq hPm hDm hPb hapm hS => ?_)
  subst hq
  refine lv_astore_n (lv' := [(2, .ref (r 0)), (1, .ref (q 0)), (0, .ref b)]) hx hb kd_L_law_15 rfl hl (by decide) rfl (fun ls hl => ?_)
  refine lv_iconst (v := 1) hx hb kd_L_law_16 (by decide) ?_
  obtain ⟨hP, hD⟩ := sg_glue hPb hDw hPm hDm hapm.symm
  refine hx_newal (N := 1) hx hb (hts _ km_101) hK hP hD hS hA rfl (by decide) (Nat.le_of_ble_eq_true rfl) (Nat.le_of_ble_eq_true rfl) kd_L_law_17 (fun qo H hP hD hS => ?_)
  obtain ⟨hPbm, hPo, hDbm, hDo, hap1⟩ := sg_app hP hD
  obtain ⟨hPb, hPm, hDb, hDm, hap2⟩ := sg_app hPbm hDbm
  refine lv_astore_n (lv' := [(3, .ref qo), (2, .ref (r 0)), (1, .ref (q 0)), (0, .ref b)]) hx hb kd_L_law_19 rfl hl (by decide) rfl (fun ls hl => ?_)
  refine lv_iconst (v := 0) hx hb kd_L_law_20 (by decide) ?_
  refine lv_istore (lv' := [(4, .int (nI (6 * 0))), (3, .ref qo), (2, .ref (r 0)), (1, .ref (q 0)), (0, .ref b)]) hx hb kd_L_law_21 hl (by decide) rfl (fun ls hl => ?_)
  have hapo : sg_ap [ou_ cL qo (fun _ => 0)] wb := (sg_left hap1).symm
  have hapw : sg_ap (ou_ cL qo (fun _ => 0) :: wb) [((r 0), .inr (7, [.int 0, .int (nI 0), .ref (r 1), .int (nI 0), .ref (r 2), .int (nI 0), .ref (r 3), .ref (r 4), .ref (r 5), .ref (r 6), .int (nI 0), .ref (r 7), .ref (r 8), .ref (r 9), .ref (r 10), .int (nI 0), .ref (r 11), .ref (r 12), .ref (r 13), .ref (r 14), .int (nI 0), .ref (r 15), .long 0])), ((r 1), .inl (cI, 16, .inl (fun _ => 0))), ((r 2), .inl (cI, 64, .inl (fun _ => 0))), ((r 3), .inl (cI, 64, .inl (fun _ => 0))), ((r 4), .inl (cI, 64, .inl (fun _ => 0))), ((r 5), .inl (cI, 64, .inl (fun _ => 0))), ((r 6), .inl (cI, 256, .inl (fun _ => 0))), ((r 7), .inl (cI, 4, .inl (fun _ => 0))), ((r 8), .inl (cL, 4, .inr (.inl (fun _ => 0)))), ((r 9), .inl (cI, 4, .inl (fun _ => 0))), ((r 10), .inl (cZ, 64, .inl (fun _ => 0))), ((r 11), .inl (cI, 64, .inl (fun _ => 0))), ((r 12), .inl (cI, 64, .inl (fun _ => 0))), ((r 13), .inl (cI, 64, .inl (fun _ => 0))), ((r 14), .inl (cL, 256, .inr (.inl (fun _ => 0)))), ((r 15), .inl (cL, 64, .inr (.inl (fun _ => 0))))] := fun i j y z hi hj e9 => by
    cases i with
    | zero => exact sg_right hap1 j 0 z y hj hi e9.symm
    | succ i => exact hap2 i j y z hi hj e9
  refine W.widen (k := 40 + 0) (n := 2103 + 6 * 0) (by omega) (by omega) ?_
  refine lw_loop (q := q) (r := r) (qo := qo) (tb := tb) ⟨htr, hx, hb, hml, hown0, hX, hbl, hL, hC, hN⟩ hr hlocks (L + 1) 0 ls H locs (by omega) (Nat.zero_le L) (lv_sub hl [4, 3, 2, 1, 0] rfl) ⟨wb, _, _, sg_cons.mpr ⟨hPo, hPb⟩, hPm, sg_Dc hDo hDb hapo, hDm, hapw, hS, ?_⟩
  exact ⟨0, 0, 0, 0, 0, 0, 0, 0, 0, 0, fun _ => 0, fun _ => 0, fun _ => 0, fun _ => 0, fun _ => 0, fun _ => 0, fun _ => 0, fun _ => 0, fun _ => 0, fun _ => 0, fun _ => 0, fun _ => 0, fun _ => 0, fun _ => 0, fun _ => 0, fun _ => 0, fun _ => 0, fun _ => 0, fun _ => 0, fun _ => 0, hwb.symm, rfl, iv_0⟩
