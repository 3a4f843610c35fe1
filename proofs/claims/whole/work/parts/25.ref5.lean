/-! THE REFERENCE: call, exact -/
theorem la_in {P : Nat → Bool} : ∀ {n : Nat}, la_ P n = -1 ∨ ∃ j : Nat, j < n ∧ la_ P n = nI j ∧ P j = true
  | 0 => Or.inl rfl
  | n + 1 => by
    by_cases h : P n = true
    · exact Or.inr ⟨n, by omega, by simp only [la_]; rw [if_pos h], h⟩
    · have e : la_ P (n + 1) = la_ P n := by simp only [la_]; rw [if_neg h]
      rw [e]
      rcases la_in (P := P) (n := n) with h1 | ⟨j, h1, h2, h3⟩
      · exact Or.inl h1
      · exact Or.inr ⟨j, by omega, h2, h3⟩
theorem la_nn {P : Nat → Bool} {n : Nat} (h : ¬ la_ P n = -1) (hn : n ≤ 64) : ¬ la_ P n < 0 := by
  rcases la_in (P := P) (n := n) with h1 | ⟨j, h1, h2, _⟩
  · exact absurd h1 h
  · rw [h2]; exact nI_pos (by omega)

set_option maxHeartbeats 4000000 in
set_option maxRecDepth 100000 in
theorem mr_call1 {l : Launch} {D : va_G} {cI cL cZ : ClassId} {tb : Nat} (r : Nat → Nat) (rc ro rm ra rl rw : Nat) (th : Int32) (gv : Int64) (rp rk ow rn ct rt ki aq cd g1 g2 g3 : Nat → Int32) (rb gw an : Nat → Int64) (oi n : Int32) (hf : (fb_in oi ro && fb_in n 1000) = false) (sz : Nat) : Met l ky_R_call kw_R_call { frames := 1, cells := 0, slots := 0, locals := 23 } (pw_P D cI cL cZ tb [((r 0), .inr (7, [.int th, .int (nI rc), .ref (r 1), .int (nI ro), .ref (r 2), .int (nI rm), .ref (r 3), .ref (r 4), .ref (r 5), .ref (r 6), .int (nI ra), .ref (r 7), .ref (r 8), .ref (r 9), .ref (r 10), .int (nI rl), .ref (r 11), .ref (r 12), .ref (r 13), .ref (r 14), .int (nI rw), .ref (r 15), .long gv])), ((r 1), .inl (cI, 16, .inl rp)), ((r 2), .inl (cI, 64, .inl rk)), ((r 3), .inl (cI, 64, .inl ow)), ((r 4), .inl (cI, 64, .inl rn)), ((r 5), .inl (cI, 64, .inl ct)), ((r 6), .inl (cI, 256, .inl rt)), ((r 7), .inl (cI, 4, .inl ki)), ((r 8), .inl (cL, 4, .inr (.inl rb))), ((r 9), .inl (cI, 4, .inl aq)), ((r 10), .inl (cZ, 64, .inl cd)), ((r 11), .inl (cI, 64, .inl g1)), ((r 12), .inl (cI, 64, .inl g2)), ((r 13), .inl (cI, 64, .inl g3)), ((r 14), .inl (cL, 256, .inr (.inl gw))), ((r 15), .inl (cL, 64, .inr (.inl an)))] sz [.ref (r 0), .int oi, .int n]) (hx_QW D (some (.int 0)) [((r 0), .inr (7, [.int 1, .int (nI rc), .ref (r 1), .int (nI ro), .ref (r 2), .int (nI rm), .ref (r 3), .ref (r 4), .ref (r 5), .ref (r 6), .int (nI 0), .ref (r 7), .ref (r 8), .ref (r 9), .ref (r 10), .int (nI rl), .ref (r 11), .ref (r 12), .ref (r 13), .ref (r 14), .int (nI rw), .ref (r 15), .long gv])), ((r 1), .inl (cI, 16, .inl rp)), ((r 2), .inl (cI, 64, .inl rk)), ((r 3), .inl (cI, 64, .inl ow)), ((r 4), .inl (cI, 64, .inl rn)), ((r 5), .inl (cI, 64, .inl ct)), ((r 6), .inl (cI, 256, .inl rt)), ((r 7), .inl (cI, 4, .inl ki)), ((r 8), .inl (cL, 4, .inr (.inl rb))), ((r 9), .inl (cI, 4, .inl aq)), ((r 10), .inl (cZ, 64, .inl cd)), ((r 11), .inl (cI, 64, .inl g1)), ((r 12), .inl (cI, 64, .inl g2)), ((r 13), .inl (cI, 64, .inl g3)), ((r 14), .inl (cL, 256, .inr (.inl gw))), ((r 15), .inl (cL, 64, .inr (.inl an)))] (va_A [((r 0), .inr (7, [.int th, .int (nI rc), .ref (r 1), .int (nI ro), .ref (r 2), .int (nI rm), .ref (r 3), .ref (r 4), .ref (r 5), .ref (r 6), .int (nI ra), .ref (r 7), .ref (r 8), .ref (r 9), .ref (r 10), .int (nI rl), .ref (r 11), .ref (r 12), .ref (r 13), .ref (r 14), .int (nI rw), .ref (r 15), .long gv])), ((r 1), .inl (cI, 16, .inl rp)), ((r 2), .inl (cI, 64, .inl rk)), ((r 3), .inl (cI, 64, .inl ow)), ((r 4), .inl (cI, 64, .inl rn)), ((r 5), .inl (cI, 64, .inl ct)), ((r 6), .inl (cI, 256, .inl rt)), ((r 7), .inl (cI, 4, .inl ki)), ((r 8), .inl (cL, 4, .inr (.inl rb))), ((r 9), .inl (cI, 4, .inl aq)), ((r 10), .inl (cZ, 64, .inl cd)), ((r 11), .inl (cI, 64, .inl g1)), ((r 12), .inl (cI, 64, .inl g2)), ((r 13), .inl (cI, 64, .inl g3)), ((r 14), .inl (cL, 256, .inr (.inl gw))), ((r 15), .inl (cL, 64, .inr (.inl an)))] sz)) 0 0 (va_A [((r 0), .inr (7, [.int th, .int (nI rc), .ref (r 1), .int (nI ro), .ref (r 2), .int (nI rm), .ref (r 3), .ref (r 4), .ref (r 5), .ref (r 6), .int (nI ra), .ref (r 7), .ref (r 8), .ref (r 9), .ref (r 10), .int (nI rl), .ref (r 11), .ref (r 12), .ref (r 13), .ref (r 14), .int (nI rw), .ref (r 15), .long gv])), ((r 1), .inl (cI, 16, .inl rp)), ((r 2), .inl (cI, 64, .inl rk)), ((r 3), .inl (cI, 64, .inl ow)), ((r 4), .inl (cI, 64, .inl rn)), ((r 5), .inl (cI, 64, .inl ct)), ((r 6), .inl (cI, 256, .inl rt)), ((r 7), .inl (cI, 4, .inl ki)), ((r 8), .inl (cL, 4, .inr (.inl rb))), ((r 9), .inl (cI, 4, .inl aq)), ((r 10), .inl (cZ, 64, .inl cd)), ((r 11), .inl (cI, 64, .inl g1)), ((r 12), .inl (cI, 64, .inl g2)), ((r 13), .inl (cI, 64, .inl g3)), ((r 14), .inl (cL, 256, .inr (.inl gw))), ((r 15), .inl (cL, 64, .inr (.inl an)))] sz) := by
  refine Met.ofW (cc := kc_R_call) (maxL := 8) (ret := (some .int)) (by decide) rfl ?_
  intro p e s m args below meth c s₁ B hml hv
  obtain ⟨rfl, hsz, hC, hP, hD0⟩ := hv
  have hx := B.exec
  have hb := B.bytes
  have hr := B.returns
  have hlocks := B.notSynchronized
  have hown : s.vm.findClass "HostBridgeModel" = some m.cls := findClass_of_methodNamed B.named
  subst hsz
  have hD := hD0.self (sz := s.heap.size)
  generalize hAe : va_A [((r 0), .inr (7, [.int th, .int (nI rc), .ref (r 1), .int (nI ro), .ref (r 2), .int (nI rm), .ref (r 3), .ref (r 4), .ref (r 5), .ref (r 6), .int (nI ra), .ref (r 7), .ref (r 8), .ref (r 9), .ref (r 10), .int (nI rl), .ref (r 11), .ref (r 12), .ref (r 13), .ref (r 14), .int (nI rw), .ref (r 15), .long gv])), ((r 1), .inl (cI, 16, .inl rp)), ((r 2), .inl (cI, 64, .inl rk)), ((r 3), .inl (cI, 64, .inl ow)), ((r 4), .inl (cI, 64, .inl rn)), ((r 5), .inl (cI, 64, .inl ct)), ((r 6), .inl (cI, 256, .inl rt)), ((r 7), .inl (cI, 4, .inl ki)), ((r 8), .inl (cL, 4, .inr (.inl rb))), ((r 9), .inl (cI, 4, .inl aq)), ((r 10), .inl (cZ, 64, .inl cd)), ((r 11), .inl (cI, 64, .inl g1)), ((r 12), .inl (cI, 64, .inl g2)), ((r 13), .inl (cI, 64, .inl g3)), ((r 14), .inl (cL, 256, .inr (.inl gw))), ((r 15), .inl (cL, 64, .inr (.inl an)))] s.heap.size = A at hD hC ⊢
  have hA : ∀ q : Nat, s.heap.size ≤ q → A q := fun q h => by rw [← hAe]; exact Or.inr h
  have hS : va_S A s.heap s.heap [] := va_S.rf
  have hK := hC.K
  have hts := hC.ts [.ref (r 0), .int oi, .int n].toArray
  have hl := lv_entry ([.ref (r 0), .int oi, .int n]) (n := 8) (Nat.le_of_ble_eq_true rfl)
  rw [lg_entry_eq]
  generalize (lg_sl ([.ref (r 0), .int oi, .int n]) ++ List.replicate (8 - (lg_sl ([.ref (r 0), .int oi, .int n])).length) Slot.unset).toArray = ls at hl ⊢
  have hl : lv_has ls 8 [(0, .ref (r 0)), (1, .int oi), (2, .int n)] := hl
  refine lv_iload_n hx hb kd_R_call_0 rfl (lv_at hl 1 rfl) ?_
  refine lv_aload_n hx hb kd_R_call_1 rfl (lv_at hl 0 rfl) ?_
  refine va_get (D := D) (ci := 7) (v := .int (nI ro)) (C := "HostBridgeModel") (T := ct_R) (N := 23) hx hb hts cw_R hown hK hP 0 rfl rfl 3 (by decide) (hts _ km_624) (fun _ h9 => h9) rfl kd_R_call_2 ?_
  refine hx_callRi (va_runS (As := [.int oi, .int (nI ro)]) (rest := []) ⟨hx, hb, hml, hown, hts⟩ (mr_isNo oi ro) (va_cwS 2 hts (goodIn_sub (hx_m4 km_700 km_701 km_8 km_702) (by decide +kernel)) rfl rfl rfl (by decide +kernel) ⟨Nat.le_of_ble_eq_true rfl, Nat.le_of_ble_eq_true rfl⟩) (pr_S (hC.S hS) hP [] rfl) rfl rfl hl.1 rfl (lv_room (Nat.le_of_ble_eq_true rfl)) kd_R_call_5 ⟨Nat.le_of_ble_eq_true rfl, Nat.le_of_ble_eq_true rfl⟩) ?_
  refine lv_if_ne (tgt := 21) hx hb kd_R_call_8 (by decide) (fun c_8 => ?_) (fun c_8 => ?_)
  · skip
    refine lv_iconst (v := 1) hx hb kd_R_call_21 (by decide) ?_
    refine lv_goto (tgt := 26) hx hb kd_R_call_22 (by decide) ?_
    refine lv_istore_n (lv' := [(3, .int 1), (0, .ref (r 0)), (1, .int oi), (2, .int n)]) hx hb kd_R_call_26 rfl hl (by decide) rfl (fun ls hl => ?_)
    refine lv_iconst (v := 0) hx hb kd_R_call_27 (by decide) ?_
    refine lv_istore (lv' := [(4, .int 0), (3, .int 1), (0, .ref (r 0)), (1, .int oi), (2, .int n)]) hx hb kd_R_call_28 hl (by decide) rfl (fun ls hl => ?_)
    refine lv_iconst (v := -1) hx hb kd_R_call_30 (by decide) ?_
    refine lv_istore (lv' := [(5, .int (-1)), (4, .int 0), (3, .int 1), (0, .ref (r 0)), (1, .int oi), (2, .int n)]) hx hb kd_R_call_31 hl (by decide) rfl (fun ls hl => ?_)
    refine lv_iconst (v := 0) hx hb kd_R_call_33 (by decide) ?_
    refine lv_istore (lv' := [(6, .int 0), (5, .int (-1)), (4, .int 0), (3, .int 1), (0, .ref (r 0)), (1, .int oi), (2, .int n)]) hx hb kd_R_call_34 hl (by decide) rfl (fun ls hl => ?_)
    refine lv_iconst (v := 0) hx hb kd_R_call_36 (by decide) ?_
    refine lv_istore (lv' := [(7, .int 0), (6, .int 0), (5, .int (-1)), (4, .int 0), (3, .int 1), (0, .ref (r 0)), (1, .int oi), (2, .int n)]) hx hb kd_R_call_37 hl (by decide) rfl (fun ls hl => ?_)
    refine lv_iload hx hb kd_R_call_39 (lv_at hl 0 rfl) ?_
    refine lv_aload_n hx hb kd_R_call_41 rfl (lv_at hl 5 rfl) ?_
    refine va_get (D := D) (ci := 7) (v := .int (nI rm)) (C := "HostBridgeModel") (T := ct_R) (N := 23) hx hb hts cw_R hown hK hP 0 rfl rfl 5 (by decide) (hts _ km_626) (fun _ h9 => h9) rfl kd_R_call_42 ?_
    refine lv_icmp_ge (tgt := 138) hx hb kd_R_call_45 (by decide) (fun c_45 => ?_) (fun c_45 => ?_)
    · skip
      refine lv_iconst (v := 0) hx hb kd_R_call_138 (by decide) ?_
      refine lv_istore (lv' := [(7, .int 0), (6, .int 0), (5, .int (-1)), (4, .int 0), (3, .int 1), (0, .ref (r 0)), (1, .int oi), (2, .int n)]) hx hb kd_R_call_139 hl (by decide) rfl (fun ls hl => ?_)
      refine lv_iload hx hb kd_R_call_141 (lv_at hl 0 rfl) ?_
      refine lv_aload_n hx hb kd_R_call_143 rfl (lv_at hl 5 rfl) ?_
      refine va_get (D := D) (ci := 7) (v := .int (nI rm)) (C := "HostBridgeModel") (T := ct_R) (N := 23) hx hb hts cw_R hown hK hP 0 rfl rfl 5 (by decide) (hts _ km_626) (fun _ h9 => h9) rfl kd_R_call_144 ?_
      refine lv_icmp_ge (tgt := 179) hx hb kd_R_call_147 (by decide) (fun c_147 => ?_) (fun c_147 => ?_)
      · skip
        refine lv_aload_n hx hb kd_R_call_179 rfl (lv_at hl 5 rfl) ?_
        refine lv_iload_n hx hb kd_R_call_180 rfl (lv_at hl 4 rfl) ?_
        refine lv_iload_n hx hb kd_R_call_181 rfl (lv_at hl 4 rfl) ?_
        refine lv_if_ne (tgt := 194) hx hb kd_R_call_182 (by decide) (fun c_182 => ?_) (fun c_182 => ?_)
        · skip
          refine lv_iconst (v := 0) hx hb kd_R_call_194 (by decide) ?_
          refine lv_iload hx hb kd_R_call_195 (lv_at hl 3 rfl) ?_
          refine lv_if_le (tgt := 210) hx hb kd_R_call_197 (by decide) (fun c_197 => ?_) (fun c_197 => ?_)
          · skip
            refine lv_iconst (v := 0) hx hb kd_R_call_210 (by decide) ?_
            refine hx_callWi (va_runV (As := [.int 1, .int 0, .int 0]) (rest := []) ⟨hx, hb, hml, hown, hts⟩ (mr_throwing1 r rc ro rm ra rl rw th gv rp rk ow rn ct rt ki aq cd g1 g2 g3 rb gw an _) (cwV 3 hts (goodIn_sub (hx_m5 km_703 km_705 kv_R_throwing km_8 km_706) (by decide +kernel)) rfl rfl rfl (by decide +kernel) ⟨Nat.le_of_ble_eq_true rfl, Nat.le_of_ble_eq_true rfl⟩) (pw_V (hC.S hS) hP hD hS hA [0] (by decide) rfl (ci := 7) rfl (q0 := 0) rfl) rfl rfl hl.1 rfl (lv_room (Nat.le_of_ble_eq_true rfl)) kd_R_call_211 ⟨Nat.le_of_ble_eq_true rfl, Nat.le_of_ble_eq_true rfl⟩) hP hD hS hA [0] rfl rfl (fun H locs hP hD hS hF => ?_)
            have hP : va_P D cl_all [((r 0), .inr (7, [.int 1, .int (nI rc), .ref (r 1), .int (nI ro), .ref (r 2), .int (nI rm), .ref (r 3), .ref (r 4), .ref (r 5), .ref (r 6), .int (nI ra), .ref (r 7), .ref (r 8), .ref (r 9), .ref (r 10), .int (nI rl), .ref (r 11), .ref (r 12), .ref (r 13), .ref (r 14), .int (nI rw), .ref (r 15), .long gv])), ((r 1), .inl (cI, 16, .inl rp)), ((r 2), .inl (cI, 64, .inl rk)), ((r 3), .inl (cI, 64, .inl ow)), ((r 4), .inl (cI, 64, .inl rn)), ((r 5), .inl (cI, 64, .inl ct)), ((r 6), .inl (cI, 256, .inl rt)), ((r 7), .inl (cI, 4, .inl ki)), ((r 8), .inl (cL, 4, .inr (.inl rb))), ((r 9), .inl (cI, 4, .inl aq)), ((r 10), .inl (cZ, 64, .inl cd)), ((r 11), .inl (cI, 64, .inl g1)), ((r 12), .inl (cI, 64, .inl g2)), ((r 13), .inl (cI, 64, .inl g3)), ((r 14), .inl (cL, 256, .inr (.inl gw))), ((r 15), .inl (cL, 64, .inr (.inl an)))] H := hP
            have hD : va_D A [((r 0), .inr (7, [.int 1, .int (nI rc), .ref (r 1), .int (nI ro), .ref (r 2), .int (nI rm), .ref (r 3), .ref (r 4), .ref (r 5), .ref (r 6), .int (nI ra), .ref (r 7), .ref (r 8), .ref (r 9), .ref (r 10), .int (nI rl), .ref (r 11), .ref (r 12), .ref (r 13), .ref (r 14), .int (nI rw), .ref (r 15), .long gv])), ((r 1), .inl (cI, 16, .inl rp)), ((r 2), .inl (cI, 64, .inl rk)), ((r 3), .inl (cI, 64, .inl ow)), ((r 4), .inl (cI, 64, .inl rn)), ((r 5), .inl (cI, 64, .inl ct)), ((r 6), .inl (cI, 256, .inl rt)), ((r 7), .inl (cI, 4, .inl ki)), ((r 8), .inl (cL, 4, .inr (.inl rb))), ((r 9), .inl (cI, 4, .inl aq)), ((r 10), .inl (cZ, 64, .inl cd)), ((r 11), .inl (cI, 64, .inl g1)), ((r 12), .inl (cI, 64, .inl g2)), ((r 13), .inl (cI, 64, .inl g3)), ((r 14), .inl (cL, 256, .inr (.inl gw))), ((r 15), .inl (cL, 64, .inr (.inl an)))] := hD
            refine hx_topi (y := 1) (rfl) ?_
            refine lv_if_eq (tgt := 224) hx hb kd_R_call_214 (by decide) (fun c_214 => ?_) (fun c_214 => ?_)
            · exact absurd c_214 (by decide)
            · skip
              refine lv_aload_n hx hb kd_R_call_217 rfl (lv_at hl 5 rfl) ?_
              refine lv_iconst (v := 0) hx hb kd_R_call_218 (by decide) ?_
              refine hx_topi (y := nI 0) (rfl) ?_
              refine va_put (D := D) (ci := 7) (v := .int (nI 0)) (ty := .int) (C := "HostBridgeModel") (T := ct_R) (N := 23) hx hb hts cw_R cy_R cp_R cn_R hown hK hP hD hS 0 rfl rfl 10 (by decide) (hts _ km_631) (fun _ h9 => h9) rfl (by decide +kernel) rfl rfl (Nat.le_of_ble_eq_true rfl) kd_R_call_219 (fun H locs hP hD hS => ?_)
              have hP : va_P D cl_all [((r 0), .inr (7, [.int 1, .int (nI rc), .ref (r 1), .int (nI ro), .ref (r 2), .int (nI rm), .ref (r 3), .ref (r 4), .ref (r 5), .ref (r 6), .int (nI 0), .ref (r 7), .ref (r 8), .ref (r 9), .ref (r 10), .int (nI rl), .ref (r 11), .ref (r 12), .ref (r 13), .ref (r 14), .int (nI rw), .ref (r 15), .long gv])), ((r 1), .inl (cI, 16, .inl rp)), ((r 2), .inl (cI, 64, .inl rk)), ((r 3), .inl (cI, 64, .inl ow)), ((r 4), .inl (cI, 64, .inl rn)), ((r 5), .inl (cI, 64, .inl ct)), ((r 6), .inl (cI, 256, .inl rt)), ((r 7), .inl (cI, 4, .inl ki)), ((r 8), .inl (cL, 4, .inr (.inl rb))), ((r 9), .inl (cI, 4, .inl aq)), ((r 10), .inl (cZ, 64, .inl cd)), ((r 11), .inl (cI, 64, .inl g1)), ((r 12), .inl (cI, 64, .inl g2)), ((r 13), .inl (cI, 64, .inl g3)), ((r 14), .inl (cL, 256, .inr (.inl gw))), ((r 15), .inl (cL, 64, .inr (.inl an)))] H := hP
              have hD : va_D A [((r 0), .inr (7, [.int 1, .int (nI rc), .ref (r 1), .int (nI ro), .ref (r 2), .int (nI rm), .ref (r 3), .ref (r 4), .ref (r 5), .ref (r 6), .int (nI 0), .ref (r 7), .ref (r 8), .ref (r 9), .ref (r 10), .int (nI rl), .ref (r 11), .ref (r 12), .ref (r 13), .ref (r 14), .int (nI rw), .ref (r 15), .long gv])), ((r 1), .inl (cI, 16, .inl rp)), ((r 2), .inl (cI, 64, .inl rk)), ((r 3), .inl (cI, 64, .inl ow)), ((r 4), .inl (cI, 64, .inl rn)), ((r 5), .inl (cI, 64, .inl ct)), ((r 6), .inl (cI, 256, .inl rt)), ((r 7), .inl (cI, 4, .inl ki)), ((r 8), .inl (cL, 4, .inr (.inl rb))), ((r 9), .inl (cI, 4, .inl aq)), ((r 10), .inl (cZ, 64, .inl cd)), ((r 11), .inl (cI, 64, .inl g1)), ((r 12), .inl (cI, 64, .inl g2)), ((r 13), .inl (cI, 64, .inl g3)), ((r 14), .inl (cL, 256, .inr (.inl gw))), ((r 15), .inl (cL, 64, .inr (.inl an)))] := hD
              refine lv_iconst (v := 0) hx hb kd_R_call_222 (by decide) ?_
              exact hx_iretW hx hb hr hlocks (rfl) (hP) hS kd_R_call_223
          · exact absurd c_197 (not_not_intro (by decide))
        · exact absurd c_182 (by decide)
      · skip
        refine lv_iload_n hx hb kd_R_call_150 rfl (lv_at hl 4 rfl) ?_
        refine lv_if_ne (tgt := 179) hx hb kd_R_call_151 (by decide) (fun c_151 => ?_) (fun c_151 => ?_)
        · skip
          refine lv_aload_n hx hb kd_R_call_179 rfl (lv_at hl 5 rfl) ?_
          refine lv_iload_n hx hb kd_R_call_180 rfl (lv_at hl 4 rfl) ?_
          refine lv_iload_n hx hb kd_R_call_181 rfl (lv_at hl 4 rfl) ?_
          refine lv_if_ne (tgt := 194) hx hb kd_R_call_182 (by decide) (fun c_182 => ?_) (fun c_182 => ?_)
          · skip
            refine lv_iconst (v := 0) hx hb kd_R_call_194 (by decide) ?_
            refine lv_iload hx hb kd_R_call_195 (lv_at hl 3 rfl) ?_
            refine lv_if_le (tgt := 210) hx hb kd_R_call_197 (by decide) (fun c_197 => ?_) (fun c_197 => ?_)
            · skip
              refine lv_iconst (v := 0) hx hb kd_R_call_210 (by decide) ?_
              refine hx_callWi (va_runV (As := [.int 1, .int 0, .int 0]) (rest := []) ⟨hx, hb, hml, hown, hts⟩ (mr_throwing1 r rc ro rm ra rl rw th gv rp rk ow rn ct rt ki aq cd g1 g2 g3 rb gw an _) (cwV 3 hts (goodIn_sub (hx_m5 km_703 km_705 kv_R_throwing km_8 km_706) (by decide +kernel)) rfl rfl rfl (by decide +kernel) ⟨Nat.le_of_ble_eq_true rfl, Nat.le_of_ble_eq_true rfl⟩) (pw_V (hC.S hS) hP hD hS hA [0] (by decide) rfl (ci := 7) rfl (q0 := 0) rfl) rfl rfl hl.1 rfl (lv_room (Nat.le_of_ble_eq_true rfl)) kd_R_call_211 ⟨Nat.le_of_ble_eq_true rfl, Nat.le_of_ble_eq_true rfl⟩) hP hD hS hA [0] rfl rfl (fun H locs hP hD hS hF => ?_)
              have hP : va_P D cl_all [((r 0), .inr (7, [.int 1, .int (nI rc), .ref (r 1), .int (nI ro), .ref (r 2), .int (nI rm), .ref (r 3), .ref (r 4), .ref (r 5), .ref (r 6), .int (nI ra), .ref (r 7), .ref (r 8), .ref (r 9), .ref (r 10), .int (nI rl), .ref (r 11), .ref (r 12), .ref (r 13), .ref (r 14), .int (nI rw), .ref (r 15), .long gv])), ((r 1), .inl (cI, 16, .inl rp)), ((r 2), .inl (cI, 64, .inl rk)), ((r 3), .inl (cI, 64, .inl ow)), ((r 4), .inl (cI, 64, .inl rn)), ((r 5), .inl (cI, 64, .inl ct)), ((r 6), .inl (cI, 256, .inl rt)), ((r 7), .inl (cI, 4, .inl ki)), ((r 8), .inl (cL, 4, .inr (.inl rb))), ((r 9), .inl (cI, 4, .inl aq)), ((r 10), .inl (cZ, 64, .inl cd)), ((r 11), .inl (cI, 64, .inl g1)), ((r 12), .inl (cI, 64, .inl g2)), ((r 13), .inl (cI, 64, .inl g3)), ((r 14), .inl (cL, 256, .inr (.inl gw))), ((r 15), .inl (cL, 64, .inr (.inl an)))] H := hP
              have hD : va_D A [((r 0), .inr (7, [.int 1, .int (nI rc), .ref (r 1), .int (nI ro), .ref (r 2), .int (nI rm), .ref (r 3), .ref (r 4), .ref (r 5), .ref (r 6), .int (nI ra), .ref (r 7), .ref (r 8), .ref (r 9), .ref (r 10), .int (nI rl), .ref (r 11), .ref (r 12), .ref (r 13), .ref (r 14), .int (nI rw), .ref (r 15), .long gv])), ((r 1), .inl (cI, 16, .inl rp)), ((r 2), .inl (cI, 64, .inl rk)), ((r 3), .inl (cI, 64, .inl ow)), ((r 4), .inl (cI, 64, .inl rn)), ((r 5), .inl (cI, 64, .inl ct)), ((r 6), .inl (cI, 256, .inl rt)), ((r 7), .inl (cI, 4, .inl ki)), ((r 8), .inl (cL, 4, .inr (.inl rb))), ((r 9), .inl (cI, 4, .inl aq)), ((r 10), .inl (cZ, 64, .inl cd)), ((r 11), .inl (cI, 64, .inl g1)), ((r 12), .inl (cI, 64, .inl g2)), ((r 13), .inl (cI, 64, .inl g3)), ((r 14), .inl (cL, 256, .inr (.inl gw))), ((r 15), .inl (cL, 64, .inr (.inl an)))] := hD
              refine hx_topi (y := 1) (rfl) ?_
              refine lv_if_eq (tgt := 224) hx hb kd_R_call_214 (by decide) (fun c_214 => ?_) (fun c_214 => ?_)
              · exact absurd c_214 (by decide)
              · skip
                refine lv_aload_n hx hb kd_R_call_217 rfl (lv_at hl 5 rfl) ?_
                refine lv_iconst (v := 0) hx hb kd_R_call_218 (by decide) ?_
                refine hx_topi (y := nI 0) (rfl) ?_
                refine va_put (D := D) (ci := 7) (v := .int (nI 0)) (ty := .int) (C := "HostBridgeModel") (T := ct_R) (N := 23) hx hb hts cw_R cy_R cp_R cn_R hown hK hP hD hS 0 rfl rfl 10 (by decide) (hts _ km_631) (fun _ h9 => h9) rfl (by decide +kernel) rfl rfl (Nat.le_of_ble_eq_true rfl) kd_R_call_219 (fun H locs hP hD hS => ?_)
                have hP : va_P D cl_all [((r 0), .inr (7, [.int 1, .int (nI rc), .ref (r 1), .int (nI ro), .ref (r 2), .int (nI rm), .ref (r 3), .ref (r 4), .ref (r 5), .ref (r 6), .int (nI 0), .ref (r 7), .ref (r 8), .ref (r 9), .ref (r 10), .int (nI rl), .ref (r 11), .ref (r 12), .ref (r 13), .ref (r 14), .int (nI rw), .ref (r 15), .long gv])), ((r 1), .inl (cI, 16, .inl rp)), ((r 2), .inl (cI, 64, .inl rk)), ((r 3), .inl (cI, 64, .inl ow)), ((r 4), .inl (cI, 64, .inl rn)), ((r 5), .inl (cI, 64, .inl ct)), ((r 6), .inl (cI, 256, .inl rt)), ((r 7), .inl (cI, 4, .inl ki)), ((r 8), .inl (cL, 4, .inr (.inl rb))), ((r 9), .inl (cI, 4, .inl aq)), ((r 10), .inl (cZ, 64, .inl cd)), ((r 11), .inl (cI, 64, .inl g1)), ((r 12), .inl (cI, 64, .inl g2)), ((r 13), .inl (cI, 64, .inl g3)), ((r 14), .inl (cL, 256, .inr (.inl gw))), ((r 15), .inl (cL, 64, .inr (.inl an)))] H := hP
                have hD : va_D A [((r 0), .inr (7, [.int 1, .int (nI rc), .ref (r 1), .int (nI ro), .ref (r 2), .int (nI rm), .ref (r 3), .ref (r 4), .ref (r 5), .ref (r 6), .int (nI 0), .ref (r 7), .ref (r 8), .ref (r 9), .ref (r 10), .int (nI rl), .ref (r 11), .ref (r 12), .ref (r 13), .ref (r 14), .int (nI rw), .ref (r 15), .long gv])), ((r 1), .inl (cI, 16, .inl rp)), ((r 2), .inl (cI, 64, .inl rk)), ((r 3), .inl (cI, 64, .inl ow)), ((r 4), .inl (cI, 64, .inl rn)), ((r 5), .inl (cI, 64, .inl ct)), ((r 6), .inl (cI, 256, .inl rt)), ((r 7), .inl (cI, 4, .inl ki)), ((r 8), .inl (cL, 4, .inr (.inl rb))), ((r 9), .inl (cI, 4, .inl aq)), ((r 10), .inl (cZ, 64, .inl cd)), ((r 11), .inl (cI, 64, .inl g1)), ((r 12), .inl (cI, 64, .inl g2)), ((r 13), .inl (cI, 64, .inl g3)), ((r 14), .inl (cL, 256, .inr (.inl gw))), ((r 15), .inl (cL, 64, .inr (.inl an)))] := hD
                refine lv_iconst (v := 0) hx hb kd_R_call_222 (by decide) ?_
                exact hx_iretW hx hb hr hlocks (rfl) (hP) hS kd_R_call_223
            · exact absurd c_197 (not_not_intro (by decide))
          · exact absurd c_182 (by decide)
        · exact absurd c_151 (by decide)
    · skip
      refine lv_iload_n hx hb kd_R_call_48 rfl (lv_at hl 4 rfl) ?_
      refine lv_if_ne (tgt := 138) hx hb kd_R_call_49 (by decide) (fun c_49 => ?_) (fun c_49 => ?_)
      · skip
        refine lv_iconst (v := 0) hx hb kd_R_call_138 (by decide) ?_
        refine lv_istore (lv' := [(7, .int 0), (6, .int 0), (5, .int (-1)), (4, .int 0), (3, .int 1), (0, .ref (r 0)), (1, .int oi), (2, .int n)]) hx hb kd_R_call_139 hl (by decide) rfl (fun ls hl => ?_)
        refine lv_iload hx hb kd_R_call_141 (lv_at hl 0 rfl) ?_
        refine lv_aload_n hx hb kd_R_call_143 rfl (lv_at hl 5 rfl) ?_
        refine va_get (D := D) (ci := 7) (v := .int (nI rm)) (C := "HostBridgeModel") (T := ct_R) (N := 23) hx hb hts cw_R hown hK hP 0 rfl rfl 5 (by decide) (hts _ km_626) (fun _ h9 => h9) rfl kd_R_call_144 ?_
        refine lv_icmp_ge (tgt := 179) hx hb kd_R_call_147 (by decide) (fun c_147 => ?_) (fun c_147 => ?_)
        · skip
          refine lv_aload_n hx hb kd_R_call_179 rfl (lv_at hl 5 rfl) ?_
          refine lv_iload_n hx hb kd_R_call_180 rfl (lv_at hl 4 rfl) ?_
          refine lv_iload_n hx hb kd_R_call_181 rfl (lv_at hl 4 rfl) ?_
          refine lv_if_ne (tgt := 194) hx hb kd_R_call_182 (by decide) (fun c_182 => ?_) (fun c_182 => ?_)
          · skip
            refine lv_iconst (v := 0) hx hb kd_R_call_194 (by decide) ?_
            refine lv_iload hx hb kd_R_call_195 (lv_at hl 3 rfl) ?_
            refine lv_if_le (tgt := 210) hx hb kd_R_call_197 (by decide) (fun c_197 => ?_) (fun c_197 => ?_)
            · skip
              refine lv_iconst (v := 0) hx hb kd_R_call_210 (by decide) ?_
              refine hx_callWi (va_runV (As := [.int 1, .int 0, .int 0]) (rest := []) ⟨hx, hb, hml, hown, hts⟩ (mr_throwing1 r rc ro rm ra rl rw th gv rp rk ow rn ct rt ki aq cd g1 g2 g3 rb gw an _) (cwV 3 hts (goodIn_sub (hx_m5 km_703 km_705 kv_R_throwing km_8 km_706) (by decide +kernel)) rfl rfl rfl (by decide +kernel) ⟨Nat.le_of_ble_eq_true rfl, Nat.le_of_ble_eq_true rfl⟩) (pw_V (hC.S hS) hP hD hS hA [0] (by decide) rfl (ci := 7) rfl (q0 := 0) rfl) rfl rfl hl.1 rfl (lv_room (Nat.le_of_ble_eq_true rfl)) kd_R_call_211 ⟨Nat.le_of_ble_eq_true rfl, Nat.le_of_ble_eq_true rfl⟩) hP hD hS hA [0] rfl rfl (fun H locs hP hD hS hF => ?_)
              have hP : va_P D cl_all [((r 0), .inr (7, [.int 1, .int (nI rc), .ref (r 1), .int (nI ro), .ref (r 2), .int (nI rm), .ref (r 3), .ref (r 4), .ref (r 5), .ref (r 6), .int (nI ra), .ref (r 7), .ref (r 8), .ref (r 9), .ref (r 10), .int (nI rl), .ref (r 11), .ref (r 12), .ref (r 13), .ref (r 14), .int (nI rw), .ref (r 15), .long gv])), ((r 1), .inl (cI, 16, .inl rp)), ((r 2), .inl (cI, 64, .inl rk)), ((r 3), .inl (cI, 64, .inl ow)), ((r 4), .inl (cI, 64, .inl rn)), ((r 5), .inl (cI, 64, .inl ct)), ((r 6), .inl (cI, 256, .inl rt)), ((r 7), .inl (cI, 4, .inl ki)), ((r 8), .inl (cL, 4, .inr (.inl rb))), ((r 9), .inl (cI, 4, .inl aq)), ((r 10), .inl (cZ, 64, .inl cd)), ((r 11), .inl (cI, 64, .inl g1)), ((r 12), .inl (cI, 64, .inl g2)), ((r 13), .inl (cI, 64, .inl g3)), ((r 14), .inl (cL, 256, .inr (.inl gw))), ((r 15), .inl (cL, 64, .inr (.inl an)))] H := hP
              have hD : va_D A [((r 0), .inr (7, [.int 1, .int (nI rc), .ref (r 1), .int (nI ro), .ref (r 2), .int (nI rm), .ref (r 3), .ref (r 4), .ref (r 5), .ref (r 6), .int (nI ra), .ref (r 7), .ref (r 8), .ref (r 9), .ref (r 10), .int (nI rl), .ref (r 11), .ref (r 12), .ref (r 13), .ref (r 14), .int (nI rw), .ref (r 15), .long gv])), ((r 1), .inl (cI, 16, .inl rp)), ((r 2), .inl (cI, 64, .inl rk)), ((r 3), .inl (cI, 64, .inl ow)), ((r 4), .inl (cI, 64, .inl rn)), ((r 5), .inl (cI, 64, .inl ct)), ((r 6), .inl (cI, 256, .inl rt)), ((r 7), .inl (cI, 4, .inl ki)), ((r 8), .inl (cL, 4, .inr (.inl rb))), ((r 9), .inl (cI, 4, .inl aq)), ((r 10), .inl (cZ, 64, .inl cd)), ((r 11), .inl (cI, 64, .inl g1)), ((r 12), .inl (cI, 64, .inl g2)), ((r 13), .inl (cI, 64, .inl g3)), ((r 14), .inl (cL, 256, .inr (.inl gw))), ((r 15), .inl (cL, 64, .inr (.inl an)))] := hD
              refine hx_topi (y := 1) (rfl) ?_
              refine lv_if_eq (tgt := 224) hx hb kd_R_call_214 (by decide) (fun c_214 => ?_) (fun c_214 => ?_)
              · exact absurd c_214 (by decide)
              · skip
                refine lv_aload_n hx hb kd_R_call_217 rfl (lv_at hl 5 rfl) ?_
                refine lv_iconst (v := 0) hx hb kd_R_call_218 (by decide) ?_
                refine hx_topi (y := nI 0) (rfl) ?_
                refine va_put (D := D) (ci := 7) (v := .int (nI 0)) (ty := .int) (C := "HostBridgeModel") (T := ct_R) (N := 23) hx hb hts cw_R cy_R cp_R cn_R hown hK hP hD hS 0 rfl rfl 10 (by decide) (hts _ km_631) (fun _ h9 => h9) rfl (by decide +kernel) rfl rfl (Nat.le_of_ble_eq_true rfl) kd_R_call_219 (fun H locs hP hD hS => ?_)
                have hP : va_P D cl_all [((r 0), .inr (7, [.int 1, .int (nI rc), .ref (r 1), .int (nI ro), .ref (r 2), .int (nI rm), .ref (r 3), .ref (r 4), .ref (r 5), .ref (r 6), .int (nI 0), .ref (r 7), .ref (r 8), .ref (r 9), .ref (r 10), .int (nI rl), .ref (r 11), .ref (r 12), .ref (r 13), .ref (r 14), .int (nI rw), .ref (r 15), .long gv])), ((r 1), .inl (cI, 16, .inl rp)), ((r 2), .inl (cI, 64, .inl rk)), ((r 3), .inl (cI, 64, .inl ow)), ((r 4), .inl (cI, 64, .inl rn)), ((r 5), .inl (cI, 64, .inl ct)), ((r 6), .inl (cI, 256, .inl rt)), ((r 7), .inl (cI, 4, .inl ki)), ((r 8), .inl (cL, 4, .inr (.inl rb))), ((r 9), .inl (cI, 4, .inl aq)), ((r 10), .inl (cZ, 64, .inl cd)), ((r 11), .inl (cI, 64, .inl g1)), ((r 12), .inl (cI, 64, .inl g2)), ((r 13), .inl (cI, 64, .inl g3)), ((r 14), .inl (cL, 256, .inr (.inl gw))), ((r 15), .inl (cL, 64, .inr (.inl an)))] H := hP
                have hD : va_D A [((r 0), .inr (7, [.int 1, .int (nI rc), .ref (r 1), .int (nI ro), .ref (r 2), .int (nI rm), .ref (r 3), .ref (r 4), .ref (r 5), .ref (r 6), .int (nI 0), .ref (r 7), .ref (r 8), .ref (r 9), .ref (r 10), .int (nI rl), .ref (r 11), .ref (r 12), .ref (r 13), .ref (r 14), .int (nI rw), .ref (r 15), .long gv])), ((r 1), .inl (cI, 16, .inl rp)), ((r 2), .inl (cI, 64, .inl rk)), ((r 3), .inl (cI, 64, .inl ow)), ((r 4), .inl (cI, 64, .inl rn)), ((r 5), .inl (cI, 64, .inl ct)), ((r 6), .inl (cI, 256, .inl rt)), ((r 7), .inl (cI, 4, .inl ki)), ((r 8), .inl (cL, 4, .inr (.inl rb))), ((r 9), .inl (cI, 4, .inl aq)), ((r 10), .inl (cZ, 64, .inl cd)), ((r 11), .inl (cI, 64, .inl g1)), ((r 12), .inl (cI, 64, .inl g2)), ((r 13), .inl (cI, 64, .inl g3)), ((r 14), .inl (cL, 256, .inr (.inl gw))), ((r 15), .inl (cL, 64, .inr (.inl an)))] := hD
                refine lv_iconst (v := 0) hx hb kd_R_call_222 (by decide) ?_
                exact hx_iretW hx hb hr hlocks (rfl) (hP) hS kd_R_call_223
            · exact absurd c_197 (not_not_intro (by decide))
          · exact absurd c_182 (by decide)
        · skip
          refine lv_iload_n hx hb kd_R_call_150 rfl (lv_at hl 4 rfl) ?_
          refine lv_if_ne (tgt := 179) hx hb kd_R_call_151 (by decide) (fun c_151 => ?_) (fun c_151 => ?_)
          · skip
            refine lv_aload_n hx hb kd_R_call_179 rfl (lv_at hl 5 rfl) ?_
            refine lv_iload_n hx hb kd_R_call_180 rfl (lv_at hl 4 rfl) ?_
            refine lv_iload_n hx hb kd_R_call_181 rfl (lv_at hl 4 rfl) ?_
            refine lv_if_ne (tgt := 194) hx hb kd_R_call_182 (by decide) (fun c_182 => ?_) (fun c_182 => ?_)
            · skip
              refine lv_iconst (v := 0) hx hb kd_R_call_194 (by decide) ?_
              refine lv_iload hx hb kd_R_call_195 (lv_at hl 3 rfl) ?_
              refine lv_if_le (tgt := 210) hx hb kd_R_call_197 (by decide) (fun c_197 => ?_) (fun c_197 => ?_)
              · skip
                refine lv_iconst (v := 0) hx hb kd_R_call_210 (by decide) ?_
                refine hx_callWi (va_runV (As := [.int 1, .int 0, .int 0]) (rest := []) ⟨hx, hb, hml, hown, hts⟩ (mr_throwing1 r rc ro rm ra rl rw th gv rp rk ow rn ct rt ki aq cd g1 g2 g3 rb gw an _) (cwV 3 hts (goodIn_sub (hx_m5 km_703 km_705 kv_R_throwing km_8 km_706) (by decide +kernel)) rfl rfl rfl (by decide +kernel) ⟨Nat.le_of_ble_eq_true rfl, Nat.le_of_ble_eq_true rfl⟩) (pw_V (hC.S hS) hP hD hS hA [0] (by decide) rfl (ci := 7) rfl (q0 := 0) rfl) rfl rfl hl.1 rfl (lv_room (Nat.le_of_ble_eq_true rfl)) kd_R_call_211 ⟨Nat.le_of_ble_eq_true rfl, Nat.le_of_ble_eq_true rfl⟩) hP hD hS hA [0] rfl rfl (fun H locs hP hD hS hF => ?_)
                have hP : va_P D cl_all [((r 0), .inr (7, [.int 1, .int (nI rc), .ref (r 1), .int (nI ro), .ref (r 2), .int (nI rm), .ref (r 3), .ref (r 4), .ref (r 5), .ref (r 6), .int (nI ra), .ref (r 7), .ref (r 8), .ref (r 9), .ref (r 10), .int (nI rl), .ref (r 11), .ref (r 12), .ref (r 13), .ref (r 14), .int (nI rw), .ref (r 15), .long gv])), ((r 1), .inl (cI, 16, .inl rp)), ((r 2), .inl (cI, 64, .inl rk)), ((r 3), .inl (cI, 64, .inl ow)), ((r 4), .inl (cI, 64, .inl rn)), ((r 5), .inl (cI, 64, .inl ct)), ((r 6), .inl (cI, 256, .inl rt)), ((r 7), .inl (cI, 4, .inl ki)), ((r 8), .inl (cL, 4, .inr (.inl rb))), ((r 9), .inl (cI, 4, .inl aq)), ((r 10), .inl (cZ, 64, .inl cd)), ((r 11), .inl (cI, 64, .inl g1)), ((r 12), .inl (cI, 64, .inl g2)), ((r 13), .inl (cI, 64, .inl g3)), ((r 14), .inl (cL, 256, .inr (.inl gw))), ((r 15), .inl (cL, 64, .inr (.inl an)))] H := hP
                have hD : va_D A [((r 0), .inr (7, [.int 1, .int (nI rc), .ref (r 1), .int (nI ro), .ref (r 2), .int (nI rm), .ref (r 3), .ref (r 4), .ref (r 5), .ref (r 6), .int (nI ra), .ref (r 7), .ref (r 8), .ref (r 9), .ref (r 10), .int (nI rl), .ref (r 11), .ref (r 12), .ref (r 13), .ref (r 14), .int (nI rw), .ref (r 15), .long gv])), ((r 1), .inl (cI, 16, .inl rp)), ((r 2), .inl (cI, 64, .inl rk)), ((r 3), .inl (cI, 64, .inl ow)), ((r 4), .inl (cI, 64, .inl rn)), ((r 5), .inl (cI, 64, .inl ct)), ((r 6), .inl (cI, 256, .inl rt)), ((r 7), .inl (cI, 4, .inl ki)), ((r 8), .inl (cL, 4, .inr (.inl rb))), ((r 9), .inl (cI, 4, .inl aq)), ((r 10), .inl (cZ, 64, .inl cd)), ((r 11), .inl (cI, 64, .inl g1)), ((r 12), .inl (cI, 64, .inl g2)), ((r 13), .inl (cI, 64, .inl g3)), ((r 14), .inl (cL, 256, .inr (.inl gw))), ((r 15), .inl (cL, 64, .inr (.inl an)))] := hD
                refine hx_topi (y := 1) (rfl) ?_
                refine lv_if_eq (tgt := 224) hx hb kd_R_call_214 (by decide) (fun c_214 => ?_) (fun c_214 => ?_)
                · exact absurd c_214 (by decide)
                · skip
                  refine lv_aload_n hx hb kd_R_call_217 rfl (lv_at hl 5 rfl) ?_
                  refine lv_iconst (v := 0) hx hb kd_R_call_218 (by decide) ?_
                  refine hx_topi (y := nI 0) (rfl) ?_
                  refine va_put (D := D) (ci := 7) (v := .int (nI 0)) (ty := .int) (C := "HostBridgeModel") (T := ct_R) (N := 23) hx hb hts cw_R cy_R cp_R cn_R hown hK hP hD hS 0 rfl rfl 10 (by decide) (hts _ km_631) (fun _ h9 => h9) rfl (by decide +kernel) rfl rfl (Nat.le_of_ble_eq_true rfl) kd_R_call_219 (fun H locs hP hD hS => ?_)
                  have hP : va_P D cl_all [((r 0), .inr (7, [.int 1, .int (nI rc), .ref (r 1), .int (nI ro), .ref (r 2), .int (nI rm), .ref (r 3), .ref (r 4), .ref (r 5), .ref (r 6), .int (nI 0), .ref (r 7), .ref (r 8), .ref (r 9), .ref (r 10), .int (nI rl), .ref (r 11), .ref (r 12), .ref (r 13), .ref (r 14), .int (nI rw), .ref (r 15), .long gv])), ((r 1), .inl (cI, 16, .inl rp)), ((r 2), .inl (cI, 64, .inl rk)), ((r 3), .inl (cI, 64, .inl ow)), ((r 4), .inl (cI, 64, .inl rn)), ((r 5), .inl (cI, 64, .inl ct)), ((r 6), .inl (cI, 256, .inl rt)), ((r 7), .inl (cI, 4, .inl ki)), ((r 8), .inl (cL, 4, .inr (.inl rb))), ((r 9), .inl (cI, 4, .inl aq)), ((r 10), .inl (cZ, 64, .inl cd)), ((r 11), .inl (cI, 64, .inl g1)), ((r 12), .inl (cI, 64, .inl g2)), ((r 13), .inl (cI, 64, .inl g3)), ((r 14), .inl (cL, 256, .inr (.inl gw))), ((r 15), .inl (cL, 64, .inr (.inl an)))] H := hP
                  have hD : va_D A [((r 0), .inr (7, [.int 1, .int (nI rc), .ref (r 1), .int (nI ro), .ref (r 2), .int (nI rm), .ref (r 3), .ref (r 4), .ref (r 5), .ref (r 6), .int (nI 0), .ref (r 7), .ref (r 8), .ref (r 9), .ref (r 10), .int (nI rl), .ref (r 11), .ref (r 12), .ref (r 13), .ref (r 14), .int (nI rw), .ref (r 15), .long gv])), ((r 1), .inl (cI, 16, .inl rp)), ((r 2), .inl (cI, 64, .inl rk)), ((r 3), .inl (cI, 64, .inl ow)), ((r 4), .inl (cI, 64, .inl rn)), ((r 5), .inl (cI, 64, .inl ct)), ((r 6), .inl (cI, 256, .inl rt)), ((r 7), .inl (cI, 4, .inl ki)), ((r 8), .inl (cL, 4, .inr (.inl rb))), ((r 9), .inl (cI, 4, .inl aq)), ((r 10), .inl (cZ, 64, .inl cd)), ((r 11), .inl (cI, 64, .inl g1)), ((r 12), .inl (cI, 64, .inl g2)), ((r 13), .inl (cI, 64, .inl g3)), ((r 14), .inl (cL, 256, .inr (.inl gw))), ((r 15), .inl (cL, 64, .inr (.inl an)))] := hD
                  refine lv_iconst (v := 0) hx hb kd_R_call_222 (by decide) ?_
                  exact hx_iretW hx hb hr hlocks (rfl) (hP) hS kd_R_call_223
              · exact absurd c_197 (not_not_intro (by decide))
            · exact absurd c_182 (by decide)
          · exact absurd c_151 (by decide)
      · exact absurd c_49 (by decide)
  · skip
    refine lv_iload_n hx hb kd_R_call_11 rfl (lv_at hl 2 rfl) ?_
    refine lv_sipush (v := 1000) hx hb kd_R_call_12 (by decide) ?_
    refine hx_topi (y := nI 1000) (by decide) ?_
    refine hx_callRi (va_runS (As := [.int n, .int (nI 1000)]) (rest := []) ⟨hx, hb, hml, hown, hts⟩ (mr_isNo n 1000) (va_cwS 2 hts (goodIn_sub (hx_m4 km_700 km_701 km_8 km_702) (by decide +kernel)) rfl rfl rfl (by decide +kernel) ⟨Nat.le_of_ble_eq_true rfl, Nat.le_of_ble_eq_true rfl⟩) (pr_S (hC.S hS) hP [] rfl) rfl rfl hl.1 rfl (lv_room (Nat.le_of_ble_eq_true rfl)) kd_R_call_15 ⟨Nat.le_of_ble_eq_true rfl, Nat.le_of_ble_eq_true rfl⟩) ?_
    refine lv_if_eq (tgt := 25) hx hb kd_R_call_18 (by decide) (fun c_18 => ?_) (fun c_18 => ?_)
    · exact absurd hf (by rw [show fb_in oi ro = true by simpa using b2_f c_8, show fb_in n 1000 = true by simpa using b2_f c_18]; decide)
    · skip
      refine lv_iconst (v := 1) hx hb kd_R_call_21 (by decide) ?_
      refine lv_goto (tgt := 26) hx hb kd_R_call_22 (by decide) ?_
      refine lv_istore_n (lv' := [(3, .int 1), (0, .ref (r 0)), (1, .int oi), (2, .int n)]) hx hb kd_R_call_26 rfl hl (by decide) rfl (fun ls hl => ?_)
      refine lv_iconst (v := 0) hx hb kd_R_call_27 (by decide) ?_
      refine lv_istore (lv' := [(4, .int 0), (3, .int 1), (0, .ref (r 0)), (1, .int oi), (2, .int n)]) hx hb kd_R_call_28 hl (by decide) rfl (fun ls hl => ?_)
      refine lv_iconst (v := -1) hx hb kd_R_call_30 (by decide) ?_
      refine lv_istore (lv' := [(5, .int (-1)), (4, .int 0), (3, .int 1), (0, .ref (r 0)), (1, .int oi), (2, .int n)]) hx hb kd_R_call_31 hl (by decide) rfl (fun ls hl => ?_)
      refine lv_iconst (v := 0) hx hb kd_R_call_33 (by decide) ?_
      refine lv_istore (lv' := [(6, .int 0), (5, .int (-1)), (4, .int 0), (3, .int 1), (0, .ref (r 0)), (1, .int oi), (2, .int n)]) hx hb kd_R_call_34 hl (by decide) rfl (fun ls hl => ?_)
      refine lv_iconst (v := 0) hx hb kd_R_call_36 (by decide) ?_
      refine lv_istore (lv' := [(7, .int 0), (6, .int 0), (5, .int (-1)), (4, .int 0), (3, .int 1), (0, .ref (r 0)), (1, .int oi), (2, .int n)]) hx hb kd_R_call_37 hl (by decide) rfl (fun ls hl => ?_)
      refine lv_iload hx hb kd_R_call_39 (lv_at hl 0 rfl) ?_
      refine lv_aload_n hx hb kd_R_call_41 rfl (lv_at hl 5 rfl) ?_
      refine va_get (D := D) (ci := 7) (v := .int (nI rm)) (C := "HostBridgeModel") (T := ct_R) (N := 23) hx hb hts cw_R hown hK hP 0 rfl rfl 5 (by decide) (hts _ km_626) (fun _ h9 => h9) rfl kd_R_call_42 ?_
      refine lv_icmp_ge (tgt := 138) hx hb kd_R_call_45 (by decide) (fun c_45 => ?_) (fun c_45 => ?_)
      · skip
        refine lv_iconst (v := 0) hx hb kd_R_call_138 (by decide) ?_
        refine lv_istore (lv' := [(7, .int 0), (6, .int 0), (5, .int (-1)), (4, .int 0), (3, .int 1), (0, .ref (r 0)), (1, .int oi), (2, .int n)]) hx hb kd_R_call_139 hl (by decide) rfl (fun ls hl => ?_)
        refine lv_iload hx hb kd_R_call_141 (lv_at hl 0 rfl) ?_
        refine lv_aload_n hx hb kd_R_call_143 rfl (lv_at hl 5 rfl) ?_
        refine va_get (D := D) (ci := 7) (v := .int (nI rm)) (C := "HostBridgeModel") (T := ct_R) (N := 23) hx hb hts cw_R hown hK hP 0 rfl rfl 5 (by decide) (hts _ km_626) (fun _ h9 => h9) rfl kd_R_call_144 ?_
        refine lv_icmp_ge (tgt := 179) hx hb kd_R_call_147 (by decide) (fun c_147 => ?_) (fun c_147 => ?_)
        · skip
          refine lv_aload_n hx hb kd_R_call_179 rfl (lv_at hl 5 rfl) ?_
          refine lv_iload_n hx hb kd_R_call_180 rfl (lv_at hl 4 rfl) ?_
          refine lv_iload_n hx hb kd_R_call_181 rfl (lv_at hl 4 rfl) ?_
          refine lv_if_ne (tgt := 194) hx hb kd_R_call_182 (by decide) (fun c_182 => ?_) (fun c_182 => ?_)
          · skip
            refine lv_iconst (v := 0) hx hb kd_R_call_194 (by decide) ?_
            refine lv_iload hx hb kd_R_call_195 (lv_at hl 3 rfl) ?_
            refine lv_if_le (tgt := 210) hx hb kd_R_call_197 (by decide) (fun c_197 => ?_) (fun c_197 => ?_)
            · skip
              refine lv_iconst (v := 0) hx hb kd_R_call_210 (by decide) ?_
              refine hx_callWi (va_runV (As := [.int 1, .int 0, .int 0]) (rest := []) ⟨hx, hb, hml, hown, hts⟩ (mr_throwing1 r rc ro rm ra rl rw th gv rp rk ow rn ct rt ki aq cd g1 g2 g3 rb gw an _) (cwV 3 hts (goodIn_sub (hx_m5 km_703 km_705 kv_R_throwing km_8 km_706) (by decide +kernel)) rfl rfl rfl (by decide +kernel) ⟨Nat.le_of_ble_eq_true rfl, Nat.le_of_ble_eq_true rfl⟩) (pw_V (hC.S hS) hP hD hS hA [0] (by decide) rfl (ci := 7) rfl (q0 := 0) rfl) rfl rfl hl.1 rfl (lv_room (Nat.le_of_ble_eq_true rfl)) kd_R_call_211 ⟨Nat.le_of_ble_eq_true rfl, Nat.le_of_ble_eq_true rfl⟩) hP hD hS hA [0] rfl rfl (fun H locs hP hD hS hF => ?_)
              have hP : va_P D cl_all [((r 0), .inr (7, [.int 1, .int (nI rc), .ref (r 1), .int (nI ro), .ref (r 2), .int (nI rm), .ref (r 3), .ref (r 4), .ref (r 5), .ref (r 6), .int (nI ra), .ref (r 7), .ref (r 8), .ref (r 9), .ref (r 10), .int (nI rl), .ref (r 11), .ref (r 12), .ref (r 13), .ref (r 14), .int (nI rw), .ref (r 15), .long gv])), ((r 1), .inl (cI, 16, .inl rp)), ((r 2), .inl (cI, 64, .inl rk)), ((r 3), .inl (cI, 64, .inl ow)), ((r 4), .inl (cI, 64, .inl rn)), ((r 5), .inl (cI, 64, .inl ct)), ((r 6), .inl (cI, 256, .inl rt)), ((r 7), .inl (cI, 4, .inl ki)), ((r 8), .inl (cL, 4, .inr (.inl rb))), ((r 9), .inl (cI, 4, .inl aq)), ((r 10), .inl (cZ, 64, .inl cd)), ((r 11), .inl (cI, 64, .inl g1)), ((r 12), .inl (cI, 64, .inl g2)), ((r 13), .inl (cI, 64, .inl g3)), ((r 14), .inl (cL, 256, .inr (.inl gw))), ((r 15), .inl (cL, 64, .inr (.inl an)))] H := hP
              have hD : va_D A [((r 0), .inr (7, [.int 1, .int (nI rc), .ref (r 1), .int (nI ro), .ref (r 2), .int (nI rm), .ref (r 3), .ref (r 4), .ref (r 5), .ref (r 6), .int (nI ra), .ref (r 7), .ref (r 8), .ref (r 9), .ref (r 10), .int (nI rl), .ref (r 11), .ref (r 12), .ref (r 13), .ref (r 14), .int (nI rw), .ref (r 15), .long gv])), ((r 1), .inl (cI, 16, .inl rp)), ((r 2), .inl (cI, 64, .inl rk)), ((r 3), .inl (cI, 64, .inl ow)), ((r 4), .inl (cI, 64, .inl rn)), ((r 5), .inl (cI, 64, .inl ct)), ((r 6), .inl (cI, 256, .inl rt)), ((r 7), .inl (cI, 4, .inl ki)), ((r 8), .inl (cL, 4, .inr (.inl rb))), ((r 9), .inl (cI, 4, .inl aq)), ((r 10), .inl (cZ, 64, .inl cd)), ((r 11), .inl (cI, 64, .inl g1)), ((r 12), .inl (cI, 64, .inl g2)), ((r 13), .inl (cI, 64, .inl g3)), ((r 14), .inl (cL, 256, .inr (.inl gw))), ((r 15), .inl (cL, 64, .inr (.inl an)))] := hD
              refine hx_topi (y := 1) (rfl) ?_
              refine lv_if_eq (tgt := 224) hx hb kd_R_call_214 (by decide) (fun c_214 => ?_) (fun c_214 => ?_)
              · exact absurd c_214 (by decide)
              · skip
                refine lv_aload_n hx hb kd_R_call_217 rfl (lv_at hl 5 rfl) ?_
                refine lv_iconst (v := 0) hx hb kd_R_call_218 (by decide) ?_
                refine hx_topi (y := nI 0) (rfl) ?_
                refine va_put (D := D) (ci := 7) (v := .int (nI 0)) (ty := .int) (C := "HostBridgeModel") (T := ct_R) (N := 23) hx hb hts cw_R cy_R cp_R cn_R hown hK hP hD hS 0 rfl rfl 10 (by decide) (hts _ km_631) (fun _ h9 => h9) rfl (by decide +kernel) rfl rfl (Nat.le_of_ble_eq_true rfl) kd_R_call_219 (fun H locs hP hD hS => ?_)
                have hP : va_P D cl_all [((r 0), .inr (7, [.int 1, .int (nI rc), .ref (r 1), .int (nI ro), .ref (r 2), .int (nI rm), .ref (r 3), .ref (r 4), .ref (r 5), .ref (r 6), .int (nI 0), .ref (r 7), .ref (r 8), .ref (r 9), .ref (r 10), .int (nI rl), .ref (r 11), .ref (r 12), .ref (r 13), .ref (r 14), .int (nI rw), .ref (r 15), .long gv])), ((r 1), .inl (cI, 16, .inl rp)), ((r 2), .inl (cI, 64, .inl rk)), ((r 3), .inl (cI, 64, .inl ow)), ((r 4), .inl (cI, 64, .inl rn)), ((r 5), .inl (cI, 64, .inl ct)), ((r 6), .inl (cI, 256, .inl rt)), ((r 7), .inl (cI, 4, .inl ki)), ((r 8), .inl (cL, 4, .inr (.inl rb))), ((r 9), .inl (cI, 4, .inl aq)), ((r 10), .inl (cZ, 64, .inl cd)), ((r 11), .inl (cI, 64, .inl g1)), ((r 12), .inl (cI, 64, .inl g2)), ((r 13), .inl (cI, 64, .inl g3)), ((r 14), .inl (cL, 256, .inr (.inl gw))), ((r 15), .inl (cL, 64, .inr (.inl an)))] H := hP
                have hD : va_D A [((r 0), .inr (7, [.int 1, .int (nI rc), .ref (r 1), .int (nI ro), .ref (r 2), .int (nI rm), .ref (r 3), .ref (r 4), .ref (r 5), .ref (r 6), .int (nI 0), .ref (r 7), .ref (r 8), .ref (r 9), .ref (r 10), .int (nI rl), .ref (r 11), .ref (r 12), .ref (r 13), .ref (r 14), .int (nI rw), .ref (r 15), .long gv])), ((r 1), .inl (cI, 16, .inl rp)), ((r 2), .inl (cI, 64, .inl rk)), ((r 3), .inl (cI, 64, .inl ow)), ((r 4), .inl (cI, 64, .inl rn)), ((r 5), .inl (cI, 64, .inl ct)), ((r 6), .inl (cI, 256, .inl rt)), ((r 7), .inl (cI, 4, .inl ki)), ((r 8), .inl (cL, 4, .inr (.inl rb))), ((r 9), .inl (cI, 4, .inl aq)), ((r 10), .inl (cZ, 64, .inl cd)), ((r 11), .inl (cI, 64, .inl g1)), ((r 12), .inl (cI, 64, .inl g2)), ((r 13), .inl (cI, 64, .inl g3)), ((r 14), .inl (cL, 256, .inr (.inl gw))), ((r 15), .inl (cL, 64, .inr (.inl an)))] := hD
                refine lv_iconst (v := 0) hx hb kd_R_call_222 (by decide) ?_
                exact hx_iretW hx hb hr hlocks (rfl) (hP) hS kd_R_call_223
            · exact absurd c_197 (not_not_intro (by decide))
          · exact absurd c_182 (by decide)
        · skip
          refine lv_iload_n hx hb kd_R_call_150 rfl (lv_at hl 4 rfl) ?_
          refine lv_if_ne (tgt := 179) hx hb kd_R_call_151 (by decide) (fun c_151 => ?_) (fun c_151 => ?_)
          · skip
            refine lv_aload_n hx hb kd_R_call_179 rfl (lv_at hl 5 rfl) ?_
            refine lv_iload_n hx hb kd_R_call_180 rfl (lv_at hl 4 rfl) ?_
            refine lv_iload_n hx hb kd_R_call_181 rfl (lv_at hl 4 rfl) ?_
            refine lv_if_ne (tgt := 194) hx hb kd_R_call_182 (by decide) (fun c_182 => ?_) (fun c_182 => ?_)
            · skip
              refine lv_iconst (v := 0) hx hb kd_R_call_194 (by decide) ?_
              refine lv_iload hx hb kd_R_call_195 (lv_at hl 3 rfl) ?_
              refine lv_if_le (tgt := 210) hx hb kd_R_call_197 (by decide) (fun c_197 => ?_) (fun c_197 => ?_)
              · skip
                refine lv_iconst (v := 0) hx hb kd_R_call_210 (by decide) ?_
                refine hx_callWi (va_runV (As := [.int 1, .int 0, .int 0]) (rest := []) ⟨hx, hb, hml, hown, hts⟩ (mr_throwing1 r rc ro rm ra rl rw th gv rp rk ow rn ct rt ki aq cd g1 g2 g3 rb gw an _) (cwV 3 hts (goodIn_sub (hx_m5 km_703 km_705 kv_R_throwing km_8 km_706) (by decide +kernel)) rfl rfl rfl (by decide +kernel) ⟨Nat.le_of_ble_eq_true rfl, Nat.le_of_ble_eq_true rfl⟩) (pw_V (hC.S hS) hP hD hS hA [0] (by decide) rfl (ci := 7) rfl (q0 := 0) rfl) rfl rfl hl.1 rfl (lv_room (Nat.le_of_ble_eq_true rfl)) kd_R_call_211 ⟨Nat.le_of_ble_eq_true rfl, Nat.le_of_ble_eq_true rfl⟩) hP hD hS hA [0] rfl rfl (fun H locs hP hD hS hF => ?_)
                have hP : va_P D cl_all [((r 0), .inr (7, [.int 1, .int (nI rc), .ref (r 1), .int (nI ro), .ref (r 2), .int (nI rm), .ref (r 3), .ref (r 4), .ref (r 5), .ref (r 6), .int (nI ra), .ref (r 7), .ref (r 8), .ref (r 9), .ref (r 10), .int (nI rl), .ref (r 11), .ref (r 12), .ref (r 13), .ref (r 14), .int (nI rw), .ref (r 15), .long gv])), ((r 1), .inl (cI, 16, .inl rp)), ((r 2), .inl (cI, 64, .inl rk)), ((r 3), .inl (cI, 64, .inl ow)), ((r 4), .inl (cI, 64, .inl rn)), ((r 5), .inl (cI, 64, .inl ct)), ((r 6), .inl (cI, 256, .inl rt)), ((r 7), .inl (cI, 4, .inl ki)), ((r 8), .inl (cL, 4, .inr (.inl rb))), ((r 9), .inl (cI, 4, .inl aq)), ((r 10), .inl (cZ, 64, .inl cd)), ((r 11), .inl (cI, 64, .inl g1)), ((r 12), .inl (cI, 64, .inl g2)), ((r 13), .inl (cI, 64, .inl g3)), ((r 14), .inl (cL, 256, .inr (.inl gw))), ((r 15), .inl (cL, 64, .inr (.inl an)))] H := hP
                have hD : va_D A [((r 0), .inr (7, [.int 1, .int (nI rc), .ref (r 1), .int (nI ro), .ref (r 2), .int (nI rm), .ref (r 3), .ref (r 4), .ref (r 5), .ref (r 6), .int (nI ra), .ref (r 7), .ref (r 8), .ref (r 9), .ref (r 10), .int (nI rl), .ref (r 11), .ref (r 12), .ref (r 13), .ref (r 14), .int (nI rw), .ref (r 15), .long gv])), ((r 1), .inl (cI, 16, .inl rp)), ((r 2), .inl (cI, 64, .inl rk)), ((r 3), .inl (cI, 64, .inl ow)), ((r 4), .inl (cI, 64, .inl rn)), ((r 5), .inl (cI, 64, .inl ct)), ((r 6), .inl (cI, 256, .inl rt)), ((r 7), .inl (cI, 4, .inl ki)), ((r 8), .inl (cL, 4, .inr (.inl rb))), ((r 9), .inl (cI, 4, .inl aq)), ((r 10), .inl (cZ, 64, .inl cd)), ((r 11), .inl (cI, 64, .inl g1)), ((r 12), .inl (cI, 64, .inl g2)), ((r 13), .inl (cI, 64, .inl g3)), ((r 14), .inl (cL, 256, .inr (.inl gw))), ((r 15), .inl (cL, 64, .inr (.inl an)))] := hD
                refine hx_topi (y := 1) (rfl) ?_
                refine lv_if_eq (tgt := 224) hx hb kd_R_call_214 (by decide) (fun c_214 => ?_) (fun c_214 => ?_)
                · exact absurd c_214 (by decide)
                · skip
                  refine lv_aload_n hx hb kd_R_call_217 rfl (lv_at hl 5 rfl) ?_
                  refine lv_iconst (v := 0) hx hb kd_R_call_218 (by decide) ?_
                  refine hx_topi (y := nI 0) (rfl) ?_
                  refine va_put (D := D) (ci := 7) (v := .int (nI 0)) (ty := .int) (C := "HostBridgeModel") (T := ct_R) (N := 23) hx hb hts cw_R cy_R cp_R cn_R hown hK hP hD hS 0 rfl rfl 10 (by decide) (hts _ km_631) (fun _ h9 => h9) rfl (by decide +kernel) rfl rfl (Nat.le_of_ble_eq_true rfl) kd_R_call_219 (fun H locs hP hD hS => ?_)
                  have hP : va_P D cl_all [((r 0), .inr (7, [.int 1, .int (nI rc), .ref (r 1), .int (nI ro), .ref (r 2), .int (nI rm), .ref (r 3), .ref (r 4), .ref (r 5), .ref (r 6), .int (nI 0), .ref (r 7), .ref (r 8), .ref (r 9), .ref (r 10), .int (nI rl), .ref (r 11), .ref (r 12), .ref (r 13), .ref (r 14), .int (nI rw), .ref (r 15), .long gv])), ((r 1), .inl (cI, 16, .inl rp)), ((r 2), .inl (cI, 64, .inl rk)), ((r 3), .inl (cI, 64, .inl ow)), ((r 4), .inl (cI, 64, .inl rn)), ((r 5), .inl (cI, 64, .inl ct)), ((r 6), .inl (cI, 256, .inl rt)), ((r 7), .inl (cI, 4, .inl ki)), ((r 8), .inl (cL, 4, .inr (.inl rb))), ((r 9), .inl (cI, 4, .inl aq)), ((r 10), .inl (cZ, 64, .inl cd)), ((r 11), .inl (cI, 64, .inl g1)), ((r 12), .inl (cI, 64, .inl g2)), ((r 13), .inl (cI, 64, .inl g3)), ((r 14), .inl (cL, 256, .inr (.inl gw))), ((r 15), .inl (cL, 64, .inr (.inl an)))] H := hP
                  have hD : va_D A [((r 0), .inr (7, [.int 1, .int (nI rc), .ref (r 1), .int (nI ro), .ref (r 2), .int (nI rm), .ref (r 3), .ref (r 4), .ref (r 5), .ref (r 6), .int (nI 0), .ref (r 7), .ref (r 8), .ref (r 9), .ref (r 10), .int (nI rl), .ref (r 11), .ref (r 12), .ref (r 13), .ref (r 14), .int (nI rw), .ref (r 15), .long gv])), ((r 1), .inl (cI, 16, .inl rp)), ((r 2), .inl (cI, 64, .inl rk)), ((r 3), .inl (cI, 64, .inl ow)), ((r 4), .inl (cI, 64, .inl rn)), ((r 5), .inl (cI, 64, .inl ct)), ((r 6), .inl (cI, 256, .inl rt)), ((r 7), .inl (cI, 4, .inl ki)), ((r 8), .inl (cL, 4, .inr (.inl rb))), ((r 9), .inl (cI, 4, .inl aq)), ((r 10), .inl (cZ, 64, .inl cd)), ((r 11), .inl (cI, 64, .inl g1)), ((r 12), .inl (cI, 64, .inl g2)), ((r 13), .inl (cI, 64, .inl g3)), ((r 14), .inl (cL, 256, .inr (.inl gw))), ((r 15), .inl (cL, 64, .inr (.inl an)))] := hD
                  refine lv_iconst (v := 0) hx hb kd_R_call_222 (by decide) ?_
                  exact hx_iretW hx hb hr hlocks (rfl) (hP) hS kd_R_call_223
              · exact absurd c_197 (not_not_intro (by decide))
            · exact absurd c_182 (by decide)
          · exact absurd c_151 (by decide)
      · skip
        refine lv_iload_n hx hb kd_R_call_48 rfl (lv_at hl 4 rfl) ?_
        refine lv_if_ne (tgt := 138) hx hb kd_R_call_49 (by decide) (fun c_49 => ?_) (fun c_49 => ?_)
        · skip
          refine lv_iconst (v := 0) hx hb kd_R_call_138 (by decide) ?_
          refine lv_istore (lv' := [(7, .int 0), (6, .int 0), (5, .int (-1)), (4, .int 0), (3, .int 1), (0, .ref (r 0)), (1, .int oi), (2, .int n)]) hx hb kd_R_call_139 hl (by decide) rfl (fun ls hl => ?_)
          refine lv_iload hx hb kd_R_call_141 (lv_at hl 0 rfl) ?_
          refine lv_aload_n hx hb kd_R_call_143 rfl (lv_at hl 5 rfl) ?_
          refine va_get (D := D) (ci := 7) (v := .int (nI rm)) (C := "HostBridgeModel") (T := ct_R) (N := 23) hx hb hts cw_R hown hK hP 0 rfl rfl 5 (by decide) (hts _ km_626) (fun _ h9 => h9) rfl kd_R_call_144 ?_
          refine lv_icmp_ge (tgt := 179) hx hb kd_R_call_147 (by decide) (fun c_147 => ?_) (fun c_147 => ?_)
          · skip
            refine lv_aload_n hx hb kd_R_call_179 rfl (lv_at hl 5 rfl) ?_
            refine lv_iload_n hx hb kd_R_call_180 rfl (lv_at hl 4 rfl) ?_
            refine lv_iload_n hx hb kd_R_call_181 rfl (lv_at hl 4 rfl) ?_
            refine lv_if_ne (tgt := 194) hx hb kd_R_call_182 (by decide) (fun c_182 => ?_) (fun c_182 => ?_)
            · skip
              refine lv_iconst (v := 0) hx hb kd_R_call_194 (by decide) ?_
              refine lv_iload hx hb kd_R_call_195 (lv_at hl 3 rfl) ?_
              refine lv_if_le (tgt := 210) hx hb kd_R_call_197 (by decide) (fun c_197 => ?_) (fun c_197 => ?_)
              · skip
                refine lv_iconst (v := 0) hx hb kd_R_call_210 (by decide) ?_
                refine hx_callWi (va_runV (As := [.int 1, .int 0, .int 0]) (rest := []) ⟨hx, hb, hml, hown, hts⟩ (mr_throwing1 r rc ro rm ra rl rw th gv rp rk ow rn ct rt ki aq cd g1 g2 g3 rb gw an _) (cwV 3 hts (goodIn_sub (hx_m5 km_703 km_705 kv_R_throwing km_8 km_706) (by decide +kernel)) rfl rfl rfl (by decide +kernel) ⟨Nat.le_of_ble_eq_true rfl, Nat.le_of_ble_eq_true rfl⟩) (pw_V (hC.S hS) hP hD hS hA [0] (by decide) rfl (ci := 7) rfl (q0 := 0) rfl) rfl rfl hl.1 rfl (lv_room (Nat.le_of_ble_eq_true rfl)) kd_R_call_211 ⟨Nat.le_of_ble_eq_true rfl, Nat.le_of_ble_eq_true rfl⟩) hP hD hS hA [0] rfl rfl (fun H locs hP hD hS hF => ?_)
                have hP : va_P D cl_all [((r 0), .inr (7, [.int 1, .int (nI rc), .ref (r 1), .int (nI ro), .ref (r 2), .int (nI rm), .ref (r 3), .ref (r 4), .ref (r 5), .ref (r 6), .int (nI ra), .ref (r 7), .ref (r 8), .ref (r 9), .ref (r 10), .int (nI rl), .ref (r 11), .ref (r 12), .ref (r 13), .ref (r 14), .int (nI rw), .ref (r 15), .long gv])), ((r 1), .inl (cI, 16, .inl rp)), ((r 2), .inl (cI, 64, .inl rk)), ((r 3), .inl (cI, 64, .inl ow)), ((r 4), .inl (cI, 64, .inl rn)), ((r 5), .inl (cI, 64, .inl ct)), ((r 6), .inl (cI, 256, .inl rt)), ((r 7), .inl (cI, 4, .inl ki)), ((r 8), .inl (cL, 4, .inr (.inl rb))), ((r 9), .inl (cI, 4, .inl aq)), ((r 10), .inl (cZ, 64, .inl cd)), ((r 11), .inl (cI, 64, .inl g1)), ((r 12), .inl (cI, 64, .inl g2)), ((r 13), .inl (cI, 64, .inl g3)), ((r 14), .inl (cL, 256, .inr (.inl gw))), ((r 15), .inl (cL, 64, .inr (.inl an)))] H := hP
                have hD : va_D A [((r 0), .inr (7, [.int 1, .int (nI rc), .ref (r 1), .int (nI ro), .ref (r 2), .int (nI rm), .ref (r 3), .ref (r 4), .ref (r 5), .ref (r 6), .int (nI ra), .ref (r 7), .ref (r 8), .ref (r 9), .ref (r 10), .int (nI rl), .ref (r 11), .ref (r 12), .ref (r 13), .ref (r 14), .int (nI rw), .ref (r 15), .long gv])), ((r 1), .inl (cI, 16, .inl rp)), ((r 2), .inl (cI, 64, .inl rk)), ((r 3), .inl (cI, 64, .inl ow)), ((r 4), .inl (cI, 64, .inl rn)), ((r 5), .inl (cI, 64, .inl ct)), ((r 6), .inl (cI, 256, .inl rt)), ((r 7), .inl (cI, 4, .inl ki)), ((r 8), .inl (cL, 4, .inr (.inl rb))), ((r 9), .inl (cI, 4, .inl aq)), ((r 10), .inl (cZ, 64, .inl cd)), ((r 11), .inl (cI, 64, .inl g1)), ((r 12), .inl (cI, 64, .inl g2)), ((r 13), .inl (cI, 64, .inl g3)), ((r 14), .inl (cL, 256, .inr (.inl gw))), ((r 15), .inl (cL, 64, .inr (.inl an)))] := hD
                refine hx_topi (y := 1) (rfl) ?_
                refine lv_if_eq (tgt := 224) hx hb kd_R_call_214 (by decide) (fun c_214 => ?_) (fun c_214 => ?_)
                · exact absurd c_214 (by decide)
                · skip
                  refine lv_aload_n hx hb kd_R_call_217 rfl (lv_at hl 5 rfl) ?_
                  refine lv_iconst (v := 0) hx hb kd_R_call_218 (by decide) ?_
                  refine hx_topi (y := nI 0) (rfl) ?_
                  refine va_put (D := D) (ci := 7) (v := .int (nI 0)) (ty := .int) (C := "HostBridgeModel") (T := ct_R) (N := 23) hx hb hts cw_R cy_R cp_R cn_R hown hK hP hD hS 0 rfl rfl 10 (by decide) (hts _ km_631) (fun _ h9 => h9) rfl (by decide +kernel) rfl rfl (Nat.le_of_ble_eq_true rfl) kd_R_call_219 (fun H locs hP hD hS => ?_)
                  have hP : va_P D cl_all [((r 0), .inr (7, [.int 1, .int (nI rc), .ref (r 1), .int (nI ro), .ref (r 2), .int (nI rm), .ref (r 3), .ref (r 4), .ref (r 5), .ref (r 6), .int (nI 0), .ref (r 7), .ref (r 8), .ref (r 9), .ref (r 10), .int (nI rl), .ref (r 11), .ref (r 12), .ref (r 13), .ref (r 14), .int (nI rw), .ref (r 15), .long gv])), ((r 1), .inl (cI, 16, .inl rp)), ((r 2), .inl (cI, 64, .inl rk)), ((r 3), .inl (cI, 64, .inl ow)), ((r 4), .inl (cI, 64, .inl rn)), ((r 5), .inl (cI, 64, .inl ct)), ((r 6), .inl (cI, 256, .inl rt)), ((r 7), .inl (cI, 4, .inl ki)), ((r 8), .inl (cL, 4, .inr (.inl rb))), ((r 9), .inl (cI, 4, .inl aq)), ((r 10), .inl (cZ, 64, .inl cd)), ((r 11), .inl (cI, 64, .inl g1)), ((r 12), .inl (cI, 64, .inl g2)), ((r 13), .inl (cI, 64, .inl g3)), ((r 14), .inl (cL, 256, .inr (.inl gw))), ((r 15), .inl (cL, 64, .inr (.inl an)))] H := hP
                  have hD : va_D A [((r 0), .inr (7, [.int 1, .int (nI rc), .ref (r 1), .int (nI ro), .ref (r 2), .int (nI rm), .ref (r 3), .ref (r 4), .ref (r 5), .ref (r 6), .int (nI 0), .ref (r 7), .ref (r 8), .ref (r 9), .ref (r 10), .int (nI rl), .ref (r 11), .ref (r 12), .ref (r 13), .ref (r 14), .int (nI rw), .ref (r 15), .long gv])), ((r 1), .inl (cI, 16, .inl rp)), ((r 2), .inl (cI, 64, .inl rk)), ((r 3), .inl (cI, 64, .inl ow)), ((r 4), .inl (cI, 64, .inl rn)), ((r 5), .inl (cI, 64, .inl ct)), ((r 6), .inl (cI, 256, .inl rt)), ((r 7), .inl (cI, 4, .inl ki)), ((r 8), .inl (cL, 4, .inr (.inl rb))), ((r 9), .inl (cI, 4, .inl aq)), ((r 10), .inl (cZ, 64, .inl cd)), ((r 11), .inl (cI, 64, .inl g1)), ((r 12), .inl (cI, 64, .inl g2)), ((r 13), .inl (cI, 64, .inl g3)), ((r 14), .inl (cL, 256, .inr (.inl gw))), ((r 15), .inl (cL, 64, .inr (.inl an)))] := hD
                  refine lv_iconst (v := 0) hx hb kd_R_call_222 (by decide) ?_
                  exact hx_iretW hx hb hr hlocks (rfl) (hP) hS kd_R_call_223
              · exact absurd c_197 (not_not_intro (by decide))
            · exact absurd c_182 (by decide)
          · skip
            refine lv_iload_n hx hb kd_R_call_150 rfl (lv_at hl 4 rfl) ?_
            refine lv_if_ne (tgt := 179) hx hb kd_R_call_151 (by decide) (fun c_151 => ?_) (fun c_151 => ?_)
            · skip
              refine lv_aload_n hx hb kd_R_call_179 rfl (lv_at hl 5 rfl) ?_
              refine lv_iload_n hx hb kd_R_call_180 rfl (lv_at hl 4 rfl) ?_
              refine lv_iload_n hx hb kd_R_call_181 rfl (lv_at hl 4 rfl) ?_
              refine lv_if_ne (tgt := 194) hx hb kd_R_call_182 (by decide) (fun c_182 => ?_) (fun c_182 => ?_)
              · skip
                refine lv_iconst (v := 0) hx hb kd_R_call_194 (by decide) ?_
                refine lv_iload hx hb kd_R_call_195 (lv_at hl 3 rfl) ?_
                refine lv_if_le (tgt := 210) hx hb kd_R_call_197 (by decide) (fun c_197 => ?_) (fun c_197 => ?_)
                · skip
                  refine lv_iconst (v := 0) hx hb kd_R_call_210 (by decide) ?_
                  refine hx_callWi (va_runV (As := [.int 1, .int 0, .int 0]) (rest := []) ⟨hx, hb, hml, hown, hts⟩ (mr_throwing1 r rc ro rm ra rl rw th gv rp rk ow rn ct rt ki aq cd g1 g2 g3 rb gw an _) (cwV 3 hts (goodIn_sub (hx_m5 km_703 km_705 kv_R_throwing km_8 km_706) (by decide +kernel)) rfl rfl rfl (by decide +kernel) ⟨Nat.le_of_ble_eq_true rfl, Nat.le_of_ble_eq_true rfl⟩) (pw_V (hC.S hS) hP hD hS hA [0] (by decide) rfl (ci := 7) rfl (q0 := 0) rfl) rfl rfl hl.1 rfl (lv_room (Nat.le_of_ble_eq_true rfl)) kd_R_call_211 ⟨Nat.le_of_ble_eq_true rfl, Nat.le_of_ble_eq_true rfl⟩) hP hD hS hA [0] rfl rfl (fun H locs hP hD hS hF => ?_)
                  have hP : va_P D cl_all [((r 0), .inr (7, [.int 1, .int (nI rc), .ref (r 1), .int (nI ro), .ref (r 2), .int (nI rm), .ref (r 3), .ref (r 4), .ref (r 5), .ref (r 6), .int (nI ra), .ref (r 7), .ref (r 8), .ref (r 9), .ref (r 10), .int (nI rl), .ref (r 11), .ref (r 12), .ref (r 13), .ref (r 14), .int (nI rw), .ref (r 15), .long gv])), ((r 1), .inl (cI, 16, .inl rp)), ((r 2), .inl (cI, 64, .inl rk)), ((r 3), .inl (cI, 64, .inl ow)), ((r 4), .inl (cI, 64, .inl rn)), ((r 5), .inl (cI, 64, .inl ct)), ((r 6), .inl (cI, 256, .inl rt)), ((r 7), .inl (cI, 4, .inl ki)), ((r 8), .inl (cL, 4, .inr (.inl rb))), ((r 9), .inl (cI, 4, .inl aq)), ((r 10), .inl (cZ, 64, .inl cd)), ((r 11), .inl (cI, 64, .inl g1)), ((r 12), .inl (cI, 64, .inl g2)), ((r 13), .inl (cI, 64, .inl g3)), ((r 14), .inl (cL, 256, .inr (.inl gw))), ((r 15), .inl (cL, 64, .inr (.inl an)))] H := hP
                  have hD : va_D A [((r 0), .inr (7, [.int 1, .int (nI rc), .ref (r 1), .int (nI ro), .ref (r 2), .int (nI rm), .ref (r 3), .ref (r 4), .ref (r 5), .ref (r 6), .int (nI ra), .ref (r 7), .ref (r 8), .ref (r 9), .ref (r 10), .int (nI rl), .ref (r 11), .ref (r 12), .ref (r 13), .ref (r 14), .int (nI rw), .ref (r 15), .long gv])), ((r 1), .inl (cI, 16, .inl rp)), ((r 2), .inl (cI, 64, .inl rk)), ((r 3), .inl (cI, 64, .inl ow)), ((r 4), .inl (cI, 64, .inl rn)), ((r 5), .inl (cI, 64, .inl ct)), ((r 6), .inl (cI, 256, .inl rt)), ((r 7), .inl (cI, 4, .inl ki)), ((r 8), .inl (cL, 4, .inr (.inl rb))), ((r 9), .inl (cI, 4, .inl aq)), ((r 10), .inl (cZ, 64, .inl cd)), ((r 11), .inl (cI, 64, .inl g1)), ((r 12), .inl (cI, 64, .inl g2)), ((r 13), .inl (cI, 64, .inl g3)), ((r 14), .inl (cL, 256, .inr (.inl gw))), ((r 15), .inl (cL, 64, .inr (.inl an)))] := hD
                  refine hx_topi (y := 1) (rfl) ?_
                  refine lv_if_eq (tgt := 224) hx hb kd_R_call_214 (by decide) (fun c_214 => ?_) (fun c_214 => ?_)
                  · exact absurd c_214 (by decide)
                  · skip
                    refine lv_aload_n hx hb kd_R_call_217 rfl (lv_at hl 5 rfl) ?_
                    refine lv_iconst (v := 0) hx hb kd_R_call_218 (by decide) ?_
                    refine hx_topi (y := nI 0) (rfl) ?_
                    refine va_put (D := D) (ci := 7) (v := .int (nI 0)) (ty := .int) (C := "HostBridgeModel") (T := ct_R) (N := 23) hx hb hts cw_R cy_R cp_R cn_R hown hK hP hD hS 0 rfl rfl 10 (by decide) (hts _ km_631) (fun _ h9 => h9) rfl (by decide +kernel) rfl rfl (Nat.le_of_ble_eq_true rfl) kd_R_call_219 (fun H locs hP hD hS => ?_)
                    have hP : va_P D cl_all [((r 0), .inr (7, [.int 1, .int (nI rc), .ref (r 1), .int (nI ro), .ref (r 2), .int (nI rm), .ref (r 3), .ref (r 4), .ref (r 5), .ref (r 6), .int (nI 0), .ref (r 7), .ref (r 8), .ref (r 9), .ref (r 10), .int (nI rl), .ref (r 11), .ref (r 12), .ref (r 13), .ref (r 14), .int (nI rw), .ref (r 15), .long gv])), ((r 1), .inl (cI, 16, .inl rp)), ((r 2), .inl (cI, 64, .inl rk)), ((r 3), .inl (cI, 64, .inl ow)), ((r 4), .inl (cI, 64, .inl rn)), ((r 5), .inl (cI, 64, .inl ct)), ((r 6), .inl (cI, 256, .inl rt)), ((r 7), .inl (cI, 4, .inl ki)), ((r 8), .inl (cL, 4, .inr (.inl rb))), ((r 9), .inl (cI, 4, .inl aq)), ((r 10), .inl (cZ, 64, .inl cd)), ((r 11), .inl (cI, 64, .inl g1)), ((r 12), .inl (cI, 64, .inl g2)), ((r 13), .inl (cI, 64, .inl g3)), ((r 14), .inl (cL, 256, .inr (.inl gw))), ((r 15), .inl (cL, 64, .inr (.inl an)))] H := hP
                    have hD : va_D A [((r 0), .inr (7, [.int 1, .int (nI rc), .ref (r 1), .int (nI ro), .ref (r 2), .int (nI rm), .ref (r 3), .ref (r 4), .ref (r 5), .ref (r 6), .int (nI 0), .ref (r 7), .ref (r 8), .ref (r 9), .ref (r 10), .int (nI rl), .ref (r 11), .ref (r 12), .ref (r 13), .ref (r 14), .int (nI rw), .ref (r 15), .long gv])), ((r 1), .inl (cI, 16, .inl rp)), ((r 2), .inl (cI, 64, .inl rk)), ((r 3), .inl (cI, 64, .inl ow)), ((r 4), .inl (cI, 64, .inl rn)), ((r 5), .inl (cI, 64, .inl ct)), ((r 6), .inl (cI, 256, .inl rt)), ((r 7), .inl (cI, 4, .inl ki)), ((r 8), .inl (cL, 4, .inr (.inl rb))), ((r 9), .inl (cI, 4, .inl aq)), ((r 10), .inl (cZ, 64, .inl cd)), ((r 11), .inl (cI, 64, .inl g1)), ((r 12), .inl (cI, 64, .inl g2)), ((r 13), .inl (cI, 64, .inl g3)), ((r 14), .inl (cL, 256, .inr (.inl gw))), ((r 15), .inl (cL, 64, .inr (.inl an)))] := hD
                    refine lv_iconst (v := 0) hx hb kd_R_call_222 (by decide) ?_
                    exact hx_iretW hx hb hr hlocks (rfl) (hP) hS kd_R_call_223
                · exact absurd c_197 (not_not_intro (by decide))
              · exact absurd c_182 (by decide)
            · exact absurd c_151 (by decide)
        · exact absurd c_49 (by decide)

set_option maxHeartbeats 4000000 in
set_option maxRecDepth 100000 in
theorem mr_call2 {l : Launch} {D : va_G} {cI cL cZ : ClassId} {tb : Nat} (r : Nat → Nat) (rc ro rm ra rl rw : Nat) (th : Int32) (gv : Int64) (rp rk ow rn ct rt ki aq cd g1 g2 g3 : Nat → Int32) (rb gw an : Nat → Int64) (o : Nat) (n : Int32) (ho : o < ro) (hn1 : fb_in n 1000 = true) (hrm : rm ≤ 64) (hra : ra ≤ 4) (C : Nat → Bool) (hCe : ∀ z, cc_ rp rk ow rn ct rt ki rb rm ra o n z = C z) (hok : ∀ i, i < ra → ki i = 5 → ∃ o : Nat, o < ro ∧ rb i = lN o) (hln : ln_ok rc rp) (hno : ro ≤ 64) (hco : ∀ j, j < ro → ∃ q : Nat, q < rc ∧ rk j = nI q) (h0 : cn_ C rm = 0) (sz : Nat) : Met l ky_R_call kw_R_call { frames := 4, cells := 0, slots := 0, locals := 100 } (pw_P D cI cL cZ tb [((r 0), .inr (7, [.int th, .int (nI rc), .ref (r 1), .int (nI ro), .ref (r 2), .int (nI rm), .ref (r 3), .ref (r 4), .ref (r 5), .ref (r 6), .int (nI ra), .ref (r 7), .ref (r 8), .ref (r 9), .ref (r 10), .int (nI rl), .ref (r 11), .ref (r 12), .ref (r 13), .ref (r 14), .int (nI rw), .ref (r 15), .long gv])), ((r 1), .inl (cI, 16, .inl rp)), ((r 2), .inl (cI, 64, .inl rk)), ((r 3), .inl (cI, 64, .inl ow)), ((r 4), .inl (cI, 64, .inl rn)), ((r 5), .inl (cI, 64, .inl ct)), ((r 6), .inl (cI, 256, .inl rt)), ((r 7), .inl (cI, 4, .inl ki)), ((r 8), .inl (cL, 4, .inr (.inl rb))), ((r 9), .inl (cI, 4, .inl aq)), ((r 10), .inl (cZ, 64, .inl cd)), ((r 11), .inl (cI, 64, .inl g1)), ((r 12), .inl (cI, 64, .inl g2)), ((r 13), .inl (cI, 64, .inl g3)), ((r 14), .inl (cL, 256, .inr (.inl gw))), ((r 15), .inl (cL, 64, .inr (.inl an)))] sz [.ref (r 0), .int (nI o), .int n]) (hx_QW D (some (.int 0)) [((r 0), .inr (7, [.int 2, .int (nI rc), .ref (r 1), .int (nI ro), .ref (r 2), .int (nI rm), .ref (r 3), .ref (r 4), .ref (r 5), .ref (r 6), .int (nI 0), .ref (r 7), .ref (r 8), .ref (r 9), .ref (r 10), .int (nI rl), .ref (r 11), .ref (r 12), .ref (r 13), .ref (r 14), .int (nI rw), .ref (r 15), .long gv])), ((r 1), .inl (cI, 16, .inl rp)), ((r 2), .inl (cI, 64, .inl rk)), ((r 3), .inl (cI, 64, .inl ow)), ((r 4), .inl (cI, 64, .inl rn)), ((r 5), .inl (cI, 64, .inl ct)), ((r 6), .inl (cI, 256, .inl rt)), ((r 7), .inl (cI, 4, .inl ki)), ((r 8), .inl (cL, 4, .inr (.inl rb))), ((r 9), .inl (cI, 4, .inl aq)), ((r 10), .inl (cZ, 64, .inl (lf_ (cb_ C) cd rm))), ((r 11), .inl (cI, 64, .inl g1)), ((r 12), .inl (cI, 64, .inl g2)), ((r 13), .inl (cI, 64, .inl g3)), ((r 14), .inl (cL, 256, .inr (.inl gw))), ((r 15), .inl (cL, 64, .inr (.inl an)))] (va_A [((r 0), .inr (7, [.int th, .int (nI rc), .ref (r 1), .int (nI ro), .ref (r 2), .int (nI rm), .ref (r 3), .ref (r 4), .ref (r 5), .ref (r 6), .int (nI ra), .ref (r 7), .ref (r 8), .ref (r 9), .ref (r 10), .int (nI rl), .ref (r 11), .ref (r 12), .ref (r 13), .ref (r 14), .int (nI rw), .ref (r 15), .long gv])), ((r 1), .inl (cI, 16, .inl rp)), ((r 2), .inl (cI, 64, .inl rk)), ((r 3), .inl (cI, 64, .inl ow)), ((r 4), .inl (cI, 64, .inl rn)), ((r 5), .inl (cI, 64, .inl ct)), ((r 6), .inl (cI, 256, .inl rt)), ((r 7), .inl (cI, 4, .inl ki)), ((r 8), .inl (cL, 4, .inr (.inl rb))), ((r 9), .inl (cI, 4, .inl aq)), ((r 10), .inl (cZ, 64, .inl cd)), ((r 11), .inl (cI, 64, .inl g1)), ((r 12), .inl (cI, 64, .inl g2)), ((r 13), .inl (cI, 64, .inl g3)), ((r 14), .inl (cL, 256, .inr (.inl gw))), ((r 15), .inl (cL, 64, .inr (.inl an)))] sz)) 0 0 (va_A [((r 0), .inr (7, [.int th, .int (nI rc), .ref (r 1), .int (nI ro), .ref (r 2), .int (nI rm), .ref (r 3), .ref (r 4), .ref (r 5), .ref (r 6), .int (nI ra), .ref (r 7), .ref (r 8), .ref (r 9), .ref (r 10), .int (nI rl), .ref (r 11), .ref (r 12), .ref (r 13), .ref (r 14), .int (nI rw), .ref (r 15), .long gv])), ((r 1), .inl (cI, 16, .inl rp)), ((r 2), .inl (cI, 64, .inl rk)), ((r 3), .inl (cI, 64, .inl ow)), ((r 4), .inl (cI, 64, .inl rn)), ((r 5), .inl (cI, 64, .inl ct)), ((r 6), .inl (cI, 256, .inl rt)), ((r 7), .inl (cI, 4, .inl ki)), ((r 8), .inl (cL, 4, .inr (.inl rb))), ((r 9), .inl (cI, 4, .inl aq)), ((r 10), .inl (cZ, 64, .inl cd)), ((r 11), .inl (cI, 64, .inl g1)), ((r 12), .inl (cI, 64, .inl g2)), ((r 13), .inl (cI, 64, .inl g3)), ((r 14), .inl (cL, 256, .inr (.inl gw))), ((r 15), .inl (cL, 64, .inr (.inl an)))] sz) := by
  refine Met.ofW (cc := kc_R_call) (maxL := 8) (ret := (some .int)) (by decide) rfl ?_
  intro p e s m args below meth c s₁ B hml hv
  obtain ⟨rfl, hsz, hC, hP, hD0⟩ := hv
  have hx := B.exec
  have hb := B.bytes
  have hr := B.returns
  have hlocks := B.notSynchronized
  have hown : s.vm.findClass "HostBridgeModel" = some m.cls := findClass_of_methodNamed B.named
  subst hsz
  have hD := hD0.self (sz := s.heap.size)
  generalize hAe : va_A [((r 0), .inr (7, [.int th, .int (nI rc), .ref (r 1), .int (nI ro), .ref (r 2), .int (nI rm), .ref (r 3), .ref (r 4), .ref (r 5), .ref (r 6), .int (nI ra), .ref (r 7), .ref (r 8), .ref (r 9), .ref (r 10), .int (nI rl), .ref (r 11), .ref (r 12), .ref (r 13), .ref (r 14), .int (nI rw), .ref (r 15), .long gv])), ((r 1), .inl (cI, 16, .inl rp)), ((r 2), .inl (cI, 64, .inl rk)), ((r 3), .inl (cI, 64, .inl ow)), ((r 4), .inl (cI, 64, .inl rn)), ((r 5), .inl (cI, 64, .inl ct)), ((r 6), .inl (cI, 256, .inl rt)), ((r 7), .inl (cI, 4, .inl ki)), ((r 8), .inl (cL, 4, .inr (.inl rb))), ((r 9), .inl (cI, 4, .inl aq)), ((r 10), .inl (cZ, 64, .inl cd)), ((r 11), .inl (cI, 64, .inl g1)), ((r 12), .inl (cI, 64, .inl g2)), ((r 13), .inl (cI, 64, .inl g3)), ((r 14), .inl (cL, 256, .inr (.inl gw))), ((r 15), .inl (cL, 64, .inr (.inl an)))] s.heap.size = A at hD hC ⊢
  have hA : ∀ q : Nat, s.heap.size ≤ q → A q := fun q h => by rw [← hAe]; exact Or.inr h
  have hS : va_S A s.heap s.heap [] := va_S.rf
  have hK := hC.K
  have hts := hC.ts [.ref (r 0), .int (nI o), .int n].toArray
  have hl := lv_entry ([.ref (r 0), .int (nI o), .int n]) (n := 8) (Nat.le_of_ble_eq_true rfl)
  rw [lg_entry_eq]
  generalize (lg_sl ([.ref (r 0), .int (nI o), .int n]) ++ List.replicate (8 - (lg_sl ([.ref (r 0), .int (nI o), .int n])).length) Slot.unset).toArray = ls at hl ⊢
  have hl : lv_has ls 8 [(0, .ref (r 0)), (1, .int (nI o)), (2, .int n)] := hl
  refine lv_iload_n hx hb kd_R_call_0 rfl (lv_at hl 1 rfl) ?_
  refine lv_aload_n hx hb kd_R_call_1 rfl (lv_at hl 0 rfl) ?_
  refine va_get (D := D) (ci := 7) (v := .int (nI ro)) (C := "HostBridgeModel") (T := ct_R) (N := 23) hx hb hts cw_R hown hK hP 0 rfl rfl 3 (by decide) (hts _ km_624) (fun _ h9 => h9) rfl kd_R_call_2 ?_
  refine hx_callRi (va_runS (As := [.int (nI o), .int (nI ro)]) (rest := []) ⟨hx, hb, hml, hown, hts⟩ (mr_isNo (nI o) ro) (va_cwS 2 hts (goodIn_sub (hx_m4 km_700 km_701 km_8 km_702) (by decide +kernel)) rfl rfl rfl (by decide +kernel) ⟨Nat.le_of_ble_eq_true rfl, Nat.le_of_ble_eq_true rfl⟩) (pr_S (hC.S hS) hP [] rfl) rfl rfl hl.1 rfl (lv_room (Nat.le_of_ble_eq_true rfl)) kd_R_call_5 ⟨Nat.le_of_ble_eq_true rfl, Nat.le_of_ble_eq_true rfl⟩) ?_
  refine hx_topi (y := 0) (by rw [(fb_in_iff (by omega)).mpr ⟨o, ho, rfl⟩]; rfl) ?_
  refine lv_if_ne (tgt := 21) hx hb kd_R_call_8 (by decide) (fun c_8 => ?_) (fun c_8 => ?_)
  · exact absurd c_8 (not_not_intro rfl)
  · skip
    refine lv_iload_n hx hb kd_R_call_11 rfl (lv_at hl 2 rfl) ?_
    refine lv_sipush (v := 1000) hx hb kd_R_call_12 (by decide) ?_
    refine hx_topi (y := nI 1000) (by decide) ?_
    refine hx_callRi (va_runS (As := [.int n, .int (nI 1000)]) (rest := []) ⟨hx, hb, hml, hown, hts⟩ (mr_isNo n 1000) (va_cwS 2 hts (goodIn_sub (hx_m4 km_700 km_701 km_8 km_702) (by decide +kernel)) rfl rfl rfl (by decide +kernel) ⟨Nat.le_of_ble_eq_true rfl, Nat.le_of_ble_eq_true rfl⟩) (pr_S (hC.S hS) hP [] rfl) rfl rfl hl.1 rfl (lv_room (Nat.le_of_ble_eq_true rfl)) kd_R_call_15 ⟨Nat.le_of_ble_eq_true rfl, Nat.le_of_ble_eq_true rfl⟩) ?_
    refine hx_topi (y := 0) (by rw [hn1]; rfl) ?_
    refine lv_if_eq (tgt := 25) hx hb kd_R_call_18 (by decide) (fun c_18 => ?_) (fun c_18 => ?_)
    · skip
      refine lv_iconst (v := 0) hx hb kd_R_call_25 (by decide) ?_
      refine lv_istore_n (lv' := [(3, .int 0), (0, .ref (r 0)), (1, .int (nI o)), (2, .int n)]) hx hb kd_R_call_26 rfl hl (by decide) rfl (fun ls hl => ?_)
      refine lv_iconst (v := 0) hx hb kd_R_call_27 (by decide) ?_
      refine hx_topi (y := nI (cn_ C 0)) (rfl) ?_
      refine lv_istore (lv' := [(4, .int (nI (cn_ C 0))), (3, .int 0), (0, .ref (r 0)), (1, .int (nI o)), (2, .int n)]) hx hb kd_R_call_28 hl (by decide) rfl (fun ls hl => ?_)
      refine lv_iconst (v := -1) hx hb kd_R_call_30 (by decide) ?_
      refine hx_topi (y := (-1)) (rfl) ?_
      refine lv_istore (lv' := [(5, .int (-1)), (4, .int (nI (cn_ C 0))), (3, .int 0), (0, .ref (r 0)), (1, .int (nI o)), (2, .int n)]) hx hb kd_R_call_31 hl (by decide) rfl (fun ls hl => ?_)
      refine lv_iconst (v := 0) hx hb kd_R_call_33 (by decide) ?_
      refine hx_topi (y := nI 0) (rfl) ?_
      refine lv_istore (lv' := [(6, .int (nI 0)), (5, .int (-1)), (4, .int (nI (cn_ C 0))), (3, .int 0), (0, .ref (r 0)), (1, .int (nI o)), (2, .int n)]) hx hb kd_R_call_34 hl (by decide) rfl (fun ls hl => ?_)
      refine lv_iconst (v := 0) hx hb kd_R_call_36 (by decide) ?_
      refine hx_topi (y := nI 0) (rfl) ?_
      refine lv_istore (lv' := [(7, .int (nI 0)), (6, .int (nI 0)), (5, .int (-1)), (4, .int (nI (cn_ C 0))), (3, .int 0), (0, .ref (r 0)), (1, .int (nI o)), (2, .int n)]) hx hb kd_R_call_37 hl (by decide) rfl (fun ls hl => ?_)
      refine hx_loopW (σ := Nat) (I := fun y ls H locs => lv_has ls 8 [(0, .ref (r 0)), (1, .int (nI o)), (2, .int n), (3, .int 0), (4, .int (nI (cn_ C y))), (5, .int (-1)), (6, .int (nI 0)), (7, .int (nI y))] ∧ va_P D cl_all [((r 0), .inr (7, [.int th, .int (nI rc), .ref (r 1), .int (nI ro), .ref (r 2), .int (nI rm), .ref (r 3), .ref (r 4), .ref (r 5), .ref (r 6), .int (nI ra), .ref (r 7), .ref (r 8), .ref (r 9), .ref (r 10), .int (nI rl), .ref (r 11), .ref (r 12), .ref (r 13), .ref (r 14), .int (nI rw), .ref (r 15), .long gv])), ((r 1), .inl (cI, 16, .inl rp)), ((r 2), .inl (cI, 64, .inl rk)), ((r 3), .inl (cI, 64, .inl ow)), ((r 4), .inl (cI, 64, .inl rn)), ((r 5), .inl (cI, 64, .inl ct)), ((r 6), .inl (cI, 256, .inl rt)), ((r 7), .inl (cI, 4, .inl ki)), ((r 8), .inl (cL, 4, .inr (.inl rb))), ((r 9), .inl (cI, 4, .inl aq)), ((r 10), .inl (cZ, 64, .inl (lf_ (cb_ C) cd y))), ((r 11), .inl (cI, 64, .inl g1)), ((r 12), .inl (cI, 64, .inl g2)), ((r 13), .inl (cI, 64, .inl g3)), ((r 14), .inl (cL, 256, .inr (.inl gw))), ((r 15), .inl (cL, 64, .inr (.inl an)))] H ∧ va_D A [((r 0), .inr (7, [.int th, .int (nI rc), .ref (r 1), .int (nI ro), .ref (r 2), .int (nI rm), .ref (r 3), .ref (r 4), .ref (r 5), .ref (r 6), .int (nI ra), .ref (r 7), .ref (r 8), .ref (r 9), .ref (r 10), .int (nI rl), .ref (r 11), .ref (r 12), .ref (r 13), .ref (r 14), .int (nI rw), .ref (r 15), .long gv])), ((r 1), .inl (cI, 16, .inl rp)), ((r 2), .inl (cI, 64, .inl rk)), ((r 3), .inl (cI, 64, .inl ow)), ((r 4), .inl (cI, 64, .inl rn)), ((r 5), .inl (cI, 64, .inl ct)), ((r 6), .inl (cI, 256, .inl rt)), ((r 7), .inl (cI, 4, .inl ki)), ((r 8), .inl (cL, 4, .inr (.inl rb))), ((r 9), .inl (cI, 4, .inl aq)), ((r 10), .inl (cZ, 64, .inl (lf_ (cb_ C) cd y))), ((r 11), .inl (cI, 64, .inl g1)), ((r 12), .inl (cI, 64, .inl g2)), ((r 13), .inl (cI, 64, .inl g3)), ((r 14), .inl (cL, 256, .inr (.inl gw))), ((r 15), .inl (cL, 64, .inr (.inl an)))] ∧ va_S A s.heap H locs ∧ y ≤ rm) (μ := fun y => rm - y) ?_ 0 ⟨lv_sub hl [5, 6, 7, 4, 3, 2, 1, 0] rfl, by rw [lf_0]; exact hP, by rw [lf_0]; exact hD, hS, Nat.zero_le _⟩
      intro y ls H locs hI ih39
      obtain ⟨hl, hP, hD, hS, hy⟩ := hI
      refine lv_iload hx hb kd_R_call_39 (lv_at hl 7 rfl) ?_
      refine lv_aload_n hx hb kd_R_call_41 rfl (lv_at hl 0 rfl) ?_
      refine va_get (D := D) (ci := 7) (v := .int (nI rm)) (C := "HostBridgeModel") (T := ct_R) (N := 23) hx hb hts cw_R hown hK hP 0 rfl rfl 5 (by decide) (hts _ km_626) (fun _ h9 => h9) rfl kd_R_call_42 ?_
      refine lv_icmp_ge (tgt := 138) hx hb kd_R_call_45 (by decide) (fun c_45 => ?_) (fun c_45 => ?_)
      · skip
        have hin : y = rm := by rw [nI_leI (by omega) (by omega)] at c_45; omega
        rw [hin] at hP hD hl
        have hl := lv_sub hl [0, 1, 2, 3, 4, 5, 6] rfl
        have hcd : ∀ z, z < rm → (lf_ (cb_ C) cd rm) z = b2_ (C z) := fun z hz => by rw [lf_, if_pos hz]; rfl
        refine lv_iconst (v := 0) hx hb kd_R_call_138 (by decide) ?_
        refine hx_topi (y := nI 0) (rfl) ?_
        refine lv_istore (lv' := [(7, .int (nI 0)), (0, .ref (r 0)), (1, .int (nI o)), (2, .int n), (3, .int 0), (4, .int (nI (cn_ C rm))), (5, .int (-1)), (6, .int (nI 0))]) hx hb kd_R_call_139 hl (by decide) rfl (fun ls hl => ?_)
        refine hx_loopR (σ := Nat × Int32 × Nat) (I := fun x ls => lv_has ls 8 [(0, .ref (r 0)), (1, .int (nI o)), (3, .int 0), (4, .int (nI (cn_ C rm))), (5, .int x.2.1), (6, .int (nI x.2.2)), (7, .int (nI x.1))] ∧ x.1 ≤ rm ∧ x.2.1 = la_ (bp_ rp rk ki rb rt C rm ra) x.1 ∧ x.2.2 = cn_ (bp_ rp rk ki rb rt C rm ra) x.1) (μ := fun x => rm - x.1) ?_ (0, -1, 0) ⟨lv_sub hl [1, 2, 4, 5, 6, 7, 0] rfl, Nat.zero_le _, rfl, rfl⟩
        intro x ls hI ih141
        obtain ⟨y, b9, q9⟩ := x
        obtain ⟨hl, hy, hb9, hq9⟩ := hI
        dsimp only at hl hy hb9 hq9 ih141
        refine lv_iload hx hb kd_R_call_141 (lv_at hl 6 rfl) ?_
        refine lv_aload_n hx hb kd_R_call_143 rfl (lv_at hl 0 rfl) ?_
        refine va_get (D := D) (ci := 7) (v := .int (nI rm)) (C := "HostBridgeModel") (T := ct_R) (N := 23) hx hb hts cw_R hown hK hP 0 rfl rfl 5 (by decide) (hts _ km_626) (fun _ h9 => h9) rfl kd_R_call_144 ?_
        refine lv_icmp_ge (tgt := 179) hx hb kd_R_call_147 (by decide) (fun c_147 => ?_) (fun c_147 => ?_)
        · skip
          have hin : y = rm := by rw [nI_leI (by omega) (by omega)] at c_147; omega
          rw [hin] at hb9 hq9
          have hl := lv_sub hl [0, 1, 2, 3, 4, 5] rfl
          refine lv_aload_n hx hb kd_R_call_179 rfl (lv_at hl 0 rfl) ?_
          refine lv_iload_n hx hb kd_R_call_180 rfl (lv_at hl 2 rfl) ?_
          refine lv_iload_n hx hb kd_R_call_181 rfl (lv_at hl 2 rfl) ?_
          refine lv_if_ne (tgt := 194) hx hb kd_R_call_182 (by decide) (fun c_182 => ?_) (fun c_182 => ?_)
          · exact absurd c_182 (not_not_intro rfl)
          · skip
            refine lv_iload hx hb kd_R_call_185 (lv_at hl 3 rfl) ?_
            refine lv_if_ne (tgt := 194) hx hb kd_R_call_187 (by decide) (fun c_187 => ?_) (fun c_187 => ?_)
            · exact absurd c_187 (not_not_intro (by rw [h0]; rfl))
            · skip
              refine lv_iconst (v := 1) hx hb kd_R_call_190 (by decide) ?_
              refine lv_goto (tgt := 195) hx hb kd_R_call_191 (by decide) ?_
              refine lv_iload hx hb kd_R_call_195 (lv_at hl 3 rfl) ?_
              refine lv_if_le (tgt := 210) hx hb kd_R_call_197 (by decide) (fun c_197 => ?_) (fun c_197 => ?_)
              · skip
                refine lv_iconst (v := 0) hx hb kd_R_call_210 (by decide) ?_
                refine hx_callWi (va_runV (As := [.int 0, .int 1, .int 0]) (rest := []) ⟨hx, hb, hml, hown, hts⟩ (mr_throwing2 r rc ro rm ra rl rw th gv rp rk ow rn ct rt ki aq cd g1 g2 g3 rb gw an _) (cwV 3 hts (goodIn_sub (hx_m5 km_703 km_705 kv_R_throwing km_8 km_706) (by decide +kernel)) rfl rfl rfl (by decide +kernel) ⟨Nat.le_of_ble_eq_true rfl, Nat.le_of_ble_eq_true rfl⟩) (pw_V (hC.S hS) hP hD hS hA [0] (by decide) rfl (ci := 7) rfl (q0 := 0) rfl) rfl rfl hl.1 rfl (lv_room (Nat.le_of_ble_eq_true rfl)) kd_R_call_211 ⟨Nat.le_of_ble_eq_true rfl, Nat.le_of_ble_eq_true rfl⟩) hP hD hS hA [0] rfl rfl (fun H locs hP hD hS hF => ?_)
                have hP : va_P D cl_all [((r 0), .inr (7, [.int 2, .int (nI rc), .ref (r 1), .int (nI ro), .ref (r 2), .int (nI rm), .ref (r 3), .ref (r 4), .ref (r 5), .ref (r 6), .int (nI ra), .ref (r 7), .ref (r 8), .ref (r 9), .ref (r 10), .int (nI rl), .ref (r 11), .ref (r 12), .ref (r 13), .ref (r 14), .int (nI rw), .ref (r 15), .long gv])), ((r 1), .inl (cI, 16, .inl rp)), ((r 2), .inl (cI, 64, .inl rk)), ((r 3), .inl (cI, 64, .inl ow)), ((r 4), .inl (cI, 64, .inl rn)), ((r 5), .inl (cI, 64, .inl ct)), ((r 6), .inl (cI, 256, .inl rt)), ((r 7), .inl (cI, 4, .inl ki)), ((r 8), .inl (cL, 4, .inr (.inl rb))), ((r 9), .inl (cI, 4, .inl aq)), ((r 10), .inl (cZ, 64, .inl (lf_ (cb_ C) cd rm))), ((r 11), .inl (cI, 64, .inl g1)), ((r 12), .inl (cI, 64, .inl g2)), ((r 13), .inl (cI, 64, .inl g3)), ((r 14), .inl (cL, 256, .inr (.inl gw))), ((r 15), .inl (cL, 64, .inr (.inl an)))] H := hP
                have hD : va_D A [((r 0), .inr (7, [.int 2, .int (nI rc), .ref (r 1), .int (nI ro), .ref (r 2), .int (nI rm), .ref (r 3), .ref (r 4), .ref (r 5), .ref (r 6), .int (nI ra), .ref (r 7), .ref (r 8), .ref (r 9), .ref (r 10), .int (nI rl), .ref (r 11), .ref (r 12), .ref (r 13), .ref (r 14), .int (nI rw), .ref (r 15), .long gv])), ((r 1), .inl (cI, 16, .inl rp)), ((r 2), .inl (cI, 64, .inl rk)), ((r 3), .inl (cI, 64, .inl ow)), ((r 4), .inl (cI, 64, .inl rn)), ((r 5), .inl (cI, 64, .inl ct)), ((r 6), .inl (cI, 256, .inl rt)), ((r 7), .inl (cI, 4, .inl ki)), ((r 8), .inl (cL, 4, .inr (.inl rb))), ((r 9), .inl (cI, 4, .inl aq)), ((r 10), .inl (cZ, 64, .inl (lf_ (cb_ C) cd rm))), ((r 11), .inl (cI, 64, .inl g1)), ((r 12), .inl (cI, 64, .inl g2)), ((r 13), .inl (cI, 64, .inl g3)), ((r 14), .inl (cL, 256, .inr (.inl gw))), ((r 15), .inl (cL, 64, .inr (.inl an)))] := hD
                refine hx_topi (y := 1) (rfl) ?_
                refine lv_if_eq (tgt := 224) hx hb kd_R_call_214 (by decide) (fun c_214 => ?_) (fun c_214 => ?_)
                · exact absurd c_214 (by decide)
                · skip
                  refine lv_aload_n hx hb kd_R_call_217 rfl (lv_at hl 0 rfl) ?_
                  refine lv_iconst (v := 0) hx hb kd_R_call_218 (by decide) ?_
                  refine hx_topi (y := nI 0) (rfl) ?_
                  refine va_put (D := D) (ci := 7) (v := .int (nI 0)) (ty := .int) (C := "HostBridgeModel") (T := ct_R) (N := 23) hx hb hts cw_R cy_R cp_R cn_R hown hK hP hD hS 0 rfl rfl 10 (by decide) (hts _ km_631) (fun _ h9 => h9) rfl (by decide +kernel) rfl rfl (Nat.le_of_ble_eq_true rfl) kd_R_call_219 (fun H locs hP hD hS => ?_)
                  have hP : va_P D cl_all [((r 0), .inr (7, [.int 2, .int (nI rc), .ref (r 1), .int (nI ro), .ref (r 2), .int (nI rm), .ref (r 3), .ref (r 4), .ref (r 5), .ref (r 6), .int (nI 0), .ref (r 7), .ref (r 8), .ref (r 9), .ref (r 10), .int (nI rl), .ref (r 11), .ref (r 12), .ref (r 13), .ref (r 14), .int (nI rw), .ref (r 15), .long gv])), ((r 1), .inl (cI, 16, .inl rp)), ((r 2), .inl (cI, 64, .inl rk)), ((r 3), .inl (cI, 64, .inl ow)), ((r 4), .inl (cI, 64, .inl rn)), ((r 5), .inl (cI, 64, .inl ct)), ((r 6), .inl (cI, 256, .inl rt)), ((r 7), .inl (cI, 4, .inl ki)), ((r 8), .inl (cL, 4, .inr (.inl rb))), ((r 9), .inl (cI, 4, .inl aq)), ((r 10), .inl (cZ, 64, .inl (lf_ (cb_ C) cd rm))), ((r 11), .inl (cI, 64, .inl g1)), ((r 12), .inl (cI, 64, .inl g2)), ((r 13), .inl (cI, 64, .inl g3)), ((r 14), .inl (cL, 256, .inr (.inl gw))), ((r 15), .inl (cL, 64, .inr (.inl an)))] H := hP
                  have hD : va_D A [((r 0), .inr (7, [.int 2, .int (nI rc), .ref (r 1), .int (nI ro), .ref (r 2), .int (nI rm), .ref (r 3), .ref (r 4), .ref (r 5), .ref (r 6), .int (nI 0), .ref (r 7), .ref (r 8), .ref (r 9), .ref (r 10), .int (nI rl), .ref (r 11), .ref (r 12), .ref (r 13), .ref (r 14), .int (nI rw), .ref (r 15), .long gv])), ((r 1), .inl (cI, 16, .inl rp)), ((r 2), .inl (cI, 64, .inl rk)), ((r 3), .inl (cI, 64, .inl ow)), ((r 4), .inl (cI, 64, .inl rn)), ((r 5), .inl (cI, 64, .inl ct)), ((r 6), .inl (cI, 256, .inl rt)), ((r 7), .inl (cI, 4, .inl ki)), ((r 8), .inl (cL, 4, .inr (.inl rb))), ((r 9), .inl (cI, 4, .inl aq)), ((r 10), .inl (cZ, 64, .inl (lf_ (cb_ C) cd rm))), ((r 11), .inl (cI, 64, .inl g1)), ((r 12), .inl (cI, 64, .inl g2)), ((r 13), .inl (cI, 64, .inl g3)), ((r 14), .inl (cL, 256, .inr (.inl gw))), ((r 15), .inl (cL, 64, .inr (.inl an)))] := hD
                  refine lv_iconst (v := 0) hx hb kd_R_call_222 (by decide) ?_
                  exact hx_iretW hx hb hr hlocks (rfl) (hP) hS kd_R_call_223
              · exact absurd c_197 (not_not_intro (by rw [h0]; decide))
        · skip
          have hin : y < rm := by rw [nI_leI (by omega) (by omega)] at c_147; omega
          refine lv_iload_n hx hb kd_R_call_150 rfl (lv_at hl 2 rfl) ?_
          refine lv_if_ne (tgt := 179) hx hb kd_R_call_151 (by decide) (fun c_151 => ?_) (fun c_151 => ?_)
          · exact absurd c_151 (not_not_intro rfl)
          · skip
            refine lv_aload_n hx hb kd_R_call_154 rfl (lv_at hl 0 rfl) ?_
            refine lv_iload hx hb kd_R_call_155 (lv_at hl 6 rfl) ?_
            refine hx_callRi (va_runV (As := [.int (nI y)]) (rest := []) ⟨hx, hb, hml, hown, hts⟩ (mr_isBest r rc ro rm ra rl rw th gv rp rk ow rn ct rt ki aq (lf_ (cb_ C) cd rm) g1 g2 g3 rb gw an C y hin hrm hra hcd hok hln hno hco) (cwV 1 hts (goodIn_sub (hx_m5 km_769 km_771 kv_R_isBest km_8 km_772) (by decide +kernel)) rfl rfl rfl (by decide +kernel) ⟨Nat.le_of_ble_eq_true rfl, Nat.le_of_ble_eq_true rfl⟩) (pr_V (hC.S hS) hP [0, 1, 2, 3, 4, 5, 6, 7, 8, 9, 10, 11, 12, 13, 14, 15] rfl (ci := 7) rfl (q0 := 0) rfl) rfl rfl hl.1 rfl (lv_room (Nat.le_of_ble_eq_true rfl)) kd_R_call_157 ⟨Nat.le_of_ble_eq_true rfl, Nat.le_of_ble_eq_true rfl⟩) ?_
            refine lv_if_ne (tgt := 166) hx hb kd_R_call_160 (by decide) (fun c_160 => ?_) (fun c_160 => ?_)
            · skip
              have h160 : bp_ rp rk ki rb rt C rm ra y = true := b2_t c_160
              refine lv_iload hx hb kd_R_call_166 (lv_at hl 6 rfl) ?_
              refine lv_istore (lv' := [(5, .int (nI y)), (0, .ref (r 0)), (1, .int (nI o)), (3, .int 0), (4, .int (nI (cn_ C rm))), (6, .int (nI q9)), (7, .int (nI y))]) hx hb kd_R_call_168 hl (by decide) rfl (fun ls hl => ?_)
              refine lv_iinc (v := nI (q9 + 1)) (lv' := [(6, .int (nI (q9 + 1))), (5, .int (nI y)), (0, .ref (r 0)), (1, .int (nI o)), (3, .int 0), (4, .int (nI (cn_ C rm))), (7, .int (nI y))]) hx hb kd_R_call_170 hl (k := 5) rfl (nI_1 q9) (by decide) rfl (fun ls hl => ?_)
              refine lv_iinc (v := nI (y + 1)) (lv' := [(7, .int (nI (y + 1))), (6, .int (nI (q9 + 1))), (5, .int (nI y)), (0, .ref (r 0)), (1, .int (nI o)), (3, .int 0), (4, .int (nI (cn_ C rm)))]) hx hb kd_R_call_173 hl (k := 6) rfl (nI_1 y) (by decide) rfl (fun ls hl => ?_)
              refine lv_goto (tgt := 141) hx hb kd_R_call_176 (by decide) ?_
              exact ih141 (y + 1, nI y, q9 + 1) _ (by dsimp only; omega) ⟨lv_sub hl [3, 4, 5, 6, 2, 1, 0] rfl, by dsimp only; omega, by dsimp only; simp only [la_]; rw [h160, if_pos rfl], by dsimp only; simp only [cn_]; rw [h160, hq9]; rfl⟩
            · skip
              have h160 : bp_ rp rk ki rb rt C rm ra y = false := b2_f c_160
              refine lv_goto (tgt := 173) hx hb kd_R_call_163 (by decide) ?_
              refine lv_iinc (v := nI (y + 1)) (lv' := [(7, .int (nI (y + 1))), (0, .ref (r 0)), (1, .int (nI o)), (3, .int 0), (4, .int (nI (cn_ C rm))), (5, .int b9), (6, .int (nI q9))]) hx hb kd_R_call_173 hl (k := 6) rfl (nI_1 y) (by decide) rfl (fun ls hl => ?_)
              refine lv_goto (tgt := 141) hx hb kd_R_call_176 (by decide) ?_
              exact ih141 (y + 1, b9, q9) _ (by dsimp only; omega) ⟨lv_sub hl [1, 2, 3, 4, 5, 6, 0] rfl, by dsimp only; omega, by dsimp only; simp only [la_]; rw [h160, hb9]; rfl, by dsimp only; simp only [cn_]; rw [h160, hq9]; rfl⟩
      · skip
        have hin : y < rm := by rw [nI_leI (by omega) (by omega)] at c_45; omega
        refine lv_iload_n hx hb kd_R_call_48 rfl (lv_at hl 3 rfl) ?_
        refine lv_if_ne (tgt := 138) hx hb kd_R_call_49 (by decide) (fun c_49 => ?_) (fun c_49 => ?_)
        · exact absurd c_49 (not_not_intro rfl)
        · skip
          refine lv_aload_n hx hb kd_R_call_52 rfl (lv_at hl 0 rfl) ?_
          refine va_get (D := D) (ci := 7) (v := .ref (r 10)) (C := "HostBridgeModel") (T := ct_R) (N := 23) hx hb hts cw_R hown hK hP 0 rfl rfl 14 (by decide) (hts _ km_635) (fun _ h9 => h9) rfl kd_R_call_53 ?_
          refine lv_iload hx hb kd_R_call_56 (lv_at hl 7 rfl) ?_
          refine hx_cut (pc2 := 110) (ls2 := ls) (rest2 := [.int (nI y), .ref (r 10)]) (P := fun x => x = b2_ (C y)) ?_ (fun hj1 => ?_)
          · intro x2 e3
            subst e3
            refine hx_topi (y := cb_ C y) (rfl) ?_
            refine hx_zast (j := y) hx hb hK hP hD hS 10 rfl (rfl) (by omega) (by decide) (b2_vn _) kd_R_call_110 (fun H locs hP hD hS => ?_)
            have hP : va_P D cl_all [((r 0), .inr (7, [.int th, .int (nI rc), .ref (r 1), .int (nI ro), .ref (r 2), .int (nI rm), .ref (r 3), .ref (r 4), .ref (r 5), .ref (r 6), .int (nI ra), .ref (r 7), .ref (r 8), .ref (r 9), .ref (r 10), .int (nI rl), .ref (r 11), .ref (r 12), .ref (r 13), .ref (r 14), .int (nI rw), .ref (r 15), .long gv])), ((r 1), .inl (cI, 16, .inl rp)), ((r 2), .inl (cI, 64, .inl rk)), ((r 3), .inl (cI, 64, .inl ow)), ((r 4), .inl (cI, 64, .inl rn)), ((r 5), .inl (cI, 64, .inl ct)), ((r 6), .inl (cI, 256, .inl rt)), ((r 7), .inl (cI, 4, .inl ki)), ((r 8), .inl (cL, 4, .inr (.inl rb))), ((r 9), .inl (cI, 4, .inl aq)), ((r 10), .inl (cZ, 64, .inl (upd (lf_ (cb_ C) cd y) y (cb_ C y)))), ((r 11), .inl (cI, 64, .inl g1)), ((r 12), .inl (cI, 64, .inl g2)), ((r 13), .inl (cI, 64, .inl g3)), ((r 14), .inl (cL, 256, .inr (.inl gw))), ((r 15), .inl (cL, 64, .inr (.inl an)))] H := hP
            have hD : va_D A [((r 0), .inr (7, [.int th, .int (nI rc), .ref (r 1), .int (nI ro), .ref (r 2), .int (nI rm), .ref (r 3), .ref (r 4), .ref (r 5), .ref (r 6), .int (nI ra), .ref (r 7), .ref (r 8), .ref (r 9), .ref (r 10), .int (nI rl), .ref (r 11), .ref (r 12), .ref (r 13), .ref (r 14), .int (nI rw), .ref (r 15), .long gv])), ((r 1), .inl (cI, 16, .inl rp)), ((r 2), .inl (cI, 64, .inl rk)), ((r 3), .inl (cI, 64, .inl ow)), ((r 4), .inl (cI, 64, .inl rn)), ((r 5), .inl (cI, 64, .inl ct)), ((r 6), .inl (cI, 256, .inl rt)), ((r 7), .inl (cI, 4, .inl ki)), ((r 8), .inl (cL, 4, .inr (.inl rb))), ((r 9), .inl (cI, 4, .inl aq)), ((r 10), .inl (cZ, 64, .inl (upd (lf_ (cb_ C) cd y) y (cb_ C y)))), ((r 11), .inl (cI, 64, .inl g1)), ((r 12), .inl (cI, 64, .inl g2)), ((r 13), .inl (cI, 64, .inl g3)), ((r 14), .inl (cL, 256, .inr (.inl gw))), ((r 15), .inl (cL, 64, .inr (.inl an)))] := hD
            rw [lf_s] at hP hD
            refine hx_cut (pc2 := 130) (ls2 := ls) (rest2 := []) (P := fun x => x = nI (cn_ C (y + 1))) ?_ (fun hj4 => ?_)
            · intro x5 e6
              subst e6
              refine lv_istore (lv' := [(4, .int (nI (cn_ C (y + 1)))), (0, .ref (r 0)), (1, .int (nI o)), (2, .int n), (3, .int 0), (5, .int (-1)), (6, .int (nI 0)), (7, .int (nI y))]) hx hb kd_R_call_130 hl (by decide) rfl (fun ls hl => ?_)
              refine lv_iinc (v := nI (y + 1)) (lv' := [(7, .int (nI (y + 1))), (4, .int (nI (cn_ C (y + 1)))), (0, .ref (r 0)), (1, .int (nI o)), (2, .int n), (3, .int 0), (5, .int (-1)), (6, .int (nI 0))]) hx hb kd_R_call_132 hl (k := 7) rfl (nI_1 y) (by decide) rfl (fun ls hl => ?_)
              refine lv_goto (tgt := 39) hx hb kd_R_call_135 (by decide) ?_
              exact ih39 (y + 1) _ _ _ (by omega) ⟨lv_sub hl [2, 3, 4, 5, 1, 6, 7, 0] rfl, hP, hD, hS, by omega⟩
            · skip
              refine lv_aload_n hx hb kd_R_call_111 rfl (lv_at hl 0 rfl) ?_
              refine va_get (D := D) (ci := 7) (v := .ref (r 10)) (C := "HostBridgeModel") (T := ct_R) (N := 23) hx hb hts cw_R hown hK hP 0 rfl rfl 14 (by decide) (hts _ km_635) (fun _ h9 => h9) rfl kd_R_call_112 ?_
              refine lv_iload hx hb kd_R_call_115 (lv_at hl 7 rfl) ?_
              refine hx_zald (j := y) hx hb hK hP 10 rfl (rfl) (by omega) (by decide) kd_R_call_117 ?_
              refine hx_topi (y := b2_ (C y)) (by rw [lf_, if_pos (by omega)]; rfl) ?_
              refine lv_if_eq (tgt := 128) hx hb kd_R_call_118 (by decide) (fun c_118 => ?_) (fun c_118 => ?_)
              · skip
                refine lv_iload hx hb kd_R_call_128 (lv_at hl 4 rfl) ?_
                exact hj4 _ (by simp only [cn_]; rw [b2_f c_118]; rfl)
              · skip
                refine lv_iload hx hb kd_R_call_121 (lv_at hl 4 rfl) ?_
                refine lv_iconst (v := 1) hx hb kd_R_call_123 (by decide) ?_
                refine lv_iadd hx hb kd_R_call_124 ?_
                refine lv_goto (tgt := 130) hx hb kd_R_call_125 (by decide) ?_
                exact hj4 _ (by simp only [cn_]; rw [b2_t c_118]; exact nI_1 _)
          · skip
            refine lv_aload_n hx hb kd_R_call_58 rfl (lv_at hl 0 rfl) ?_
            refine va_get (D := D) (ci := 7) (v := .ref (r 4)) (C := "HostBridgeModel") (T := ct_R) (N := 23) hx hb hts cw_R hown hK hP 0 rfl rfl 7 (by decide) (hts _ km_628) (fun _ h9 => h9) rfl kd_R_call_59 ?_
            refine lv_iload hx hb kd_R_call_62 (lv_at hl 7 rfl) ?_
            refine hx_iald (j := y) hx hb hK hP 4 rfl (rfl) (by omega) (by decide) kd_R_call_64 ?_
            refine lv_iload_n hx hb kd_R_call_65 rfl (lv_at hl 2 rfl) ?_
            refine lv_icmp_ne (tgt := 109) hx hb kd_R_call_66 (by decide) (fun c_66 => ?_) (fun c_66 => ?_)
            · skip
              refine lv_iconst (v := 0) hx hb kd_R_call_109 (by decide) ?_
              exact hj1 _ (by rw [← hCe, cc_]; simp [b2_, c_66])
            · skip
              refine lv_aload_n hx hb kd_R_call_69 rfl (lv_at hl 0 rfl) ?_
              refine lv_iload_n hx hb kd_R_call_70 rfl (lv_at hl 1 rfl) ?_
              refine lv_aload_n hx hb kd_R_call_71 rfl (lv_at hl 0 rfl) ?_
              refine va_get (D := D) (ci := 7) (v := .ref (r 3)) (C := "HostBridgeModel") (T := ct_R) (N := 23) hx hb hts cw_R hown hK hP 0 rfl rfl 6 (by decide) (hts _ km_627) (fun _ h9 => h9) rfl kd_R_call_72 ?_
              refine lv_iload hx hb kd_R_call_75 (lv_at hl 7 rfl) ?_
              refine hx_iald (j := y) hx hb hK hP 3 rfl (rfl) (by omega) (by decide) kd_R_call_77 ?_
              refine hx_callRi (va_runV (As := [.int (nI o), .int (ow y)]) (rest := [.int (nI y), .ref (r 10)]) ⟨hx, hb, hml, hown, hts⟩ (mr_far r rc ro rm ra rl rw th gv rp rk ow rn ct rt ki aq (lf_ (cb_ C) cd y) g1 g2 g3 rb gw an o (ow y) ho hln hno hco) (cwV 2 hts (goodIn_sub (hx_m5 km_757 km_759 kv_R_far km_8 km_760) (by decide +kernel)) rfl rfl rfl (by decide +kernel) ⟨Nat.le_of_ble_eq_true rfl, Nat.le_of_ble_eq_true rfl⟩) (pr_V (hC.S hS) hP [0, 1, 2, 3, 4, 5, 6, 7, 8, 9, 10, 11, 12, 13, 14, 15] rfl (ci := 7) rfl (q0 := 0) rfl) rfl rfl hl.1 rfl (lv_room (Nat.le_of_ble_eq_true rfl)) kd_R_call_78 ⟨Nat.le_of_ble_eq_true rfl, Nat.le_of_ble_eq_true rfl⟩) ?_
              refine lv_bipush (v := 99) hx hb kd_R_call_81 (by decide) ?_
              refine lv_icmp_ge (tgt := 109) hx hb kd_R_call_83 (by decide) (fun c_83 => ?_) (fun c_83 => ?_)
              · skip
                refine lv_iconst (v := 0) hx hb kd_R_call_109 (by decide) ?_
                exact hj1 _ (by rw [← hCe, cc_]; simp [b2_, c_66, c_83])
              · skip
                refine lv_aload_n hx hb kd_R_call_86 rfl (lv_at hl 0 rfl) ?_
                refine lv_iload hx hb kd_R_call_87 (lv_at hl 7 rfl) ?_
                refine hx_callRi (va_runV (As := [.int (nI y)]) (rest := [.int (nI y), .ref (r 10)]) ⟨hx, hb, hml, hown, hts⟩ (mr_fits r rc ro rm ra rl rw th gv rp rk ow rn ct rt ki aq (lf_ (cb_ C) cd y) g1 g2 g3 rb gw an y (by omega) hra hok hln hno hco) (cwV 1 hts (goodIn_sub (hx_m5 km_761 km_763 kv_R_fits km_8 km_764) (by decide +kernel)) rfl rfl rfl (by decide +kernel) ⟨Nat.le_of_ble_eq_true rfl, Nat.le_of_ble_eq_true rfl⟩) (pr_V (hC.S hS) hP [0, 1, 2, 3, 4, 5, 6, 7, 8, 9, 10, 11, 12, 13, 14, 15] rfl (ci := 7) rfl (q0 := 0) rfl) rfl rfl hl.1 rfl (lv_room (Nat.le_of_ble_eq_true rfl)) kd_R_call_89 ⟨Nat.le_of_ble_eq_true rfl, Nat.le_of_ble_eq_true rfl⟩) ?_
                refine lv_if_eq (tgt := 109) hx hb kd_R_call_92 (by decide) (fun c_92 => ?_) (fun c_92 => ?_)
                · skip
                  refine lv_iconst (v := 0) hx hb kd_R_call_109 (by decide) ?_
                  exact hj1 _ (by rw [← hCe, cc_]; simp [b2_, c_66, c_83, b2_f c_92])
                · skip
                  refine lv_aload_n hx hb kd_R_call_95 rfl (lv_at hl 0 rfl) ?_
                  refine lv_iload_n hx hb kd_R_call_96 rfl (lv_at hl 1 rfl) ?_
                  refine lv_iload hx hb kd_R_call_97 (lv_at hl 7 rfl) ?_
                  have hcy : ct y = nI ra := by have h9 := b2_t c_92; rw [fr_, Bool.and_eq_true, decide_eq_true_iff] at h9; exact h9.1
                  refine hx_callRi (va_runV (As := [.int (nI o), .int (nI y)]) (rest := [.int (nI y), .ref (r 10)]) ⟨hx, hb, hml, hown, hts⟩ (mr_isHidden r rc ro rm ra rl rw th gv rp rk ow rn ct rt ki aq (lf_ (cb_ C) cd y) g1 g2 g3 rb gw an o ra y ho (by omega) hrm hra hcy hln hno hco) (cwV 2 hts (goodIn_sub (hx_m5 km_765 km_767 kv_R_isHidden km_8 km_768) (by decide +kernel)) rfl rfl rfl (by decide +kernel) ⟨Nat.le_of_ble_eq_true rfl, Nat.le_of_ble_eq_true rfl⟩) (pr_V (hC.S hS) hP [0, 1, 2, 3, 4, 5, 6, 7, 8, 9, 10, 11, 12, 13, 14, 15] rfl (ci := 7) rfl (q0 := 0) rfl) rfl rfl hl.1 rfl (lv_room (Nat.le_of_ble_eq_true rfl)) kd_R_call_99 ⟨Nat.le_of_ble_eq_true rfl, Nat.le_of_ble_eq_true rfl⟩) ?_
                  refine lv_if_ne (tgt := 109) hx hb kd_R_call_102 (by decide) (fun c_102 => ?_) (fun c_102 => ?_)
                  · skip
                    refine lv_iconst (v := 0) hx hb kd_R_call_109 (by decide) ?_
                    exact hj1 _ (by rw [← hCe, cc_]; simp [b2_, c_66, c_83, b2_t c_92, b2_t c_102])
                  · skip
                    refine lv_iconst (v := 1) hx hb kd_R_call_105 (by decide) ?_
                    refine lv_goto (tgt := 110) hx hb kd_R_call_106 (by decide) ?_
                    exact hj1 _ (by rw [← hCe, cc_]; simp [b2_, c_66, c_83, b2_t c_92, b2_f c_102])
    · exact absurd c_18 (not_not_intro rfl)

set_option maxHeartbeats 4000000 in
set_option maxRecDepth 100000 in
theorem mr_call3 {l : Launch} {D : va_G} {cI cL cZ : ClassId} {tb : Nat} (r : Nat → Nat) (rc ro rm ra rl rw : Nat) (th : Int32) (gv : Int64) (rp rk ow rn ct rt ki aq cd g1 g2 g3 : Nat → Int32) (rb gw an : Nat → Int64) (o : Nat) (n : Int32) (ho : o < ro) (hn1 : fb_in n 1000 = true) (hrm : rm ≤ 64) (hra : ra ≤ 4) (C : Nat → Bool) (hCe : ∀ z, cc_ rp rk ow rn ct rt ki rb rm ra o n z = C z) (hok : ∀ i, i < ra → ki i = 5 → ∃ o : Nat, o < ro ∧ rb i = lN o) (hln : ln_ok rc rp) (hno : ro ≤ 64) (hco : ∀ j, j < ro → ∃ q : Nat, q < rc ∧ rk j = nI q) (h0 : 0 < cn_ C rm) (h1 : ¬ cn_ (bp_ rp rk ki rb rt C rm ra) rm = 1) (sz : Nat) : Met l ky_R_call kw_R_call { frames := 4, cells := 0, slots := 0, locals := 100 } (pw_P D cI cL cZ tb [((r 0), .inr (7, [.int th, .int (nI rc), .ref (r 1), .int (nI ro), .ref (r 2), .int (nI rm), .ref (r 3), .ref (r 4), .ref (r 5), .ref (r 6), .int (nI ra), .ref (r 7), .ref (r 8), .ref (r 9), .ref (r 10), .int (nI rl), .ref (r 11), .ref (r 12), .ref (r 13), .ref (r 14), .int (nI rw), .ref (r 15), .long gv])), ((r 1), .inl (cI, 16, .inl rp)), ((r 2), .inl (cI, 64, .inl rk)), ((r 3), .inl (cI, 64, .inl ow)), ((r 4), .inl (cI, 64, .inl rn)), ((r 5), .inl (cI, 64, .inl ct)), ((r 6), .inl (cI, 256, .inl rt)), ((r 7), .inl (cI, 4, .inl ki)), ((r 8), .inl (cL, 4, .inr (.inl rb))), ((r 9), .inl (cI, 4, .inl aq)), ((r 10), .inl (cZ, 64, .inl cd)), ((r 11), .inl (cI, 64, .inl g1)), ((r 12), .inl (cI, 64, .inl g2)), ((r 13), .inl (cI, 64, .inl g3)), ((r 14), .inl (cL, 256, .inr (.inl gw))), ((r 15), .inl (cL, 64, .inr (.inl an)))] sz [.ref (r 0), .int (nI o), .int n]) (hx_QW D (some (.int 0)) [((r 0), .inr (7, [.int 3, .int (nI rc), .ref (r 1), .int (nI ro), .ref (r 2), .int (nI rm), .ref (r 3), .ref (r 4), .ref (r 5), .ref (r 6), .int (nI 0), .ref (r 7), .ref (r 8), .ref (r 9), .ref (r 10), .int (nI rl), .ref (r 11), .ref (r 12), .ref (r 13), .ref (r 14), .int (nI rw), .ref (r 15), .long gv])), ((r 1), .inl (cI, 16, .inl rp)), ((r 2), .inl (cI, 64, .inl rk)), ((r 3), .inl (cI, 64, .inl ow)), ((r 4), .inl (cI, 64, .inl rn)), ((r 5), .inl (cI, 64, .inl ct)), ((r 6), .inl (cI, 256, .inl rt)), ((r 7), .inl (cI, 4, .inl ki)), ((r 8), .inl (cL, 4, .inr (.inl rb))), ((r 9), .inl (cI, 4, .inl aq)), ((r 10), .inl (cZ, 64, .inl (lf_ (cb_ C) cd rm))), ((r 11), .inl (cI, 64, .inl g1)), ((r 12), .inl (cI, 64, .inl g2)), ((r 13), .inl (cI, 64, .inl g3)), ((r 14), .inl (cL, 256, .inr (.inl gw))), ((r 15), .inl (cL, 64, .inr (.inl an)))] (va_A [((r 0), .inr (7, [.int th, .int (nI rc), .ref (r 1), .int (nI ro), .ref (r 2), .int (nI rm), .ref (r 3), .ref (r 4), .ref (r 5), .ref (r 6), .int (nI ra), .ref (r 7), .ref (r 8), .ref (r 9), .ref (r 10), .int (nI rl), .ref (r 11), .ref (r 12), .ref (r 13), .ref (r 14), .int (nI rw), .ref (r 15), .long gv])), ((r 1), .inl (cI, 16, .inl rp)), ((r 2), .inl (cI, 64, .inl rk)), ((r 3), .inl (cI, 64, .inl ow)), ((r 4), .inl (cI, 64, .inl rn)), ((r 5), .inl (cI, 64, .inl ct)), ((r 6), .inl (cI, 256, .inl rt)), ((r 7), .inl (cI, 4, .inl ki)), ((r 8), .inl (cL, 4, .inr (.inl rb))), ((r 9), .inl (cI, 4, .inl aq)), ((r 10), .inl (cZ, 64, .inl cd)), ((r 11), .inl (cI, 64, .inl g1)), ((r 12), .inl (cI, 64, .inl g2)), ((r 13), .inl (cI, 64, .inl g3)), ((r 14), .inl (cL, 256, .inr (.inl gw))), ((r 15), .inl (cL, 64, .inr (.inl an)))] sz)) 0 0 (va_A [((r 0), .inr (7, [.int th, .int (nI rc), .ref (r 1), .int (nI ro), .ref (r 2), .int (nI rm), .ref (r 3), .ref (r 4), .ref (r 5), .ref (r 6), .int (nI ra), .ref (r 7), .ref (r 8), .ref (r 9), .ref (r 10), .int (nI rl), .ref (r 11), .ref (r 12), .ref (r 13), .ref (r 14), .int (nI rw), .ref (r 15), .long gv])), ((r 1), .inl (cI, 16, .inl rp)), ((r 2), .inl (cI, 64, .inl rk)), ((r 3), .inl (cI, 64, .inl ow)), ((r 4), .inl (cI, 64, .inl rn)), ((r 5), .inl (cI, 64, .inl ct)), ((r 6), .inl (cI, 256, .inl rt)), ((r 7), .inl (cI, 4, .inl ki)), ((r 8), .inl (cL, 4, .inr (.inl rb))), ((r 9), .inl (cI, 4, .inl aq)), ((r 10), .inl (cZ, 64, .inl cd)), ((r 11), .inl (cI, 64, .inl g1)), ((r 12), .inl (cI, 64, .inl g2)), ((r 13), .inl (cI, 64, .inl g3)), ((r 14), .inl (cL, 256, .inr (.inl gw))), ((r 15), .inl (cL, 64, .inr (.inl an)))] sz) := by
  refine Met.ofW (cc := kc_R_call) (maxL := 8) (ret := (some .int)) (by decide) rfl ?_
  intro p e s m args below meth c s₁ B hml hv
  obtain ⟨rfl, hsz, hC, hP, hD0⟩ := hv
  have hx := B.exec
  have hb := B.bytes
  have hr := B.returns
  have hlocks := B.notSynchronized
  have hown : s.vm.findClass "HostBridgeModel" = some m.cls := findClass_of_methodNamed B.named
  subst hsz
  have hD := hD0.self (sz := s.heap.size)
  generalize hAe : va_A [((r 0), .inr (7, [.int th, .int (nI rc), .ref (r 1), .int (nI ro), .ref (r 2), .int (nI rm), .ref (r 3), .ref (r 4), .ref (r 5), .ref (r 6), .int (nI ra), .ref (r 7), .ref (r 8), .ref (r 9), .ref (r 10), .int (nI rl), .ref (r 11), .ref (r 12), .ref (r 13), .ref (r 14), .int (nI rw), .ref (r 15), .long gv])), ((r 1), .inl (cI, 16, .inl rp)), ((r 2), .inl (cI, 64, .inl rk)), ((r 3), .inl (cI, 64, .inl ow)), ((r 4), .inl (cI, 64, .inl rn)), ((r 5), .inl (cI, 64, .inl ct)), ((r 6), .inl (cI, 256, .inl rt)), ((r 7), .inl (cI, 4, .inl ki)), ((r 8), .inl (cL, 4, .inr (.inl rb))), ((r 9), .inl (cI, 4, .inl aq)), ((r 10), .inl (cZ, 64, .inl cd)), ((r 11), .inl (cI, 64, .inl g1)), ((r 12), .inl (cI, 64, .inl g2)), ((r 13), .inl (cI, 64, .inl g3)), ((r 14), .inl (cL, 256, .inr (.inl gw))), ((r 15), .inl (cL, 64, .inr (.inl an)))] s.heap.size = A at hD hC ⊢
  have hA : ∀ q : Nat, s.heap.size ≤ q → A q := fun q h => by rw [← hAe]; exact Or.inr h
  have hS : va_S A s.heap s.heap [] := va_S.rf
  have hK := hC.K
  have hts := hC.ts [.ref (r 0), .int (nI o), .int n].toArray
  have hl := lv_entry ([.ref (r 0), .int (nI o), .int n]) (n := 8) (Nat.le_of_ble_eq_true rfl)
  rw [lg_entry_eq]
  generalize (lg_sl ([.ref (r 0), .int (nI o), .int n]) ++ List.replicate (8 - (lg_sl ([.ref (r 0), .int (nI o), .int n])).length) Slot.unset).toArray = ls at hl ⊢
  have hl : lv_has ls 8 [(0, .ref (r 0)), (1, .int (nI o)), (2, .int n)] := hl
  have hpc : cn_ C rm < 2 ^ 31 := Nat.lt_of_le_of_lt (cn_le C rm) (by omega)
  refine lv_iload_n hx hb kd_R_call_0 rfl (lv_at hl 1 rfl) ?_
  refine lv_aload_n hx hb kd_R_call_1 rfl (lv_at hl 0 rfl) ?_
  refine va_get (D := D) (ci := 7) (v := .int (nI ro)) (C := "HostBridgeModel") (T := ct_R) (N := 23) hx hb hts cw_R hown hK hP 0 rfl rfl 3 (by decide) (hts _ km_624) (fun _ h9 => h9) rfl kd_R_call_2 ?_
  refine hx_callRi (va_runS (As := [.int (nI o), .int (nI ro)]) (rest := []) ⟨hx, hb, hml, hown, hts⟩ (mr_isNo (nI o) ro) (va_cwS 2 hts (goodIn_sub (hx_m4 km_700 km_701 km_8 km_702) (by decide +kernel)) rfl rfl rfl (by decide +kernel) ⟨Nat.le_of_ble_eq_true rfl, Nat.le_of_ble_eq_true rfl⟩) (pr_S (hC.S hS) hP [] rfl) rfl rfl hl.1 rfl (lv_room (Nat.le_of_ble_eq_true rfl)) kd_R_call_5 ⟨Nat.le_of_ble_eq_true rfl, Nat.le_of_ble_eq_true rfl⟩) ?_
  refine hx_topi (y := 0) (by rw [(fb_in_iff (by omega)).mpr ⟨o, ho, rfl⟩]; rfl) ?_
  refine lv_if_ne (tgt := 21) hx hb kd_R_call_8 (by decide) (fun c_8 => ?_) (fun c_8 => ?_)
  · exact absurd c_8 (not_not_intro rfl)
  · skip
    refine lv_iload_n hx hb kd_R_call_11 rfl (lv_at hl 2 rfl) ?_
    refine lv_sipush (v := 1000) hx hb kd_R_call_12 (by decide) ?_
    refine hx_topi (y := nI 1000) (by decide) ?_
    refine hx_callRi (va_runS (As := [.int n, .int (nI 1000)]) (rest := []) ⟨hx, hb, hml, hown, hts⟩ (mr_isNo n 1000) (va_cwS 2 hts (goodIn_sub (hx_m4 km_700 km_701 km_8 km_702) (by decide +kernel)) rfl rfl rfl (by decide +kernel) ⟨Nat.le_of_ble_eq_true rfl, Nat.le_of_ble_eq_true rfl⟩) (pr_S (hC.S hS) hP [] rfl) rfl rfl hl.1 rfl (lv_room (Nat.le_of_ble_eq_true rfl)) kd_R_call_15 ⟨Nat.le_of_ble_eq_true rfl, Nat.le_of_ble_eq_true rfl⟩) ?_
    refine hx_topi (y := 0) (by rw [hn1]; rfl) ?_
    refine lv_if_eq (tgt := 25) hx hb kd_R_call_18 (by decide) (fun c_18 => ?_) (fun c_18 => ?_)
    · skip
      refine lv_iconst (v := 0) hx hb kd_R_call_25 (by decide) ?_
      refine lv_istore_n (lv' := [(3, .int 0), (0, .ref (r 0)), (1, .int (nI o)), (2, .int n)]) hx hb kd_R_call_26 rfl hl (by decide) rfl (fun ls hl => ?_)
      refine lv_iconst (v := 0) hx hb kd_R_call_27 (by decide) ?_
      refine hx_topi (y := nI (cn_ C 0)) (rfl) ?_
      refine lv_istore (lv' := [(4, .int (nI (cn_ C 0))), (3, .int 0), (0, .ref (r 0)), (1, .int (nI o)), (2, .int n)]) hx hb kd_R_call_28 hl (by decide) rfl (fun ls hl => ?_)
      refine lv_iconst (v := -1) hx hb kd_R_call_30 (by decide) ?_
      refine hx_topi (y := (-1)) (rfl) ?_
      refine lv_istore (lv' := [(5, .int (-1)), (4, .int (nI (cn_ C 0))), (3, .int 0), (0, .ref (r 0)), (1, .int (nI o)), (2, .int n)]) hx hb kd_R_call_31 hl (by decide) rfl (fun ls hl => ?_)
      refine lv_iconst (v := 0) hx hb kd_R_call_33 (by decide) ?_
      refine hx_topi (y := nI 0) (rfl) ?_
      refine lv_istore (lv' := [(6, .int (nI 0)), (5, .int (-1)), (4, .int (nI (cn_ C 0))), (3, .int 0), (0, .ref (r 0)), (1, .int (nI o)), (2, .int n)]) hx hb kd_R_call_34 hl (by decide) rfl (fun ls hl => ?_)
      refine lv_iconst (v := 0) hx hb kd_R_call_36 (by decide) ?_
      refine hx_topi (y := nI 0) (rfl) ?_
      refine lv_istore (lv' := [(7, .int (nI 0)), (6, .int (nI 0)), (5, .int (-1)), (4, .int (nI (cn_ C 0))), (3, .int 0), (0, .ref (r 0)), (1, .int (nI o)), (2, .int n)]) hx hb kd_R_call_37 hl (by decide) rfl (fun ls hl => ?_)
      refine hx_loopW (σ := Nat) (I := fun y ls H locs => lv_has ls 8 [(0, .ref (r 0)), (1, .int (nI o)), (2, .int n), (3, .int 0), (4, .int (nI (cn_ C y))), (5, .int (-1)), (6, .int (nI 0)), (7, .int (nI y))] ∧ va_P D cl_all [((r 0), .inr (7, [.int th, .int (nI rc), .ref (r 1), .int (nI ro), .ref (r 2), .int (nI rm), .ref (r 3), .ref (r 4), .ref (r 5), .ref (r 6), .int (nI ra), .ref (r 7), .ref (r 8), .ref (r 9), .ref (r 10), .int (nI rl), .ref (r 11), .ref (r 12), .ref (r 13), .ref (r 14), .int (nI rw), .ref (r 15), .long gv])), ((r 1), .inl (cI, 16, .inl rp)), ((r 2), .inl (cI, 64, .inl rk)), ((r 3), .inl (cI, 64, .inl ow)), ((r 4), .inl (cI, 64, .inl rn)), ((r 5), .inl (cI, 64, .inl ct)), ((r 6), .inl (cI, 256, .inl rt)), ((r 7), .inl (cI, 4, .inl ki)), ((r 8), .inl (cL, 4, .inr (.inl rb))), ((r 9), .inl (cI, 4, .inl aq)), ((r 10), .inl (cZ, 64, .inl (lf_ (cb_ C) cd y))), ((r 11), .inl (cI, 64, .inl g1)), ((r 12), .inl (cI, 64, .inl g2)), ((r 13), .inl (cI, 64, .inl g3)), ((r 14), .inl (cL, 256, .inr (.inl gw))), ((r 15), .inl (cL, 64, .inr (.inl an)))] H ∧ va_D A [((r 0), .inr (7, [.int th, .int (nI rc), .ref (r 1), .int (nI ro), .ref (r 2), .int (nI rm), .ref (r 3), .ref (r 4), .ref (r 5), .ref (r 6), .int (nI ra), .ref (r 7), .ref (r 8), .ref (r 9), .ref (r 10), .int (nI rl), .ref (r 11), .ref (r 12), .ref (r 13), .ref (r 14), .int (nI rw), .ref (r 15), .long gv])), ((r 1), .inl (cI, 16, .inl rp)), ((r 2), .inl (cI, 64, .inl rk)), ((r 3), .inl (cI, 64, .inl ow)), ((r 4), .inl (cI, 64, .inl rn)), ((r 5), .inl (cI, 64, .inl ct)), ((r 6), .inl (cI, 256, .inl rt)), ((r 7), .inl (cI, 4, .inl ki)), ((r 8), .inl (cL, 4, .inr (.inl rb))), ((r 9), .inl (cI, 4, .inl aq)), ((r 10), .inl (cZ, 64, .inl (lf_ (cb_ C) cd y))), ((r 11), .inl (cI, 64, .inl g1)), ((r 12), .inl (cI, 64, .inl g2)), ((r 13), .inl (cI, 64, .inl g3)), ((r 14), .inl (cL, 256, .inr (.inl gw))), ((r 15), .inl (cL, 64, .inr (.inl an)))] ∧ va_S A s.heap H locs ∧ y ≤ rm) (μ := fun y => rm - y) ?_ 0 ⟨lv_sub hl [5, 6, 7, 4, 3, 2, 1, 0] rfl, by rw [lf_0]; exact hP, by rw [lf_0]; exact hD, hS, Nat.zero_le _⟩
      intro y ls H locs hI ih39
      obtain ⟨hl, hP, hD, hS, hy⟩ := hI
      refine lv_iload hx hb kd_R_call_39 (lv_at hl 7 rfl) ?_
      refine lv_aload_n hx hb kd_R_call_41 rfl (lv_at hl 0 rfl) ?_
      refine va_get (D := D) (ci := 7) (v := .int (nI rm)) (C := "HostBridgeModel") (T := ct_R) (N := 23) hx hb hts cw_R hown hK hP 0 rfl rfl 5 (by decide) (hts _ km_626) (fun _ h9 => h9) rfl kd_R_call_42 ?_
      refine lv_icmp_ge (tgt := 138) hx hb kd_R_call_45 (by decide) (fun c_45 => ?_) (fun c_45 => ?_)
      · skip
        have hin : y = rm := by rw [nI_leI (by omega) (by omega)] at c_45; omega
        rw [hin] at hP hD hl
        have hl := lv_sub hl [0, 1, 2, 3, 4, 5, 6] rfl
        have hcd : ∀ z, z < rm → (lf_ (cb_ C) cd rm) z = b2_ (C z) := fun z hz => by rw [lf_, if_pos hz]; rfl
        refine lv_iconst (v := 0) hx hb kd_R_call_138 (by decide) ?_
        refine hx_topi (y := nI 0) (rfl) ?_
        refine lv_istore (lv' := [(7, .int (nI 0)), (0, .ref (r 0)), (1, .int (nI o)), (2, .int n), (3, .int 0), (4, .int (nI (cn_ C rm))), (5, .int (-1)), (6, .int (nI 0))]) hx hb kd_R_call_139 hl (by decide) rfl (fun ls hl => ?_)
        refine hx_loopR (σ := Nat × Int32 × Nat) (I := fun x ls => lv_has ls 8 [(0, .ref (r 0)), (1, .int (nI o)), (3, .int 0), (4, .int (nI (cn_ C rm))), (5, .int x.2.1), (6, .int (nI x.2.2)), (7, .int (nI x.1))] ∧ x.1 ≤ rm ∧ x.2.1 = la_ (bp_ rp rk ki rb rt C rm ra) x.1 ∧ x.2.2 = cn_ (bp_ rp rk ki rb rt C rm ra) x.1) (μ := fun x => rm - x.1) ?_ (0, -1, 0) ⟨lv_sub hl [1, 2, 4, 5, 6, 7, 0] rfl, Nat.zero_le _, rfl, rfl⟩
        intro x ls hI ih141
        obtain ⟨y, b9, q9⟩ := x
        obtain ⟨hl, hy, hb9, hq9⟩ := hI
        dsimp only at hl hy hb9 hq9 ih141
        refine lv_iload hx hb kd_R_call_141 (lv_at hl 6 rfl) ?_
        refine lv_aload_n hx hb kd_R_call_143 rfl (lv_at hl 0 rfl) ?_
        refine va_get (D := D) (ci := 7) (v := .int (nI rm)) (C := "HostBridgeModel") (T := ct_R) (N := 23) hx hb hts cw_R hown hK hP 0 rfl rfl 5 (by decide) (hts _ km_626) (fun _ h9 => h9) rfl kd_R_call_144 ?_
        refine lv_icmp_ge (tgt := 179) hx hb kd_R_call_147 (by decide) (fun c_147 => ?_) (fun c_147 => ?_)
        · skip
          have hin : y = rm := by rw [nI_leI (by omega) (by omega)] at c_147; omega
          rw [hin] at hb9 hq9
          have hl := lv_sub hl [0, 1, 2, 3, 4, 5] rfl
          refine lv_aload_n hx hb kd_R_call_179 rfl (lv_at hl 0 rfl) ?_
          refine lv_iload_n hx hb kd_R_call_180 rfl (lv_at hl 2 rfl) ?_
          refine lv_iload_n hx hb kd_R_call_181 rfl (lv_at hl 2 rfl) ?_
          refine lv_if_ne (tgt := 194) hx hb kd_R_call_182 (by decide) (fun c_182 => ?_) (fun c_182 => ?_)
          · exact absurd c_182 (not_not_intro rfl)
          · skip
            refine lv_iload hx hb kd_R_call_185 (lv_at hl 3 rfl) ?_
            refine lv_if_ne (tgt := 194) hx hb kd_R_call_187 (by decide) (fun c_187 => ?_) (fun c_187 => ?_)
            · skip
              refine lv_iconst (v := 0) hx hb kd_R_call_194 (by decide) ?_
              refine lv_iload hx hb kd_R_call_195 (lv_at hl 3 rfl) ?_
              refine lv_if_le (tgt := 210) hx hb kd_R_call_197 (by decide) (fun c_197 => ?_) (fun c_197 => ?_)
              · exact absurd c_197 (nI_nle h0 hpc)
              · skip
                refine lv_iload hx hb kd_R_call_200 (lv_at hl 5 rfl) ?_
                refine lv_iconst (v := 1) hx hb kd_R_call_202 (by decide) ?_
                refine lv_icmp_eq (tgt := 210) hx hb kd_R_call_203 (by decide) (fun c_203 => ?_) (fun c_203 => ?_)
                · exact absurd c_203 (fun h9 => h1 (by rw [← hq9]; exact (nI_eq (by rw [hq9]; exact Nat.lt_of_le_of_lt (cn_le _ rm) (by omega)) (by decide)).mp h9))
                · skip
                  refine lv_iconst (v := 1) hx hb kd_R_call_206 (by decide) ?_
                  refine lv_goto (tgt := 211) hx hb kd_R_call_207 (by decide) ?_
                  refine hx_callWi (va_runV (As := [.int 0, .int 0, .int 1]) (rest := []) ⟨hx, hb, hml, hown, hts⟩ (mr_throwing3 r rc ro rm ra rl rw th gv rp rk ow rn ct rt ki aq cd g1 g2 g3 rb gw an _) (cwV 3 hts (goodIn_sub (hx_m5 km_703 km_705 kv_R_throwing km_8 km_706) (by decide +kernel)) rfl rfl rfl (by decide +kernel) ⟨Nat.le_of_ble_eq_true rfl, Nat.le_of_ble_eq_true rfl⟩) (pw_V (hC.S hS) hP hD hS hA [0] (by decide) rfl (ci := 7) rfl (q0 := 0) rfl) rfl rfl hl.1 rfl (lv_room (Nat.le_of_ble_eq_true rfl)) kd_R_call_211 ⟨Nat.le_of_ble_eq_true rfl, Nat.le_of_ble_eq_true rfl⟩) hP hD hS hA [0] rfl rfl (fun H locs hP hD hS hF => ?_)
                  have hP : va_P D cl_all [((r 0), .inr (7, [.int 3, .int (nI rc), .ref (r 1), .int (nI ro), .ref (r 2), .int (nI rm), .ref (r 3), .ref (r 4), .ref (r 5), .ref (r 6), .int (nI ra), .ref (r 7), .ref (r 8), .ref (r 9), .ref (r 10), .int (nI rl), .ref (r 11), .ref (r 12), .ref (r 13), .ref (r 14), .int (nI rw), .ref (r 15), .long gv])), ((r 1), .inl (cI, 16, .inl rp)), ((r 2), .inl (cI, 64, .inl rk)), ((r 3), .inl (cI, 64, .inl ow)), ((r 4), .inl (cI, 64, .inl rn)), ((r 5), .inl (cI, 64, .inl ct)), ((r 6), .inl (cI, 256, .inl rt)), ((r 7), .inl (cI, 4, .inl ki)), ((r 8), .inl (cL, 4, .inr (.inl rb))), ((r 9), .inl (cI, 4, .inl aq)), ((r 10), .inl (cZ, 64, .inl (lf_ (cb_ C) cd rm))), ((r 11), .inl (cI, 64, .inl g1)), ((r 12), .inl (cI, 64, .inl g2)), ((r 13), .inl (cI, 64, .inl g3)), ((r 14), .inl (cL, 256, .inr (.inl gw))), ((r 15), .inl (cL, 64, .inr (.inl an)))] H := hP
                  have hD : va_D A [((r 0), .inr (7, [.int 3, .int (nI rc), .ref (r 1), .int (nI ro), .ref (r 2), .int (nI rm), .ref (r 3), .ref (r 4), .ref (r 5), .ref (r 6), .int (nI ra), .ref (r 7), .ref (r 8), .ref (r 9), .ref (r 10), .int (nI rl), .ref (r 11), .ref (r 12), .ref (r 13), .ref (r 14), .int (nI rw), .ref (r 15), .long gv])), ((r 1), .inl (cI, 16, .inl rp)), ((r 2), .inl (cI, 64, .inl rk)), ((r 3), .inl (cI, 64, .inl ow)), ((r 4), .inl (cI, 64, .inl rn)), ((r 5), .inl (cI, 64, .inl ct)), ((r 6), .inl (cI, 256, .inl rt)), ((r 7), .inl (cI, 4, .inl ki)), ((r 8), .inl (cL, 4, .inr (.inl rb))), ((r 9), .inl (cI, 4, .inl aq)), ((r 10), .inl (cZ, 64, .inl (lf_ (cb_ C) cd rm))), ((r 11), .inl (cI, 64, .inl g1)), ((r 12), .inl (cI, 64, .inl g2)), ((r 13), .inl (cI, 64, .inl g3)), ((r 14), .inl (cL, 256, .inr (.inl gw))), ((r 15), .inl (cL, 64, .inr (.inl an)))] := hD
                  refine hx_topi (y := 1) (rfl) ?_
                  refine lv_if_eq (tgt := 224) hx hb kd_R_call_214 (by decide) (fun c_214 => ?_) (fun c_214 => ?_)
                  · exact absurd c_214 (by decide)
                  · skip
                    refine lv_aload_n hx hb kd_R_call_217 rfl (lv_at hl 0 rfl) ?_
                    refine lv_iconst (v := 0) hx hb kd_R_call_218 (by decide) ?_
                    refine hx_topi (y := nI 0) (rfl) ?_
                    refine va_put (D := D) (ci := 7) (v := .int (nI 0)) (ty := .int) (C := "HostBridgeModel") (T := ct_R) (N := 23) hx hb hts cw_R cy_R cp_R cn_R hown hK hP hD hS 0 rfl rfl 10 (by decide) (hts _ km_631) (fun _ h9 => h9) rfl (by decide +kernel) rfl rfl (Nat.le_of_ble_eq_true rfl) kd_R_call_219 (fun H locs hP hD hS => ?_)
                    have hP : va_P D cl_all [((r 0), .inr (7, [.int 3, .int (nI rc), .ref (r 1), .int (nI ro), .ref (r 2), .int (nI rm), .ref (r 3), .ref (r 4), .ref (r 5), .ref (r 6), .int (nI 0), .ref (r 7), .ref (r 8), .ref (r 9), .ref (r 10), .int (nI rl), .ref (r 11), .ref (r 12), .ref (r 13), .ref (r 14), .int (nI rw), .ref (r 15), .long gv])), ((r 1), .inl (cI, 16, .inl rp)), ((r 2), .inl (cI, 64, .inl rk)), ((r 3), .inl (cI, 64, .inl ow)), ((r 4), .inl (cI, 64, .inl rn)), ((r 5), .inl (cI, 64, .inl ct)), ((r 6), .inl (cI, 256, .inl rt)), ((r 7), .inl (cI, 4, .inl ki)), ((r 8), .inl (cL, 4, .inr (.inl rb))), ((r 9), .inl (cI, 4, .inl aq)), ((r 10), .inl (cZ, 64, .inl (lf_ (cb_ C) cd rm))), ((r 11), .inl (cI, 64, .inl g1)), ((r 12), .inl (cI, 64, .inl g2)), ((r 13), .inl (cI, 64, .inl g3)), ((r 14), .inl (cL, 256, .inr (.inl gw))), ((r 15), .inl (cL, 64, .inr (.inl an)))] H := hP
                    have hD : va_D A [((r 0), .inr (7, [.int 3, .int (nI rc), .ref (r 1), .int (nI ro), .ref (r 2), .int (nI rm), .ref (r 3), .ref (r 4), .ref (r 5), .ref (r 6), .int (nI 0), .ref (r 7), .ref (r 8), .ref (r 9), .ref (r 10), .int (nI rl), .ref (r 11), .ref (r 12), .ref (r 13), .ref (r 14), .int (nI rw), .ref (r 15), .long gv])), ((r 1), .inl (cI, 16, .inl rp)), ((r 2), .inl (cI, 64, .inl rk)), ((r 3), .inl (cI, 64, .inl ow)), ((r 4), .inl (cI, 64, .inl rn)), ((r 5), .inl (cI, 64, .inl ct)), ((r 6), .inl (cI, 256, .inl rt)), ((r 7), .inl (cI, 4, .inl ki)), ((r 8), .inl (cL, 4, .inr (.inl rb))), ((r 9), .inl (cI, 4, .inl aq)), ((r 10), .inl (cZ, 64, .inl (lf_ (cb_ C) cd rm))), ((r 11), .inl (cI, 64, .inl g1)), ((r 12), .inl (cI, 64, .inl g2)), ((r 13), .inl (cI, 64, .inl g3)), ((r 14), .inl (cL, 256, .inr (.inl gw))), ((r 15), .inl (cL, 64, .inr (.inl an)))] := hD
                    refine lv_iconst (v := 0) hx hb kd_R_call_222 (by decide) ?_
                    exact hx_iretW hx hb hr hlocks (rfl) (hP) hS kd_R_call_223
            · exact absurd c_187 (nI_ne0 h0 hpc)
        · skip
          have hin : y < rm := by rw [nI_leI (by omega) (by omega)] at c_147; omega
          refine lv_iload_n hx hb kd_R_call_150 rfl (lv_at hl 2 rfl) ?_
          refine lv_if_ne (tgt := 179) hx hb kd_R_call_151 (by decide) (fun c_151 => ?_) (fun c_151 => ?_)
          · exact absurd c_151 (not_not_intro rfl)
          · skip
            refine lv_aload_n hx hb kd_R_call_154 rfl (lv_at hl 0 rfl) ?_
            refine lv_iload hx hb kd_R_call_155 (lv_at hl 6 rfl) ?_
            refine hx_callRi (va_runV (As := [.int (nI y)]) (rest := []) ⟨hx, hb, hml, hown, hts⟩ (mr_isBest r rc ro rm ra rl rw th gv rp rk ow rn ct rt ki aq (lf_ (cb_ C) cd rm) g1 g2 g3 rb gw an C y hin hrm hra hcd hok hln hno hco) (cwV 1 hts (goodIn_sub (hx_m5 km_769 km_771 kv_R_isBest km_8 km_772) (by decide +kernel)) rfl rfl rfl (by decide +kernel) ⟨Nat.le_of_ble_eq_true rfl, Nat.le_of_ble_eq_true rfl⟩) (pr_V (hC.S hS) hP [0, 1, 2, 3, 4, 5, 6, 7, 8, 9, 10, 11, 12, 13, 14, 15] rfl (ci := 7) rfl (q0 := 0) rfl) rfl rfl hl.1 rfl (lv_room (Nat.le_of_ble_eq_true rfl)) kd_R_call_157 ⟨Nat.le_of_ble_eq_true rfl, Nat.le_of_ble_eq_true rfl⟩) ?_
            refine lv_if_ne (tgt := 166) hx hb kd_R_call_160 (by decide) (fun c_160 => ?_) (fun c_160 => ?_)
            · skip
              have h160 : bp_ rp rk ki rb rt C rm ra y = true := b2_t c_160
              refine lv_iload hx hb kd_R_call_166 (lv_at hl 6 rfl) ?_
              refine lv_istore (lv' := [(5, .int (nI y)), (0, .ref (r 0)), (1, .int (nI o)), (3, .int 0), (4, .int (nI (cn_ C rm))), (6, .int (nI q9)), (7, .int (nI y))]) hx hb kd_R_call_168 hl (by decide) rfl (fun ls hl => ?_)
              refine lv_iinc (v := nI (q9 + 1)) (lv' := [(6, .int (nI (q9 + 1))), (5, .int (nI y)), (0, .ref (r 0)), (1, .int (nI o)), (3, .int 0), (4, .int (nI (cn_ C rm))), (7, .int (nI y))]) hx hb kd_R_call_170 hl (k := 5) rfl (nI_1 q9) (by decide) rfl (fun ls hl => ?_)
              refine lv_iinc (v := nI (y + 1)) (lv' := [(7, .int (nI (y + 1))), (6, .int (nI (q9 + 1))), (5, .int (nI y)), (0, .ref (r 0)), (1, .int (nI o)), (3, .int 0), (4, .int (nI (cn_ C rm)))]) hx hb kd_R_call_173 hl (k := 6) rfl (nI_1 y) (by decide) rfl (fun ls hl => ?_)
              refine lv_goto (tgt := 141) hx hb kd_R_call_176 (by decide) ?_
              exact ih141 (y + 1, nI y, q9 + 1) _ (by dsimp only; omega) ⟨lv_sub hl [3, 4, 5, 6, 2, 1, 0] rfl, by dsimp only; omega, by dsimp only; simp only [la_]; rw [h160, if_pos rfl], by dsimp only; simp only [cn_]; rw [h160, hq9]; rfl⟩
            · skip
              have h160 : bp_ rp rk ki rb rt C rm ra y = false := b2_f c_160
              refine lv_goto (tgt := 173) hx hb kd_R_call_163 (by decide) ?_
              refine lv_iinc (v := nI (y + 1)) (lv' := [(7, .int (nI (y + 1))), (0, .ref (r 0)), (1, .int (nI o)), (3, .int 0), (4, .int (nI (cn_ C rm))), (5, .int b9), (6, .int (nI q9))]) hx hb kd_R_call_173 hl (k := 6) rfl (nI_1 y) (by decide) rfl (fun ls hl => ?_)
              refine lv_goto (tgt := 141) hx hb kd_R_call_176 (by decide) ?_
              exact ih141 (y + 1, b9, q9) _ (by dsimp only; omega) ⟨lv_sub hl [1, 2, 3, 4, 5, 6, 0] rfl, by dsimp only; omega, by dsimp only; simp only [la_]; rw [h160, hb9]; rfl, by dsimp only; simp only [cn_]; rw [h160, hq9]; rfl⟩
      · skip
        have hin : y < rm := by rw [nI_leI (by omega) (by omega)] at c_45; omega
        refine lv_iload_n hx hb kd_R_call_48 rfl (lv_at hl 3 rfl) ?_
        refine lv_if_ne (tgt := 138) hx hb kd_R_call_49 (by decide) (fun c_49 => ?_) (fun c_49 => ?_)
        · exact absurd c_49 (not_not_intro rfl)
        · skip
          refine lv_aload_n hx hb kd_R_call_52 rfl (lv_at hl 0 rfl) ?_
          refine va_get (D := D) (ci := 7) (v := .ref (r 10)) (C := "HostBridgeModel") (T := ct_R) (N := 23) hx hb hts cw_R hown hK hP 0 rfl rfl 14 (by decide) (hts _ km_635) (fun _ h9 => h9) rfl kd_R_call_53 ?_
          refine lv_iload hx hb kd_R_call_56 (lv_at hl 7 rfl) ?_
          refine hx_cut (pc2 := 110) (ls2 := ls) (rest2 := [.int (nI y), .ref (r 10)]) (P := fun x => x = b2_ (C y)) ?_ (fun hj1 => ?_)
          · intro x2 e3
            subst e3
            refine hx_topi (y := cb_ C y) (rfl) ?_
            refine hx_zast (j := y) hx hb hK hP hD hS 10 rfl (rfl) (by omega) (by decide) (b2_vn _) kd_R_call_110 (fun H locs hP hD hS => ?_)
            have hP : va_P D cl_all [((r 0), .inr (7, [.int th, .int (nI rc), .ref (r 1), .int (nI ro), .ref (r 2), .int (nI rm), .ref (r 3), .ref (r 4), .ref (r 5), .ref (r 6), .int (nI ra), .ref (r 7), .ref (r 8), .ref (r 9), .ref (r 10), .int (nI rl), .ref (r 11), .ref (r 12), .ref (r 13), .ref (r 14), .int (nI rw), .ref (r 15), .long gv])), ((r 1), .inl (cI, 16, .inl rp)), ((r 2), .inl (cI, 64, .inl rk)), ((r 3), .inl (cI, 64, .inl ow)), ((r 4), .inl (cI, 64, .inl rn)), ((r 5), .inl (cI, 64, .inl ct)), ((r 6), .inl (cI, 256, .inl rt)), ((r 7), .inl (cI, 4, .inl ki)), ((r 8), .inl (cL, 4, .inr (.inl rb))), ((r 9), .inl (cI, 4, .inl aq)), ((r 10), .inl (cZ, 64, .inl (upd (lf_ (cb_ C) cd y) y (cb_ C y)))), ((r 11), .inl (cI, 64, .inl g1)), ((r 12), .inl (cI, 64, .inl g2)), ((r 13), .inl (cI, 64, .inl g3)), ((r 14), .inl (cL, 256, .inr (.inl gw))), ((r 15), .inl (cL, 64, .inr (.inl an)))] H := hP
            have hD : va_D A [((r 0), .inr (7, [.int th, .int (nI rc), .ref (r 1), .int (nI ro), .ref (r 2), .int (nI rm), .ref (r 3), .ref (r 4), .ref (r 5), .ref (r 6), .int (nI ra), .ref (r 7), .ref (r 8), .ref (r 9), .ref (r 10), .int (nI rl), .ref (r 11), .ref (r 12), .ref (r 13), .ref (r 14), .int (nI rw), .ref (r 15), .long gv])), ((r 1), .inl (cI, 16, .inl rp)), ((r 2), .inl (cI, 64, .inl rk)), ((r 3), .inl (cI, 64, .inl ow)), ((r 4), .inl (cI, 64, .inl rn)), ((r 5), .inl (cI, 64, .inl ct)), ((r 6), .inl (cI, 256, .inl rt)), ((r 7), .inl (cI, 4, .inl ki)), ((r 8), .inl (cL, 4, .inr (.inl rb))), ((r 9), .inl (cI, 4, .inl aq)), ((r 10), .inl (cZ, 64, .inl (upd (lf_ (cb_ C) cd y) y (cb_ C y)))), ((r 11), .inl (cI, 64, .inl g1)), ((r 12), .inl (cI, 64, .inl g2)), ((r 13), .inl (cI, 64, .inl g3)), ((r 14), .inl (cL, 256, .inr (.inl gw))), ((r 15), .inl (cL, 64, .inr (.inl an)))] := hD
            rw [lf_s] at hP hD
            refine hx_cut (pc2 := 130) (ls2 := ls) (rest2 := []) (P := fun x => x = nI (cn_ C (y + 1))) ?_ (fun hj4 => ?_)
            · intro x5 e6
              subst e6
              refine lv_istore (lv' := [(4, .int (nI (cn_ C (y + 1)))), (0, .ref (r 0)), (1, .int (nI o)), (2, .int n), (3, .int 0), (5, .int (-1)), (6, .int (nI 0)), (7, .int (nI y))]) hx hb kd_R_call_130 hl (by decide) rfl (fun ls hl => ?_)
              refine lv_iinc (v := nI (y + 1)) (lv' := [(7, .int (nI (y + 1))), (4, .int (nI (cn_ C (y + 1)))), (0, .ref (r 0)), (1, .int (nI o)), (2, .int n), (3, .int 0), (5, .int (-1)), (6, .int (nI 0))]) hx hb kd_R_call_132 hl (k := 7) rfl (nI_1 y) (by decide) rfl (fun ls hl => ?_)
              refine lv_goto (tgt := 39) hx hb kd_R_call_135 (by decide) ?_
              exact ih39 (y + 1) _ _ _ (by omega) ⟨lv_sub hl [2, 3, 4, 5, 1, 6, 7, 0] rfl, hP, hD, hS, by omega⟩
            · skip
              refine lv_aload_n hx hb kd_R_call_111 rfl (lv_at hl 0 rfl) ?_
              refine va_get (D := D) (ci := 7) (v := .ref (r 10)) (C := "HostBridgeModel") (T := ct_R) (N := 23) hx hb hts cw_R hown hK hP 0 rfl rfl 14 (by decide) (hts _ km_635) (fun _ h9 => h9) rfl kd_R_call_112 ?_
              refine lv_iload hx hb kd_R_call_115 (lv_at hl 7 rfl) ?_
              refine hx_zald (j := y) hx hb hK hP 10 rfl (rfl) (by omega) (by decide) kd_R_call_117 ?_
              refine hx_topi (y := b2_ (C y)) (by rw [lf_, if_pos (by omega)]; rfl) ?_
              refine lv_if_eq (tgt := 128) hx hb kd_R_call_118 (by decide) (fun c_118 => ?_) (fun c_118 => ?_)
              · skip
                refine lv_iload hx hb kd_R_call_128 (lv_at hl 4 rfl) ?_
                exact hj4 _ (by simp only [cn_]; rw [b2_f c_118]; rfl)
              · skip
                refine lv_iload hx hb kd_R_call_121 (lv_at hl 4 rfl) ?_
                refine lv_iconst (v := 1) hx hb kd_R_call_123 (by decide) ?_
                refine lv_iadd hx hb kd_R_call_124 ?_
                refine lv_goto (tgt := 130) hx hb kd_R_call_125 (by decide) ?_
                exact hj4 _ (by simp only [cn_]; rw [b2_t c_118]; exact nI_1 _)
          · skip
            refine lv_aload_n hx hb kd_R_call_58 rfl (lv_at hl 0 rfl) ?_
            refine va_get (D := D) (ci := 7) (v := .ref (r 4)) (C := "HostBridgeModel") (T := ct_R) (N := 23) hx hb hts cw_R hown hK hP 0 rfl rfl 7 (by decide) (hts _ km_628) (fun _ h9 => h9) rfl kd_R_call_59 ?_
            refine lv_iload hx hb kd_R_call_62 (lv_at hl 7 rfl) ?_
            refine hx_iald (j := y) hx hb hK hP 4 rfl (rfl) (by omega) (by decide) kd_R_call_64 ?_
            refine lv_iload_n hx hb kd_R_call_65 rfl (lv_at hl 2 rfl) ?_
            refine lv_icmp_ne (tgt := 109) hx hb kd_R_call_66 (by decide) (fun c_66 => ?_) (fun c_66 => ?_)
            · skip
              refine lv_iconst (v := 0) hx hb kd_R_call_109 (by decide) ?_
              exact hj1 _ (by rw [← hCe, cc_]; simp [b2_, c_66])
            · skip
              refine lv_aload_n hx hb kd_R_call_69 rfl (lv_at hl 0 rfl) ?_
              refine lv_iload_n hx hb kd_R_call_70 rfl (lv_at hl 1 rfl) ?_
              refine lv_aload_n hx hb kd_R_call_71 rfl (lv_at hl 0 rfl) ?_
              refine va_get (D := D) (ci := 7) (v := .ref (r 3)) (C := "HostBridgeModel") (T := ct_R) (N := 23) hx hb hts cw_R hown hK hP 0 rfl rfl 6 (by decide) (hts _ km_627) (fun _ h9 => h9) rfl kd_R_call_72 ?_
              refine lv_iload hx hb kd_R_call_75 (lv_at hl 7 rfl) ?_
              refine hx_iald (j := y) hx hb hK hP 3 rfl (rfl) (by omega) (by decide) kd_R_call_77 ?_
              refine hx_callRi (va_runV (As := [.int (nI o), .int (ow y)]) (rest := [.int (nI y), .ref (r 10)]) ⟨hx, hb, hml, hown, hts⟩ (mr_far r rc ro rm ra rl rw th gv rp rk ow rn ct rt ki aq (lf_ (cb_ C) cd y) g1 g2 g3 rb gw an o (ow y) ho hln hno hco) (cwV 2 hts (goodIn_sub (hx_m5 km_757 km_759 kv_R_far km_8 km_760) (by decide +kernel)) rfl rfl rfl (by decide +kernel) ⟨Nat.le_of_ble_eq_true rfl, Nat.le_of_ble_eq_true rfl⟩) (pr_V (hC.S hS) hP [0, 1, 2, 3, 4, 5, 6, 7, 8, 9, 10, 11, 12, 13, 14, 15] rfl (ci := 7) rfl (q0 := 0) rfl) rfl rfl hl.1 rfl (lv_room (Nat.le_of_ble_eq_true rfl)) kd_R_call_78 ⟨Nat.le_of_ble_eq_true rfl, Nat.le_of_ble_eq_true rfl⟩) ?_
              refine lv_bipush (v := 99) hx hb kd_R_call_81 (by decide) ?_
              refine lv_icmp_ge (tgt := 109) hx hb kd_R_call_83 (by decide) (fun c_83 => ?_) (fun c_83 => ?_)
              · skip
                refine lv_iconst (v := 0) hx hb kd_R_call_109 (by decide) ?_
                exact hj1 _ (by rw [← hCe, cc_]; simp [b2_, c_66, c_83])
              · skip
                refine lv_aload_n hx hb kd_R_call_86 rfl (lv_at hl 0 rfl) ?_
                refine lv_iload hx hb kd_R_call_87 (lv_at hl 7 rfl) ?_
                refine hx_callRi (va_runV (As := [.int (nI y)]) (rest := [.int (nI y), .ref (r 10)]) ⟨hx, hb, hml, hown, hts⟩ (mr_fits r rc ro rm ra rl rw th gv rp rk ow rn ct rt ki aq (lf_ (cb_ C) cd y) g1 g2 g3 rb gw an y (by omega) hra hok hln hno hco) (cwV 1 hts (goodIn_sub (hx_m5 km_761 km_763 kv_R_fits km_8 km_764) (by decide +kernel)) rfl rfl rfl (by decide +kernel) ⟨Nat.le_of_ble_eq_true rfl, Nat.le_of_ble_eq_true rfl⟩) (pr_V (hC.S hS) hP [0, 1, 2, 3, 4, 5, 6, 7, 8, 9, 10, 11, 12, 13, 14, 15] rfl (ci := 7) rfl (q0 := 0) rfl) rfl rfl hl.1 rfl (lv_room (Nat.le_of_ble_eq_true rfl)) kd_R_call_89 ⟨Nat.le_of_ble_eq_true rfl, Nat.le_of_ble_eq_true rfl⟩) ?_
                refine lv_if_eq (tgt := 109) hx hb kd_R_call_92 (by decide) (fun c_92 => ?_) (fun c_92 => ?_)
                · skip
                  refine lv_iconst (v := 0) hx hb kd_R_call_109 (by decide) ?_
                  exact hj1 _ (by rw [← hCe, cc_]; simp [b2_, c_66, c_83, b2_f c_92])
                · skip
                  refine lv_aload_n hx hb kd_R_call_95 rfl (lv_at hl 0 rfl) ?_
                  refine lv_iload_n hx hb kd_R_call_96 rfl (lv_at hl 1 rfl) ?_
                  refine lv_iload hx hb kd_R_call_97 (lv_at hl 7 rfl) ?_
                  have hcy : ct y = nI ra := by have h9 := b2_t c_92; rw [fr_, Bool.and_eq_true, decide_eq_true_iff] at h9; exact h9.1
                  refine hx_callRi (va_runV (As := [.int (nI o), .int (nI y)]) (rest := [.int (nI y), .ref (r 10)]) ⟨hx, hb, hml, hown, hts⟩ (mr_isHidden r rc ro rm ra rl rw th gv rp rk ow rn ct rt ki aq (lf_ (cb_ C) cd y) g1 g2 g3 rb gw an o ra y ho (by omega) hrm hra hcy hln hno hco) (cwV 2 hts (goodIn_sub (hx_m5 km_765 km_767 kv_R_isHidden km_8 km_768) (by decide +kernel)) rfl rfl rfl (by decide +kernel) ⟨Nat.le_of_ble_eq_true rfl, Nat.le_of_ble_eq_true rfl⟩) (pr_V (hC.S hS) hP [0, 1, 2, 3, 4, 5, 6, 7, 8, 9, 10, 11, 12, 13, 14, 15] rfl (ci := 7) rfl (q0 := 0) rfl) rfl rfl hl.1 rfl (lv_room (Nat.le_of_ble_eq_true rfl)) kd_R_call_99 ⟨Nat.le_of_ble_eq_true rfl, Nat.le_of_ble_eq_true rfl⟩) ?_
                  refine lv_if_ne (tgt := 109) hx hb kd_R_call_102 (by decide) (fun c_102 => ?_) (fun c_102 => ?_)
                  · skip
                    refine lv_iconst (v := 0) hx hb kd_R_call_109 (by decide) ?_
                    exact hj1 _ (by rw [← hCe, cc_]; simp [b2_, c_66, c_83, b2_t c_92, b2_t c_102])
                  · skip
                    refine lv_iconst (v := 1) hx hb kd_R_call_105 (by decide) ?_
                    refine lv_goto (tgt := 110) hx hb kd_R_call_106 (by decide) ?_
                    exact hj1 _ (by rw [← hCe, cc_]; simp [b2_, c_66, c_83, b2_t c_92, b2_f c_102])
    · exact absurd c_18 (not_not_intro rfl)

set_option maxHeartbeats 4000000 in
set_option maxRecDepth 100000 in
theorem mr_call0 {l : Launch} {D : va_G} {cI cL cZ : ClassId} {tb : Nat} (r : Nat → Nat) (rc ro rm ra rl rw : Nat) (th : Int32) (gv : Int64) (rp rk ow rn ct rt ki aq cd g1 g2 g3 : Nat → Int32) (rb gw an : Nat → Int64) (o : Nat) (n : Int32) (yb : Nat) (ho : o < ro) (hn1 : fb_in n 1000 = true) (hrm : rm ≤ 64) (hra : ra ≤ 4) (C : Nat → Bool) (hCe : ∀ z, cc_ rp rk ow rn ct rt ki rb rm ra o n z = C z) (hok : ∀ i, i < ra → ki i = 5 → ∃ o : Nat, o < ro ∧ rb i = lN o) (hln : ln_ok rc rp) (hno : ro ≤ 64) (hco : ∀ j, j < ro → ∃ q : Nat, q < rc ∧ rk j = nI q) (hrl : rl < 2 ^ 31) (hrw : rw ≤ 64) (h0 : 0 < cn_ C rm) (h1 : cn_ (bp_ rp rk ki rb rt C rm ra) rm = 1) (h2 : la_ (bp_ rp rk ki rb rt C rm ra) rm = nI yb) (hyl : yb < 64) (sz : Nat) : Met l ky_R_call kw_R_call { frames := 4, cells := 0, slots := 0, locals := 100 } (pw_P D cI cL cZ tb [((r 0), .inr (7, [.int th, .int (nI rc), .ref (r 1), .int (nI ro), .ref (r 2), .int (nI rm), .ref (r 3), .ref (r 4), .ref (r 5), .ref (r 6), .int (nI ra), .ref (r 7), .ref (r 8), .ref (r 9), .ref (r 10), .int (nI rl), .ref (r 11), .ref (r 12), .ref (r 13), .ref (r 14), .int (nI rw), .ref (r 15), .long gv])), ((r 1), .inl (cI, 16, .inl rp)), ((r 2), .inl (cI, 64, .inl rk)), ((r 3), .inl (cI, 64, .inl ow)), ((r 4), .inl (cI, 64, .inl rn)), ((r 5), .inl (cI, 64, .inl ct)), ((r 6), .inl (cI, 256, .inl rt)), ((r 7), .inl (cI, 4, .inl ki)), ((r 8), .inl (cL, 4, .inr (.inl rb))), ((r 9), .inl (cI, 4, .inl aq)), ((r 10), .inl (cZ, 64, .inl cd)), ((r 11), .inl (cI, 64, .inl g1)), ((r 12), .inl (cI, 64, .inl g2)), ((r 13), .inl (cI, 64, .inl g3)), ((r 14), .inl (cL, 256, .inr (.inl gw))), ((r 15), .inl (cL, 64, .inr (.inl an)))] sz [.ref (r 0), .int (nI o), .int n]) (hx_QW D (some (.int (nI yb))) [((r 0), .inr (7, [.int 0, .int (nI rc), .ref (r 1), .int (nI ro), .ref (r 2), .int (nI rm), .ref (r 3), .ref (r 4), .ref (r 5), .ref (r 6), .int (nI 0), .ref (r 7), .ref (r 8), .ref (r 9), .ref (r 10), .int (nI (rl + 1)), .ref (r 11), .ref (r 12), .ref (r 13), .ref (r 14), .int (nI (rw - 1)), .ref (r 15), .long (if rw = 0 then 0 else an 0)])), ((r 1), .inl (cI, 16, .inl rp)), ((r 2), .inl (cI, 64, .inl rk)), ((r 3), .inl (cI, 64, .inl ow)), ((r 4), .inl (cI, 64, .inl rn)), ((r 5), .inl (cI, 64, .inl ct)), ((r 6), .inl (cI, 256, .inl rt)), ((r 7), .inl (cI, 4, .inl ki)), ((r 8), .inl (cL, 4, .inr (.inl rb))), ((r 9), .inl (cI, 4, .inl aq)), ((r 10), .inl (cZ, 64, .inl (lf_ (cb_ C) cd rm))), ((r 11), .inl (cI, 64, .inl (upd g1 (rl % 64) (nI o)))), ((r 12), .inl (cI, 64, .inl (upd g2 (rl % 64) (nI yb)))), ((r 13), .inl (cI, 64, .inl (upd g3 (rl % 64) (nI ra)))), ((r 14), .inl (cL, 256, .inr (.inl (wv_ gw (4 * (rl % 64)) (fun i => tu_ ki rb i (rt (4 * yb + i))) ra)))), ((r 15), .inl (cL, 64, .inr (.inl (sq_ an rw))))] (va_A [((r 0), .inr (7, [.int th, .int (nI rc), .ref (r 1), .int (nI ro), .ref (r 2), .int (nI rm), .ref (r 3), .ref (r 4), .ref (r 5), .ref (r 6), .int (nI ra), .ref (r 7), .ref (r 8), .ref (r 9), .ref (r 10), .int (nI rl), .ref (r 11), .ref (r 12), .ref (r 13), .ref (r 14), .int (nI rw), .ref (r 15), .long gv])), ((r 1), .inl (cI, 16, .inl rp)), ((r 2), .inl (cI, 64, .inl rk)), ((r 3), .inl (cI, 64, .inl ow)), ((r 4), .inl (cI, 64, .inl rn)), ((r 5), .inl (cI, 64, .inl ct)), ((r 6), .inl (cI, 256, .inl rt)), ((r 7), .inl (cI, 4, .inl ki)), ((r 8), .inl (cL, 4, .inr (.inl rb))), ((r 9), .inl (cI, 4, .inl aq)), ((r 10), .inl (cZ, 64, .inl cd)), ((r 11), .inl (cI, 64, .inl g1)), ((r 12), .inl (cI, 64, .inl g2)), ((r 13), .inl (cI, 64, .inl g3)), ((r 14), .inl (cL, 256, .inr (.inl gw))), ((r 15), .inl (cL, 64, .inr (.inl an)))] sz)) 0 0 (va_A [((r 0), .inr (7, [.int th, .int (nI rc), .ref (r 1), .int (nI ro), .ref (r 2), .int (nI rm), .ref (r 3), .ref (r 4), .ref (r 5), .ref (r 6), .int (nI ra), .ref (r 7), .ref (r 8), .ref (r 9), .ref (r 10), .int (nI rl), .ref (r 11), .ref (r 12), .ref (r 13), .ref (r 14), .int (nI rw), .ref (r 15), .long gv])), ((r 1), .inl (cI, 16, .inl rp)), ((r 2), .inl (cI, 64, .inl rk)), ((r 3), .inl (cI, 64, .inl ow)), ((r 4), .inl (cI, 64, .inl rn)), ((r 5), .inl (cI, 64, .inl ct)), ((r 6), .inl (cI, 256, .inl rt)), ((r 7), .inl (cI, 4, .inl ki)), ((r 8), .inl (cL, 4, .inr (.inl rb))), ((r 9), .inl (cI, 4, .inl aq)), ((r 10), .inl (cZ, 64, .inl cd)), ((r 11), .inl (cI, 64, .inl g1)), ((r 12), .inl (cI, 64, .inl g2)), ((r 13), .inl (cI, 64, .inl g3)), ((r 14), .inl (cL, 256, .inr (.inl gw))), ((r 15), .inl (cL, 64, .inr (.inl an)))] sz) := by
  refine Met.ofW (cc := kc_R_call) (maxL := 8) (ret := (some .int)) (by decide) rfl ?_
  intro p e s m args below meth c s₁ B hml hv
  obtain ⟨rfl, hsz, hC, hP, hD0⟩ := hv
  have hx := B.exec
  have hb := B.bytes
  have hr := B.returns
  have hlocks := B.notSynchronized
  have hown : s.vm.findClass "HostBridgeModel" = some m.cls := findClass_of_methodNamed B.named
  subst hsz
  have hD := hD0.self (sz := s.heap.size)
  generalize hAe : va_A [((r 0), .inr (7, [.int th, .int (nI rc), .ref (r 1), .int (nI ro), .ref (r 2), .int (nI rm), .ref (r 3), .ref (r 4), .ref (r 5), .ref (r 6), .int (nI ra), .ref (r 7), .ref (r 8), .ref (r 9), .ref (r 10), .int (nI rl), .ref (r 11), .ref (r 12), .ref (r 13), .ref (r 14), .int (nI rw), .ref (r 15), .long gv])), ((r 1), .inl (cI, 16, .inl rp)), ((r 2), .inl (cI, 64, .inl rk)), ((r 3), .inl (cI, 64, .inl ow)), ((r 4), .inl (cI, 64, .inl rn)), ((r 5), .inl (cI, 64, .inl ct)), ((r 6), .inl (cI, 256, .inl rt)), ((r 7), .inl (cI, 4, .inl ki)), ((r 8), .inl (cL, 4, .inr (.inl rb))), ((r 9), .inl (cI, 4, .inl aq)), ((r 10), .inl (cZ, 64, .inl cd)), ((r 11), .inl (cI, 64, .inl g1)), ((r 12), .inl (cI, 64, .inl g2)), ((r 13), .inl (cI, 64, .inl g3)), ((r 14), .inl (cL, 256, .inr (.inl gw))), ((r 15), .inl (cL, 64, .inr (.inl an)))] s.heap.size = A at hD hC ⊢
  have hA : ∀ q : Nat, s.heap.size ≤ q → A q := fun q h => by rw [← hAe]; exact Or.inr h
  have hS : va_S A s.heap s.heap [] := va_S.rf
  have hK := hC.K
  have hts := hC.ts [.ref (r 0), .int (nI o), .int n].toArray
  have hl := lv_entry ([.ref (r 0), .int (nI o), .int n]) (n := 8) (Nat.le_of_ble_eq_true rfl)
  rw [lg_entry_eq]
  generalize (lg_sl ([.ref (r 0), .int (nI o), .int n]) ++ List.replicate (8 - (lg_sl ([.ref (r 0), .int (nI o), .int n])).length) Slot.unset).toArray = ls at hl ⊢
  have hl : lv_has ls 8 [(0, .ref (r 0)), (1, .int (nI o)), (2, .int n)] := hl
  have hpc : cn_ C rm < 2 ^ 31 := Nat.lt_of_le_of_lt (cn_le C rm) (by omega)
  refine lv_iload_n hx hb kd_R_call_0 rfl (lv_at hl 1 rfl) ?_
  refine lv_aload_n hx hb kd_R_call_1 rfl (lv_at hl 0 rfl) ?_
  refine va_get (D := D) (ci := 7) (v := .int (nI ro)) (C := "HostBridgeModel") (T := ct_R) (N := 23) hx hb hts cw_R hown hK hP 0 rfl rfl 3 (by decide) (hts _ km_624) (fun _ h9 => h9) rfl kd_R_call_2 ?_
  refine hx_callRi (va_runS (As := [.int (nI o), .int (nI ro)]) (rest := []) ⟨hx, hb, hml, hown, hts⟩ (mr_isNo (nI o) ro) (va_cwS 2 hts (goodIn_sub (hx_m4 km_700 km_701 km_8 km_702) (by decide +kernel)) rfl rfl rfl (by decide +kernel) ⟨Nat.le_of_ble_eq_true rfl, Nat.le_of_ble_eq_true rfl⟩) (pr_S (hC.S hS) hP [] rfl) rfl rfl hl.1 rfl (lv_room (Nat.le_of_ble_eq_true rfl)) kd_R_call_5 ⟨Nat.le_of_ble_eq_true rfl, Nat.le_of_ble_eq_true rfl⟩) ?_
  refine hx_topi (y := 0) (by rw [(fb_in_iff (by omega)).mpr ⟨o, ho, rfl⟩]; rfl) ?_
  refine lv_if_ne (tgt := 21) hx hb kd_R_call_8 (by decide) (fun c_8 => ?_) (fun c_8 => ?_)
  · exact absurd c_8 (not_not_intro rfl)
  · skip
    refine lv_iload_n hx hb kd_R_call_11 rfl (lv_at hl 2 rfl) ?_
    refine lv_sipush (v := 1000) hx hb kd_R_call_12 (by decide) ?_
    refine hx_topi (y := nI 1000) (by decide) ?_
    refine hx_callRi (va_runS (As := [.int n, .int (nI 1000)]) (rest := []) ⟨hx, hb, hml, hown, hts⟩ (mr_isNo n 1000) (va_cwS 2 hts (goodIn_sub (hx_m4 km_700 km_701 km_8 km_702) (by decide +kernel)) rfl rfl rfl (by decide +kernel) ⟨Nat.le_of_ble_eq_true rfl, Nat.le_of_ble_eq_true rfl⟩) (pr_S (hC.S hS) hP [] rfl) rfl rfl hl.1 rfl (lv_room (Nat.le_of_ble_eq_true rfl)) kd_R_call_15 ⟨Nat.le_of_ble_eq_true rfl, Nat.le_of_ble_eq_true rfl⟩) ?_
    refine hx_topi (y := 0) (by rw [hn1]; rfl) ?_
    refine lv_if_eq (tgt := 25) hx hb kd_R_call_18 (by decide) (fun c_18 => ?_) (fun c_18 => ?_)
    · skip
      refine lv_iconst (v := 0) hx hb kd_R_call_25 (by decide) ?_
      refine lv_istore_n (lv' := [(3, .int 0), (0, .ref (r 0)), (1, .int (nI o)), (2, .int n)]) hx hb kd_R_call_26 rfl hl (by decide) rfl (fun ls hl => ?_)
      refine lv_iconst (v := 0) hx hb kd_R_call_27 (by decide) ?_
      refine hx_topi (y := nI (cn_ C 0)) (rfl) ?_
      refine lv_istore (lv' := [(4, .int (nI (cn_ C 0))), (3, .int 0), (0, .ref (r 0)), (1, .int (nI o)), (2, .int n)]) hx hb kd_R_call_28 hl (by decide) rfl (fun ls hl => ?_)
      refine lv_iconst (v := -1) hx hb kd_R_call_30 (by decide) ?_
      refine hx_topi (y := (-1)) (rfl) ?_
      refine lv_istore (lv' := [(5, .int (-1)), (4, .int (nI (cn_ C 0))), (3, .int 0), (0, .ref (r 0)), (1, .int (nI o)), (2, .int n)]) hx hb kd_R_call_31 hl (by decide) rfl (fun ls hl => ?_)
      refine lv_iconst (v := 0) hx hb kd_R_call_33 (by decide) ?_
      refine hx_topi (y := nI 0) (rfl) ?_
      refine lv_istore (lv' := [(6, .int (nI 0)), (5, .int (-1)), (4, .int (nI (cn_ C 0))), (3, .int 0), (0, .ref (r 0)), (1, .int (nI o)), (2, .int n)]) hx hb kd_R_call_34 hl (by decide) rfl (fun ls hl => ?_)
      refine lv_iconst (v := 0) hx hb kd_R_call_36 (by decide) ?_
      refine hx_topi (y := nI 0) (rfl) ?_
      refine lv_istore (lv' := [(7, .int (nI 0)), (6, .int (nI 0)), (5, .int (-1)), (4, .int (nI (cn_ C 0))), (3, .int 0), (0, .ref (r 0)), (1, .int (nI o)), (2, .int n)]) hx hb kd_R_call_37 hl (by decide) rfl (fun ls hl => ?_)
      refine hx_loopW (σ := Nat) (I := fun y ls H locs => lv_has ls 8 [(0, .ref (r 0)), (1, .int (nI o)), (2, .int n), (3, .int 0), (4, .int (nI (cn_ C y))), (5, .int (-1)), (6, .int (nI 0)), (7, .int (nI y))] ∧ va_P D cl_all [((r 0), .inr (7, [.int th, .int (nI rc), .ref (r 1), .int (nI ro), .ref (r 2), .int (nI rm), .ref (r 3), .ref (r 4), .ref (r 5), .ref (r 6), .int (nI ra), .ref (r 7), .ref (r 8), .ref (r 9), .ref (r 10), .int (nI rl), .ref (r 11), .ref (r 12), .ref (r 13), .ref (r 14), .int (nI rw), .ref (r 15), .long gv])), ((r 1), .inl (cI, 16, .inl rp)), ((r 2), .inl (cI, 64, .inl rk)), ((r 3), .inl (cI, 64, .inl ow)), ((r 4), .inl (cI, 64, .inl rn)), ((r 5), .inl (cI, 64, .inl ct)), ((r 6), .inl (cI, 256, .inl rt)), ((r 7), .inl (cI, 4, .inl ki)), ((r 8), .inl (cL, 4, .inr (.inl rb))), ((r 9), .inl (cI, 4, .inl aq)), ((r 10), .inl (cZ, 64, .inl (lf_ (cb_ C) cd y))), ((r 11), .inl (cI, 64, .inl g1)), ((r 12), .inl (cI, 64, .inl g2)), ((r 13), .inl (cI, 64, .inl g3)), ((r 14), .inl (cL, 256, .inr (.inl gw))), ((r 15), .inl (cL, 64, .inr (.inl an)))] H ∧ va_D A [((r 0), .inr (7, [.int th, .int (nI rc), .ref (r 1), .int (nI ro), .ref (r 2), .int (nI rm), .ref (r 3), .ref (r 4), .ref (r 5), .ref (r 6), .int (nI ra), .ref (r 7), .ref (r 8), .ref (r 9), .ref (r 10), .int (nI rl), .ref (r 11), .ref (r 12), .ref (r 13), .ref (r 14), .int (nI rw), .ref (r 15), .long gv])), ((r 1), .inl (cI, 16, .inl rp)), ((r 2), .inl (cI, 64, .inl rk)), ((r 3), .inl (cI, 64, .inl ow)), ((r 4), .inl (cI, 64, .inl rn)), ((r 5), .inl (cI, 64, .inl ct)), ((r 6), .inl (cI, 256, .inl rt)), ((r 7), .inl (cI, 4, .inl ki)), ((r 8), .inl (cL, 4, .inr (.inl rb))), ((r 9), .inl (cI, 4, .inl aq)), ((r 10), .inl (cZ, 64, .inl (lf_ (cb_ C) cd y))), ((r 11), .inl (cI, 64, .inl g1)), ((r 12), .inl (cI, 64, .inl g2)), ((r 13), .inl (cI, 64, .inl g3)), ((r 14), .inl (cL, 256, .inr (.inl gw))), ((r 15), .inl (cL, 64, .inr (.inl an)))] ∧ va_S A s.heap H locs ∧ y ≤ rm) (μ := fun y => rm - y) ?_ 0 ⟨lv_sub hl [5, 6, 7, 4, 3, 2, 1, 0] rfl, by rw [lf_0]; exact hP, by rw [lf_0]; exact hD, hS, Nat.zero_le _⟩
      intro y ls H locs hI ih39
      obtain ⟨hl, hP, hD, hS, hy⟩ := hI
      refine lv_iload hx hb kd_R_call_39 (lv_at hl 7 rfl) ?_
      refine lv_aload_n hx hb kd_R_call_41 rfl (lv_at hl 0 rfl) ?_
      refine va_get (D := D) (ci := 7) (v := .int (nI rm)) (C := "HostBridgeModel") (T := ct_R) (N := 23) hx hb hts cw_R hown hK hP 0 rfl rfl 5 (by decide) (hts _ km_626) (fun _ h9 => h9) rfl kd_R_call_42 ?_
      refine lv_icmp_ge (tgt := 138) hx hb kd_R_call_45 (by decide) (fun c_45 => ?_) (fun c_45 => ?_)
      · skip
        have hin : y = rm := by rw [nI_leI (by omega) (by omega)] at c_45; omega
        rw [hin] at hP hD hl
        have hl := lv_sub hl [0, 1, 2, 3, 4, 5, 6] rfl
        have hcd : ∀ z, z < rm → (lf_ (cb_ C) cd rm) z = b2_ (C z) := fun z hz => by rw [lf_, if_pos hz]; rfl
        refine lv_iconst (v := 0) hx hb kd_R_call_138 (by decide) ?_
        refine hx_topi (y := nI 0) (rfl) ?_
        refine lv_istore (lv' := [(7, .int (nI 0)), (0, .ref (r 0)), (1, .int (nI o)), (2, .int n), (3, .int 0), (4, .int (nI (cn_ C rm))), (5, .int (-1)), (6, .int (nI 0))]) hx hb kd_R_call_139 hl (by decide) rfl (fun ls hl => ?_)
        refine hx_loopR (σ := Nat × Int32 × Nat) (I := fun x ls => lv_has ls 8 [(0, .ref (r 0)), (1, .int (nI o)), (3, .int 0), (4, .int (nI (cn_ C rm))), (5, .int x.2.1), (6, .int (nI x.2.2)), (7, .int (nI x.1))] ∧ x.1 ≤ rm ∧ x.2.1 = la_ (bp_ rp rk ki rb rt C rm ra) x.1 ∧ x.2.2 = cn_ (bp_ rp rk ki rb rt C rm ra) x.1) (μ := fun x => rm - x.1) ?_ (0, -1, 0) ⟨lv_sub hl [1, 2, 4, 5, 6, 7, 0] rfl, Nat.zero_le _, rfl, rfl⟩
        intro x ls hI ih141
        obtain ⟨y, b9, q9⟩ := x
        obtain ⟨hl, hy, hb9, hq9⟩ := hI
        dsimp only at hl hy hb9 hq9 ih141
        refine lv_iload hx hb kd_R_call_141 (lv_at hl 6 rfl) ?_
        refine lv_aload_n hx hb kd_R_call_143 rfl (lv_at hl 0 rfl) ?_
        refine va_get (D := D) (ci := 7) (v := .int (nI rm)) (C := "HostBridgeModel") (T := ct_R) (N := 23) hx hb hts cw_R hown hK hP 0 rfl rfl 5 (by decide) (hts _ km_626) (fun _ h9 => h9) rfl kd_R_call_144 ?_
        refine lv_icmp_ge (tgt := 179) hx hb kd_R_call_147 (by decide) (fun c_147 => ?_) (fun c_147 => ?_)
        · skip
          have hin : y = rm := by rw [nI_leI (by omega) (by omega)] at c_147; omega
          rw [hin] at hb9 hq9
          have hl := lv_sub hl [0, 1, 2, 3, 4, 5] rfl
          refine lv_aload_n hx hb kd_R_call_179 rfl (lv_at hl 0 rfl) ?_
          refine lv_iload_n hx hb kd_R_call_180 rfl (lv_at hl 2 rfl) ?_
          refine lv_iload_n hx hb kd_R_call_181 rfl (lv_at hl 2 rfl) ?_
          refine lv_if_ne (tgt := 194) hx hb kd_R_call_182 (by decide) (fun c_182 => ?_) (fun c_182 => ?_)
          · exact absurd c_182 (not_not_intro rfl)
          · skip
            refine lv_iload hx hb kd_R_call_185 (lv_at hl 3 rfl) ?_
            refine lv_if_ne (tgt := 194) hx hb kd_R_call_187 (by decide) (fun c_187 => ?_) (fun c_187 => ?_)
            · skip
              refine lv_iconst (v := 0) hx hb kd_R_call_194 (by decide) ?_
              refine lv_iload hx hb kd_R_call_195 (lv_at hl 3 rfl) ?_
              refine lv_if_le (tgt := 210) hx hb kd_R_call_197 (by decide) (fun c_197 => ?_) (fun c_197 => ?_)
              · exact absurd c_197 (nI_nle h0 hpc)
              · skip
                refine lv_iload hx hb kd_R_call_200 (lv_at hl 5 rfl) ?_
                refine lv_iconst (v := 1) hx hb kd_R_call_202 (by decide) ?_
                refine lv_icmp_eq (tgt := 210) hx hb kd_R_call_203 (by decide) (fun c_203 => ?_) (fun c_203 => ?_)
                · skip
                  refine lv_iconst (v := 0) hx hb kd_R_call_210 (by decide) ?_
                  refine hx_callWi (va_runV (As := [.int 0, .int 0, .int 0]) (rest := []) ⟨hx, hb, hml, hown, hts⟩ (mr_throwing0 r rc ro rm ra rl rw th gv rp rk ow rn ct rt ki aq cd g1 g2 g3 rb gw an _) (cwV 3 hts (goodIn_sub (hx_m5 km_703 km_705 kv_R_throwing km_8 km_706) (by decide +kernel)) rfl rfl rfl (by decide +kernel) ⟨Nat.le_of_ble_eq_true rfl, Nat.le_of_ble_eq_true rfl⟩) (pw_V (hC.S hS) hP hD hS hA [0] (by decide) rfl (ci := 7) rfl (q0 := 0) rfl) rfl rfl hl.1 rfl (lv_room (Nat.le_of_ble_eq_true rfl)) kd_R_call_211 ⟨Nat.le_of_ble_eq_true rfl, Nat.le_of_ble_eq_true rfl⟩) hP hD hS hA [0] rfl rfl (fun H locs hP hD hS hF => ?_)
                  have hP : va_P D cl_all [((r 0), .inr (7, [.int 0, .int (nI rc), .ref (r 1), .int (nI ro), .ref (r 2), .int (nI rm), .ref (r 3), .ref (r 4), .ref (r 5), .ref (r 6), .int (nI ra), .ref (r 7), .ref (r 8), .ref (r 9), .ref (r 10), .int (nI rl), .ref (r 11), .ref (r 12), .ref (r 13), .ref (r 14), .int (nI rw), .ref (r 15), .long gv])), ((r 1), .inl (cI, 16, .inl rp)), ((r 2), .inl (cI, 64, .inl rk)), ((r 3), .inl (cI, 64, .inl ow)), ((r 4), .inl (cI, 64, .inl rn)), ((r 5), .inl (cI, 64, .inl ct)), ((r 6), .inl (cI, 256, .inl rt)), ((r 7), .inl (cI, 4, .inl ki)), ((r 8), .inl (cL, 4, .inr (.inl rb))), ((r 9), .inl (cI, 4, .inl aq)), ((r 10), .inl (cZ, 64, .inl (lf_ (cb_ C) cd rm))), ((r 11), .inl (cI, 64, .inl g1)), ((r 12), .inl (cI, 64, .inl g2)), ((r 13), .inl (cI, 64, .inl g3)), ((r 14), .inl (cL, 256, .inr (.inl gw))), ((r 15), .inl (cL, 64, .inr (.inl an)))] H := hP
                  have hD : va_D A [((r 0), .inr (7, [.int 0, .int (nI rc), .ref (r 1), .int (nI ro), .ref (r 2), .int (nI rm), .ref (r 3), .ref (r 4), .ref (r 5), .ref (r 6), .int (nI ra), .ref (r 7), .ref (r 8), .ref (r 9), .ref (r 10), .int (nI rl), .ref (r 11), .ref (r 12), .ref (r 13), .ref (r 14), .int (nI rw), .ref (r 15), .long gv])), ((r 1), .inl (cI, 16, .inl rp)), ((r 2), .inl (cI, 64, .inl rk)), ((r 3), .inl (cI, 64, .inl ow)), ((r 4), .inl (cI, 64, .inl rn)), ((r 5), .inl (cI, 64, .inl ct)), ((r 6), .inl (cI, 256, .inl rt)), ((r 7), .inl (cI, 4, .inl ki)), ((r 8), .inl (cL, 4, .inr (.inl rb))), ((r 9), .inl (cI, 4, .inl aq)), ((r 10), .inl (cZ, 64, .inl (lf_ (cb_ C) cd rm))), ((r 11), .inl (cI, 64, .inl g1)), ((r 12), .inl (cI, 64, .inl g2)), ((r 13), .inl (cI, 64, .inl g3)), ((r 14), .inl (cL, 256, .inr (.inl gw))), ((r 15), .inl (cL, 64, .inr (.inl an)))] := hD
                  refine hx_topi (y := 0) (rfl) ?_
                  refine lv_if_eq (tgt := 224) hx hb kd_R_call_214 (by decide) (fun c_214 => ?_) (fun c_214 => ?_)
                  · skip
                    refine lv_aload_n hx hb kd_R_call_224 rfl (lv_at hl 0 rfl) ?_
                    refine lv_iload_n hx hb kd_R_call_225 rfl (lv_at hl 1 rfl) ?_
                    refine lv_iload hx hb kd_R_call_226 (lv_at hl 4 rfl) ?_
                    refine hx_topi (y := nI yb) (by rw [hb9, h2]) ?_
                    refine hx_callWai (va_runV (As := [.int (nI o), .int (nI yb)]) (rest := []) ⟨hx, hb, hml, hown, hts⟩ (mr_make r rc ro rm ra rl rw 0 gv rp rk ow rn ct rt ki aq (lf_ (cb_ C) cd rm) g1 g2 g3 rb gw an o yb hyl hra hrl hrw _) (cwV 2 hts (goodIn_sub (hx_m5 km_773 km_775 kv_R_make km_8 km_776) (by decide +kernel)) rfl rfl rfl (by decide +kernel) ⟨Nat.le_of_ble_eq_true rfl, Nat.le_of_ble_eq_true rfl⟩) (pw_V (hC.S hS) hP hD hS hA [0, 1, 2, 3, 4, 5, 6, 7, 8, 9, 10, 11, 12, 13, 14, 15] (by decide) rfl (ci := 7) rfl (q0 := 0) rfl) rfl rfl hl.1 rfl (lv_room (Nat.le_of_ble_eq_true rfl)) kd_R_call_228 ⟨Nat.le_of_ble_eq_true rfl, Nat.le_of_ble_eq_true rfl⟩) hP hD hS hA rfl (fun H locs hP hD hS => ?_)
                    exact hx_iretW hx hb hr hlocks (rfl) (hP) hS kd_R_call_231
                  · exact absurd c_214 (not_not_intro rfl)
                · exact absurd c_203 (not_not_intro (by rw [hq9, h1]; rfl))
            · exact absurd c_187 (nI_ne0 h0 hpc)
        · skip
          have hin : y < rm := by rw [nI_leI (by omega) (by omega)] at c_147; omega
          refine lv_iload_n hx hb kd_R_call_150 rfl (lv_at hl 2 rfl) ?_
          refine lv_if_ne (tgt := 179) hx hb kd_R_call_151 (by decide) (fun c_151 => ?_) (fun c_151 => ?_)
          · exact absurd c_151 (not_not_intro rfl)
          · skip
            refine lv_aload_n hx hb kd_R_call_154 rfl (lv_at hl 0 rfl) ?_
            refine lv_iload hx hb kd_R_call_155 (lv_at hl 6 rfl) ?_
            refine hx_callRi (va_runV (As := [.int (nI y)]) (rest := []) ⟨hx, hb, hml, hown, hts⟩ (mr_isBest r rc ro rm ra rl rw th gv rp rk ow rn ct rt ki aq (lf_ (cb_ C) cd rm) g1 g2 g3 rb gw an C y hin hrm hra hcd hok hln hno hco) (cwV 1 hts (goodIn_sub (hx_m5 km_769 km_771 kv_R_isBest km_8 km_772) (by decide +kernel)) rfl rfl rfl (by decide +kernel) ⟨Nat.le_of_ble_eq_true rfl, Nat.le_of_ble_eq_true rfl⟩) (pr_V (hC.S hS) hP [0, 1, 2, 3, 4, 5, 6, 7, 8, 9, 10, 11, 12, 13, 14, 15] rfl (ci := 7) rfl (q0 := 0) rfl) rfl rfl hl.1 rfl (lv_room (Nat.le_of_ble_eq_true rfl)) kd_R_call_157 ⟨Nat.le_of_ble_eq_true rfl, Nat.le_of_ble_eq_true rfl⟩) ?_
            refine lv_if_ne (tgt := 166) hx hb kd_R_call_160 (by decide) (fun c_160 => ?_) (fun c_160 => ?_)
            · skip
              have h160 : bp_ rp rk ki rb rt C rm ra y = true := b2_t c_160
              refine lv_iload hx hb kd_R_call_166 (lv_at hl 6 rfl) ?_
              refine lv_istore (lv' := [(5, .int (nI y)), (0, .ref (r 0)), (1, .int (nI o)), (3, .int 0), (4, .int (nI (cn_ C rm))), (6, .int (nI q9)), (7, .int (nI y))]) hx hb kd_R_call_168 hl (by decide) rfl (fun ls hl => ?_)
              refine lv_iinc (v := nI (q9 + 1)) (lv' := [(6, .int (nI (q9 + 1))), (5, .int (nI y)), (0, .ref (r 0)), (1, .int (nI o)), (3, .int 0), (4, .int (nI (cn_ C rm))), (7, .int (nI y))]) hx hb kd_R_call_170 hl (k := 5) rfl (nI_1 q9) (by decide) rfl (fun ls hl => ?_)
              refine lv_iinc (v := nI (y + 1)) (lv' := [(7, .int (nI (y + 1))), (6, .int (nI (q9 + 1))), (5, .int (nI y)), (0, .ref (r 0)), (1, .int (nI o)), (3, .int 0), (4, .int (nI (cn_ C rm)))]) hx hb kd_R_call_173 hl (k := 6) rfl (nI_1 y) (by decide) rfl (fun ls hl => ?_)
              refine lv_goto (tgt := 141) hx hb kd_R_call_176 (by decide) ?_
              exact ih141 (y + 1, nI y, q9 + 1) _ (by dsimp only; omega) ⟨lv_sub hl [3, 4, 5, 6, 2, 1, 0] rfl, by dsimp only; omega, by dsimp only; simp only [la_]; rw [h160, if_pos rfl], by dsimp only; simp only [cn_]; rw [h160, hq9]; rfl⟩
            · skip
              have h160 : bp_ rp rk ki rb rt C rm ra y = false := b2_f c_160
              refine lv_goto (tgt := 173) hx hb kd_R_call_163 (by decide) ?_
              refine lv_iinc (v := nI (y + 1)) (lv' := [(7, .int (nI (y + 1))), (0, .ref (r 0)), (1, .int (nI o)), (3, .int 0), (4, .int (nI (cn_ C rm))), (5, .int b9), (6, .int (nI q9))]) hx hb kd_R_call_173 hl (k := 6) rfl (nI_1 y) (by decide) rfl (fun ls hl => ?_)
              refine lv_goto (tgt := 141) hx hb kd_R_call_176 (by decide) ?_
              exact ih141 (y + 1, b9, q9) _ (by dsimp only; omega) ⟨lv_sub hl [1, 2, 3, 4, 5, 6, 0] rfl, by dsimp only; omega, by dsimp only; simp only [la_]; rw [h160, hb9]; rfl, by dsimp only; simp only [cn_]; rw [h160, hq9]; rfl⟩
      · skip
        have hin : y < rm := by rw [nI_leI (by omega) (by omega)] at c_45; omega
        refine lv_iload_n hx hb kd_R_call_48 rfl (lv_at hl 3 rfl) ?_
        refine lv_if_ne (tgt := 138) hx hb kd_R_call_49 (by decide) (fun c_49 => ?_) (fun c_49 => ?_)
        · exact absurd c_49 (not_not_intro rfl)
        · skip
          refine lv_aload_n hx hb kd_R_call_52 rfl (lv_at hl 0 rfl) ?_
          refine va_get (D := D) (ci := 7) (v := .ref (r 10)) (C := "HostBridgeModel") (T := ct_R) (N := 23) hx hb hts cw_R hown hK hP 0 rfl rfl 14 (by decide) (hts _ km_635) (fun _ h9 => h9) rfl kd_R_call_53 ?_
          refine lv_iload hx hb kd_R_call_56 (lv_at hl 7 rfl) ?_
          refine hx_cut (pc2 := 110) (ls2 := ls) (rest2 := [.int (nI y), .ref (r 10)]) (P := fun x => x = b2_ (C y)) ?_ (fun hj1 => ?_)
          · intro x2 e3
            subst e3
            refine hx_topi (y := cb_ C y) (rfl) ?_
            refine hx_zast (j := y) hx hb hK hP hD hS 10 rfl (rfl) (by omega) (by decide) (b2_vn _) kd_R_call_110 (fun H locs hP hD hS => ?_)
            have hP : va_P D cl_all [((r 0), .inr (7, [.int th, .int (nI rc), .ref (r 1), .int (nI ro), .ref (r 2), .int (nI rm), .ref (r 3), .ref (r 4), .ref (r 5), .ref (r 6), .int (nI ra), .ref (r 7), .ref (r 8), .ref (r 9), .ref (r 10), .int (nI rl), .ref (r 11), .ref (r 12), .ref (r 13), .ref (r 14), .int (nI rw), .ref (r 15), .long gv])), ((r 1), .inl (cI, 16, .inl rp)), ((r 2), .inl (cI, 64, .inl rk)), ((r 3), .inl (cI, 64, .inl ow)), ((r 4), .inl (cI, 64, .inl rn)), ((r 5), .inl (cI, 64, .inl ct)), ((r 6), .inl (cI, 256, .inl rt)), ((r 7), .inl (cI, 4, .inl ki)), ((r 8), .inl (cL, 4, .inr (.inl rb))), ((r 9), .inl (cI, 4, .inl aq)), ((r 10), .inl (cZ, 64, .inl (upd (lf_ (cb_ C) cd y) y (cb_ C y)))), ((r 11), .inl (cI, 64, .inl g1)), ((r 12), .inl (cI, 64, .inl g2)), ((r 13), .inl (cI, 64, .inl g3)), ((r 14), .inl (cL, 256, .inr (.inl gw))), ((r 15), .inl (cL, 64, .inr (.inl an)))] H := hP
            have hD : va_D A [((r 0), .inr (7, [.int th, .int (nI rc), .ref (r 1), .int (nI ro), .ref (r 2), .int (nI rm), .ref (r 3), .ref (r 4), .ref (r 5), .ref (r 6), .int (nI ra), .ref (r 7), .ref (r 8), .ref (r 9), .ref (r 10), .int (nI rl), .ref (r 11), .ref (r 12), .ref (r 13), .ref (r 14), .int (nI rw), .ref (r 15), .long gv])), ((r 1), .inl (cI, 16, .inl rp)), ((r 2), .inl (cI, 64, .inl rk)), ((r 3), .inl (cI, 64, .inl ow)), ((r 4), .inl (cI, 64, .inl rn)), ((r 5), .inl (cI, 64, .inl ct)), ((r 6), .inl (cI, 256, .inl rt)), ((r 7), .inl (cI, 4, .inl ki)), ((r 8), .inl (cL, 4, .inr (.inl rb))), ((r 9), .inl (cI, 4, .inl aq)), ((r 10), .inl (cZ, 64, .inl (upd (lf_ (cb_ C) cd y) y (cb_ C y)))), ((r 11), .inl (cI, 64, .inl g1)), ((r 12), .inl (cI, 64, .inl g2)), ((r 13), .inl (cI, 64, .inl g3)), ((r 14), .inl (cL, 256, .inr (.inl gw))), ((r 15), .inl (cL, 64, .inr (.inl an)))] := hD
            rw [lf_s] at hP hD
            refine hx_cut (pc2 := 130) (ls2 := ls) (rest2 := []) (P := fun x => x = nI (cn_ C (y + 1))) ?_ (fun hj4 => ?_)
            · intro x5 e6
              subst e6
              refine lv_istore (lv' := [(4, .int (nI (cn_ C (y + 1)))), (0, .ref (r 0)), (1, .int (nI o)), (2, .int n), (3, .int 0), (5, .int (-1)), (6, .int (nI 0)), (7, .int (nI y))]) hx hb kd_R_call_130 hl (by decide) rfl (fun ls hl => ?_)
              refine lv_iinc (v := nI (y + 1)) (lv' := [(7, .int (nI (y + 1))), (4, .int (nI (cn_ C (y + 1)))), (0, .ref (r 0)), (1, .int (nI o)), (2, .int n), (3, .int 0), (5, .int (-1)), (6, .int (nI 0))]) hx hb kd_R_call_132 hl (k := 7) rfl (nI_1 y) (by decide) rfl (fun ls hl => ?_)
              refine lv_goto (tgt := 39) hx hb kd_R_call_135 (by decide) ?_
              exact ih39 (y + 1) _ _ _ (by omega) ⟨lv_sub hl [2, 3, 4, 5, 1, 6, 7, 0] rfl, hP, hD, hS, by omega⟩
            · skip
              refine lv_aload_n hx hb kd_R_call_111 rfl (lv_at hl 0 rfl) ?_
              refine va_get (D := D) (ci := 7) (v := .ref (r 10)) (C := "HostBridgeModel") (T := ct_R) (N := 23) hx hb hts cw_R hown hK hP 0 rfl rfl 14 (by decide) (hts _ km_635) (fun _ h9 => h9) rfl kd_R_call_112 ?_
              refine lv_iload hx hb kd_R_call_115 (lv_at hl 7 rfl) ?_
              refine hx_zald (j := y) hx hb hK hP 10 rfl (rfl) (by omega) (by decide) kd_R_call_117 ?_
              refine hx_topi (y := b2_ (C y)) (by rw [lf_, if_pos (by omega)]; rfl) ?_
              refine lv_if_eq (tgt := 128) hx hb kd_R_call_118 (by decide) (fun c_118 => ?_) (fun c_118 => ?_)
              · skip
                refine lv_iload hx hb kd_R_call_128 (lv_at hl 4 rfl) ?_
                exact hj4 _ (by simp only [cn_]; rw [b2_f c_118]; rfl)
              · skip
                refine lv_iload hx hb kd_R_call_121 (lv_at hl 4 rfl) ?_
                refine lv_iconst (v := 1) hx hb kd_R_call_123 (by decide) ?_
                refine lv_iadd hx hb kd_R_call_124 ?_
                refine lv_goto (tgt := 130) hx hb kd_R_call_125 (by decide) ?_
                exact hj4 _ (by simp only [cn_]; rw [b2_t c_118]; exact nI_1 _)
          · skip
            refine lv_aload_n hx hb kd_R_call_58 rfl (lv_at hl 0 rfl) ?_
            refine va_get (D := D) (ci := 7) (v := .ref (r 4)) (C := "HostBridgeModel") (T := ct_R) (N := 23) hx hb hts cw_R hown hK hP 0 rfl rfl 7 (by decide) (hts _ km_628) (fun _ h9 => h9) rfl kd_R_call_59 ?_
            refine lv_iload hx hb kd_R_call_62 (lv_at hl 7 rfl) ?_
            refine hx_iald (j := y) hx hb hK hP 4 rfl (rfl) (by omega) (by decide) kd_R_call_64 ?_
            refine lv_iload_n hx hb kd_R_call_65 rfl (lv_at hl 2 rfl) ?_
            refine lv_icmp_ne (tgt := 109) hx hb kd_R_call_66 (by decide) (fun c_66 => ?_) (fun c_66 => ?_)
            · skip
              refine lv_iconst (v := 0) hx hb kd_R_call_109 (by decide) ?_
              exact hj1 _ (by rw [← hCe, cc_]; simp [b2_, c_66])
            · skip
              refine lv_aload_n hx hb kd_R_call_69 rfl (lv_at hl 0 rfl) ?_
              refine lv_iload_n hx hb kd_R_call_70 rfl (lv_at hl 1 rfl) ?_
              refine lv_aload_n hx hb kd_R_call_71 rfl (lv_at hl 0 rfl) ?_
              refine va_get (D := D) (ci := 7) (v := .ref (r 3)) (C := "HostBridgeModel") (T := ct_R) (N := 23) hx hb hts cw_R hown hK hP 0 rfl rfl 6 (by decide) (hts _ km_627) (fun _ h9 => h9) rfl kd_R_call_72 ?_
              refine lv_iload hx hb kd_R_call_75 (lv_at hl 7 rfl) ?_
              refine hx_iald (j := y) hx hb hK hP 3 rfl (rfl) (by omega) (by decide) kd_R_call_77 ?_
              refine hx_callRi (va_runV (As := [.int (nI o), .int (ow y)]) (rest := [.int (nI y), .ref (r 10)]) ⟨hx, hb, hml, hown, hts⟩ (mr_far r rc ro rm ra rl rw th gv rp rk ow rn ct rt ki aq (lf_ (cb_ C) cd y) g1 g2 g3 rb gw an o (ow y) ho hln hno hco) (cwV 2 hts (goodIn_sub (hx_m5 km_757 km_759 kv_R_far km_8 km_760) (by decide +kernel)) rfl rfl rfl (by decide +kernel) ⟨Nat.le_of_ble_eq_true rfl, Nat.le_of_ble_eq_true rfl⟩) (pr_V (hC.S hS) hP [0, 1, 2, 3, 4, 5, 6, 7, 8, 9, 10, 11, 12, 13, 14, 15] rfl (ci := 7) rfl (q0 := 0) rfl) rfl rfl hl.1 rfl (lv_room (Nat.le_of_ble_eq_true rfl)) kd_R_call_78 ⟨Nat.le_of_ble_eq_true rfl, Nat.le_of_ble_eq_true rfl⟩) ?_
              refine lv_bipush (v := 99) hx hb kd_R_call_81 (by decide) ?_
              refine lv_icmp_ge (tgt := 109) hx hb kd_R_call_83 (by decide) (fun c_83 => ?_) (fun c_83 => ?_)
              · skip
                refine lv_iconst (v := 0) hx hb kd_R_call_109 (by decide) ?_
                exact hj1 _ (by rw [← hCe, cc_]; simp [b2_, c_66, c_83])
              · skip
                refine lv_aload_n hx hb kd_R_call_86 rfl (lv_at hl 0 rfl) ?_
                refine lv_iload hx hb kd_R_call_87 (lv_at hl 7 rfl) ?_
                refine hx_callRi (va_runV (As := [.int (nI y)]) (rest := [.int (nI y), .ref (r 10)]) ⟨hx, hb, hml, hown, hts⟩ (mr_fits r rc ro rm ra rl rw th gv rp rk ow rn ct rt ki aq (lf_ (cb_ C) cd y) g1 g2 g3 rb gw an y (by omega) hra hok hln hno hco) (cwV 1 hts (goodIn_sub (hx_m5 km_761 km_763 kv_R_fits km_8 km_764) (by decide +kernel)) rfl rfl rfl (by decide +kernel) ⟨Nat.le_of_ble_eq_true rfl, Nat.le_of_ble_eq_true rfl⟩) (pr_V (hC.S hS) hP [0, 1, 2, 3, 4, 5, 6, 7, 8, 9, 10, 11, 12, 13, 14, 15] rfl (ci := 7) rfl (q0 := 0) rfl) rfl rfl hl.1 rfl (lv_room (Nat.le_of_ble_eq_true rfl)) kd_R_call_89 ⟨Nat.le_of_ble_eq_true rfl, Nat.le_of_ble_eq_true rfl⟩) ?_
                refine lv_if_eq (tgt := 109) hx hb kd_R_call_92 (by decide) (fun c_92 => ?_) (fun c_92 => ?_)
                · skip
                  refine lv_iconst (v := 0) hx hb kd_R_call_109 (by decide) ?_
                  exact hj1 _ (by rw [← hCe, cc_]; simp [b2_, c_66, c_83, b2_f c_92])
                · skip
                  refine lv_aload_n hx hb kd_R_call_95 rfl (lv_at hl 0 rfl) ?_
                  refine lv_iload_n hx hb kd_R_call_96 rfl (lv_at hl 1 rfl) ?_
                  refine lv_iload hx hb kd_R_call_97 (lv_at hl 7 rfl) ?_
                  have hcy : ct y = nI ra := by have h9 := b2_t c_92; rw [fr_, Bool.and_eq_true, decide_eq_true_iff] at h9; exact h9.1
                  refine hx_callRi (va_runV (As := [.int (nI o), .int (nI y)]) (rest := [.int (nI y), .ref (r 10)]) ⟨hx, hb, hml, hown, hts⟩ (mr_isHidden r rc ro rm ra rl rw th gv rp rk ow rn ct rt ki aq (lf_ (cb_ C) cd y) g1 g2 g3 rb gw an o ra y ho (by omega) hrm hra hcy hln hno hco) (cwV 2 hts (goodIn_sub (hx_m5 km_765 km_767 kv_R_isHidden km_8 km_768) (by decide +kernel)) rfl rfl rfl (by decide +kernel) ⟨Nat.le_of_ble_eq_true rfl, Nat.le_of_ble_eq_true rfl⟩) (pr_V (hC.S hS) hP [0, 1, 2, 3, 4, 5, 6, 7, 8, 9, 10, 11, 12, 13, 14, 15] rfl (ci := 7) rfl (q0 := 0) rfl) rfl rfl hl.1 rfl (lv_room (Nat.le_of_ble_eq_true rfl)) kd_R_call_99 ⟨Nat.le_of_ble_eq_true rfl, Nat.le_of_ble_eq_true rfl⟩) ?_
                  refine lv_if_ne (tgt := 109) hx hb kd_R_call_102 (by decide) (fun c_102 => ?_) (fun c_102 => ?_)
                  · skip
                    refine lv_iconst (v := 0) hx hb kd_R_call_109 (by decide) ?_
                    exact hj1 _ (by rw [← hCe, cc_]; simp [b2_, c_66, c_83, b2_t c_92, b2_t c_102])
                  · skip
                    refine lv_iconst (v := 1) hx hb kd_R_call_105 (by decide) ?_
                    refine lv_goto (tgt := 110) hx hb kd_R_call_106 (by decide) ?_
                    exact hj1 _ (by rw [← hCe, cc_]; simp [b2_, c_66, c_83, b2_t c_92, b2_f c_102])
    · exact absurd c_18 (not_not_intro rfl)

set_option maxHeartbeats 4000000 in
set_option maxRecDepth 100000 in
theorem mr_exact1a {l : Launch} {D : va_G} {cI cL cZ : ClassId} {tb : Nat} (r : Nat → Nat) (rc ro rm ra rl rw : Nat) (th : Int32) (gv : Int64) (rp rk ow rn ct rt ki aq cd g1 g2 g3 : Nat → Int32) (rb gw an : Nat → Int64) (oi n w : Int32) (hf : (fb_in oi ro && fb_in n 1000) = false) (sz : Nat) : Met l ky_R_exact kw_R_exact { frames := 1, cells := 0, slots := 0, locals := 23 } (pw_P D cI cL cZ tb [((r 0), .inr (7, [.int th, .int (nI rc), .ref (r 1), .int (nI ro), .ref (r 2), .int (nI rm), .ref (r 3), .ref (r 4), .ref (r 5), .ref (r 6), .int (nI ra), .ref (r 7), .ref (r 8), .ref (r 9), .ref (r 10), .int (nI rl), .ref (r 11), .ref (r 12), .ref (r 13), .ref (r 14), .int (nI rw), .ref (r 15), .long gv])), ((r 1), .inl (cI, 16, .inl rp)), ((r 2), .inl (cI, 64, .inl rk)), ((r 3), .inl (cI, 64, .inl ow)), ((r 4), .inl (cI, 64, .inl rn)), ((r 5), .inl (cI, 64, .inl ct)), ((r 6), .inl (cI, 256, .inl rt)), ((r 7), .inl (cI, 4, .inl ki)), ((r 8), .inl (cL, 4, .inr (.inl rb))), ((r 9), .inl (cI, 4, .inl aq)), ((r 10), .inl (cZ, 64, .inl cd)), ((r 11), .inl (cI, 64, .inl g1)), ((r 12), .inl (cI, 64, .inl g2)), ((r 13), .inl (cI, 64, .inl g3)), ((r 14), .inl (cL, 256, .inr (.inl gw))), ((r 15), .inl (cL, 64, .inr (.inl an)))] sz [.ref (r 0), .int oi, .int n, .int w]) (hx_QW D (some (.int 0)) [((r 0), .inr (7, [.int 1, .int (nI rc), .ref (r 1), .int (nI ro), .ref (r 2), .int (nI rm), .ref (r 3), .ref (r 4), .ref (r 5), .ref (r 6), .int (nI 0), .ref (r 7), .ref (r 8), .ref (r 9), .ref (r 10), .int (nI rl), .ref (r 11), .ref (r 12), .ref (r 13), .ref (r 14), .int (nI rw), .ref (r 15), .long gv])), ((r 1), .inl (cI, 16, .inl rp)), ((r 2), .inl (cI, 64, .inl rk)), ((r 3), .inl (cI, 64, .inl ow)), ((r 4), .inl (cI, 64, .inl rn)), ((r 5), .inl (cI, 64, .inl ct)), ((r 6), .inl (cI, 256, .inl rt)), ((r 7), .inl (cI, 4, .inl ki)), ((r 8), .inl (cL, 4, .inr (.inl rb))), ((r 9), .inl (cI, 4, .inl aq)), ((r 10), .inl (cZ, 64, .inl cd)), ((r 11), .inl (cI, 64, .inl g1)), ((r 12), .inl (cI, 64, .inl g2)), ((r 13), .inl (cI, 64, .inl g3)), ((r 14), .inl (cL, 256, .inr (.inl gw))), ((r 15), .inl (cL, 64, .inr (.inl an)))] (va_A [((r 0), .inr (7, [.int th, .int (nI rc), .ref (r 1), .int (nI ro), .ref (r 2), .int (nI rm), .ref (r 3), .ref (r 4), .ref (r 5), .ref (r 6), .int (nI ra), .ref (r 7), .ref (r 8), .ref (r 9), .ref (r 10), .int (nI rl), .ref (r 11), .ref (r 12), .ref (r 13), .ref (r 14), .int (nI rw), .ref (r 15), .long gv])), ((r 1), .inl (cI, 16, .inl rp)), ((r 2), .inl (cI, 64, .inl rk)), ((r 3), .inl (cI, 64, .inl ow)), ((r 4), .inl (cI, 64, .inl rn)), ((r 5), .inl (cI, 64, .inl ct)), ((r 6), .inl (cI, 256, .inl rt)), ((r 7), .inl (cI, 4, .inl ki)), ((r 8), .inl (cL, 4, .inr (.inl rb))), ((r 9), .inl (cI, 4, .inl aq)), ((r 10), .inl (cZ, 64, .inl cd)), ((r 11), .inl (cI, 64, .inl g1)), ((r 12), .inl (cI, 64, .inl g2)), ((r 13), .inl (cI, 64, .inl g3)), ((r 14), .inl (cL, 256, .inr (.inl gw))), ((r 15), .inl (cL, 64, .inr (.inl an)))] sz)) 0 0 (va_A [((r 0), .inr (7, [.int th, .int (nI rc), .ref (r 1), .int (nI ro), .ref (r 2), .int (nI rm), .ref (r 3), .ref (r 4), .ref (r 5), .ref (r 6), .int (nI ra), .ref (r 7), .ref (r 8), .ref (r 9), .ref (r 10), .int (nI rl), .ref (r 11), .ref (r 12), .ref (r 13), .ref (r 14), .int (nI rw), .ref (r 15), .long gv])), ((r 1), .inl (cI, 16, .inl rp)), ((r 2), .inl (cI, 64, .inl rk)), ((r 3), .inl (cI, 64, .inl ow)), ((r 4), .inl (cI, 64, .inl rn)), ((r 5), .inl (cI, 64, .inl ct)), ((r 6), .inl (cI, 256, .inl rt)), ((r 7), .inl (cI, 4, .inl ki)), ((r 8), .inl (cL, 4, .inr (.inl rb))), ((r 9), .inl (cI, 4, .inl aq)), ((r 10), .inl (cZ, 64, .inl cd)), ((r 11), .inl (cI, 64, .inl g1)), ((r 12), .inl (cI, 64, .inl g2)), ((r 13), .inl (cI, 64, .inl g3)), ((r 14), .inl (cL, 256, .inr (.inl gw))), ((r 15), .inl (cL, 64, .inr (.inl an)))] sz) := by
  refine Met.ofW (cc := kc_R_exact) (maxL := 7) (ret := (some .int)) (by decide) rfl ?_
  intro p e s m args below meth c s₁ B hml hv
  obtain ⟨rfl, hsz, hC, hP, hD0⟩ := hv
  have hx := B.exec
  have hb := B.bytes
  have hr := B.returns
  have hlocks := B.notSynchronized
  have hown : s.vm.findClass "HostBridgeModel" = some m.cls := findClass_of_methodNamed B.named
  subst hsz
  have hD := hD0.self (sz := s.heap.size)
  generalize hAe : va_A [((r 0), .inr (7, [.int th, .int (nI rc), .ref (r 1), .int (nI ro), .ref (r 2), .int (nI rm), .ref (r 3), .ref (r 4), .ref (r 5), .ref (r 6), .int (nI ra), .ref (r 7), .ref (r 8), .ref (r 9), .ref (r 10), .int (nI rl), .ref (r 11), .ref (r 12), .ref (r 13), .ref (r 14), .int (nI rw), .ref (r 15), .long gv])), ((r 1), .inl (cI, 16, .inl rp)), ((r 2), .inl (cI, 64, .inl rk)), ((r 3), .inl (cI, 64, .inl ow)), ((r 4), .inl (cI, 64, .inl rn)), ((r 5), .inl (cI, 64, .inl ct)), ((r 6), .inl (cI, 256, .inl rt)), ((r 7), .inl (cI, 4, .inl ki)), ((r 8), .inl (cL, 4, .inr (.inl rb))), ((r 9), .inl (cI, 4, .inl aq)), ((r 10), .inl (cZ, 64, .inl cd)), ((r 11), .inl (cI, 64, .inl g1)), ((r 12), .inl (cI, 64, .inl g2)), ((r 13), .inl (cI, 64, .inl g3)), ((r 14), .inl (cL, 256, .inr (.inl gw))), ((r 15), .inl (cL, 64, .inr (.inl an)))] s.heap.size = A at hD hC ⊢
  have hA : ∀ q : Nat, s.heap.size ≤ q → A q := fun q h => by rw [← hAe]; exact Or.inr h
  have hS : va_S A s.heap s.heap [] := va_S.rf
  have hK := hC.K
  have hts := hC.ts [.ref (r 0), .int oi, .int n, .int w].toArray
  have hl := lv_entry ([.ref (r 0), .int oi, .int n, .int w]) (n := 7) (Nat.le_of_ble_eq_true rfl)
  rw [lg_entry_eq]
  generalize (lg_sl ([.ref (r 0), .int oi, .int n, .int w]) ++ List.replicate (7 - (lg_sl ([.ref (r 0), .int oi, .int n, .int w])).length) Slot.unset).toArray = ls at hl ⊢
  have hl : lv_has ls 7 [(0, .ref (r 0)), (1, .int oi), (2, .int n), (3, .int w)] := hl
  refine lv_iload_n hx hb kd_R_exact_0 rfl (lv_at hl 1 rfl) ?_
  refine lv_aload_n hx hb kd_R_exact_1 rfl (lv_at hl 0 rfl) ?_
  refine va_get (D := D) (ci := 7) (v := .int (nI ro)) (C := "HostBridgeModel") (T := ct_R) (N := 23) hx hb hts cw_R hown hK hP 0 rfl rfl 3 (by decide) (hts _ km_624) (fun _ h9 => h9) rfl kd_R_exact_2 ?_
  refine hx_callRi (va_runS (As := [.int oi, .int (nI ro)]) (rest := []) ⟨hx, hb, hml, hown, hts⟩ (mr_isNo oi ro) (va_cwS 2 hts (goodIn_sub (hx_m4 km_700 km_701 km_8 km_702) (by decide +kernel)) rfl rfl rfl (by decide +kernel) ⟨Nat.le_of_ble_eq_true rfl, Nat.le_of_ble_eq_true rfl⟩) (pr_S (hC.S hS) hP [] rfl) rfl rfl hl.1 rfl (lv_room (Nat.le_of_ble_eq_true rfl)) kd_R_exact_5 ⟨Nat.le_of_ble_eq_true rfl, Nat.le_of_ble_eq_true rfl⟩) ?_
  refine lv_if_ne (tgt := 33) hx hb kd_R_exact_8 (by decide) (fun c_8 => ?_) (fun c_8 => ?_)
  · skip
    refine lv_iconst (v := 1) hx hb kd_R_exact_33 (by decide) ?_
    refine lv_goto (tgt := 38) hx hb kd_R_exact_34 (by decide) ?_
    refine lv_istore (lv' := [(4, .int 1), (0, .ref (r 0)), (1, .int oi), (2, .int n), (3, .int w)]) hx hb kd_R_exact_38 hl (by decide) rfl (fun ls hl => ?_)
    refine lv_iconst (v := -1) hx hb kd_R_exact_40 (by decide) ?_
    refine lv_istore (lv' := [(5, .int (-1)), (4, .int 1), (0, .ref (r 0)), (1, .int oi), (2, .int n), (3, .int w)]) hx hb kd_R_exact_41 hl (by decide) rfl (fun ls hl => ?_)
    refine lv_iload hx hb kd_R_exact_43 (lv_at hl 1 rfl) ?_
    refine lv_if_eq (tgt := 52) hx hb kd_R_exact_45 (by decide) (fun c_45 => ?_) (fun c_45 => ?_)
    · exact absurd c_45 (by decide)
    · skip
      refine lv_iconst (v := -1) hx hb kd_R_exact_48 (by decide) ?_
      refine lv_goto (tgt := 58) hx hb kd_R_exact_49 (by decide) ?_
      refine lv_istore (lv' := [(6, .int (-1)), (5, .int (-1)), (4, .int 1), (0, .ref (r 0)), (1, .int oi), (2, .int n), (3, .int w)]) hx hb kd_R_exact_58 hl (by decide) rfl (fun ls hl => ?_)
      refine lv_iload hx hb kd_R_exact_60 (lv_at hl 0 rfl) ?_
      refine lv_if_lt (tgt := 95) hx hb kd_R_exact_62 (by decide) (fun c_62 => ?_) (fun c_62 => ?_)
      · skip
        refine lv_aload_n hx hb kd_R_exact_95 rfl (lv_at hl 3 rfl) ?_
        refine lv_iload hx hb kd_R_exact_96 (lv_at hl 2 rfl) ?_
        refine lv_iload hx hb kd_R_exact_98 (lv_at hl 2 rfl) ?_
        refine lv_if_ne (tgt := 121) hx hb kd_R_exact_100 (by decide) (fun c_100 => ?_) (fun c_100 => ?_)
        · skip
          refine lv_iconst (v := 0) hx hb kd_R_exact_121 (by decide) ?_
          refine lv_iconst (v := 0) hx hb kd_R_exact_122 (by decide) ?_
          refine hx_callWi (va_runV (As := [.int 1, .int 0, .int 0]) (rest := []) ⟨hx, hb, hml, hown, hts⟩ (mr_throwing1 r rc ro rm ra rl rw th gv rp rk ow rn ct rt ki aq cd g1 g2 g3 rb gw an _) (cwV 3 hts (goodIn_sub (hx_m5 km_703 km_705 kv_R_throwing km_8 km_706) (by decide +kernel)) rfl rfl rfl (by decide +kernel) ⟨Nat.le_of_ble_eq_true rfl, Nat.le_of_ble_eq_true rfl⟩) (pw_V (hC.S hS) hP hD hS hA [0] (by decide) rfl (ci := 7) rfl (q0 := 0) rfl) rfl rfl hl.1 rfl (lv_room (Nat.le_of_ble_eq_true rfl)) kd_R_exact_123 ⟨Nat.le_of_ble_eq_true rfl, Nat.le_of_ble_eq_true rfl⟩) hP hD hS hA [0] rfl rfl (fun H locs hP hD hS hF => ?_)
          have hP : va_P D cl_all [((r 0), .inr (7, [.int 1, .int (nI rc), .ref (r 1), .int (nI ro), .ref (r 2), .int (nI rm), .ref (r 3), .ref (r 4), .ref (r 5), .ref (r 6), .int (nI ra), .ref (r 7), .ref (r 8), .ref (r 9), .ref (r 10), .int (nI rl), .ref (r 11), .ref (r 12), .ref (r 13), .ref (r 14), .int (nI rw), .ref (r 15), .long gv])), ((r 1), .inl (cI, 16, .inl rp)), ((r 2), .inl (cI, 64, .inl rk)), ((r 3), .inl (cI, 64, .inl ow)), ((r 4), .inl (cI, 64, .inl rn)), ((r 5), .inl (cI, 64, .inl ct)), ((r 6), .inl (cI, 256, .inl rt)), ((r 7), .inl (cI, 4, .inl ki)), ((r 8), .inl (cL, 4, .inr (.inl rb))), ((r 9), .inl (cI, 4, .inl aq)), ((r 10), .inl (cZ, 64, .inl cd)), ((r 11), .inl (cI, 64, .inl g1)), ((r 12), .inl (cI, 64, .inl g2)), ((r 13), .inl (cI, 64, .inl g3)), ((r 14), .inl (cL, 256, .inr (.inl gw))), ((r 15), .inl (cL, 64, .inr (.inl an)))] H := hP
          have hD : va_D A [((r 0), .inr (7, [.int 1, .int (nI rc), .ref (r 1), .int (nI ro), .ref (r 2), .int (nI rm), .ref (r 3), .ref (r 4), .ref (r 5), .ref (r 6), .int (nI ra), .ref (r 7), .ref (r 8), .ref (r 9), .ref (r 10), .int (nI rl), .ref (r 11), .ref (r 12), .ref (r 13), .ref (r 14), .int (nI rw), .ref (r 15), .long gv])), ((r 1), .inl (cI, 16, .inl rp)), ((r 2), .inl (cI, 64, .inl rk)), ((r 3), .inl (cI, 64, .inl ow)), ((r 4), .inl (cI, 64, .inl rn)), ((r 5), .inl (cI, 64, .inl ct)), ((r 6), .inl (cI, 256, .inl rt)), ((r 7), .inl (cI, 4, .inl ki)), ((r 8), .inl (cL, 4, .inr (.inl rb))), ((r 9), .inl (cI, 4, .inl aq)), ((r 10), .inl (cZ, 64, .inl cd)), ((r 11), .inl (cI, 64, .inl g1)), ((r 12), .inl (cI, 64, .inl g2)), ((r 13), .inl (cI, 64, .inl g3)), ((r 14), .inl (cL, 256, .inr (.inl gw))), ((r 15), .inl (cL, 64, .inr (.inl an)))] := hD
          refine hx_topi (y := 1) (rfl) ?_
          refine lv_if_eq (tgt := 136) hx hb kd_R_exact_126 (by decide) (fun c_126 => ?_) (fun c_126 => ?_)
          · exact absurd c_126 (by decide)
          · skip
            refine lv_aload_n hx hb kd_R_exact_129 rfl (lv_at hl 3 rfl) ?_
            refine lv_iconst (v := 0) hx hb kd_R_exact_130 (by decide) ?_
            refine hx_topi (y := nI 0) (rfl) ?_
            refine va_put (D := D) (ci := 7) (v := .int (nI 0)) (ty := .int) (C := "HostBridgeModel") (T := ct_R) (N := 23) hx hb hts cw_R cy_R cp_R cn_R hown hK hP hD hS 0 rfl rfl 10 (by decide) (hts _ km_631) (fun _ h9 => h9) rfl (by decide +kernel) rfl rfl (Nat.le_of_ble_eq_true rfl) kd_R_exact_131 (fun H locs hP hD hS => ?_)
            have hP : va_P D cl_all [((r 0), .inr (7, [.int 1, .int (nI rc), .ref (r 1), .int (nI ro), .ref (r 2), .int (nI rm), .ref (r 3), .ref (r 4), .ref (r 5), .ref (r 6), .int (nI 0), .ref (r 7), .ref (r 8), .ref (r 9), .ref (r 10), .int (nI rl), .ref (r 11), .ref (r 12), .ref (r 13), .ref (r 14), .int (nI rw), .ref (r 15), .long gv])), ((r 1), .inl (cI, 16, .inl rp)), ((r 2), .inl (cI, 64, .inl rk)), ((r 3), .inl (cI, 64, .inl ow)), ((r 4), .inl (cI, 64, .inl rn)), ((r 5), .inl (cI, 64, .inl ct)), ((r 6), .inl (cI, 256, .inl rt)), ((r 7), .inl (cI, 4, .inl ki)), ((r 8), .inl (cL, 4, .inr (.inl rb))), ((r 9), .inl (cI, 4, .inl aq)), ((r 10), .inl (cZ, 64, .inl cd)), ((r 11), .inl (cI, 64, .inl g1)), ((r 12), .inl (cI, 64, .inl g2)), ((r 13), .inl (cI, 64, .inl g3)), ((r 14), .inl (cL, 256, .inr (.inl gw))), ((r 15), .inl (cL, 64, .inr (.inl an)))] H := hP
            have hD : va_D A [((r 0), .inr (7, [.int 1, .int (nI rc), .ref (r 1), .int (nI ro), .ref (r 2), .int (nI rm), .ref (r 3), .ref (r 4), .ref (r 5), .ref (r 6), .int (nI 0), .ref (r 7), .ref (r 8), .ref (r 9), .ref (r 10), .int (nI rl), .ref (r 11), .ref (r 12), .ref (r 13), .ref (r 14), .int (nI rw), .ref (r 15), .long gv])), ((r 1), .inl (cI, 16, .inl rp)), ((r 2), .inl (cI, 64, .inl rk)), ((r 3), .inl (cI, 64, .inl ow)), ((r 4), .inl (cI, 64, .inl rn)), ((r 5), .inl (cI, 64, .inl ct)), ((r 6), .inl (cI, 256, .inl rt)), ((r 7), .inl (cI, 4, .inl ki)), ((r 8), .inl (cL, 4, .inr (.inl rb))), ((r 9), .inl (cI, 4, .inl aq)), ((r 10), .inl (cZ, 64, .inl cd)), ((r 11), .inl (cI, 64, .inl g1)), ((r 12), .inl (cI, 64, .inl g2)), ((r 13), .inl (cI, 64, .inl g3)), ((r 14), .inl (cL, 256, .inr (.inl gw))), ((r 15), .inl (cL, 64, .inr (.inl an)))] := hD
            refine lv_iconst (v := 0) hx hb kd_R_exact_134 (by decide) ?_
            exact hx_iretW hx hb hr hlocks (rfl) (hP) hS kd_R_exact_135
        · exact absurd c_100 (by decide)
      · exact absurd c_62 (not_not_intro (by decide))
  · skip
    refine lv_iload_n hx hb kd_R_exact_11 rfl (lv_at hl 2 rfl) ?_
    refine lv_sipush (v := 1000) hx hb kd_R_exact_12 (by decide) ?_
    refine hx_topi (y := nI 1000) (by decide) ?_
    refine hx_callRi (va_runS (As := [.int n, .int (nI 1000)]) (rest := []) ⟨hx, hb, hml, hown, hts⟩ (mr_isNo n 1000) (va_cwS 2 hts (goodIn_sub (hx_m4 km_700 km_701 km_8 km_702) (by decide +kernel)) rfl rfl rfl (by decide +kernel) ⟨Nat.le_of_ble_eq_true rfl, Nat.le_of_ble_eq_true rfl⟩) (pr_S (hC.S hS) hP [] rfl) rfl rfl hl.1 rfl (lv_room (Nat.le_of_ble_eq_true rfl)) kd_R_exact_15 ⟨Nat.le_of_ble_eq_true rfl, Nat.le_of_ble_eq_true rfl⟩) ?_
    refine lv_if_ne (tgt := 33) hx hb kd_R_exact_18 (by decide) (fun c_18 => ?_) (fun c_18 => ?_)
    · skip
      refine lv_iconst (v := 1) hx hb kd_R_exact_33 (by decide) ?_
      refine lv_goto (tgt := 38) hx hb kd_R_exact_34 (by decide) ?_
      refine lv_istore (lv' := [(4, .int 1), (0, .ref (r 0)), (1, .int oi), (2, .int n), (3, .int w)]) hx hb kd_R_exact_38 hl (by decide) rfl (fun ls hl => ?_)
      refine lv_iconst (v := -1) hx hb kd_R_exact_40 (by decide) ?_
      refine lv_istore (lv' := [(5, .int (-1)), (4, .int 1), (0, .ref (r 0)), (1, .int oi), (2, .int n), (3, .int w)]) hx hb kd_R_exact_41 hl (by decide) rfl (fun ls hl => ?_)
      refine lv_iload hx hb kd_R_exact_43 (lv_at hl 1 rfl) ?_
      refine lv_if_eq (tgt := 52) hx hb kd_R_exact_45 (by decide) (fun c_45 => ?_) (fun c_45 => ?_)
      · exact absurd c_45 (by decide)
      · skip
        refine lv_iconst (v := -1) hx hb kd_R_exact_48 (by decide) ?_
        refine lv_goto (tgt := 58) hx hb kd_R_exact_49 (by decide) ?_
        refine lv_istore (lv' := [(6, .int (-1)), (5, .int (-1)), (4, .int 1), (0, .ref (r 0)), (1, .int oi), (2, .int n), (3, .int w)]) hx hb kd_R_exact_58 hl (by decide) rfl (fun ls hl => ?_)
        refine lv_iload hx hb kd_R_exact_60 (lv_at hl 0 rfl) ?_
        refine lv_if_lt (tgt := 95) hx hb kd_R_exact_62 (by decide) (fun c_62 => ?_) (fun c_62 => ?_)
        · skip
          refine lv_aload_n hx hb kd_R_exact_95 rfl (lv_at hl 3 rfl) ?_
          refine lv_iload hx hb kd_R_exact_96 (lv_at hl 2 rfl) ?_
          refine lv_iload hx hb kd_R_exact_98 (lv_at hl 2 rfl) ?_
          refine lv_if_ne (tgt := 121) hx hb kd_R_exact_100 (by decide) (fun c_100 => ?_) (fun c_100 => ?_)
          · skip
            refine lv_iconst (v := 0) hx hb kd_R_exact_121 (by decide) ?_
            refine lv_iconst (v := 0) hx hb kd_R_exact_122 (by decide) ?_
            refine hx_callWi (va_runV (As := [.int 1, .int 0, .int 0]) (rest := []) ⟨hx, hb, hml, hown, hts⟩ (mr_throwing1 r rc ro rm ra rl rw th gv rp rk ow rn ct rt ki aq cd g1 g2 g3 rb gw an _) (cwV 3 hts (goodIn_sub (hx_m5 km_703 km_705 kv_R_throwing km_8 km_706) (by decide +kernel)) rfl rfl rfl (by decide +kernel) ⟨Nat.le_of_ble_eq_true rfl, Nat.le_of_ble_eq_true rfl⟩) (pw_V (hC.S hS) hP hD hS hA [0] (by decide) rfl (ci := 7) rfl (q0 := 0) rfl) rfl rfl hl.1 rfl (lv_room (Nat.le_of_ble_eq_true rfl)) kd_R_exact_123 ⟨Nat.le_of_ble_eq_true rfl, Nat.le_of_ble_eq_true rfl⟩) hP hD hS hA [0] rfl rfl (fun H locs hP hD hS hF => ?_)
            have hP : va_P D cl_all [((r 0), .inr (7, [.int 1, .int (nI rc), .ref (r 1), .int (nI ro), .ref (r 2), .int (nI rm), .ref (r 3), .ref (r 4), .ref (r 5), .ref (r 6), .int (nI ra), .ref (r 7), .ref (r 8), .ref (r 9), .ref (r 10), .int (nI rl), .ref (r 11), .ref (r 12), .ref (r 13), .ref (r 14), .int (nI rw), .ref (r 15), .long gv])), ((r 1), .inl (cI, 16, .inl rp)), ((r 2), .inl (cI, 64, .inl rk)), ((r 3), .inl (cI, 64, .inl ow)), ((r 4), .inl (cI, 64, .inl rn)), ((r 5), .inl (cI, 64, .inl ct)), ((r 6), .inl (cI, 256, .inl rt)), ((r 7), .inl (cI, 4, .inl ki)), ((r 8), .inl (cL, 4, .inr (.inl rb))), ((r 9), .inl (cI, 4, .inl aq)), ((r 10), .inl (cZ, 64, .inl cd)), ((r 11), .inl (cI, 64, .inl g1)), ((r 12), .inl (cI, 64, .inl g2)), ((r 13), .inl (cI, 64, .inl g3)), ((r 14), .inl (cL, 256, .inr (.inl gw))), ((r 15), .inl (cL, 64, .inr (.inl an)))] H := hP
            have hD : va_D A [((r 0), .inr (7, [.int 1, .int (nI rc), .ref (r 1), .int (nI ro), .ref (r 2), .int (nI rm), .ref (r 3), .ref (r 4), .ref (r 5), .ref (r 6), .int (nI ra), .ref (r 7), .ref (r 8), .ref (r 9), .ref (r 10), .int (nI rl), .ref (r 11), .ref (r 12), .ref (r 13), .ref (r 14), .int (nI rw), .ref (r 15), .long gv])), ((r 1), .inl (cI, 16, .inl rp)), ((r 2), .inl (cI, 64, .inl rk)), ((r 3), .inl (cI, 64, .inl ow)), ((r 4), .inl (cI, 64, .inl rn)), ((r 5), .inl (cI, 64, .inl ct)), ((r 6), .inl (cI, 256, .inl rt)), ((r 7), .inl (cI, 4, .inl ki)), ((r 8), .inl (cL, 4, .inr (.inl rb))), ((r 9), .inl (cI, 4, .inl aq)), ((r 10), .inl (cZ, 64, .inl cd)), ((r 11), .inl (cI, 64, .inl g1)), ((r 12), .inl (cI, 64, .inl g2)), ((r 13), .inl (cI, 64, .inl g3)), ((r 14), .inl (cL, 256, .inr (.inl gw))), ((r 15), .inl (cL, 64, .inr (.inl an)))] := hD
            refine hx_topi (y := 1) (rfl) ?_
            refine lv_if_eq (tgt := 136) hx hb kd_R_exact_126 (by decide) (fun c_126 => ?_) (fun c_126 => ?_)
            · exact absurd c_126 (by decide)
            · skip
              refine lv_aload_n hx hb kd_R_exact_129 rfl (lv_at hl 3 rfl) ?_
              refine lv_iconst (v := 0) hx hb kd_R_exact_130 (by decide) ?_
              refine hx_topi (y := nI 0) (rfl) ?_
              refine va_put (D := D) (ci := 7) (v := .int (nI 0)) (ty := .int) (C := "HostBridgeModel") (T := ct_R) (N := 23) hx hb hts cw_R cy_R cp_R cn_R hown hK hP hD hS 0 rfl rfl 10 (by decide) (hts _ km_631) (fun _ h9 => h9) rfl (by decide +kernel) rfl rfl (Nat.le_of_ble_eq_true rfl) kd_R_exact_131 (fun H locs hP hD hS => ?_)
              have hP : va_P D cl_all [((r 0), .inr (7, [.int 1, .int (nI rc), .ref (r 1), .int (nI ro), .ref (r 2), .int (nI rm), .ref (r 3), .ref (r 4), .ref (r 5), .ref (r 6), .int (nI 0), .ref (r 7), .ref (r 8), .ref (r 9), .ref (r 10), .int (nI rl), .ref (r 11), .ref (r 12), .ref (r 13), .ref (r 14), .int (nI rw), .ref (r 15), .long gv])), ((r 1), .inl (cI, 16, .inl rp)), ((r 2), .inl (cI, 64, .inl rk)), ((r 3), .inl (cI, 64, .inl ow)), ((r 4), .inl (cI, 64, .inl rn)), ((r 5), .inl (cI, 64, .inl ct)), ((r 6), .inl (cI, 256, .inl rt)), ((r 7), .inl (cI, 4, .inl ki)), ((r 8), .inl (cL, 4, .inr (.inl rb))), ((r 9), .inl (cI, 4, .inl aq)), ((r 10), .inl (cZ, 64, .inl cd)), ((r 11), .inl (cI, 64, .inl g1)), ((r 12), .inl (cI, 64, .inl g2)), ((r 13), .inl (cI, 64, .inl g3)), ((r 14), .inl (cL, 256, .inr (.inl gw))), ((r 15), .inl (cL, 64, .inr (.inl an)))] H := hP
              have hD : va_D A [((r 0), .inr (7, [.int 1, .int (nI rc), .ref (r 1), .int (nI ro), .ref (r 2), .int (nI rm), .ref (r 3), .ref (r 4), .ref (r 5), .ref (r 6), .int (nI 0), .ref (r 7), .ref (r 8), .ref (r 9), .ref (r 10), .int (nI rl), .ref (r 11), .ref (r 12), .ref (r 13), .ref (r 14), .int (nI rw), .ref (r 15), .long gv])), ((r 1), .inl (cI, 16, .inl rp)), ((r 2), .inl (cI, 64, .inl rk)), ((r 3), .inl (cI, 64, .inl ow)), ((r 4), .inl (cI, 64, .inl rn)), ((r 5), .inl (cI, 64, .inl ct)), ((r 6), .inl (cI, 256, .inl rt)), ((r 7), .inl (cI, 4, .inl ki)), ((r 8), .inl (cL, 4, .inr (.inl rb))), ((r 9), .inl (cI, 4, .inl aq)), ((r 10), .inl (cZ, 64, .inl cd)), ((r 11), .inl (cI, 64, .inl g1)), ((r 12), .inl (cI, 64, .inl g2)), ((r 13), .inl (cI, 64, .inl g3)), ((r 14), .inl (cL, 256, .inr (.inl gw))), ((r 15), .inl (cL, 64, .inr (.inl an)))] := hD
              refine lv_iconst (v := 0) hx hb kd_R_exact_134 (by decide) ?_
              exact hx_iretW hx hb hr hlocks (rfl) (hP) hS kd_R_exact_135
          · exact absurd c_100 (by decide)
        · exact absurd c_62 (not_not_intro (by decide))
    · exact absurd hf (by rw [show fb_in oi ro = true by simpa using b2_f c_8, show fb_in n 1000 = true by simpa using b2_f c_18]; decide)

set_option maxHeartbeats 4000000 in
set_option maxRecDepth 100000 in
theorem mr_exact1b {l : Launch} {D : va_G} {cI cL cZ : ClassId} {tb : Nat} (r : Nat → Nat) (rc ro rm ra rl rw : Nat) (th : Int32) (gv : Int64) (rp rk ow rn ct rt ki aq cd g1 g2 g3 : Nat → Int32) (rb gw an : Nat → Int64) (o : Nat) (n w : Int32) (ho : o < ro) (hn1 : fb_in n 1000 = true) (hra : ra ≤ 4) (hrc : rc ≤ 16) (hno : ro ≤ 64) (ht : ty_ok rc w ra = false) (sz : Nat) : Met l ky_R_exact kw_R_exact { frames := 1, cells := 0, slots := 0, locals := 26 } (pw_P D cI cL cZ tb [((r 0), .inr (7, [.int th, .int (nI rc), .ref (r 1), .int (nI ro), .ref (r 2), .int (nI rm), .ref (r 3), .ref (r 4), .ref (r 5), .ref (r 6), .int (nI ra), .ref (r 7), .ref (r 8), .ref (r 9), .ref (r 10), .int (nI rl), .ref (r 11), .ref (r 12), .ref (r 13), .ref (r 14), .int (nI rw), .ref (r 15), .long gv])), ((r 1), .inl (cI, 16, .inl rp)), ((r 2), .inl (cI, 64, .inl rk)), ((r 3), .inl (cI, 64, .inl ow)), ((r 4), .inl (cI, 64, .inl rn)), ((r 5), .inl (cI, 64, .inl ct)), ((r 6), .inl (cI, 256, .inl rt)), ((r 7), .inl (cI, 4, .inl ki)), ((r 8), .inl (cL, 4, .inr (.inl rb))), ((r 9), .inl (cI, 4, .inl aq)), ((r 10), .inl (cZ, 64, .inl cd)), ((r 11), .inl (cI, 64, .inl g1)), ((r 12), .inl (cI, 64, .inl g2)), ((r 13), .inl (cI, 64, .inl g3)), ((r 14), .inl (cL, 256, .inr (.inl gw))), ((r 15), .inl (cL, 64, .inr (.inl an)))] sz [.ref (r 0), .int (nI o), .int n, .int w]) (hx_QW D (some (.int 0)) [((r 0), .inr (7, [.int 1, .int (nI rc), .ref (r 1), .int (nI ro), .ref (r 2), .int (nI rm), .ref (r 3), .ref (r 4), .ref (r 5), .ref (r 6), .int (nI 0), .ref (r 7), .ref (r 8), .ref (r 9), .ref (r 10), .int (nI rl), .ref (r 11), .ref (r 12), .ref (r 13), .ref (r 14), .int (nI rw), .ref (r 15), .long gv])), ((r 1), .inl (cI, 16, .inl rp)), ((r 2), .inl (cI, 64, .inl rk)), ((r 3), .inl (cI, 64, .inl ow)), ((r 4), .inl (cI, 64, .inl rn)), ((r 5), .inl (cI, 64, .inl ct)), ((r 6), .inl (cI, 256, .inl rt)), ((r 7), .inl (cI, 4, .inl ki)), ((r 8), .inl (cL, 4, .inr (.inl rb))), ((r 9), .inl (cI, 4, .inl (lf_ (as_ w ra) aq ra))), ((r 10), .inl (cZ, 64, .inl cd)), ((r 11), .inl (cI, 64, .inl g1)), ((r 12), .inl (cI, 64, .inl g2)), ((r 13), .inl (cI, 64, .inl g3)), ((r 14), .inl (cL, 256, .inr (.inl gw))), ((r 15), .inl (cL, 64, .inr (.inl an)))] (va_A [((r 0), .inr (7, [.int th, .int (nI rc), .ref (r 1), .int (nI ro), .ref (r 2), .int (nI rm), .ref (r 3), .ref (r 4), .ref (r 5), .ref (r 6), .int (nI ra), .ref (r 7), .ref (r 8), .ref (r 9), .ref (r 10), .int (nI rl), .ref (r 11), .ref (r 12), .ref (r 13), .ref (r 14), .int (nI rw), .ref (r 15), .long gv])), ((r 1), .inl (cI, 16, .inl rp)), ((r 2), .inl (cI, 64, .inl rk)), ((r 3), .inl (cI, 64, .inl ow)), ((r 4), .inl (cI, 64, .inl rn)), ((r 5), .inl (cI, 64, .inl ct)), ((r 6), .inl (cI, 256, .inl rt)), ((r 7), .inl (cI, 4, .inl ki)), ((r 8), .inl (cL, 4, .inr (.inl rb))), ((r 9), .inl (cI, 4, .inl aq)), ((r 10), .inl (cZ, 64, .inl cd)), ((r 11), .inl (cI, 64, .inl g1)), ((r 12), .inl (cI, 64, .inl g2)), ((r 13), .inl (cI, 64, .inl g3)), ((r 14), .inl (cL, 256, .inr (.inl gw))), ((r 15), .inl (cL, 64, .inr (.inl an)))] sz)) 0 0 (va_A [((r 0), .inr (7, [.int th, .int (nI rc), .ref (r 1), .int (nI ro), .ref (r 2), .int (nI rm), .ref (r 3), .ref (r 4), .ref (r 5), .ref (r 6), .int (nI ra), .ref (r 7), .ref (r 8), .ref (r 9), .ref (r 10), .int (nI rl), .ref (r 11), .ref (r 12), .ref (r 13), .ref (r 14), .int (nI rw), .ref (r 15), .long gv])), ((r 1), .inl (cI, 16, .inl rp)), ((r 2), .inl (cI, 64, .inl rk)), ((r 3), .inl (cI, 64, .inl ow)), ((r 4), .inl (cI, 64, .inl rn)), ((r 5), .inl (cI, 64, .inl ct)), ((r 6), .inl (cI, 256, .inl rt)), ((r 7), .inl (cI, 4, .inl ki)), ((r 8), .inl (cL, 4, .inr (.inl rb))), ((r 9), .inl (cI, 4, .inl aq)), ((r 10), .inl (cZ, 64, .inl cd)), ((r 11), .inl (cI, 64, .inl g1)), ((r 12), .inl (cI, 64, .inl g2)), ((r 13), .inl (cI, 64, .inl g3)), ((r 14), .inl (cL, 256, .inr (.inl gw))), ((r 15), .inl (cL, 64, .inr (.inl an)))] sz) := by
  refine Met.ofW (cc := kc_R_exact) (maxL := 7) (ret := (some .int)) (by decide) rfl ?_
  intro p e s m args below meth c s₁ B hml hv
  obtain ⟨rfl, hsz, hC, hP, hD0⟩ := hv
  have hx := B.exec
  have hb := B.bytes
  have hr := B.returns
  have hlocks := B.notSynchronized
  have hown : s.vm.findClass "HostBridgeModel" = some m.cls := findClass_of_methodNamed B.named
  subst hsz
  have hD := hD0.self (sz := s.heap.size)
  generalize hAe : va_A [((r 0), .inr (7, [.int th, .int (nI rc), .ref (r 1), .int (nI ro), .ref (r 2), .int (nI rm), .ref (r 3), .ref (r 4), .ref (r 5), .ref (r 6), .int (nI ra), .ref (r 7), .ref (r 8), .ref (r 9), .ref (r 10), .int (nI rl), .ref (r 11), .ref (r 12), .ref (r 13), .ref (r 14), .int (nI rw), .ref (r 15), .long gv])), ((r 1), .inl (cI, 16, .inl rp)), ((r 2), .inl (cI, 64, .inl rk)), ((r 3), .inl (cI, 64, .inl ow)), ((r 4), .inl (cI, 64, .inl rn)), ((r 5), .inl (cI, 64, .inl ct)), ((r 6), .inl (cI, 256, .inl rt)), ((r 7), .inl (cI, 4, .inl ki)), ((r 8), .inl (cL, 4, .inr (.inl rb))), ((r 9), .inl (cI, 4, .inl aq)), ((r 10), .inl (cZ, 64, .inl cd)), ((r 11), .inl (cI, 64, .inl g1)), ((r 12), .inl (cI, 64, .inl g2)), ((r 13), .inl (cI, 64, .inl g3)), ((r 14), .inl (cL, 256, .inr (.inl gw))), ((r 15), .inl (cL, 64, .inr (.inl an)))] s.heap.size = A at hD hC ⊢
  have hA : ∀ q : Nat, s.heap.size ≤ q → A q := fun q h => by rw [← hAe]; exact Or.inr h
  have hS : va_S A s.heap s.heap [] := va_S.rf
  have hK := hC.K
  have hts := hC.ts [.ref (r 0), .int (nI o), .int n, .int w].toArray
  have hl := lv_entry ([.ref (r 0), .int (nI o), .int n, .int w]) (n := 7) (Nat.le_of_ble_eq_true rfl)
  rw [lg_entry_eq]
  generalize (lg_sl ([.ref (r 0), .int (nI o), .int n, .int w]) ++ List.replicate (7 - (lg_sl ([.ref (r 0), .int (nI o), .int n, .int w])).length) Slot.unset).toArray = ls at hl ⊢
  have hl : lv_has ls 7 [(0, .ref (r 0)), (1, .int (nI o)), (2, .int n), (3, .int w)] := hl
  refine lv_iload_n hx hb kd_R_exact_0 rfl (lv_at hl 1 rfl) ?_
  refine lv_aload_n hx hb kd_R_exact_1 rfl (lv_at hl 0 rfl) ?_
  refine va_get (D := D) (ci := 7) (v := .int (nI ro)) (C := "HostBridgeModel") (T := ct_R) (N := 23) hx hb hts cw_R hown hK hP 0 rfl rfl 3 (by decide) (hts _ km_624) (fun _ h9 => h9) rfl kd_R_exact_2 ?_
  refine hx_callRi (va_runS (As := [.int (nI o), .int (nI ro)]) (rest := []) ⟨hx, hb, hml, hown, hts⟩ (mr_isNo (nI o) ro) (va_cwS 2 hts (goodIn_sub (hx_m4 km_700 km_701 km_8 km_702) (by decide +kernel)) rfl rfl rfl (by decide +kernel) ⟨Nat.le_of_ble_eq_true rfl, Nat.le_of_ble_eq_true rfl⟩) (pr_S (hC.S hS) hP [] rfl) rfl rfl hl.1 rfl (lv_room (Nat.le_of_ble_eq_true rfl)) kd_R_exact_5 ⟨Nat.le_of_ble_eq_true rfl, Nat.le_of_ble_eq_true rfl⟩) ?_
  refine hx_topi (y := 0) (by rw [(fb_in_iff (by omega)).mpr ⟨o, ho, rfl⟩]; rfl) ?_
  refine lv_if_ne (tgt := 33) hx hb kd_R_exact_8 (by decide) (fun c_8 => ?_) (fun c_8 => ?_)
  · exact absurd c_8 (not_not_intro rfl)
  · skip
    refine lv_iload_n hx hb kd_R_exact_11 rfl (lv_at hl 2 rfl) ?_
    refine lv_sipush (v := 1000) hx hb kd_R_exact_12 (by decide) ?_
    refine hx_topi (y := nI 1000) (by decide) ?_
    refine hx_callRi (va_runS (As := [.int n, .int (nI 1000)]) (rest := []) ⟨hx, hb, hml, hown, hts⟩ (mr_isNo n 1000) (va_cwS 2 hts (goodIn_sub (hx_m4 km_700 km_701 km_8 km_702) (by decide +kernel)) rfl rfl rfl (by decide +kernel) ⟨Nat.le_of_ble_eq_true rfl, Nat.le_of_ble_eq_true rfl⟩) (pr_S (hC.S hS) hP [] rfl) rfl rfl hl.1 rfl (lv_room (Nat.le_of_ble_eq_true rfl)) kd_R_exact_15 ⟨Nat.le_of_ble_eq_true rfl, Nat.le_of_ble_eq_true rfl⟩) ?_
    refine hx_topi (y := 0) (by rw [hn1]; rfl) ?_
    refine lv_if_ne (tgt := 33) hx hb kd_R_exact_18 (by decide) (fun c_18 => ?_) (fun c_18 => ?_)
    · exact absurd c_18 (not_not_intro rfl)
    · skip
      refine lv_aload_n hx hb kd_R_exact_21 rfl (lv_at hl 0 rfl) ?_
      refine lv_aload_n hx hb kd_R_exact_22 rfl (lv_at hl 0 rfl) ?_
      refine va_get (D := D) (ci := 7) (v := .int (nI ra)) (C := "HostBridgeModel") (T := ct_R) (N := 23) hx hb hts cw_R hown hK hP 0 rfl rfl 10 (by decide) (hts _ km_631) (fun _ h9 => h9) rfl kd_R_exact_23 ?_
      refine lv_iload_n hx hb kd_R_exact_26 rfl (lv_at hl 3 rfl) ?_
      refine hx_callWai (va_runV (As := [.int (nI ra), .int w]) (rest := []) ⟨hx, hb, hml, hown, hts⟩ (mr_asks r rc ro rm ra rl rw th gv rp rk ow rn ct rt ki aq cd g1 g2 g3 rb gw an ra w hra hrc _) (cwV 2 hts (goodIn_sub (hx_m5 km_711 km_713 kv_R_asks km_8 km_714) (by decide +kernel)) rfl rfl rfl (by decide +kernel) ⟨Nat.le_of_ble_eq_true rfl, Nat.le_of_ble_eq_true rfl⟩) (pw_V (hC.S hS) hP hD hS hA [0, 1, 2, 3, 4, 5, 6, 7, 8, 9, 10, 11, 12, 13, 14, 15] (by decide) rfl (ci := 7) rfl (q0 := 0) rfl) rfl rfl hl.1 rfl (lv_room (Nat.le_of_ble_eq_true rfl)) kd_R_exact_27 ⟨Nat.le_of_ble_eq_true rfl, Nat.le_of_ble_eq_true rfl⟩) hP hD hS hA rfl (fun H locs hP hD hS => ?_)
      refine hx_topi (y := 0) (by rw [ht]; rfl) ?_
      refine lv_if_ne (tgt := 37) hx hb kd_R_exact_30 (by decide) (fun c_30 => ?_) (fun c_30 => ?_)
      · exact absurd c_30 (not_not_intro rfl)
      · skip
        refine lv_iconst (v := 1) hx hb kd_R_exact_33 (by decide) ?_
        refine lv_goto (tgt := 38) hx hb kd_R_exact_34 (by decide) ?_
        refine lv_istore (lv' := [(4, .int 1), (0, .ref (r 0)), (1, .int (nI o)), (2, .int n), (3, .int w)]) hx hb kd_R_exact_38 hl (by decide) rfl (fun ls hl => ?_)
        refine lv_iconst (v := -1) hx hb kd_R_exact_40 (by decide) ?_
        refine lv_istore (lv' := [(5, .int (-1)), (4, .int 1), (0, .ref (r 0)), (1, .int (nI o)), (2, .int n), (3, .int w)]) hx hb kd_R_exact_41 hl (by decide) rfl (fun ls hl => ?_)
        refine lv_iload hx hb kd_R_exact_43 (lv_at hl 1 rfl) ?_
        refine lv_if_eq (tgt := 52) hx hb kd_R_exact_45 (by decide) (fun c_45 => ?_) (fun c_45 => ?_)
        · exact absurd c_45 (by decide)
        · skip
          refine lv_iconst (v := -1) hx hb kd_R_exact_48 (by decide) ?_
          refine lv_goto (tgt := 58) hx hb kd_R_exact_49 (by decide) ?_
          refine lv_istore (lv' := [(6, .int (-1)), (5, .int (-1)), (4, .int 1), (0, .ref (r 0)), (1, .int (nI o)), (2, .int n), (3, .int w)]) hx hb kd_R_exact_58 hl (by decide) rfl (fun ls hl => ?_)
          refine lv_iload hx hb kd_R_exact_60 (lv_at hl 0 rfl) ?_
          refine lv_if_lt (tgt := 95) hx hb kd_R_exact_62 (by decide) (fun c_62 => ?_) (fun c_62 => ?_)
          · skip
            refine lv_aload_n hx hb kd_R_exact_95 rfl (lv_at hl 3 rfl) ?_
            refine lv_iload hx hb kd_R_exact_96 (lv_at hl 2 rfl) ?_
            refine lv_iload hx hb kd_R_exact_98 (lv_at hl 2 rfl) ?_
            refine lv_if_ne (tgt := 121) hx hb kd_R_exact_100 (by decide) (fun c_100 => ?_) (fun c_100 => ?_)
            · skip
              refine lv_iconst (v := 0) hx hb kd_R_exact_121 (by decide) ?_
              refine lv_iconst (v := 0) hx hb kd_R_exact_122 (by decide) ?_
              refine hx_callWi (va_runV (As := [.int 1, .int 0, .int 0]) (rest := []) ⟨hx, hb, hml, hown, hts⟩ (mr_throwing1 r rc ro rm ra rl rw th gv rp rk ow rn ct rt ki aq cd g1 g2 g3 rb gw an _) (cwV 3 hts (goodIn_sub (hx_m5 km_703 km_705 kv_R_throwing km_8 km_706) (by decide +kernel)) rfl rfl rfl (by decide +kernel) ⟨Nat.le_of_ble_eq_true rfl, Nat.le_of_ble_eq_true rfl⟩) (pw_V (hC.S hS) hP hD hS hA [0] (by decide) rfl (ci := 7) rfl (q0 := 0) rfl) rfl rfl hl.1 rfl (lv_room (Nat.le_of_ble_eq_true rfl)) kd_R_exact_123 ⟨Nat.le_of_ble_eq_true rfl, Nat.le_of_ble_eq_true rfl⟩) hP hD hS hA [0] rfl rfl (fun H locs hP hD hS hF => ?_)
              have hP : va_P D cl_all [((r 0), .inr (7, [.int 1, .int (nI rc), .ref (r 1), .int (nI ro), .ref (r 2), .int (nI rm), .ref (r 3), .ref (r 4), .ref (r 5), .ref (r 6), .int (nI ra), .ref (r 7), .ref (r 8), .ref (r 9), .ref (r 10), .int (nI rl), .ref (r 11), .ref (r 12), .ref (r 13), .ref (r 14), .int (nI rw), .ref (r 15), .long gv])), ((r 1), .inl (cI, 16, .inl rp)), ((r 2), .inl (cI, 64, .inl rk)), ((r 3), .inl (cI, 64, .inl ow)), ((r 4), .inl (cI, 64, .inl rn)), ((r 5), .inl (cI, 64, .inl ct)), ((r 6), .inl (cI, 256, .inl rt)), ((r 7), .inl (cI, 4, .inl ki)), ((r 8), .inl (cL, 4, .inr (.inl rb))), ((r 9), .inl (cI, 4, .inl (lf_ (as_ w ra) aq ra))), ((r 10), .inl (cZ, 64, .inl cd)), ((r 11), .inl (cI, 64, .inl g1)), ((r 12), .inl (cI, 64, .inl g2)), ((r 13), .inl (cI, 64, .inl g3)), ((r 14), .inl (cL, 256, .inr (.inl gw))), ((r 15), .inl (cL, 64, .inr (.inl an)))] H := hP
              have hD : va_D A [((r 0), .inr (7, [.int 1, .int (nI rc), .ref (r 1), .int (nI ro), .ref (r 2), .int (nI rm), .ref (r 3), .ref (r 4), .ref (r 5), .ref (r 6), .int (nI ra), .ref (r 7), .ref (r 8), .ref (r 9), .ref (r 10), .int (nI rl), .ref (r 11), .ref (r 12), .ref (r 13), .ref (r 14), .int (nI rw), .ref (r 15), .long gv])), ((r 1), .inl (cI, 16, .inl rp)), ((r 2), .inl (cI, 64, .inl rk)), ((r 3), .inl (cI, 64, .inl ow)), ((r 4), .inl (cI, 64, .inl rn)), ((r 5), .inl (cI, 64, .inl ct)), ((r 6), .inl (cI, 256, .inl rt)), ((r 7), .inl (cI, 4, .inl ki)), ((r 8), .inl (cL, 4, .inr (.inl rb))), ((r 9), .inl (cI, 4, .inl (lf_ (as_ w ra) aq ra))), ((r 10), .inl (cZ, 64, .inl cd)), ((r 11), .inl (cI, 64, .inl g1)), ((r 12), .inl (cI, 64, .inl g2)), ((r 13), .inl (cI, 64, .inl g3)), ((r 14), .inl (cL, 256, .inr (.inl gw))), ((r 15), .inl (cL, 64, .inr (.inl an)))] := hD
              refine hx_topi (y := 1) (rfl) ?_
              refine lv_if_eq (tgt := 136) hx hb kd_R_exact_126 (by decide) (fun c_126 => ?_) (fun c_126 => ?_)
              · exact absurd c_126 (by decide)
              · skip
                refine lv_aload_n hx hb kd_R_exact_129 rfl (lv_at hl 3 rfl) ?_
                refine lv_iconst (v := 0) hx hb kd_R_exact_130 (by decide) ?_
                refine hx_topi (y := nI 0) (rfl) ?_
                refine va_put (D := D) (ci := 7) (v := .int (nI 0)) (ty := .int) (C := "HostBridgeModel") (T := ct_R) (N := 23) hx hb hts cw_R cy_R cp_R cn_R hown hK hP hD hS 0 rfl rfl 10 (by decide) (hts _ km_631) (fun _ h9 => h9) rfl (by decide +kernel) rfl rfl (Nat.le_of_ble_eq_true rfl) kd_R_exact_131 (fun H locs hP hD hS => ?_)
                have hP : va_P D cl_all [((r 0), .inr (7, [.int 1, .int (nI rc), .ref (r 1), .int (nI ro), .ref (r 2), .int (nI rm), .ref (r 3), .ref (r 4), .ref (r 5), .ref (r 6), .int (nI 0), .ref (r 7), .ref (r 8), .ref (r 9), .ref (r 10), .int (nI rl), .ref (r 11), .ref (r 12), .ref (r 13), .ref (r 14), .int (nI rw), .ref (r 15), .long gv])), ((r 1), .inl (cI, 16, .inl rp)), ((r 2), .inl (cI, 64, .inl rk)), ((r 3), .inl (cI, 64, .inl ow)), ((r 4), .inl (cI, 64, .inl rn)), ((r 5), .inl (cI, 64, .inl ct)), ((r 6), .inl (cI, 256, .inl rt)), ((r 7), .inl (cI, 4, .inl ki)), ((r 8), .inl (cL, 4, .inr (.inl rb))), ((r 9), .inl (cI, 4, .inl (lf_ (as_ w ra) aq ra))), ((r 10), .inl (cZ, 64, .inl cd)), ((r 11), .inl (cI, 64, .inl g1)), ((r 12), .inl (cI, 64, .inl g2)), ((r 13), .inl (cI, 64, .inl g3)), ((r 14), .inl (cL, 256, .inr (.inl gw))), ((r 15), .inl (cL, 64, .inr (.inl an)))] H := hP
                have hD : va_D A [((r 0), .inr (7, [.int 1, .int (nI rc), .ref (r 1), .int (nI ro), .ref (r 2), .int (nI rm), .ref (r 3), .ref (r 4), .ref (r 5), .ref (r 6), .int (nI 0), .ref (r 7), .ref (r 8), .ref (r 9), .ref (r 10), .int (nI rl), .ref (r 11), .ref (r 12), .ref (r 13), .ref (r 14), .int (nI rw), .ref (r 15), .long gv])), ((r 1), .inl (cI, 16, .inl rp)), ((r 2), .inl (cI, 64, .inl rk)), ((r 3), .inl (cI, 64, .inl ow)), ((r 4), .inl (cI, 64, .inl rn)), ((r 5), .inl (cI, 64, .inl ct)), ((r 6), .inl (cI, 256, .inl rt)), ((r 7), .inl (cI, 4, .inl ki)), ((r 8), .inl (cL, 4, .inr (.inl rb))), ((r 9), .inl (cI, 4, .inl (lf_ (as_ w ra) aq ra))), ((r 10), .inl (cZ, 64, .inl cd)), ((r 11), .inl (cI, 64, .inl g1)), ((r 12), .inl (cI, 64, .inl g2)), ((r 13), .inl (cI, 64, .inl g3)), ((r 14), .inl (cL, 256, .inr (.inl gw))), ((r 15), .inl (cL, 64, .inr (.inl an)))] := hD
                refine lv_iconst (v := 0) hx hb kd_R_exact_134 (by decide) ?_
                exact hx_iretW hx hb hr hlocks (rfl) (hP) hS kd_R_exact_135
            · exact absurd c_100 (by decide)
          · exact absurd c_62 (not_not_intro (by decide))

set_option maxHeartbeats 4000000 in
set_option maxRecDepth 100000 in
theorem mr_exact2a {l : Launch} {D : va_G} {cI cL cZ : ClassId} {tb : Nat} (r : Nat → Nat) (rc ro rm ra rl rw : Nat) (th : Int32) (gv : Int64) (rp rk ow rn ct rt ki aq cd g1 g2 g3 : Nat → Int32) (rb gw an : Nat → Int64) (o : Nat) (n w : Int32) (ho : o < ro) (hn1 : fb_in n 1000 = true) (hra : ra ≤ 4) (hrc : rc ≤ 16) (hno : ro ≤ 64) (hrm : rm ≤ 64) (ht : ty_ok rc w ra = true) (hok : ∀ i, i < ra → ki i = 5 → ∃ o : Nat, o < ro ∧ rb i = lN o) (hln : ln_ok rc rp) (hco : ∀ j, j < ro → ∃ q : Nat, q < rc ∧ rk j = nI q) (r9 : Int32) (hr9 : fs_ (fun k => la_ (mq_ ow rn ct rt (lf_ (as_ w ra) aq ra) k n ra) rm) rp 16 (rk o) = r9) (hrv : r9 = -1) (sz : Nat) : Met l ky_R_exact kw_R_exact { frames := 1, cells := 0, slots := 0, locals := 27 } (pw_P D cI cL cZ tb [((r 0), .inr (7, [.int th, .int (nI rc), .ref (r 1), .int (nI ro), .ref (r 2), .int (nI rm), .ref (r 3), .ref (r 4), .ref (r 5), .ref (r 6), .int (nI ra), .ref (r 7), .ref (r 8), .ref (r 9), .ref (r 10), .int (nI rl), .ref (r 11), .ref (r 12), .ref (r 13), .ref (r 14), .int (nI rw), .ref (r 15), .long gv])), ((r 1), .inl (cI, 16, .inl rp)), ((r 2), .inl (cI, 64, .inl rk)), ((r 3), .inl (cI, 64, .inl ow)), ((r 4), .inl (cI, 64, .inl rn)), ((r 5), .inl (cI, 64, .inl ct)), ((r 6), .inl (cI, 256, .inl rt)), ((r 7), .inl (cI, 4, .inl ki)), ((r 8), .inl (cL, 4, .inr (.inl rb))), ((r 9), .inl (cI, 4, .inl aq)), ((r 10), .inl (cZ, 64, .inl cd)), ((r 11), .inl (cI, 64, .inl g1)), ((r 12), .inl (cI, 64, .inl g2)), ((r 13), .inl (cI, 64, .inl g3)), ((r 14), .inl (cL, 256, .inr (.inl gw))), ((r 15), .inl (cL, 64, .inr (.inl an)))] sz [.ref (r 0), .int (nI o), .int n, .int w]) (hx_QW D (some (.int 0)) [((r 0), .inr (7, [.int 2, .int (nI rc), .ref (r 1), .int (nI ro), .ref (r 2), .int (nI rm), .ref (r 3), .ref (r 4), .ref (r 5), .ref (r 6), .int (nI 0), .ref (r 7), .ref (r 8), .ref (r 9), .ref (r 10), .int (nI rl), .ref (r 11), .ref (r 12), .ref (r 13), .ref (r 14), .int (nI rw), .ref (r 15), .long gv])), ((r 1), .inl (cI, 16, .inl rp)), ((r 2), .inl (cI, 64, .inl rk)), ((r 3), .inl (cI, 64, .inl ow)), ((r 4), .inl (cI, 64, .inl rn)), ((r 5), .inl (cI, 64, .inl ct)), ((r 6), .inl (cI, 256, .inl rt)), ((r 7), .inl (cI, 4, .inl ki)), ((r 8), .inl (cL, 4, .inr (.inl rb))), ((r 9), .inl (cI, 4, .inl (lf_ (as_ w ra) aq ra))), ((r 10), .inl (cZ, 64, .inl cd)), ((r 11), .inl (cI, 64, .inl g1)), ((r 12), .inl (cI, 64, .inl g2)), ((r 13), .inl (cI, 64, .inl g3)), ((r 14), .inl (cL, 256, .inr (.inl gw))), ((r 15), .inl (cL, 64, .inr (.inl an)))] (va_A [((r 0), .inr (7, [.int th, .int (nI rc), .ref (r 1), .int (nI ro), .ref (r 2), .int (nI rm), .ref (r 3), .ref (r 4), .ref (r 5), .ref (r 6), .int (nI ra), .ref (r 7), .ref (r 8), .ref (r 9), .ref (r 10), .int (nI rl), .ref (r 11), .ref (r 12), .ref (r 13), .ref (r 14), .int (nI rw), .ref (r 15), .long gv])), ((r 1), .inl (cI, 16, .inl rp)), ((r 2), .inl (cI, 64, .inl rk)), ((r 3), .inl (cI, 64, .inl ow)), ((r 4), .inl (cI, 64, .inl rn)), ((r 5), .inl (cI, 64, .inl ct)), ((r 6), .inl (cI, 256, .inl rt)), ((r 7), .inl (cI, 4, .inl ki)), ((r 8), .inl (cL, 4, .inr (.inl rb))), ((r 9), .inl (cI, 4, .inl aq)), ((r 10), .inl (cZ, 64, .inl cd)), ((r 11), .inl (cI, 64, .inl g1)), ((r 12), .inl (cI, 64, .inl g2)), ((r 13), .inl (cI, 64, .inl g3)), ((r 14), .inl (cL, 256, .inr (.inl gw))), ((r 15), .inl (cL, 64, .inr (.inl an)))] sz)) 0 0 (va_A [((r 0), .inr (7, [.int th, .int (nI rc), .ref (r 1), .int (nI ro), .ref (r 2), .int (nI rm), .ref (r 3), .ref (r 4), .ref (r 5), .ref (r 6), .int (nI ra), .ref (r 7), .ref (r 8), .ref (r 9), .ref (r 10), .int (nI rl), .ref (r 11), .ref (r 12), .ref (r 13), .ref (r 14), .int (nI rw), .ref (r 15), .long gv])), ((r 1), .inl (cI, 16, .inl rp)), ((r 2), .inl (cI, 64, .inl rk)), ((r 3), .inl (cI, 64, .inl ow)), ((r 4), .inl (cI, 64, .inl rn)), ((r 5), .inl (cI, 64, .inl ct)), ((r 6), .inl (cI, 256, .inl rt)), ((r 7), .inl (cI, 4, .inl ki)), ((r 8), .inl (cL, 4, .inr (.inl rb))), ((r 9), .inl (cI, 4, .inl aq)), ((r 10), .inl (cZ, 64, .inl cd)), ((r 11), .inl (cI, 64, .inl g1)), ((r 12), .inl (cI, 64, .inl g2)), ((r 13), .inl (cI, 64, .inl g3)), ((r 14), .inl (cL, 256, .inr (.inl gw))), ((r 15), .inl (cL, 64, .inr (.inl an)))] sz) := by
  refine Met.ofW (cc := kc_R_exact) (maxL := 7) (ret := (some .int)) (by decide) rfl ?_
  intro p e s m args below meth c s₁ B hml hv
  obtain ⟨rfl, hsz, hC, hP, hD0⟩ := hv
  have hx := B.exec
  have hb := B.bytes
  have hr := B.returns
  have hlocks := B.notSynchronized
  have hown : s.vm.findClass "HostBridgeModel" = some m.cls := findClass_of_methodNamed B.named
  subst hsz
  have hD := hD0.self (sz := s.heap.size)
  generalize hAe : va_A [((r 0), .inr (7, [.int th, .int (nI rc), .ref (r 1), .int (nI ro), .ref (r 2), .int (nI rm), .ref (r 3), .ref (r 4), .ref (r 5), .ref (r 6), .int (nI ra), .ref (r 7), .ref (r 8), .ref (r 9), .ref (r 10), .int (nI rl), .ref (r 11), .ref (r 12), .ref (r 13), .ref (r 14), .int (nI rw), .ref (r 15), .long gv])), ((r 1), .inl (cI, 16, .inl rp)), ((r 2), .inl (cI, 64, .inl rk)), ((r 3), .inl (cI, 64, .inl ow)), ((r 4), .inl (cI, 64, .inl rn)), ((r 5), .inl (cI, 64, .inl ct)), ((r 6), .inl (cI, 256, .inl rt)), ((r 7), .inl (cI, 4, .inl ki)), ((r 8), .inl (cL, 4, .inr (.inl rb))), ((r 9), .inl (cI, 4, .inl aq)), ((r 10), .inl (cZ, 64, .inl cd)), ((r 11), .inl (cI, 64, .inl g1)), ((r 12), .inl (cI, 64, .inl g2)), ((r 13), .inl (cI, 64, .inl g3)), ((r 14), .inl (cL, 256, .inr (.inl gw))), ((r 15), .inl (cL, 64, .inr (.inl an)))] s.heap.size = A at hD hC ⊢
  have hA : ∀ q : Nat, s.heap.size ≤ q → A q := fun q h => by rw [← hAe]; exact Or.inr h
  have hS : va_S A s.heap s.heap [] := va_S.rf
  have hK := hC.K
  have hts := hC.ts [.ref (r 0), .int (nI o), .int n, .int w].toArray
  have hl := lv_entry ([.ref (r 0), .int (nI o), .int n, .int w]) (n := 7) (Nat.le_of_ble_eq_true rfl)
  rw [lg_entry_eq]
  generalize (lg_sl ([.ref (r 0), .int (nI o), .int n, .int w]) ++ List.replicate (7 - (lg_sl ([.ref (r 0), .int (nI o), .int n, .int w])).length) Slot.unset).toArray = ls at hl ⊢
  have hl : lv_has ls 7 [(0, .ref (r 0)), (1, .int (nI o)), (2, .int n), (3, .int w)] := hl
  refine lv_iload_n hx hb kd_R_exact_0 rfl (lv_at hl 1 rfl) ?_
  refine lv_aload_n hx hb kd_R_exact_1 rfl (lv_at hl 0 rfl) ?_
  refine va_get (D := D) (ci := 7) (v := .int (nI ro)) (C := "HostBridgeModel") (T := ct_R) (N := 23) hx hb hts cw_R hown hK hP 0 rfl rfl 3 (by decide) (hts _ km_624) (fun _ h9 => h9) rfl kd_R_exact_2 ?_
  refine hx_callRi (va_runS (As := [.int (nI o), .int (nI ro)]) (rest := []) ⟨hx, hb, hml, hown, hts⟩ (mr_isNo (nI o) ro) (va_cwS 2 hts (goodIn_sub (hx_m4 km_700 km_701 km_8 km_702) (by decide +kernel)) rfl rfl rfl (by decide +kernel) ⟨Nat.le_of_ble_eq_true rfl, Nat.le_of_ble_eq_true rfl⟩) (pr_S (hC.S hS) hP [] rfl) rfl rfl hl.1 rfl (lv_room (Nat.le_of_ble_eq_true rfl)) kd_R_exact_5 ⟨Nat.le_of_ble_eq_true rfl, Nat.le_of_ble_eq_true rfl⟩) ?_
  refine hx_topi (y := 0) (by rw [(fb_in_iff (by omega)).mpr ⟨o, ho, rfl⟩]; rfl) ?_
  refine lv_if_ne (tgt := 33) hx hb kd_R_exact_8 (by decide) (fun c_8 => ?_) (fun c_8 => ?_)
  · exact absurd c_8 (not_not_intro rfl)
  · skip
    refine lv_iload_n hx hb kd_R_exact_11 rfl (lv_at hl 2 rfl) ?_
    refine lv_sipush (v := 1000) hx hb kd_R_exact_12 (by decide) ?_
    refine hx_topi (y := nI 1000) (by decide) ?_
    refine hx_callRi (va_runS (As := [.int n, .int (nI 1000)]) (rest := []) ⟨hx, hb, hml, hown, hts⟩ (mr_isNo n 1000) (va_cwS 2 hts (goodIn_sub (hx_m4 km_700 km_701 km_8 km_702) (by decide +kernel)) rfl rfl rfl (by decide +kernel) ⟨Nat.le_of_ble_eq_true rfl, Nat.le_of_ble_eq_true rfl⟩) (pr_S (hC.S hS) hP [] rfl) rfl rfl hl.1 rfl (lv_room (Nat.le_of_ble_eq_true rfl)) kd_R_exact_15 ⟨Nat.le_of_ble_eq_true rfl, Nat.le_of_ble_eq_true rfl⟩) ?_
    refine hx_topi (y := 0) (by rw [hn1]; rfl) ?_
    refine lv_if_ne (tgt := 33) hx hb kd_R_exact_18 (by decide) (fun c_18 => ?_) (fun c_18 => ?_)
    · exact absurd c_18 (not_not_intro rfl)
    · skip
      refine lv_aload_n hx hb kd_R_exact_21 rfl (lv_at hl 0 rfl) ?_
      refine lv_aload_n hx hb kd_R_exact_22 rfl (lv_at hl 0 rfl) ?_
      refine va_get (D := D) (ci := 7) (v := .int (nI ra)) (C := "HostBridgeModel") (T := ct_R) (N := 23) hx hb hts cw_R hown hK hP 0 rfl rfl 10 (by decide) (hts _ km_631) (fun _ h9 => h9) rfl kd_R_exact_23 ?_
      refine lv_iload_n hx hb kd_R_exact_26 rfl (lv_at hl 3 rfl) ?_
      refine hx_callWai (va_runV (As := [.int (nI ra), .int w]) (rest := []) ⟨hx, hb, hml, hown, hts⟩ (mr_asks r rc ro rm ra rl rw th gv rp rk ow rn ct rt ki aq cd g1 g2 g3 rb gw an ra w hra hrc _) (cwV 2 hts (goodIn_sub (hx_m5 km_711 km_713 kv_R_asks km_8 km_714) (by decide +kernel)) rfl rfl rfl (by decide +kernel) ⟨Nat.le_of_ble_eq_true rfl, Nat.le_of_ble_eq_true rfl⟩) (pw_V (hC.S hS) hP hD hS hA [0, 1, 2, 3, 4, 5, 6, 7, 8, 9, 10, 11, 12, 13, 14, 15] (by decide) rfl (ci := 7) rfl (q0 := 0) rfl) rfl rfl hl.1 rfl (lv_room (Nat.le_of_ble_eq_true rfl)) kd_R_exact_27 ⟨Nat.le_of_ble_eq_true rfl, Nat.le_of_ble_eq_true rfl⟩) hP hD hS hA rfl (fun H locs hP hD hS => ?_)
      refine hx_topi (y := 1) (by rw [ht]; rfl) ?_
      refine lv_if_ne (tgt := 37) hx hb kd_R_exact_30 (by decide) (fun c_30 => ?_) (fun c_30 => ?_)
      · skip
        refine lv_iconst (v := 0) hx hb kd_R_exact_37 (by decide) ?_
        refine lv_istore (lv' := [(4, .int 0), (0, .ref (r 0)), (1, .int (nI o)), (2, .int n), (3, .int w)]) hx hb kd_R_exact_38 hl (by decide) rfl (fun ls hl => ?_)
        refine lv_iconst (v := -1) hx hb kd_R_exact_40 (by decide) ?_
        refine hx_topi (y := (-1)) (rfl) ?_
        refine lv_istore (lv' := [(5, .int (-1)), (4, .int 0), (0, .ref (r 0)), (1, .int (nI o)), (2, .int n), (3, .int w)]) hx hb kd_R_exact_41 hl (by decide) rfl (fun ls hl => ?_)
        refine lv_iload hx hb kd_R_exact_43 (lv_at hl 1 rfl) ?_
        refine lv_if_eq (tgt := 52) hx hb kd_R_exact_45 (by decide) (fun c_45 => ?_) (fun c_45 => ?_)
        · skip
          obtain ⟨z, hz, hcz⟩ := hco o ho
          refine lv_aload_n hx hb kd_R_exact_52 rfl (lv_at hl 2 rfl) ?_
          refine va_get (D := D) (ci := 7) (v := .ref (r 2)) (C := "HostBridgeModel") (T := ct_R) (N := 23) hx hb hts cw_R hown hK hP 0 rfl rfl 4 (by decide) (hts _ km_625) (fun _ h9 => h9) rfl kd_R_exact_53 ?_
          refine lv_iload_n hx hb kd_R_exact_56 rfl (lv_at hl 3 rfl) ?_
          refine hx_iald (j := o) hx hb hK hP 2 rfl (rfl) (by omega) (by decide) kd_R_exact_57 ?_
          refine hx_topi (y := nI z) (hcz) ?_
          refine lv_istore (lv' := [(6, .int (nI z)), (5, .int (-1)), (4, .int 0), (0, .ref (r 0)), (1, .int (nI o)), (2, .int n), (3, .int w)]) hx hb kd_R_exact_58 hl (by decide) rfl (fun ls hl => ?_)
          refine hx_loopR (σ := Nat × Int32 × Int32) (I := fun x ls => lv_has ls 7 [(0, .ref (r 0)), (1, .int (nI o)), (2, .int n), (4, .int 0), (5, .int x.2.2), (6, .int x.2.1)] ∧ x.1 ≤ 16 ∧ ((x.2.2 = -1 ∧ (x.2.1 = -1 ∨ ∃ j : Nat, j < 16 - x.1 ∧ j < rc ∧ x.2.1 = nI j) ∧ fs_ (fun k => la_ (mq_ ow rn ct rt (lf_ (as_ w ra) aq ra) k n ra) rm) rp (16 - x.1) x.2.1 = r9) ∨ (¬ x.2.2 < 0 ∧ x.2.2 = r9))) (μ := fun x => if x.2.2 = -1 then 17 - x.1 else 0) ?_ (0, nI z, -1) ⟨lv_sub hl [3, 4, 5, 2, 1, 0] rfl, Nat.zero_le _, Or.inl ⟨rfl, Or.inr ⟨z, by dsimp only; have := hln.1; omega, hz, rfl⟩, by have h9 := hr9; rw [hcz] at h9; exact h9⟩⟩
          intro x ls hI ih60
          obtain ⟨n9, k, m9⟩ := x
          obtain ⟨hl, hn9, hI2⟩ := hI
          dsimp only at hl hn9 hI2 ih60
          refine lv_iload hx hb kd_R_exact_60 (lv_at hl 5 rfl) ?_
          refine lv_if_lt (tgt := 95) hx hb kd_R_exact_62 (by decide) (fun c_62 => ?_) (fun c_62 => ?_)
          · skip
            have hme : m9 = r9 := by
              rcases hI2 with ⟨h1, h2, h3⟩ | ⟨h1, h2⟩
              · rcases h2 with h2 | ⟨j, h4, h5, h6⟩
                · rw [h1, ← h3, h2]; cases 16 - n9 <;> rfl
                · exact absurd c_62 (by rw [h6]; exact nI_pos (by have := hln.1; omega))
              · exact h2
            refine lv_aload_n hx hb kd_R_exact_95 rfl (lv_at hl 0 rfl) ?_
            refine lv_iload hx hb kd_R_exact_96 (lv_at hl 3 rfl) ?_
            refine lv_iload hx hb kd_R_exact_98 (lv_at hl 3 rfl) ?_
            refine lv_if_ne (tgt := 121) hx hb kd_R_exact_100 (by decide) (fun c_100 => ?_) (fun c_100 => ?_)
            · exact absurd c_100 (not_not_intro rfl)
            · skip
              refine lv_iload hx hb kd_R_exact_103 (lv_at hl 4 rfl) ?_
              refine lv_if_lt (tgt := 117) hx hb kd_R_exact_105 (by decide) (fun c_105 => ?_) (fun c_105 => ?_)
              · skip
                refine lv_iconst (v := 1) hx hb kd_R_exact_117 (by decide) ?_
                refine lv_goto (tgt := 122) hx hb kd_R_exact_118 (by decide) ?_
                refine lv_iconst (v := 0) hx hb kd_R_exact_122 (by decide) ?_
                refine hx_callWi (va_runV (As := [.int 0, .int 1, .int 0]) (rest := []) ⟨hx, hb, hml, hown, hts⟩ (mr_throwing2 r rc ro rm ra rl rw th gv rp rk ow rn ct rt ki aq cd g1 g2 g3 rb gw an _) (cwV 3 hts (goodIn_sub (hx_m5 km_703 km_705 kv_R_throwing km_8 km_706) (by decide +kernel)) rfl rfl rfl (by decide +kernel) ⟨Nat.le_of_ble_eq_true rfl, Nat.le_of_ble_eq_true rfl⟩) (pw_V (hC.S hS) hP hD hS hA [0] (by decide) rfl (ci := 7) rfl (q0 := 0) rfl) rfl rfl hl.1 rfl (lv_room (Nat.le_of_ble_eq_true rfl)) kd_R_exact_123 ⟨Nat.le_of_ble_eq_true rfl, Nat.le_of_ble_eq_true rfl⟩) hP hD hS hA [0] rfl rfl (fun H locs hP hD hS hF => ?_)
                have hP : va_P D cl_all [((r 0), .inr (7, [.int 2, .int (nI rc), .ref (r 1), .int (nI ro), .ref (r 2), .int (nI rm), .ref (r 3), .ref (r 4), .ref (r 5), .ref (r 6), .int (nI ra), .ref (r 7), .ref (r 8), .ref (r 9), .ref (r 10), .int (nI rl), .ref (r 11), .ref (r 12), .ref (r 13), .ref (r 14), .int (nI rw), .ref (r 15), .long gv])), ((r 1), .inl (cI, 16, .inl rp)), ((r 2), .inl (cI, 64, .inl rk)), ((r 3), .inl (cI, 64, .inl ow)), ((r 4), .inl (cI, 64, .inl rn)), ((r 5), .inl (cI, 64, .inl ct)), ((r 6), .inl (cI, 256, .inl rt)), ((r 7), .inl (cI, 4, .inl ki)), ((r 8), .inl (cL, 4, .inr (.inl rb))), ((r 9), .inl (cI, 4, .inl (lf_ (as_ w ra) aq ra))), ((r 10), .inl (cZ, 64, .inl cd)), ((r 11), .inl (cI, 64, .inl g1)), ((r 12), .inl (cI, 64, .inl g2)), ((r 13), .inl (cI, 64, .inl g3)), ((r 14), .inl (cL, 256, .inr (.inl gw))), ((r 15), .inl (cL, 64, .inr (.inl an)))] H := hP
                have hD : va_D A [((r 0), .inr (7, [.int 2, .int (nI rc), .ref (r 1), .int (nI ro), .ref (r 2), .int (nI rm), .ref (r 3), .ref (r 4), .ref (r 5), .ref (r 6), .int (nI ra), .ref (r 7), .ref (r 8), .ref (r 9), .ref (r 10), .int (nI rl), .ref (r 11), .ref (r 12), .ref (r 13), .ref (r 14), .int (nI rw), .ref (r 15), .long gv])), ((r 1), .inl (cI, 16, .inl rp)), ((r 2), .inl (cI, 64, .inl rk)), ((r 3), .inl (cI, 64, .inl ow)), ((r 4), .inl (cI, 64, .inl rn)), ((r 5), .inl (cI, 64, .inl ct)), ((r 6), .inl (cI, 256, .inl rt)), ((r 7), .inl (cI, 4, .inl ki)), ((r 8), .inl (cL, 4, .inr (.inl rb))), ((r 9), .inl (cI, 4, .inl (lf_ (as_ w ra) aq ra))), ((r 10), .inl (cZ, 64, .inl cd)), ((r 11), .inl (cI, 64, .inl g1)), ((r 12), .inl (cI, 64, .inl g2)), ((r 13), .inl (cI, 64, .inl g3)), ((r 14), .inl (cL, 256, .inr (.inl gw))), ((r 15), .inl (cL, 64, .inr (.inl an)))] := hD
                refine hx_topi (y := 1) (rfl) ?_
                refine lv_if_eq (tgt := 136) hx hb kd_R_exact_126 (by decide) (fun c_126 => ?_) (fun c_126 => ?_)
                · exact absurd c_126 (by decide)
                · skip
                  refine lv_aload_n hx hb kd_R_exact_129 rfl (lv_at hl 0 rfl) ?_
                  refine lv_iconst (v := 0) hx hb kd_R_exact_130 (by decide) ?_
                  refine hx_topi (y := nI 0) (rfl) ?_
                  refine va_put (D := D) (ci := 7) (v := .int (nI 0)) (ty := .int) (C := "HostBridgeModel") (T := ct_R) (N := 23) hx hb hts cw_R cy_R cp_R cn_R hown hK hP hD hS 0 rfl rfl 10 (by decide) (hts _ km_631) (fun _ h9 => h9) rfl (by decide +kernel) rfl rfl (Nat.le_of_ble_eq_true rfl) kd_R_exact_131 (fun H locs hP hD hS => ?_)
                  have hP : va_P D cl_all [((r 0), .inr (7, [.int 2, .int (nI rc), .ref (r 1), .int (nI ro), .ref (r 2), .int (nI rm), .ref (r 3), .ref (r 4), .ref (r 5), .ref (r 6), .int (nI 0), .ref (r 7), .ref (r 8), .ref (r 9), .ref (r 10), .int (nI rl), .ref (r 11), .ref (r 12), .ref (r 13), .ref (r 14), .int (nI rw), .ref (r 15), .long gv])), ((r 1), .inl (cI, 16, .inl rp)), ((r 2), .inl (cI, 64, .inl rk)), ((r 3), .inl (cI, 64, .inl ow)), ((r 4), .inl (cI, 64, .inl rn)), ((r 5), .inl (cI, 64, .inl ct)), ((r 6), .inl (cI, 256, .inl rt)), ((r 7), .inl (cI, 4, .inl ki)), ((r 8), .inl (cL, 4, .inr (.inl rb))), ((r 9), .inl (cI, 4, .inl (lf_ (as_ w ra) aq ra))), ((r 10), .inl (cZ, 64, .inl cd)), ((r 11), .inl (cI, 64, .inl g1)), ((r 12), .inl (cI, 64, .inl g2)), ((r 13), .inl (cI, 64, .inl g3)), ((r 14), .inl (cL, 256, .inr (.inl gw))), ((r 15), .inl (cL, 64, .inr (.inl an)))] H := hP
                  have hD : va_D A [((r 0), .inr (7, [.int 2, .int (nI rc), .ref (r 1), .int (nI ro), .ref (r 2), .int (nI rm), .ref (r 3), .ref (r 4), .ref (r 5), .ref (r 6), .int (nI 0), .ref (r 7), .ref (r 8), .ref (r 9), .ref (r 10), .int (nI rl), .ref (r 11), .ref (r 12), .ref (r 13), .ref (r 14), .int (nI rw), .ref (r 15), .long gv])), ((r 1), .inl (cI, 16, .inl rp)), ((r 2), .inl (cI, 64, .inl rk)), ((r 3), .inl (cI, 64, .inl ow)), ((r 4), .inl (cI, 64, .inl rn)), ((r 5), .inl (cI, 64, .inl ct)), ((r 6), .inl (cI, 256, .inl rt)), ((r 7), .inl (cI, 4, .inl ki)), ((r 8), .inl (cL, 4, .inr (.inl rb))), ((r 9), .inl (cI, 4, .inl (lf_ (as_ w ra) aq ra))), ((r 10), .inl (cZ, 64, .inl cd)), ((r 11), .inl (cI, 64, .inl g1)), ((r 12), .inl (cI, 64, .inl g2)), ((r 13), .inl (cI, 64, .inl g3)), ((r 14), .inl (cL, 256, .inr (.inl gw))), ((r 15), .inl (cL, 64, .inr (.inl an)))] := hD
                  refine lv_iconst (v := 0) hx hb kd_R_exact_134 (by decide) ?_
                  exact hx_iretW hx hb hr hlocks (rfl) (hP) hS kd_R_exact_135
              · exact absurd c_105 (not_not_intro (by rw [hme, hrv]; decide))
          · skip
            refine lv_iload hx hb kd_R_exact_65 (lv_at hl 4 rfl) ?_
            refine lv_if_ge (tgt := 95) hx hb kd_R_exact_67 (by decide) (fun c_67 => ?_) (fun c_67 => ?_)
            · skip
              have hme : m9 = r9 := by
                rcases hI2 with ⟨h1, h2, h3⟩ | ⟨h1, h2⟩
                · exact absurd c_67 (by rw [h1]; decide)
                · exact h2
              refine lv_aload_n hx hb kd_R_exact_95 rfl (lv_at hl 0 rfl) ?_
              refine lv_iload hx hb kd_R_exact_96 (lv_at hl 3 rfl) ?_
              refine lv_iload hx hb kd_R_exact_98 (lv_at hl 3 rfl) ?_
              refine lv_if_ne (tgt := 121) hx hb kd_R_exact_100 (by decide) (fun c_100 => ?_) (fun c_100 => ?_)
              · exact absurd c_100 (not_not_intro rfl)
              · skip
                refine lv_iload hx hb kd_R_exact_103 (lv_at hl 4 rfl) ?_
                refine lv_if_lt (tgt := 117) hx hb kd_R_exact_105 (by decide) (fun c_105 => ?_) (fun c_105 => ?_)
                · skip
                  refine lv_iconst (v := 1) hx hb kd_R_exact_117 (by decide) ?_
                  refine lv_goto (tgt := 122) hx hb kd_R_exact_118 (by decide) ?_
                  refine lv_iconst (v := 0) hx hb kd_R_exact_122 (by decide) ?_
                  refine hx_callWi (va_runV (As := [.int 0, .int 1, .int 0]) (rest := []) ⟨hx, hb, hml, hown, hts⟩ (mr_throwing2 r rc ro rm ra rl rw th gv rp rk ow rn ct rt ki aq cd g1 g2 g3 rb gw an _) (cwV 3 hts (goodIn_sub (hx_m5 km_703 km_705 kv_R_throwing km_8 km_706) (by decide +kernel)) rfl rfl rfl (by decide +kernel) ⟨Nat.le_of_ble_eq_true rfl, Nat.le_of_ble_eq_true rfl⟩) (pw_V (hC.S hS) hP hD hS hA [0] (by decide) rfl (ci := 7) rfl (q0 := 0) rfl) rfl rfl hl.1 rfl (lv_room (Nat.le_of_ble_eq_true rfl)) kd_R_exact_123 ⟨Nat.le_of_ble_eq_true rfl, Nat.le_of_ble_eq_true rfl⟩) hP hD hS hA [0] rfl rfl (fun H locs hP hD hS hF => ?_)
                  have hP : va_P D cl_all [((r 0), .inr (7, [.int 2, .int (nI rc), .ref (r 1), .int (nI ro), .ref (r 2), .int (nI rm), .ref (r 3), .ref (r 4), .ref (r 5), .ref (r 6), .int (nI ra), .ref (r 7), .ref (r 8), .ref (r 9), .ref (r 10), .int (nI rl), .ref (r 11), .ref (r 12), .ref (r 13), .ref (r 14), .int (nI rw), .ref (r 15), .long gv])), ((r 1), .inl (cI, 16, .inl rp)), ((r 2), .inl (cI, 64, .inl rk)), ((r 3), .inl (cI, 64, .inl ow)), ((r 4), .inl (cI, 64, .inl rn)), ((r 5), .inl (cI, 64, .inl ct)), ((r 6), .inl (cI, 256, .inl rt)), ((r 7), .inl (cI, 4, .inl ki)), ((r 8), .inl (cL, 4, .inr (.inl rb))), ((r 9), .inl (cI, 4, .inl (lf_ (as_ w ra) aq ra))), ((r 10), .inl (cZ, 64, .inl cd)), ((r 11), .inl (cI, 64, .inl g1)), ((r 12), .inl (cI, 64, .inl g2)), ((r 13), .inl (cI, 64, .inl g3)), ((r 14), .inl (cL, 256, .inr (.inl gw))), ((r 15), .inl (cL, 64, .inr (.inl an)))] H := hP
                  have hD : va_D A [((r 0), .inr (7, [.int 2, .int (nI rc), .ref (r 1), .int (nI ro), .ref (r 2), .int (nI rm), .ref (r 3), .ref (r 4), .ref (r 5), .ref (r 6), .int (nI ra), .ref (r 7), .ref (r 8), .ref (r 9), .ref (r 10), .int (nI rl), .ref (r 11), .ref (r 12), .ref (r 13), .ref (r 14), .int (nI rw), .ref (r 15), .long gv])), ((r 1), .inl (cI, 16, .inl rp)), ((r 2), .inl (cI, 64, .inl rk)), ((r 3), .inl (cI, 64, .inl ow)), ((r 4), .inl (cI, 64, .inl rn)), ((r 5), .inl (cI, 64, .inl ct)), ((r 6), .inl (cI, 256, .inl rt)), ((r 7), .inl (cI, 4, .inl ki)), ((r 8), .inl (cL, 4, .inr (.inl rb))), ((r 9), .inl (cI, 4, .inl (lf_ (as_ w ra) aq ra))), ((r 10), .inl (cZ, 64, .inl cd)), ((r 11), .inl (cI, 64, .inl g1)), ((r 12), .inl (cI, 64, .inl g2)), ((r 13), .inl (cI, 64, .inl g3)), ((r 14), .inl (cL, 256, .inr (.inl gw))), ((r 15), .inl (cL, 64, .inr (.inl an)))] := hD
                  refine hx_topi (y := 1) (rfl) ?_
                  refine lv_if_eq (tgt := 136) hx hb kd_R_exact_126 (by decide) (fun c_126 => ?_) (fun c_126 => ?_)
                  · exact absurd c_126 (by decide)
                  · skip
                    refine lv_aload_n hx hb kd_R_exact_129 rfl (lv_at hl 0 rfl) ?_
                    refine lv_iconst (v := 0) hx hb kd_R_exact_130 (by decide) ?_
                    refine hx_topi (y := nI 0) (rfl) ?_
                    refine va_put (D := D) (ci := 7) (v := .int (nI 0)) (ty := .int) (C := "HostBridgeModel") (T := ct_R) (N := 23) hx hb hts cw_R cy_R cp_R cn_R hown hK hP hD hS 0 rfl rfl 10 (by decide) (hts _ km_631) (fun _ h9 => h9) rfl (by decide +kernel) rfl rfl (Nat.le_of_ble_eq_true rfl) kd_R_exact_131 (fun H locs hP hD hS => ?_)
                    have hP : va_P D cl_all [((r 0), .inr (7, [.int 2, .int (nI rc), .ref (r 1), .int (nI ro), .ref (r 2), .int (nI rm), .ref (r 3), .ref (r 4), .ref (r 5), .ref (r 6), .int (nI 0), .ref (r 7), .ref (r 8), .ref (r 9), .ref (r 10), .int (nI rl), .ref (r 11), .ref (r 12), .ref (r 13), .ref (r 14), .int (nI rw), .ref (r 15), .long gv])), ((r 1), .inl (cI, 16, .inl rp)), ((r 2), .inl (cI, 64, .inl rk)), ((r 3), .inl (cI, 64, .inl ow)), ((r 4), .inl (cI, 64, .inl rn)), ((r 5), .inl (cI, 64, .inl ct)), ((r 6), .inl (cI, 256, .inl rt)), ((r 7), .inl (cI, 4, .inl ki)), ((r 8), .inl (cL, 4, .inr (.inl rb))), ((r 9), .inl (cI, 4, .inl (lf_ (as_ w ra) aq ra))), ((r 10), .inl (cZ, 64, .inl cd)), ((r 11), .inl (cI, 64, .inl g1)), ((r 12), .inl (cI, 64, .inl g2)), ((r 13), .inl (cI, 64, .inl g3)), ((r 14), .inl (cL, 256, .inr (.inl gw))), ((r 15), .inl (cL, 64, .inr (.inl an)))] H := hP
                    have hD : va_D A [((r 0), .inr (7, [.int 2, .int (nI rc), .ref (r 1), .int (nI ro), .ref (r 2), .int (nI rm), .ref (r 3), .ref (r 4), .ref (r 5), .ref (r 6), .int (nI 0), .ref (r 7), .ref (r 8), .ref (r 9), .ref (r 10), .int (nI rl), .ref (r 11), .ref (r 12), .ref (r 13), .ref (r 14), .int (nI rw), .ref (r 15), .long gv])), ((r 1), .inl (cI, 16, .inl rp)), ((r 2), .inl (cI, 64, .inl rk)), ((r 3), .inl (cI, 64, .inl ow)), ((r 4), .inl (cI, 64, .inl rn)), ((r 5), .inl (cI, 64, .inl ct)), ((r 6), .inl (cI, 256, .inl rt)), ((r 7), .inl (cI, 4, .inl ki)), ((r 8), .inl (cL, 4, .inr (.inl rb))), ((r 9), .inl (cI, 4, .inl (lf_ (as_ w ra) aq ra))), ((r 10), .inl (cZ, 64, .inl cd)), ((r 11), .inl (cI, 64, .inl g1)), ((r 12), .inl (cI, 64, .inl g2)), ((r 13), .inl (cI, 64, .inl g3)), ((r 14), .inl (cL, 256, .inr (.inl gw))), ((r 15), .inl (cL, 64, .inr (.inl an)))] := hD
                    refine lv_iconst (v := 0) hx hb kd_R_exact_134 (by decide) ?_
                    exact hx_iretW hx hb hr hlocks (rfl) (hP) hS kd_R_exact_135
                · exact absurd c_105 (not_not_intro (by rw [hme, hrv]; decide))
            · skip
              obtain ⟨h1, h2, h3⟩ := hI2.resolve_right (fun h9 => h9.1 (Int32.not_le.mp c_67))
              obtain ⟨j, hj1, hj2, rfl⟩ := h2.resolve_left (fun h9 => c_62 (by rw [h9]; decide))
              have hf : 16 - n9 = (15 - n9) + 1 := by omega
              refine lv_aload_n hx hb kd_R_exact_70 rfl (lv_at hl 0 rfl) ?_
              refine lv_iload hx hb kd_R_exact_71 (lv_at hl 5 rfl) ?_
              refine lv_iload_n hx hb kd_R_exact_73 rfl (lv_at hl 2 rfl) ?_
              refine lv_aload_n hx hb kd_R_exact_74 rfl (lv_at hl 0 rfl) ?_
              refine va_get (D := D) (ci := 7) (v := .int (nI ra)) (C := "HostBridgeModel") (T := ct_R) (N := 23) hx hb hts cw_R hown hK hP 0 rfl rfl 10 (by decide) (hts _ km_631) (fun _ h9 => h9) rfl kd_R_exact_75 ?_
              refine hx_callRi (va_runV (As := [.int (nI j), .int n, .int (nI ra)]) (rest := []) ⟨hx, hb, hml, hown, hts⟩ (mr_methodOf r rc ro rm ra rl rw th gv rp rk ow rn ct rt ki (lf_ (as_ w ra) aq ra) cd g1 g2 g3 rb gw an (nI j) n ra hrm hra) (cwV 3 hts (goodIn_sub (hx_m5 km_715 km_717 kv_R_methodOf km_8 km_718) (by decide +kernel)) rfl rfl rfl (by decide +kernel) ⟨Nat.le_of_ble_eq_true rfl, Nat.le_of_ble_eq_true rfl⟩) (pr_V (hC.S hS) hP [0, 1, 2, 3, 4, 5, 6, 7, 8, 9, 10, 11, 12, 13, 14, 15] rfl (ci := 7) rfl (q0 := 0) rfl) rfl rfl hl.1 rfl (lv_room (Nat.le_of_ble_eq_true rfl)) kd_R_exact_78 ⟨Nat.le_of_ble_eq_true rfl, Nat.le_of_ble_eq_true rfl⟩) ?_
              refine hx_topi (y := (fun k => la_ (mq_ ow rn ct rt (lf_ (as_ w ra) aq ra) k n ra) rm) (nI j)) (rfl) ?_
              refine lv_istore (lv' := [(5, .int ((fun k => la_ (mq_ ow rn ct rt (lf_ (as_ w ra) aq ra) k n ra) rm) (nI j))), (0, .ref (r 0)), (1, .int (nI o)), (2, .int n), (4, .int 0), (6, .int (nI j))]) hx hb kd_R_exact_81 hl (by decide) rfl (fun ls hl => ?_)
              refine lv_aload_n hx hb kd_R_exact_83 rfl (lv_at hl 1 rfl) ?_
              refine va_get (D := D) (ci := 7) (v := .ref (r 1)) (C := "HostBridgeModel") (T := ct_R) (N := 23) hx hb hts cw_R hown hK hP 0 rfl rfl 2 (by decide) (hts _ km_623) (fun _ h9 => h9) rfl kd_R_exact_84 ?_
              refine lv_iload hx hb kd_R_exact_87 (lv_at hl 5 rfl) ?_
              refine hx_iald (j := j) hx hb hK hP 1 rfl (rfl) (by have := hln.1; omega) (by decide) kd_R_exact_89 ?_
              refine lv_istore (lv' := [(6, .int (rp j)), (5, .int ((fun k => la_ (mq_ ow rn ct rt (lf_ (as_ w ra) aq ra) k n ra) rm) (nI j))), (0, .ref (r 0)), (1, .int (nI o)), (2, .int n), (4, .int 0)]) hx hb kd_R_exact_90 hl (by decide) rfl (fun ls hl => ?_)
              have hnext : ((fun k => la_ (mq_ ow rn ct rt (lf_ (as_ w ra) aq ra) k n ra) rm) (nI j) = -1 ∧ (rp j = -1 ∨ ∃ j9 : Nat, j9 < 16 - (n9 + 1) ∧ j9 < rc ∧ rp j = nI j9) ∧ fs_ (fun k => la_ (mq_ ow rn ct rt (lf_ (as_ w ra) aq ra) k n ra) rm) rp (16 - (n9 + 1)) (rp j) = r9) ∨ (¬ (fun k => la_ (mq_ ow rn ct rt (lf_ (as_ w ra) aq ra) k n ra) rm) (nI j) < 0 ∧ (fun k => la_ (mq_ ow rn ct rt (lf_ (as_ w ra) aq ra) k n ra) rm) (nI j) = r9) := by
                have h4 : fs_ (fun k => la_ (mq_ ow rn ct rt (lf_ (as_ w ra) aq ra) k n ra) rm) rp (16 - n9) (nI j) = if (fun k => la_ (mq_ ow rn ct rt (lf_ (as_ w ra) aq ra) k n ra) rm) (nI j) = -1 then fs_ (fun k => la_ (mq_ ow rn ct rt (lf_ (as_ w ra) aq ra) k n ra) rm) rp (15 - n9) (rp j) else (fun k => la_ (mq_ ow rn ct rt (lf_ (as_ w ra) aq ra) k n ra) rm) (nI j) := by
                  rw [hf]; simp only [fs_]; rw [if_neg (nI_nm1 (by have := hln.1; omega)), nI_clamp (by have := hln.1; omega)]
                rw [h4] at h3
                by_cases h5 : (fun k => la_ (mq_ ow rn ct rt (lf_ (as_ w ra) aq ra) k n ra) rm) (nI j) = -1
                · rw [if_pos h5] at h3
                  exact Or.inl ⟨h5, (hln.2 j hj2).elim Or.inl (fun ⟨q, g1, g2⟩ => Or.inr ⟨q, by omega, by omega, g2⟩), by rw [show 16 - (n9 + 1) = 15 - n9 by omega]; exact h3⟩
                · rw [if_neg h5] at h3
                  exact Or.inr ⟨la_nn h5 (by omega), h3⟩
              refine lv_goto (tgt := 60) hx hb kd_R_exact_92 (by decide) ?_
              exact ih60 (n9 + 1, rp j, (fun k => la_ (mq_ ow rn ct rt (lf_ (as_ w ra) aq ra) k n ra) rm) (nI j)) _ (by dsimp only; rw [if_pos h1]; split <;> omega) ⟨lv_sub hl [2, 3, 4, 5, 1, 0] rfl, by dsimp only; omega, hnext⟩
        · exact absurd c_45 (not_not_intro rfl)
      · exact absurd c_30 (by decide)

set_option maxHeartbeats 4000000 in
set_option maxRecDepth 100000 in
theorem mr_exact2b {l : Launch} {D : va_G} {cI cL cZ : ClassId} {tb : Nat} (r : Nat → Nat) (rc ro rm ra rl rw : Nat) (th : Int32) (gv : Int64) (rp rk ow rn ct rt ki aq cd g1 g2 g3 : Nat → Int32) (rb gw an : Nat → Int64) (o : Nat) (n w : Int32) (y : Nat) (ho : o < ro) (hn1 : fb_in n 1000 = true) (hra : ra ≤ 4) (hrc : rc ≤ 16) (hno : ro ≤ 64) (hrm : rm ≤ 64) (ht : ty_ok rc w ra = true) (hok : ∀ i, i < ra → ki i = 5 → ∃ o : Nat, o < ro ∧ rb i = lN o) (hln : ln_ok rc rp) (hco : ∀ j, j < ro → ∃ q : Nat, q < rc ∧ rk j = nI q) (r9 : Int32) (hr9 : fs_ (fun k => la_ (mq_ ow rn ct rt (lf_ (as_ w ra) aq ra) k n ra) rm) rp 16 (rk o) = r9) (hrv : r9 = nI y) (hyl : y < 64) (hft : fr_ rp rk ki rb ct rt ra y = false) (sz : Nat) : Met l ky_R_exact kw_R_exact { frames := 4, cells := 0, slots := 0, locals := 99 } (pw_P D cI cL cZ tb [((r 0), .inr (7, [.int th, .int (nI rc), .ref (r 1), .int (nI ro), .ref (r 2), .int (nI rm), .ref (r 3), .ref (r 4), .ref (r 5), .ref (r 6), .int (nI ra), .ref (r 7), .ref (r 8), .ref (r 9), .ref (r 10), .int (nI rl), .ref (r 11), .ref (r 12), .ref (r 13), .ref (r 14), .int (nI rw), .ref (r 15), .long gv])), ((r 1), .inl (cI, 16, .inl rp)), ((r 2), .inl (cI, 64, .inl rk)), ((r 3), .inl (cI, 64, .inl ow)), ((r 4), .inl (cI, 64, .inl rn)), ((r 5), .inl (cI, 64, .inl ct)), ((r 6), .inl (cI, 256, .inl rt)), ((r 7), .inl (cI, 4, .inl ki)), ((r 8), .inl (cL, 4, .inr (.inl rb))), ((r 9), .inl (cI, 4, .inl aq)), ((r 10), .inl (cZ, 64, .inl cd)), ((r 11), .inl (cI, 64, .inl g1)), ((r 12), .inl (cI, 64, .inl g2)), ((r 13), .inl (cI, 64, .inl g3)), ((r 14), .inl (cL, 256, .inr (.inl gw))), ((r 15), .inl (cL, 64, .inr (.inl an)))] sz [.ref (r 0), .int (nI o), .int n, .int w]) (hx_QW D (some (.int 0)) [((r 0), .inr (7, [.int 2, .int (nI rc), .ref (r 1), .int (nI ro), .ref (r 2), .int (nI rm), .ref (r 3), .ref (r 4), .ref (r 5), .ref (r 6), .int (nI 0), .ref (r 7), .ref (r 8), .ref (r 9), .ref (r 10), .int (nI rl), .ref (r 11), .ref (r 12), .ref (r 13), .ref (r 14), .int (nI rw), .ref (r 15), .long gv])), ((r 1), .inl (cI, 16, .inl rp)), ((r 2), .inl (cI, 64, .inl rk)), ((r 3), .inl (cI, 64, .inl ow)), ((r 4), .inl (cI, 64, .inl rn)), ((r 5), .inl (cI, 64, .inl ct)), ((r 6), .inl (cI, 256, .inl rt)), ((r 7), .inl (cI, 4, .inl ki)), ((r 8), .inl (cL, 4, .inr (.inl rb))), ((r 9), .inl (cI, 4, .inl (lf_ (as_ w ra) aq ra))), ((r 10), .inl (cZ, 64, .inl cd)), ((r 11), .inl (cI, 64, .inl g1)), ((r 12), .inl (cI, 64, .inl g2)), ((r 13), .inl (cI, 64, .inl g3)), ((r 14), .inl (cL, 256, .inr (.inl gw))), ((r 15), .inl (cL, 64, .inr (.inl an)))] (va_A [((r 0), .inr (7, [.int th, .int (nI rc), .ref (r 1), .int (nI ro), .ref (r 2), .int (nI rm), .ref (r 3), .ref (r 4), .ref (r 5), .ref (r 6), .int (nI ra), .ref (r 7), .ref (r 8), .ref (r 9), .ref (r 10), .int (nI rl), .ref (r 11), .ref (r 12), .ref (r 13), .ref (r 14), .int (nI rw), .ref (r 15), .long gv])), ((r 1), .inl (cI, 16, .inl rp)), ((r 2), .inl (cI, 64, .inl rk)), ((r 3), .inl (cI, 64, .inl ow)), ((r 4), .inl (cI, 64, .inl rn)), ((r 5), .inl (cI, 64, .inl ct)), ((r 6), .inl (cI, 256, .inl rt)), ((r 7), .inl (cI, 4, .inl ki)), ((r 8), .inl (cL, 4, .inr (.inl rb))), ((r 9), .inl (cI, 4, .inl aq)), ((r 10), .inl (cZ, 64, .inl cd)), ((r 11), .inl (cI, 64, .inl g1)), ((r 12), .inl (cI, 64, .inl g2)), ((r 13), .inl (cI, 64, .inl g3)), ((r 14), .inl (cL, 256, .inr (.inl gw))), ((r 15), .inl (cL, 64, .inr (.inl an)))] sz)) 0 0 (va_A [((r 0), .inr (7, [.int th, .int (nI rc), .ref (r 1), .int (nI ro), .ref (r 2), .int (nI rm), .ref (r 3), .ref (r 4), .ref (r 5), .ref (r 6), .int (nI ra), .ref (r 7), .ref (r 8), .ref (r 9), .ref (r 10), .int (nI rl), .ref (r 11), .ref (r 12), .ref (r 13), .ref (r 14), .int (nI rw), .ref (r 15), .long gv])), ((r 1), .inl (cI, 16, .inl rp)), ((r 2), .inl (cI, 64, .inl rk)), ((r 3), .inl (cI, 64, .inl ow)), ((r 4), .inl (cI, 64, .inl rn)), ((r 5), .inl (cI, 64, .inl ct)), ((r 6), .inl (cI, 256, .inl rt)), ((r 7), .inl (cI, 4, .inl ki)), ((r 8), .inl (cL, 4, .inr (.inl rb))), ((r 9), .inl (cI, 4, .inl aq)), ((r 10), .inl (cZ, 64, .inl cd)), ((r 11), .inl (cI, 64, .inl g1)), ((r 12), .inl (cI, 64, .inl g2)), ((r 13), .inl (cI, 64, .inl g3)), ((r 14), .inl (cL, 256, .inr (.inl gw))), ((r 15), .inl (cL, 64, .inr (.inl an)))] sz) := by
  refine Met.ofW (cc := kc_R_exact) (maxL := 7) (ret := (some .int)) (by decide) rfl ?_
  intro p e s m args below meth c s₁ B hml hv
  obtain ⟨rfl, hsz, hC, hP, hD0⟩ := hv
  have hx := B.exec
  have hb := B.bytes
  have hr := B.returns
  have hlocks := B.notSynchronized
  have hown : s.vm.findClass "HostBridgeModel" = some m.cls := findClass_of_methodNamed B.named
  subst hsz
  have hD := hD0.self (sz := s.heap.size)
  generalize hAe : va_A [((r 0), .inr (7, [.int th, .int (nI rc), .ref (r 1), .int (nI ro), .ref (r 2), .int (nI rm), .ref (r 3), .ref (r 4), .ref (r 5), .ref (r 6), .int (nI ra), .ref (r 7), .ref (r 8), .ref (r 9), .ref (r 10), .int (nI rl), .ref (r 11), .ref (r 12), .ref (r 13), .ref (r 14), .int (nI rw), .ref (r 15), .long gv])), ((r 1), .inl (cI, 16, .inl rp)), ((r 2), .inl (cI, 64, .inl rk)), ((r 3), .inl (cI, 64, .inl ow)), ((r 4), .inl (cI, 64, .inl rn)), ((r 5), .inl (cI, 64, .inl ct)), ((r 6), .inl (cI, 256, .inl rt)), ((r 7), .inl (cI, 4, .inl ki)), ((r 8), .inl (cL, 4, .inr (.inl rb))), ((r 9), .inl (cI, 4, .inl aq)), ((r 10), .inl (cZ, 64, .inl cd)), ((r 11), .inl (cI, 64, .inl g1)), ((r 12), .inl (cI, 64, .inl g2)), ((r 13), .inl (cI, 64, .inl g3)), ((r 14), .inl (cL, 256, .inr (.inl gw))), ((r 15), .inl (cL, 64, .inr (.inl an)))] s.heap.size = A at hD hC ⊢
  have hA : ∀ q : Nat, s.heap.size ≤ q → A q := fun q h => by rw [← hAe]; exact Or.inr h
  have hS : va_S A s.heap s.heap [] := va_S.rf
  have hK := hC.K
  have hts := hC.ts [.ref (r 0), .int (nI o), .int n, .int w].toArray
  have hl := lv_entry ([.ref (r 0), .int (nI o), .int n, .int w]) (n := 7) (Nat.le_of_ble_eq_true rfl)
  rw [lg_entry_eq]
  generalize (lg_sl ([.ref (r 0), .int (nI o), .int n, .int w]) ++ List.replicate (7 - (lg_sl ([.ref (r 0), .int (nI o), .int n, .int w])).length) Slot.unset).toArray = ls at hl ⊢
  have hl : lv_has ls 7 [(0, .ref (r 0)), (1, .int (nI o)), (2, .int n), (3, .int w)] := hl
  refine lv_iload_n hx hb kd_R_exact_0 rfl (lv_at hl 1 rfl) ?_
  refine lv_aload_n hx hb kd_R_exact_1 rfl (lv_at hl 0 rfl) ?_
  refine va_get (D := D) (ci := 7) (v := .int (nI ro)) (C := "HostBridgeModel") (T := ct_R) (N := 23) hx hb hts cw_R hown hK hP 0 rfl rfl 3 (by decide) (hts _ km_624) (fun _ h9 => h9) rfl kd_R_exact_2 ?_
  refine hx_callRi (va_runS (As := [.int (nI o), .int (nI ro)]) (rest := []) ⟨hx, hb, hml, hown, hts⟩ (mr_isNo (nI o) ro) (va_cwS 2 hts (goodIn_sub (hx_m4 km_700 km_701 km_8 km_702) (by decide +kernel)) rfl rfl rfl (by decide +kernel) ⟨Nat.le_of_ble_eq_true rfl, Nat.le_of_ble_eq_true rfl⟩) (pr_S (hC.S hS) hP [] rfl) rfl rfl hl.1 rfl (lv_room (Nat.le_of_ble_eq_true rfl)) kd_R_exact_5 ⟨Nat.le_of_ble_eq_true rfl, Nat.le_of_ble_eq_true rfl⟩) ?_
  refine hx_topi (y := 0) (by rw [(fb_in_iff (by omega)).mpr ⟨o, ho, rfl⟩]; rfl) ?_
  refine lv_if_ne (tgt := 33) hx hb kd_R_exact_8 (by decide) (fun c_8 => ?_) (fun c_8 => ?_)
  · exact absurd c_8 (not_not_intro rfl)
  · skip
    refine lv_iload_n hx hb kd_R_exact_11 rfl (lv_at hl 2 rfl) ?_
    refine lv_sipush (v := 1000) hx hb kd_R_exact_12 (by decide) ?_
    refine hx_topi (y := nI 1000) (by decide) ?_
    refine hx_callRi (va_runS (As := [.int n, .int (nI 1000)]) (rest := []) ⟨hx, hb, hml, hown, hts⟩ (mr_isNo n 1000) (va_cwS 2 hts (goodIn_sub (hx_m4 km_700 km_701 km_8 km_702) (by decide +kernel)) rfl rfl rfl (by decide +kernel) ⟨Nat.le_of_ble_eq_true rfl, Nat.le_of_ble_eq_true rfl⟩) (pr_S (hC.S hS) hP [] rfl) rfl rfl hl.1 rfl (lv_room (Nat.le_of_ble_eq_true rfl)) kd_R_exact_15 ⟨Nat.le_of_ble_eq_true rfl, Nat.le_of_ble_eq_true rfl⟩) ?_
    refine hx_topi (y := 0) (by rw [hn1]; rfl) ?_
    refine lv_if_ne (tgt := 33) hx hb kd_R_exact_18 (by decide) (fun c_18 => ?_) (fun c_18 => ?_)
    · exact absurd c_18 (not_not_intro rfl)
    · skip
      refine lv_aload_n hx hb kd_R_exact_21 rfl (lv_at hl 0 rfl) ?_
      refine lv_aload_n hx hb kd_R_exact_22 rfl (lv_at hl 0 rfl) ?_
      refine va_get (D := D) (ci := 7) (v := .int (nI ra)) (C := "HostBridgeModel") (T := ct_R) (N := 23) hx hb hts cw_R hown hK hP 0 rfl rfl 10 (by decide) (hts _ km_631) (fun _ h9 => h9) rfl kd_R_exact_23 ?_
      refine lv_iload_n hx hb kd_R_exact_26 rfl (lv_at hl 3 rfl) ?_
      refine hx_callWai (va_runV (As := [.int (nI ra), .int w]) (rest := []) ⟨hx, hb, hml, hown, hts⟩ (mr_asks r rc ro rm ra rl rw th gv rp rk ow rn ct rt ki aq cd g1 g2 g3 rb gw an ra w hra hrc _) (cwV 2 hts (goodIn_sub (hx_m5 km_711 km_713 kv_R_asks km_8 km_714) (by decide +kernel)) rfl rfl rfl (by decide +kernel) ⟨Nat.le_of_ble_eq_true rfl, Nat.le_of_ble_eq_true rfl⟩) (pw_V (hC.S hS) hP hD hS hA [0, 1, 2, 3, 4, 5, 6, 7, 8, 9, 10, 11, 12, 13, 14, 15] (by decide) rfl (ci := 7) rfl (q0 := 0) rfl) rfl rfl hl.1 rfl (lv_room (Nat.le_of_ble_eq_true rfl)) kd_R_exact_27 ⟨Nat.le_of_ble_eq_true rfl, Nat.le_of_ble_eq_true rfl⟩) hP hD hS hA rfl (fun H locs hP hD hS => ?_)
      refine hx_topi (y := 1) (by rw [ht]; rfl) ?_
      refine lv_if_ne (tgt := 37) hx hb kd_R_exact_30 (by decide) (fun c_30 => ?_) (fun c_30 => ?_)
      · skip
        refine lv_iconst (v := 0) hx hb kd_R_exact_37 (by decide) ?_
        refine lv_istore (lv' := [(4, .int 0), (0, .ref (r 0)), (1, .int (nI o)), (2, .int n), (3, .int w)]) hx hb kd_R_exact_38 hl (by decide) rfl (fun ls hl => ?_)
        refine lv_iconst (v := -1) hx hb kd_R_exact_40 (by decide) ?_
        refine hx_topi (y := (-1)) (rfl) ?_
        refine lv_istore (lv' := [(5, .int (-1)), (4, .int 0), (0, .ref (r 0)), (1, .int (nI o)), (2, .int n), (3, .int w)]) hx hb kd_R_exact_41 hl (by decide) rfl (fun ls hl => ?_)
        refine lv_iload hx hb kd_R_exact_43 (lv_at hl 1 rfl) ?_
        refine lv_if_eq (tgt := 52) hx hb kd_R_exact_45 (by decide) (fun c_45 => ?_) (fun c_45 => ?_)
        · skip
          obtain ⟨z, hz, hcz⟩ := hco o ho
          refine lv_aload_n hx hb kd_R_exact_52 rfl (lv_at hl 2 rfl) ?_
          refine va_get (D := D) (ci := 7) (v := .ref (r 2)) (C := "HostBridgeModel") (T := ct_R) (N := 23) hx hb hts cw_R hown hK hP 0 rfl rfl 4 (by decide) (hts _ km_625) (fun _ h9 => h9) rfl kd_R_exact_53 ?_
          refine lv_iload_n hx hb kd_R_exact_56 rfl (lv_at hl 3 rfl) ?_
          refine hx_iald (j := o) hx hb hK hP 2 rfl (rfl) (by omega) (by decide) kd_R_exact_57 ?_
          refine hx_topi (y := nI z) (hcz) ?_
          refine lv_istore (lv' := [(6, .int (nI z)), (5, .int (-1)), (4, .int 0), (0, .ref (r 0)), (1, .int (nI o)), (2, .int n), (3, .int w)]) hx hb kd_R_exact_58 hl (by decide) rfl (fun ls hl => ?_)
          refine hx_loopR (σ := Nat × Int32 × Int32) (I := fun x ls => lv_has ls 7 [(0, .ref (r 0)), (1, .int (nI o)), (2, .int n), (4, .int 0), (5, .int x.2.2), (6, .int x.2.1)] ∧ x.1 ≤ 16 ∧ ((x.2.2 = -1 ∧ (x.2.1 = -1 ∨ ∃ j : Nat, j < 16 - x.1 ∧ j < rc ∧ x.2.1 = nI j) ∧ fs_ (fun k => la_ (mq_ ow rn ct rt (lf_ (as_ w ra) aq ra) k n ra) rm) rp (16 - x.1) x.2.1 = r9) ∨ (¬ x.2.2 < 0 ∧ x.2.2 = r9))) (μ := fun x => if x.2.2 = -1 then 17 - x.1 else 0) ?_ (0, nI z, -1) ⟨lv_sub hl [3, 4, 5, 2, 1, 0] rfl, Nat.zero_le _, Or.inl ⟨rfl, Or.inr ⟨z, by dsimp only; have := hln.1; omega, hz, rfl⟩, by have h9 := hr9; rw [hcz] at h9; exact h9⟩⟩
          intro x ls hI ih60
          obtain ⟨n9, k, m9⟩ := x
          obtain ⟨hl, hn9, hI2⟩ := hI
          dsimp only at hl hn9 hI2 ih60
          refine lv_iload hx hb kd_R_exact_60 (lv_at hl 5 rfl) ?_
          refine lv_if_lt (tgt := 95) hx hb kd_R_exact_62 (by decide) (fun c_62 => ?_) (fun c_62 => ?_)
          · skip
            have hme : m9 = r9 := by
              rcases hI2 with ⟨h1, h2, h3⟩ | ⟨h1, h2⟩
              · rcases h2 with h2 | ⟨j, h4, h5, h6⟩
                · rw [h1, ← h3, h2]; cases 16 - n9 <;> rfl
                · exact absurd c_62 (by rw [h6]; exact nI_pos (by have := hln.1; omega))
              · exact h2
            refine lv_aload_n hx hb kd_R_exact_95 rfl (lv_at hl 0 rfl) ?_
            refine lv_iload hx hb kd_R_exact_96 (lv_at hl 3 rfl) ?_
            refine lv_iload hx hb kd_R_exact_98 (lv_at hl 3 rfl) ?_
            refine lv_if_ne (tgt := 121) hx hb kd_R_exact_100 (by decide) (fun c_100 => ?_) (fun c_100 => ?_)
            · exact absurd c_100 (not_not_intro rfl)
            · skip
              refine lv_iload hx hb kd_R_exact_103 (lv_at hl 4 rfl) ?_
              refine hx_topi (y := nI y) (by rw [hme, hrv]) ?_
              refine lv_if_lt (tgt := 117) hx hb kd_R_exact_105 (by decide) (fun c_105 => ?_) (fun c_105 => ?_)
              · exact absurd c_105 (nI_pos (by omega))
              · skip
                refine lv_aload_n hx hb kd_R_exact_108 rfl (lv_at hl 0 rfl) ?_
                refine lv_iload hx hb kd_R_exact_109 (lv_at hl 4 rfl) ?_
                refine hx_topi (y := nI y) (by rw [hme, hrv]) ?_
                refine hx_callRi (va_runV (As := [.int (nI y)]) (rest := [.int 0, .ref (r 0)]) ⟨hx, hb, hml, hown, hts⟩ (mr_fits r rc ro rm ra rl rw th gv rp rk ow rn ct rt ki (lf_ (as_ w ra) aq ra) cd g1 g2 g3 rb gw an y hyl hra hok hln hno hco) (cwV 1 hts (goodIn_sub (hx_m5 km_761 km_763 kv_R_fits km_8 km_764) (by decide +kernel)) rfl rfl rfl (by decide +kernel) ⟨Nat.le_of_ble_eq_true rfl, Nat.le_of_ble_eq_true rfl⟩) (pr_V (hC.S hS) hP [0, 1, 2, 3, 4, 5, 6, 7, 8, 9, 10, 11, 12, 13, 14, 15] rfl (ci := 7) rfl (q0 := 0) rfl) rfl rfl hl.1 rfl (lv_room (Nat.le_of_ble_eq_true rfl)) kd_R_exact_111 ⟨Nat.le_of_ble_eq_true rfl, Nat.le_of_ble_eq_true rfl⟩) ?_
                refine hx_topi (y := 0) (by rw [hft]; rfl) ?_
                refine lv_if_ne (tgt := 121) hx hb kd_R_exact_114 (by decide) (fun c_114 => ?_) (fun c_114 => ?_)
                · exact absurd c_114 (not_not_intro rfl)
                · skip
                  refine lv_iconst (v := 1) hx hb kd_R_exact_117 (by decide) ?_
                  refine lv_goto (tgt := 122) hx hb kd_R_exact_118 (by decide) ?_
                  refine lv_iconst (v := 0) hx hb kd_R_exact_122 (by decide) ?_
                  refine hx_callWi (va_runV (As := [.int 0, .int 1, .int 0]) (rest := []) ⟨hx, hb, hml, hown, hts⟩ (mr_throwing2 r rc ro rm ra rl rw th gv rp rk ow rn ct rt ki aq cd g1 g2 g3 rb gw an _) (cwV 3 hts (goodIn_sub (hx_m5 km_703 km_705 kv_R_throwing km_8 km_706) (by decide +kernel)) rfl rfl rfl (by decide +kernel) ⟨Nat.le_of_ble_eq_true rfl, Nat.le_of_ble_eq_true rfl⟩) (pw_V (hC.S hS) hP hD hS hA [0] (by decide) rfl (ci := 7) rfl (q0 := 0) rfl) rfl rfl hl.1 rfl (lv_room (Nat.le_of_ble_eq_true rfl)) kd_R_exact_123 ⟨Nat.le_of_ble_eq_true rfl, Nat.le_of_ble_eq_true rfl⟩) hP hD hS hA [0] rfl rfl (fun H locs hP hD hS hF => ?_)
                  have hP : va_P D cl_all [((r 0), .inr (7, [.int 2, .int (nI rc), .ref (r 1), .int (nI ro), .ref (r 2), .int (nI rm), .ref (r 3), .ref (r 4), .ref (r 5), .ref (r 6), .int (nI ra), .ref (r 7), .ref (r 8), .ref (r 9), .ref (r 10), .int (nI rl), .ref (r 11), .ref (r 12), .ref (r 13), .ref (r 14), .int (nI rw), .ref (r 15), .long gv])), ((r 1), .inl (cI, 16, .inl rp)), ((r 2), .inl (cI, 64, .inl rk)), ((r 3), .inl (cI, 64, .inl ow)), ((r 4), .inl (cI, 64, .inl rn)), ((r 5), .inl (cI, 64, .inl ct)), ((r 6), .inl (cI, 256, .inl rt)), ((r 7), .inl (cI, 4, .inl ki)), ((r 8), .inl (cL, 4, .inr (.inl rb))), ((r 9), .inl (cI, 4, .inl (lf_ (as_ w ra) aq ra))), ((r 10), .inl (cZ, 64, .inl cd)), ((r 11), .inl (cI, 64, .inl g1)), ((r 12), .inl (cI, 64, .inl g2)), ((r 13), .inl (cI, 64, .inl g3)), ((r 14), .inl (cL, 256, .inr (.inl gw))), ((r 15), .inl (cL, 64, .inr (.inl an)))] H := hP
                  have hD : va_D A [((r 0), .inr (7, [.int 2, .int (nI rc), .ref (r 1), .int (nI ro), .ref (r 2), .int (nI rm), .ref (r 3), .ref (r 4), .ref (r 5), .ref (r 6), .int (nI ra), .ref (r 7), .ref (r 8), .ref (r 9), .ref (r 10), .int (nI rl), .ref (r 11), .ref (r 12), .ref (r 13), .ref (r 14), .int (nI rw), .ref (r 15), .long gv])), ((r 1), .inl (cI, 16, .inl rp)), ((r 2), .inl (cI, 64, .inl rk)), ((r 3), .inl (cI, 64, .inl ow)), ((r 4), .inl (cI, 64, .inl rn)), ((r 5), .inl (cI, 64, .inl ct)), ((r 6), .inl (cI, 256, .inl rt)), ((r 7), .inl (cI, 4, .inl ki)), ((r 8), .inl (cL, 4, .inr (.inl rb))), ((r 9), .inl (cI, 4, .inl (lf_ (as_ w ra) aq ra))), ((r 10), .inl (cZ, 64, .inl cd)), ((r 11), .inl (cI, 64, .inl g1)), ((r 12), .inl (cI, 64, .inl g2)), ((r 13), .inl (cI, 64, .inl g3)), ((r 14), .inl (cL, 256, .inr (.inl gw))), ((r 15), .inl (cL, 64, .inr (.inl an)))] := hD
                  refine hx_topi (y := 1) (rfl) ?_
                  refine lv_if_eq (tgt := 136) hx hb kd_R_exact_126 (by decide) (fun c_126 => ?_) (fun c_126 => ?_)
                  · exact absurd c_126 (by decide)
                  · skip
                    refine lv_aload_n hx hb kd_R_exact_129 rfl (lv_at hl 0 rfl) ?_
                    refine lv_iconst (v := 0) hx hb kd_R_exact_130 (by decide) ?_
                    refine hx_topi (y := nI 0) (rfl) ?_
                    refine va_put (D := D) (ci := 7) (v := .int (nI 0)) (ty := .int) (C := "HostBridgeModel") (T := ct_R) (N := 23) hx hb hts cw_R cy_R cp_R cn_R hown hK hP hD hS 0 rfl rfl 10 (by decide) (hts _ km_631) (fun _ h9 => h9) rfl (by decide +kernel) rfl rfl (Nat.le_of_ble_eq_true rfl) kd_R_exact_131 (fun H locs hP hD hS => ?_)
                    have hP : va_P D cl_all [((r 0), .inr (7, [.int 2, .int (nI rc), .ref (r 1), .int (nI ro), .ref (r 2), .int (nI rm), .ref (r 3), .ref (r 4), .ref (r 5), .ref (r 6), .int (nI 0), .ref (r 7), .ref (r 8), .ref (r 9), .ref (r 10), .int (nI rl), .ref (r 11), .ref (r 12), .ref (r 13), .ref (r 14), .int (nI rw), .ref (r 15), .long gv])), ((r 1), .inl (cI, 16, .inl rp)), ((r 2), .inl (cI, 64, .inl rk)), ((r 3), .inl (cI, 64, .inl ow)), ((r 4), .inl (cI, 64, .inl rn)), ((r 5), .inl (cI, 64, .inl ct)), ((r 6), .inl (cI, 256, .inl rt)), ((r 7), .inl (cI, 4, .inl ki)), ((r 8), .inl (cL, 4, .inr (.inl rb))), ((r 9), .inl (cI, 4, .inl (lf_ (as_ w ra) aq ra))), ((r 10), .inl (cZ, 64, .inl cd)), ((r 11), .inl (cI, 64, .inl g1)), ((r 12), .inl (cI, 64, .inl g2)), ((r 13), .inl (cI, 64, .inl g3)), ((r 14), .inl (cL, 256, .inr (.inl gw))), ((r 15), .inl (cL, 64, .inr (.inl an)))] H := hP
                    have hD : va_D A [((r 0), .inr (7, [.int 2, .int (nI rc), .ref (r 1), .int (nI ro), .ref (r 2), .int (nI rm), .ref (r 3), .ref (r 4), .ref (r 5), .ref (r 6), .int (nI 0), .ref (r 7), .ref (r 8), .ref (r 9), .ref (r 10), .int (nI rl), .ref (r 11), .ref (r 12), .ref (r 13), .ref (r 14), .int (nI rw), .ref (r 15), .long gv])), ((r 1), .inl (cI, 16, .inl rp)), ((r 2), .inl (cI, 64, .inl rk)), ((r 3), .inl (cI, 64, .inl ow)), ((r 4), .inl (cI, 64, .inl rn)), ((r 5), .inl (cI, 64, .inl ct)), ((r 6), .inl (cI, 256, .inl rt)), ((r 7), .inl (cI, 4, .inl ki)), ((r 8), .inl (cL, 4, .inr (.inl rb))), ((r 9), .inl (cI, 4, .inl (lf_ (as_ w ra) aq ra))), ((r 10), .inl (cZ, 64, .inl cd)), ((r 11), .inl (cI, 64, .inl g1)), ((r 12), .inl (cI, 64, .inl g2)), ((r 13), .inl (cI, 64, .inl g3)), ((r 14), .inl (cL, 256, .inr (.inl gw))), ((r 15), .inl (cL, 64, .inr (.inl an)))] := hD
                    refine lv_iconst (v := 0) hx hb kd_R_exact_134 (by decide) ?_
                    exact hx_iretW hx hb hr hlocks (rfl) (hP) hS kd_R_exact_135
          · skip
            refine lv_iload hx hb kd_R_exact_65 (lv_at hl 4 rfl) ?_
            refine lv_if_ge (tgt := 95) hx hb kd_R_exact_67 (by decide) (fun c_67 => ?_) (fun c_67 => ?_)
            · skip
              have hme : m9 = r9 := by
                rcases hI2 with ⟨h1, h2, h3⟩ | ⟨h1, h2⟩
                · exact absurd c_67 (by rw [h1]; decide)
                · exact h2
              refine lv_aload_n hx hb kd_R_exact_95 rfl (lv_at hl 0 rfl) ?_
              refine lv_iload hx hb kd_R_exact_96 (lv_at hl 3 rfl) ?_
              refine lv_iload hx hb kd_R_exact_98 (lv_at hl 3 rfl) ?_
              refine lv_if_ne (tgt := 121) hx hb kd_R_exact_100 (by decide) (fun c_100 => ?_) (fun c_100 => ?_)
              · exact absurd c_100 (not_not_intro rfl)
              · skip
                refine lv_iload hx hb kd_R_exact_103 (lv_at hl 4 rfl) ?_
                refine hx_topi (y := nI y) (by rw [hme, hrv]) ?_
                refine lv_if_lt (tgt := 117) hx hb kd_R_exact_105 (by decide) (fun c_105 => ?_) (fun c_105 => ?_)
                · exact absurd c_105 (nI_pos (by omega))
                · skip
                  refine lv_aload_n hx hb kd_R_exact_108 rfl (lv_at hl 0 rfl) ?_
                  refine lv_iload hx hb kd_R_exact_109 (lv_at hl 4 rfl) ?_
                  refine hx_topi (y := nI y) (by rw [hme, hrv]) ?_
                  refine hx_callRi (va_runV (As := [.int (nI y)]) (rest := [.int 0, .ref (r 0)]) ⟨hx, hb, hml, hown, hts⟩ (mr_fits r rc ro rm ra rl rw th gv rp rk ow rn ct rt ki (lf_ (as_ w ra) aq ra) cd g1 g2 g3 rb gw an y hyl hra hok hln hno hco) (cwV 1 hts (goodIn_sub (hx_m5 km_761 km_763 kv_R_fits km_8 km_764) (by decide +kernel)) rfl rfl rfl (by decide +kernel) ⟨Nat.le_of_ble_eq_true rfl, Nat.le_of_ble_eq_true rfl⟩) (pr_V (hC.S hS) hP [0, 1, 2, 3, 4, 5, 6, 7, 8, 9, 10, 11, 12, 13, 14, 15] rfl (ci := 7) rfl (q0 := 0) rfl) rfl rfl hl.1 rfl (lv_room (Nat.le_of_ble_eq_true rfl)) kd_R_exact_111 ⟨Nat.le_of_ble_eq_true rfl, Nat.le_of_ble_eq_true rfl⟩) ?_
                  refine hx_topi (y := 0) (by rw [hft]; rfl) ?_
                  refine lv_if_ne (tgt := 121) hx hb kd_R_exact_114 (by decide) (fun c_114 => ?_) (fun c_114 => ?_)
                  · exact absurd c_114 (not_not_intro rfl)
                  · skip
                    refine lv_iconst (v := 1) hx hb kd_R_exact_117 (by decide) ?_
                    refine lv_goto (tgt := 122) hx hb kd_R_exact_118 (by decide) ?_
                    refine lv_iconst (v := 0) hx hb kd_R_exact_122 (by decide) ?_
                    refine hx_callWi (va_runV (As := [.int 0, .int 1, .int 0]) (rest := []) ⟨hx, hb, hml, hown, hts⟩ (mr_throwing2 r rc ro rm ra rl rw th gv rp rk ow rn ct rt ki aq cd g1 g2 g3 rb gw an _) (cwV 3 hts (goodIn_sub (hx_m5 km_703 km_705 kv_R_throwing km_8 km_706) (by decide +kernel)) rfl rfl rfl (by decide +kernel) ⟨Nat.le_of_ble_eq_true rfl, Nat.le_of_ble_eq_true rfl⟩) (pw_V (hC.S hS) hP hD hS hA [0] (by decide) rfl (ci := 7) rfl (q0 := 0) rfl) rfl rfl hl.1 rfl (lv_room (Nat.le_of_ble_eq_true rfl)) kd_R_exact_123 ⟨Nat.le_of_ble_eq_true rfl, Nat.le_of_ble_eq_true rfl⟩) hP hD hS hA [0] rfl rfl (fun H locs hP hD hS hF => ?_)
                    have hP : va_P D cl_all [((r 0), .inr (7, [.int 2, .int (nI rc), .ref (r 1), .int (nI ro), .ref (r 2), .int (nI rm), .ref (r 3), .ref (r 4), .ref (r 5), .ref (r 6), .int (nI ra), .ref (r 7), .ref (r 8), .ref (r 9), .ref (r 10), .int (nI rl), .ref (r 11), .ref (r 12), .ref (r 13), .ref (r 14), .int (nI rw), .ref (r 15), .long gv])), ((r 1), .inl (cI, 16, .inl rp)), ((r 2), .inl (cI, 64, .inl rk)), ((r 3), .inl (cI, 64, .inl ow)), ((r 4), .inl (cI, 64, .inl rn)), ((r 5), .inl (cI, 64, .inl ct)), ((r 6), .inl (cI, 256, .inl rt)), ((r 7), .inl (cI, 4, .inl ki)), ((r 8), .inl (cL, 4, .inr (.inl rb))), ((r 9), .inl (cI, 4, .inl (lf_ (as_ w ra) aq ra))), ((r 10), .inl (cZ, 64, .inl cd)), ((r 11), .inl (cI, 64, .inl g1)), ((r 12), .inl (cI, 64, .inl g2)), ((r 13), .inl (cI, 64, .inl g3)), ((r 14), .inl (cL, 256, .inr (.inl gw))), ((r 15), .inl (cL, 64, .inr (.inl an)))] H := hP
                    have hD : va_D A [((r 0), .inr (7, [.int 2, .int (nI rc), .ref (r 1), .int (nI ro), .ref (r 2), .int (nI rm), .ref (r 3), .ref (r 4), .ref (r 5), .ref (r 6), .int (nI ra), .ref (r 7), .ref (r 8), .ref (r 9), .ref (r 10), .int (nI rl), .ref (r 11), .ref (r 12), .ref (r 13), .ref (r 14), .int (nI rw), .ref (r 15), .long gv])), ((r 1), .inl (cI, 16, .inl rp)), ((r 2), .inl (cI, 64, .inl rk)), ((r 3), .inl (cI, 64, .inl ow)), ((r 4), .inl (cI, 64, .inl rn)), ((r 5), .inl (cI, 64, .inl ct)), ((r 6), .inl (cI, 256, .inl rt)), ((r 7), .inl (cI, 4, .inl ki)), ((r 8), .inl (cL, 4, .inr (.inl rb))), ((r 9), .inl (cI, 4, .inl (lf_ (as_ w ra) aq ra))), ((r 10), .inl (cZ, 64, .inl cd)), ((r 11), .inl (cI, 64, .inl g1)), ((r 12), .inl (cI, 64, .inl g2)), ((r 13), .inl (cI, 64, .inl g3)), ((r 14), .inl (cL, 256, .inr (.inl gw))), ((r 15), .inl (cL, 64, .inr (.inl an)))] := hD
                    refine hx_topi (y := 1) (rfl) ?_
                    refine lv_if_eq (tgt := 136) hx hb kd_R_exact_126 (by decide) (fun c_126 => ?_) (fun c_126 => ?_)
                    · exact absurd c_126 (by decide)
                    · skip
                      refine lv_aload_n hx hb kd_R_exact_129 rfl (lv_at hl 0 rfl) ?_
                      refine lv_iconst (v := 0) hx hb kd_R_exact_130 (by decide) ?_
                      refine hx_topi (y := nI 0) (rfl) ?_
                      refine va_put (D := D) (ci := 7) (v := .int (nI 0)) (ty := .int) (C := "HostBridgeModel") (T := ct_R) (N := 23) hx hb hts cw_R cy_R cp_R cn_R hown hK hP hD hS 0 rfl rfl 10 (by decide) (hts _ km_631) (fun _ h9 => h9) rfl (by decide +kernel) rfl rfl (Nat.le_of_ble_eq_true rfl) kd_R_exact_131 (fun H locs hP hD hS => ?_)
                      have hP : va_P D cl_all [((r 0), .inr (7, [.int 2, .int (nI rc), .ref (r 1), .int (nI ro), .ref (r 2), .int (nI rm), .ref (r 3), .ref (r 4), .ref (r 5), .ref (r 6), .int (nI 0), .ref (r 7), .ref (r 8), .ref (r 9), .ref (r 10), .int (nI rl), .ref (r 11), .ref (r 12), .ref (r 13), .ref (r 14), .int (nI rw), .ref (r 15), .long gv])), ((r 1), .inl (cI, 16, .inl rp)), ((r 2), .inl (cI, 64, .inl rk)), ((r 3), .inl (cI, 64, .inl ow)), ((r 4), .inl (cI, 64, .inl rn)), ((r 5), .inl (cI, 64, .inl ct)), ((r 6), .inl (cI, 256, .inl rt)), ((r 7), .inl (cI, 4, .inl ki)), ((r 8), .inl (cL, 4, .inr (.inl rb))), ((r 9), .inl (cI, 4, .inl (lf_ (as_ w ra) aq ra))), ((r 10), .inl (cZ, 64, .inl cd)), ((r 11), .inl (cI, 64, .inl g1)), ((r 12), .inl (cI, 64, .inl g2)), ((r 13), .inl (cI, 64, .inl g3)), ((r 14), .inl (cL, 256, .inr (.inl gw))), ((r 15), .inl (cL, 64, .inr (.inl an)))] H := hP
                      have hD : va_D A [((r 0), .inr (7, [.int 2, .int (nI rc), .ref (r 1), .int (nI ro), .ref (r 2), .int (nI rm), .ref (r 3), .ref (r 4), .ref (r 5), .ref (r 6), .int (nI 0), .ref (r 7), .ref (r 8), .ref (r 9), .ref (r 10), .int (nI rl), .ref (r 11), .ref (r 12), .ref (r 13), .ref (r 14), .int (nI rw), .ref (r 15), .long gv])), ((r 1), .inl (cI, 16, .inl rp)), ((r 2), .inl (cI, 64, .inl rk)), ((r 3), .inl (cI, 64, .inl ow)), ((r 4), .inl (cI, 64, .inl rn)), ((r 5), .inl (cI, 64, .inl ct)), ((r 6), .inl (cI, 256, .inl rt)), ((r 7), .inl (cI, 4, .inl ki)), ((r 8), .inl (cL, 4, .inr (.inl rb))), ((r 9), .inl (cI, 4, .inl (lf_ (as_ w ra) aq ra))), ((r 10), .inl (cZ, 64, .inl cd)), ((r 11), .inl (cI, 64, .inl g1)), ((r 12), .inl (cI, 64, .inl g2)), ((r 13), .inl (cI, 64, .inl g3)), ((r 14), .inl (cL, 256, .inr (.inl gw))), ((r 15), .inl (cL, 64, .inr (.inl an)))] := hD
                      refine lv_iconst (v := 0) hx hb kd_R_exact_134 (by decide) ?_
                      exact hx_iretW hx hb hr hlocks (rfl) (hP) hS kd_R_exact_135
            · skip
              obtain ⟨h1, h2, h3⟩ := hI2.resolve_right (fun h9 => h9.1 (Int32.not_le.mp c_67))
              obtain ⟨j, hj1, hj2, rfl⟩ := h2.resolve_left (fun h9 => c_62 (by rw [h9]; decide))
              have hf : 16 - n9 = (15 - n9) + 1 := by omega
              refine lv_aload_n hx hb kd_R_exact_70 rfl (lv_at hl 0 rfl) ?_
              refine lv_iload hx hb kd_R_exact_71 (lv_at hl 5 rfl) ?_
              refine lv_iload_n hx hb kd_R_exact_73 rfl (lv_at hl 2 rfl) ?_
              refine lv_aload_n hx hb kd_R_exact_74 rfl (lv_at hl 0 rfl) ?_
              refine va_get (D := D) (ci := 7) (v := .int (nI ra)) (C := "HostBridgeModel") (T := ct_R) (N := 23) hx hb hts cw_R hown hK hP 0 rfl rfl 10 (by decide) (hts _ km_631) (fun _ h9 => h9) rfl kd_R_exact_75 ?_
              refine hx_callRi (va_runV (As := [.int (nI j), .int n, .int (nI ra)]) (rest := []) ⟨hx, hb, hml, hown, hts⟩ (mr_methodOf r rc ro rm ra rl rw th gv rp rk ow rn ct rt ki (lf_ (as_ w ra) aq ra) cd g1 g2 g3 rb gw an (nI j) n ra hrm hra) (cwV 3 hts (goodIn_sub (hx_m5 km_715 km_717 kv_R_methodOf km_8 km_718) (by decide +kernel)) rfl rfl rfl (by decide +kernel) ⟨Nat.le_of_ble_eq_true rfl, Nat.le_of_ble_eq_true rfl⟩) (pr_V (hC.S hS) hP [0, 1, 2, 3, 4, 5, 6, 7, 8, 9, 10, 11, 12, 13, 14, 15] rfl (ci := 7) rfl (q0 := 0) rfl) rfl rfl hl.1 rfl (lv_room (Nat.le_of_ble_eq_true rfl)) kd_R_exact_78 ⟨Nat.le_of_ble_eq_true rfl, Nat.le_of_ble_eq_true rfl⟩) ?_
              refine hx_topi (y := (fun k => la_ (mq_ ow rn ct rt (lf_ (as_ w ra) aq ra) k n ra) rm) (nI j)) (rfl) ?_
              refine lv_istore (lv' := [(5, .int ((fun k => la_ (mq_ ow rn ct rt (lf_ (as_ w ra) aq ra) k n ra) rm) (nI j))), (0, .ref (r 0)), (1, .int (nI o)), (2, .int n), (4, .int 0), (6, .int (nI j))]) hx hb kd_R_exact_81 hl (by decide) rfl (fun ls hl => ?_)
              refine lv_aload_n hx hb kd_R_exact_83 rfl (lv_at hl 1 rfl) ?_
              refine va_get (D := D) (ci := 7) (v := .ref (r 1)) (C := "HostBridgeModel") (T := ct_R) (N := 23) hx hb hts cw_R hown hK hP 0 rfl rfl 2 (by decide) (hts _ km_623) (fun _ h9 => h9) rfl kd_R_exact_84 ?_
              refine lv_iload hx hb kd_R_exact_87 (lv_at hl 5 rfl) ?_
              refine hx_iald (j := j) hx hb hK hP 1 rfl (rfl) (by have := hln.1; omega) (by decide) kd_R_exact_89 ?_
              refine lv_istore (lv' := [(6, .int (rp j)), (5, .int ((fun k => la_ (mq_ ow rn ct rt (lf_ (as_ w ra) aq ra) k n ra) rm) (nI j))), (0, .ref (r 0)), (1, .int (nI o)), (2, .int n), (4, .int 0)]) hx hb kd_R_exact_90 hl (by decide) rfl (fun ls hl => ?_)
              have hnext : ((fun k => la_ (mq_ ow rn ct rt (lf_ (as_ w ra) aq ra) k n ra) rm) (nI j) = -1 ∧ (rp j = -1 ∨ ∃ j9 : Nat, j9 < 16 - (n9 + 1) ∧ j9 < rc ∧ rp j = nI j9) ∧ fs_ (fun k => la_ (mq_ ow rn ct rt (lf_ (as_ w ra) aq ra) k n ra) rm) rp (16 - (n9 + 1)) (rp j) = r9) ∨ (¬ (fun k => la_ (mq_ ow rn ct rt (lf_ (as_ w ra) aq ra) k n ra) rm) (nI j) < 0 ∧ (fun k => la_ (mq_ ow rn ct rt (lf_ (as_ w ra) aq ra) k n ra) rm) (nI j) = r9) := by
                have h4 : fs_ (fun k => la_ (mq_ ow rn ct rt (lf_ (as_ w ra) aq ra) k n ra) rm) rp (16 - n9) (nI j) = if (fun k => la_ (mq_ ow rn ct rt (lf_ (as_ w ra) aq ra) k n ra) rm) (nI j) = -1 then fs_ (fun k => la_ (mq_ ow rn ct rt (lf_ (as_ w ra) aq ra) k n ra) rm) rp (15 - n9) (rp j) else (fun k => la_ (mq_ ow rn ct rt (lf_ (as_ w ra) aq ra) k n ra) rm) (nI j) := by
                  rw [hf]; simp only [fs_]; rw [if_neg (nI_nm1 (by have := hln.1; omega)), nI_clamp (by have := hln.1; omega)]
                rw [h4] at h3
                by_cases h5 : (fun k => la_ (mq_ ow rn ct rt (lf_ (as_ w ra) aq ra) k n ra) rm) (nI j) = -1
                · rw [if_pos h5] at h3
                  exact Or.inl ⟨h5, (hln.2 j hj2).elim Or.inl (fun ⟨q, g1, g2⟩ => Or.inr ⟨q, by omega, by omega, g2⟩), by rw [show 16 - (n9 + 1) = 15 - n9 by omega]; exact h3⟩
                · rw [if_neg h5] at h3
                  exact Or.inr ⟨la_nn h5 (by omega), h3⟩
              refine lv_goto (tgt := 60) hx hb kd_R_exact_92 (by decide) ?_
              exact ih60 (n9 + 1, rp j, (fun k => la_ (mq_ ow rn ct rt (lf_ (as_ w ra) aq ra) k n ra) rm) (nI j)) _ (by dsimp only; rw [if_pos h1]; split <;> omega) ⟨lv_sub hl [2, 3, 4, 5, 1, 0] rfl, by dsimp only; omega, hnext⟩
        · exact absurd c_45 (not_not_intro rfl)
      · exact absurd c_30 (by decide)

set_option maxHeartbeats 4000000 in
set_option maxRecDepth 100000 in
theorem mr_exact0 {l : Launch} {D : va_G} {cI cL cZ : ClassId} {tb : Nat} (r : Nat → Nat) (rc ro rm ra rl rw : Nat) (th : Int32) (gv : Int64) (rp rk ow rn ct rt ki aq cd g1 g2 g3 : Nat → Int32) (rb gw an : Nat → Int64) (o : Nat) (n w : Int32) (y : Nat) (ho : o < ro) (hn1 : fb_in n 1000 = true) (hra : ra ≤ 4) (hrc : rc ≤ 16) (hno : ro ≤ 64) (hrm : rm ≤ 64) (ht : ty_ok rc w ra = true) (hok : ∀ i, i < ra → ki i = 5 → ∃ o : Nat, o < ro ∧ rb i = lN o) (hln : ln_ok rc rp) (hco : ∀ j, j < ro → ∃ q : Nat, q < rc ∧ rk j = nI q) (r9 : Int32) (hr9 : fs_ (fun k => la_ (mq_ ow rn ct rt (lf_ (as_ w ra) aq ra) k n ra) rm) rp 16 (rk o) = r9) (hrv : r9 = nI y) (hyl : y < 64) (hft : fr_ rp rk ki rb ct rt ra y = true) (hrl : rl < 2 ^ 31) (hrw : rw ≤ 64) (sz : Nat) : Met l ky_R_exact kw_R_exact { frames := 4, cells := 0, slots := 0, locals := 99 } (pw_P D cI cL cZ tb [((r 0), .inr (7, [.int th, .int (nI rc), .ref (r 1), .int (nI ro), .ref (r 2), .int (nI rm), .ref (r 3), .ref (r 4), .ref (r 5), .ref (r 6), .int (nI ra), .ref (r 7), .ref (r 8), .ref (r 9), .ref (r 10), .int (nI rl), .ref (r 11), .ref (r 12), .ref (r 13), .ref (r 14), .int (nI rw), .ref (r 15), .long gv])), ((r 1), .inl (cI, 16, .inl rp)), ((r 2), .inl (cI, 64, .inl rk)), ((r 3), .inl (cI, 64, .inl ow)), ((r 4), .inl (cI, 64, .inl rn)), ((r 5), .inl (cI, 64, .inl ct)), ((r 6), .inl (cI, 256, .inl rt)), ((r 7), .inl (cI, 4, .inl ki)), ((r 8), .inl (cL, 4, .inr (.inl rb))), ((r 9), .inl (cI, 4, .inl aq)), ((r 10), .inl (cZ, 64, .inl cd)), ((r 11), .inl (cI, 64, .inl g1)), ((r 12), .inl (cI, 64, .inl g2)), ((r 13), .inl (cI, 64, .inl g3)), ((r 14), .inl (cL, 256, .inr (.inl gw))), ((r 15), .inl (cL, 64, .inr (.inl an)))] sz [.ref (r 0), .int (nI o), .int n, .int w]) (hx_QW D (some (.int (nI y))) [((r 0), .inr (7, [.int 0, .int (nI rc), .ref (r 1), .int (nI ro), .ref (r 2), .int (nI rm), .ref (r 3), .ref (r 4), .ref (r 5), .ref (r 6), .int (nI 0), .ref (r 7), .ref (r 8), .ref (r 9), .ref (r 10), .int (nI (rl + 1)), .ref (r 11), .ref (r 12), .ref (r 13), .ref (r 14), .int (nI (rw - 1)), .ref (r 15), .long (if rw = 0 then 0 else an 0)])), ((r 1), .inl (cI, 16, .inl rp)), ((r 2), .inl (cI, 64, .inl rk)), ((r 3), .inl (cI, 64, .inl ow)), ((r 4), .inl (cI, 64, .inl rn)), ((r 5), .inl (cI, 64, .inl ct)), ((r 6), .inl (cI, 256, .inl rt)), ((r 7), .inl (cI, 4, .inl ki)), ((r 8), .inl (cL, 4, .inr (.inl rb))), ((r 9), .inl (cI, 4, .inl (lf_ (as_ w ra) aq ra))), ((r 10), .inl (cZ, 64, .inl cd)), ((r 11), .inl (cI, 64, .inl (upd g1 (rl % 64) (nI o)))), ((r 12), .inl (cI, 64, .inl (upd g2 (rl % 64) (nI y)))), ((r 13), .inl (cI, 64, .inl (upd g3 (rl % 64) (nI ra)))), ((r 14), .inl (cL, 256, .inr (.inl (wv_ gw (4 * (rl % 64)) (fun i => tu_ ki rb i (rt (4 * y + i))) ra)))), ((r 15), .inl (cL, 64, .inr (.inl (sq_ an rw))))] (va_A [((r 0), .inr (7, [.int th, .int (nI rc), .ref (r 1), .int (nI ro), .ref (r 2), .int (nI rm), .ref (r 3), .ref (r 4), .ref (r 5), .ref (r 6), .int (nI ra), .ref (r 7), .ref (r 8), .ref (r 9), .ref (r 10), .int (nI rl), .ref (r 11), .ref (r 12), .ref (r 13), .ref (r 14), .int (nI rw), .ref (r 15), .long gv])), ((r 1), .inl (cI, 16, .inl rp)), ((r 2), .inl (cI, 64, .inl rk)), ((r 3), .inl (cI, 64, .inl ow)), ((r 4), .inl (cI, 64, .inl rn)), ((r 5), .inl (cI, 64, .inl ct)), ((r 6), .inl (cI, 256, .inl rt)), ((r 7), .inl (cI, 4, .inl ki)), ((r 8), .inl (cL, 4, .inr (.inl rb))), ((r 9), .inl (cI, 4, .inl aq)), ((r 10), .inl (cZ, 64, .inl cd)), ((r 11), .inl (cI, 64, .inl g1)), ((r 12), .inl (cI, 64, .inl g2)), ((r 13), .inl (cI, 64, .inl g3)), ((r 14), .inl (cL, 256, .inr (.inl gw))), ((r 15), .inl (cL, 64, .inr (.inl an)))] sz)) 0 0 (va_A [((r 0), .inr (7, [.int th, .int (nI rc), .ref (r 1), .int (nI ro), .ref (r 2), .int (nI rm), .ref (r 3), .ref (r 4), .ref (r 5), .ref (r 6), .int (nI ra), .ref (r 7), .ref (r 8), .ref (r 9), .ref (r 10), .int (nI rl), .ref (r 11), .ref (r 12), .ref (r 13), .ref (r 14), .int (nI rw), .ref (r 15), .long gv])), ((r 1), .inl (cI, 16, .inl rp)), ((r 2), .inl (cI, 64, .inl rk)), ((r 3), .inl (cI, 64, .inl ow)), ((r 4), .inl (cI, 64, .inl rn)), ((r 5), .inl (cI, 64, .inl ct)), ((r 6), .inl (cI, 256, .inl rt)), ((r 7), .inl (cI, 4, .inl ki)), ((r 8), .inl (cL, 4, .inr (.inl rb))), ((r 9), .inl (cI, 4, .inl aq)), ((r 10), .inl (cZ, 64, .inl cd)), ((r 11), .inl (cI, 64, .inl g1)), ((r 12), .inl (cI, 64, .inl g2)), ((r 13), .inl (cI, 64, .inl g3)), ((r 14), .inl (cL, 256, .inr (.inl gw))), ((r 15), .inl (cL, 64, .inr (.inl an)))] sz) := by
  refine Met.ofW (cc := kc_R_exact) (maxL := 7) (ret := (some .int)) (by decide) rfl ?_
  intro p e s m args below meth c s₁ B hml hv
  obtain ⟨rfl, hsz, hC, hP, hD0⟩ := hv
  have hx := B.exec
  have hb := B.bytes
  have hr := B.returns
  have hlocks := B.notSynchronized
  have hown : s.vm.findClass "HostBridgeModel" = some m.cls := findClass_of_methodNamed B.named
  subst hsz
  have hD := hD0.self (sz := s.heap.size)
  generalize hAe : va_A [((r 0), .inr (7, [.int th, .int (nI rc), .ref (r 1), .int (nI ro), .ref (r 2), .int (nI rm), .ref (r 3), .ref (r 4), .ref (r 5), .ref (r 6), .int (nI ra), .ref (r 7), .ref (r 8), .ref (r 9), .ref (r 10), .int (nI rl), .ref (r 11), .ref (r 12), .ref (r 13), .ref (r 14), .int (nI rw), .ref (r 15), .long gv])), ((r 1), .inl (cI, 16, .inl rp)), ((r 2), .inl (cI, 64, .inl rk)), ((r 3), .inl (cI, 64, .inl ow)), ((r 4), .inl (cI, 64, .inl rn)), ((r 5), .inl (cI, 64, .inl ct)), ((r 6), .inl (cI, 256, .inl rt)), ((r 7), .inl (cI, 4, .inl ki)), ((r 8), .inl (cL, 4, .inr (.inl rb))), ((r 9), .inl (cI, 4, .inl aq)), ((r 10), .inl (cZ, 64, .inl cd)), ((r 11), .inl (cI, 64, .inl g1)), ((r 12), .inl (cI, 64, .inl g2)), ((r 13), .inl (cI, 64, .inl g3)), ((r 14), .inl (cL, 256, .inr (.inl gw))), ((r 15), .inl (cL, 64, .inr (.inl an)))] s.heap.size = A at hD hC ⊢
  have hA : ∀ q : Nat, s.heap.size ≤ q → A q := fun q h => by rw [← hAe]; exact Or.inr h
  have hS : va_S A s.heap s.heap [] := va_S.rf
  have hK := hC.K
  have hts := hC.ts [.ref (r 0), .int (nI o), .int n, .int w].toArray
  have hl := lv_entry ([.ref (r 0), .int (nI o), .int n, .int w]) (n := 7) (Nat.le_of_ble_eq_true rfl)
  rw [lg_entry_eq]
  generalize (lg_sl ([.ref (r 0), .int (nI o), .int n, .int w]) ++ List.replicate (7 - (lg_sl ([.ref (r 0), .int (nI o), .int n, .int w])).length) Slot.unset).toArray = ls at hl ⊢
  have hl : lv_has ls 7 [(0, .ref (r 0)), (1, .int (nI o)), (2, .int n), (3, .int w)] := hl
  refine lv_iload_n hx hb kd_R_exact_0 rfl (lv_at hl 1 rfl) ?_
  refine lv_aload_n hx hb kd_R_exact_1 rfl (lv_at hl 0 rfl) ?_
  refine va_get (D := D) (ci := 7) (v := .int (nI ro)) (C := "HostBridgeModel") (T := ct_R) (N := 23) hx hb hts cw_R hown hK hP 0 rfl rfl 3 (by decide) (hts _ km_624) (fun _ h9 => h9) rfl kd_R_exact_2 ?_
  refine hx_callRi (va_runS (As := [.int (nI o), .int (nI ro)]) (rest := []) ⟨hx, hb, hml, hown, hts⟩ (mr_isNo (nI o) ro) (va_cwS 2 hts (goodIn_sub (hx_m4 km_700 km_701 km_8 km_702) (by decide +kernel)) rfl rfl rfl (by decide +kernel) ⟨Nat.le_of_ble_eq_true rfl, Nat.le_of_ble_eq_true rfl⟩) (pr_S (hC.S hS) hP [] rfl) rfl rfl hl.1 rfl (lv_room (Nat.le_of_ble_eq_true rfl)) kd_R_exact_5 ⟨Nat.le_of_ble_eq_true rfl, Nat.le_of_ble_eq_true rfl⟩) ?_
  refine hx_topi (y := 0) (by rw [(fb_in_iff (by omega)).mpr ⟨o, ho, rfl⟩]; rfl) ?_
  refine lv_if_ne (tgt := 33) hx hb kd_R_exact_8 (by decide) (fun c_8 => ?_) (fun c_8 => ?_)
  · exact absurd c_8 (not_not_intro rfl)
  · skip
    refine lv_iload_n hx hb kd_R_exact_11 rfl (lv_at hl 2 rfl) ?_
    refine lv_sipush (v := 1000) hx hb kd_R_exact_12 (by decide) ?_
    refine hx_topi (y := nI 1000) (by decide) ?_
    refine hx_callRi (va_runS (As := [.int n, .int (nI 1000)]) (rest := []) ⟨hx, hb, hml, hown, hts⟩ (mr_isNo n 1000) (va_cwS 2 hts (goodIn_sub (hx_m4 km_700 km_701 km_8 km_702) (by decide +kernel)) rfl rfl rfl (by decide +kernel) ⟨Nat.le_of_ble_eq_true rfl, Nat.le_of_ble_eq_true rfl⟩) (pr_S (hC.S hS) hP [] rfl) rfl rfl hl.1 rfl (lv_room (Nat.le_of_ble_eq_true rfl)) kd_R_exact_15 ⟨Nat.le_of_ble_eq_true rfl, Nat.le_of_ble_eq_true rfl⟩) ?_
    refine hx_topi (y := 0) (by rw [hn1]; rfl) ?_
    refine lv_if_ne (tgt := 33) hx hb kd_R_exact_18 (by decide) (fun c_18 => ?_) (fun c_18 => ?_)
    · exact absurd c_18 (not_not_intro rfl)
    · skip
      refine lv_aload_n hx hb kd_R_exact_21 rfl (lv_at hl 0 rfl) ?_
      refine lv_aload_n hx hb kd_R_exact_22 rfl (lv_at hl 0 rfl) ?_
      refine va_get (D := D) (ci := 7) (v := .int (nI ra)) (C := "HostBridgeModel") (T := ct_R) (N := 23) hx hb hts cw_R hown hK hP 0 rfl rfl 10 (by decide) (hts _ km_631) (fun _ h9 => h9) rfl kd_R_exact_23 ?_
      refine lv_iload_n hx hb kd_R_exact_26 rfl (lv_at hl 3 rfl) ?_
      refine hx_callWai (va_runV (As := [.int (nI ra), .int w]) (rest := []) ⟨hx, hb, hml, hown, hts⟩ (mr_asks r rc ro rm ra rl rw th gv rp rk ow rn ct rt ki aq cd g1 g2 g3 rb gw an ra w hra hrc _) (cwV 2 hts (goodIn_sub (hx_m5 km_711 km_713 kv_R_asks km_8 km_714) (by decide +kernel)) rfl rfl rfl (by decide +kernel) ⟨Nat.le_of_ble_eq_true rfl, Nat.le_of_ble_eq_true rfl⟩) (pw_V (hC.S hS) hP hD hS hA [0, 1, 2, 3, 4, 5, 6, 7, 8, 9, 10, 11, 12, 13, 14, 15] (by decide) rfl (ci := 7) rfl (q0 := 0) rfl) rfl rfl hl.1 rfl (lv_room (Nat.le_of_ble_eq_true rfl)) kd_R_exact_27 ⟨Nat.le_of_ble_eq_true rfl, Nat.le_of_ble_eq_true rfl⟩) hP hD hS hA rfl (fun H locs hP hD hS => ?_)
      refine hx_topi (y := 1) (by rw [ht]; rfl) ?_
      refine lv_if_ne (tgt := 37) hx hb kd_R_exact_30 (by decide) (fun c_30 => ?_) (fun c_30 => ?_)
      · skip
        refine lv_iconst (v := 0) hx hb kd_R_exact_37 (by decide) ?_
        refine lv_istore (lv' := [(4, .int 0), (0, .ref (r 0)), (1, .int (nI o)), (2, .int n), (3, .int w)]) hx hb kd_R_exact_38 hl (by decide) rfl (fun ls hl => ?_)
        refine lv_iconst (v := -1) hx hb kd_R_exact_40 (by decide) ?_
        refine hx_topi (y := (-1)) (rfl) ?_
        refine lv_istore (lv' := [(5, .int (-1)), (4, .int 0), (0, .ref (r 0)), (1, .int (nI o)), (2, .int n), (3, .int w)]) hx hb kd_R_exact_41 hl (by decide) rfl (fun ls hl => ?_)
        refine lv_iload hx hb kd_R_exact_43 (lv_at hl 1 rfl) ?_
        refine lv_if_eq (tgt := 52) hx hb kd_R_exact_45 (by decide) (fun c_45 => ?_) (fun c_45 => ?_)
        · skip
          obtain ⟨z, hz, hcz⟩ := hco o ho
          refine lv_aload_n hx hb kd_R_exact_52 rfl (lv_at hl 2 rfl) ?_
          refine va_get (D := D) (ci := 7) (v := .ref (r 2)) (C := "HostBridgeModel") (T := ct_R) (N := 23) hx hb hts cw_R hown hK hP 0 rfl rfl 4 (by decide) (hts _ km_625) (fun _ h9 => h9) rfl kd_R_exact_53 ?_
          refine lv_iload_n hx hb kd_R_exact_56 rfl (lv_at hl 3 rfl) ?_
          refine hx_iald (j := o) hx hb hK hP 2 rfl (rfl) (by omega) (by decide) kd_R_exact_57 ?_
          refine hx_topi (y := nI z) (hcz) ?_
          refine lv_istore (lv' := [(6, .int (nI z)), (5, .int (-1)), (4, .int 0), (0, .ref (r 0)), (1, .int (nI o)), (2, .int n), (3, .int w)]) hx hb kd_R_exact_58 hl (by decide) rfl (fun ls hl => ?_)
          refine hx_loopR (σ := Nat × Int32 × Int32) (I := fun x ls => lv_has ls 7 [(0, .ref (r 0)), (1, .int (nI o)), (2, .int n), (4, .int 0), (5, .int x.2.2), (6, .int x.2.1)] ∧ x.1 ≤ 16 ∧ ((x.2.2 = -1 ∧ (x.2.1 = -1 ∨ ∃ j : Nat, j < 16 - x.1 ∧ j < rc ∧ x.2.1 = nI j) ∧ fs_ (fun k => la_ (mq_ ow rn ct rt (lf_ (as_ w ra) aq ra) k n ra) rm) rp (16 - x.1) x.2.1 = r9) ∨ (¬ x.2.2 < 0 ∧ x.2.2 = r9))) (μ := fun x => if x.2.2 = -1 then 17 - x.1 else 0) ?_ (0, nI z, -1) ⟨lv_sub hl [3, 4, 5, 2, 1, 0] rfl, Nat.zero_le _, Or.inl ⟨rfl, Or.inr ⟨z, by dsimp only; have := hln.1; omega, hz, rfl⟩, by have h9 := hr9; rw [hcz] at h9; exact h9⟩⟩
          intro x ls hI ih60
          obtain ⟨n9, k, m9⟩ := x
          obtain ⟨hl, hn9, hI2⟩ := hI
          dsimp only at hl hn9 hI2 ih60
          refine lv_iload hx hb kd_R_exact_60 (lv_at hl 5 rfl) ?_
          refine lv_if_lt (tgt := 95) hx hb kd_R_exact_62 (by decide) (fun c_62 => ?_) (fun c_62 => ?_)
          · skip
            have hme : m9 = r9 := by
              rcases hI2 with ⟨h1, h2, h3⟩ | ⟨h1, h2⟩
              · rcases h2 with h2 | ⟨j, h4, h5, h6⟩
                · rw [h1, ← h3, h2]; cases 16 - n9 <;> rfl
                · exact absurd c_62 (by rw [h6]; exact nI_pos (by have := hln.1; omega))
              · exact h2
            refine lv_aload_n hx hb kd_R_exact_95 rfl (lv_at hl 0 rfl) ?_
            refine lv_iload hx hb kd_R_exact_96 (lv_at hl 3 rfl) ?_
            refine lv_iload hx hb kd_R_exact_98 (lv_at hl 3 rfl) ?_
            refine lv_if_ne (tgt := 121) hx hb kd_R_exact_100 (by decide) (fun c_100 => ?_) (fun c_100 => ?_)
            · exact absurd c_100 (not_not_intro rfl)
            · skip
              refine lv_iload hx hb kd_R_exact_103 (lv_at hl 4 rfl) ?_
              refine hx_topi (y := nI y) (by rw [hme, hrv]) ?_
              refine lv_if_lt (tgt := 117) hx hb kd_R_exact_105 (by decide) (fun c_105 => ?_) (fun c_105 => ?_)
              · exact absurd c_105 (nI_pos (by omega))
              · skip
                refine lv_aload_n hx hb kd_R_exact_108 rfl (lv_at hl 0 rfl) ?_
                refine lv_iload hx hb kd_R_exact_109 (lv_at hl 4 rfl) ?_
                refine hx_topi (y := nI y) (by rw [hme, hrv]) ?_
                refine hx_callRi (va_runV (As := [.int (nI y)]) (rest := [.int 0, .ref (r 0)]) ⟨hx, hb, hml, hown, hts⟩ (mr_fits r rc ro rm ra rl rw th gv rp rk ow rn ct rt ki (lf_ (as_ w ra) aq ra) cd g1 g2 g3 rb gw an y hyl hra hok hln hno hco) (cwV 1 hts (goodIn_sub (hx_m5 km_761 km_763 kv_R_fits km_8 km_764) (by decide +kernel)) rfl rfl rfl (by decide +kernel) ⟨Nat.le_of_ble_eq_true rfl, Nat.le_of_ble_eq_true rfl⟩) (pr_V (hC.S hS) hP [0, 1, 2, 3, 4, 5, 6, 7, 8, 9, 10, 11, 12, 13, 14, 15] rfl (ci := 7) rfl (q0 := 0) rfl) rfl rfl hl.1 rfl (lv_room (Nat.le_of_ble_eq_true rfl)) kd_R_exact_111 ⟨Nat.le_of_ble_eq_true rfl, Nat.le_of_ble_eq_true rfl⟩) ?_
                refine hx_topi (y := 1) (by rw [hft]; rfl) ?_
                refine lv_if_ne (tgt := 121) hx hb kd_R_exact_114 (by decide) (fun c_114 => ?_) (fun c_114 => ?_)
                · skip
                  refine lv_iconst (v := 0) hx hb kd_R_exact_121 (by decide) ?_
                  refine lv_iconst (v := 0) hx hb kd_R_exact_122 (by decide) ?_
                  refine hx_callWi (va_runV (As := [.int 0, .int 0, .int 0]) (rest := []) ⟨hx, hb, hml, hown, hts⟩ (mr_throwing0 r rc ro rm ra rl rw th gv rp rk ow rn ct rt ki aq cd g1 g2 g3 rb gw an _) (cwV 3 hts (goodIn_sub (hx_m5 km_703 km_705 kv_R_throwing km_8 km_706) (by decide +kernel)) rfl rfl rfl (by decide +kernel) ⟨Nat.le_of_ble_eq_true rfl, Nat.le_of_ble_eq_true rfl⟩) (pw_V (hC.S hS) hP hD hS hA [0] (by decide) rfl (ci := 7) rfl (q0 := 0) rfl) rfl rfl hl.1 rfl (lv_room (Nat.le_of_ble_eq_true rfl)) kd_R_exact_123 ⟨Nat.le_of_ble_eq_true rfl, Nat.le_of_ble_eq_true rfl⟩) hP hD hS hA [0] rfl rfl (fun H locs hP hD hS hF => ?_)
                  have hP : va_P D cl_all [((r 0), .inr (7, [.int 0, .int (nI rc), .ref (r 1), .int (nI ro), .ref (r 2), .int (nI rm), .ref (r 3), .ref (r 4), .ref (r 5), .ref (r 6), .int (nI ra), .ref (r 7), .ref (r 8), .ref (r 9), .ref (r 10), .int (nI rl), .ref (r 11), .ref (r 12), .ref (r 13), .ref (r 14), .int (nI rw), .ref (r 15), .long gv])), ((r 1), .inl (cI, 16, .inl rp)), ((r 2), .inl (cI, 64, .inl rk)), ((r 3), .inl (cI, 64, .inl ow)), ((r 4), .inl (cI, 64, .inl rn)), ((r 5), .inl (cI, 64, .inl ct)), ((r 6), .inl (cI, 256, .inl rt)), ((r 7), .inl (cI, 4, .inl ki)), ((r 8), .inl (cL, 4, .inr (.inl rb))), ((r 9), .inl (cI, 4, .inl (lf_ (as_ w ra) aq ra))), ((r 10), .inl (cZ, 64, .inl cd)), ((r 11), .inl (cI, 64, .inl g1)), ((r 12), .inl (cI, 64, .inl g2)), ((r 13), .inl (cI, 64, .inl g3)), ((r 14), .inl (cL, 256, .inr (.inl gw))), ((r 15), .inl (cL, 64, .inr (.inl an)))] H := hP
                  have hD : va_D A [((r 0), .inr (7, [.int 0, .int (nI rc), .ref (r 1), .int (nI ro), .ref (r 2), .int (nI rm), .ref (r 3), .ref (r 4), .ref (r 5), .ref (r 6), .int (nI ra), .ref (r 7), .ref (r 8), .ref (r 9), .ref (r 10), .int (nI rl), .ref (r 11), .ref (r 12), .ref (r 13), .ref (r 14), .int (nI rw), .ref (r 15), .long gv])), ((r 1), .inl (cI, 16, .inl rp)), ((r 2), .inl (cI, 64, .inl rk)), ((r 3), .inl (cI, 64, .inl ow)), ((r 4), .inl (cI, 64, .inl rn)), ((r 5), .inl (cI, 64, .inl ct)), ((r 6), .inl (cI, 256, .inl rt)), ((r 7), .inl (cI, 4, .inl ki)), ((r 8), .inl (cL, 4, .inr (.inl rb))), ((r 9), .inl (cI, 4, .inl (lf_ (as_ w ra) aq ra))), ((r 10), .inl (cZ, 64, .inl cd)), ((r 11), .inl (cI, 64, .inl g1)), ((r 12), .inl (cI, 64, .inl g2)), ((r 13), .inl (cI, 64, .inl g3)), ((r 14), .inl (cL, 256, .inr (.inl gw))), ((r 15), .inl (cL, 64, .inr (.inl an)))] := hD
                  refine hx_topi (y := 0) (rfl) ?_
                  refine lv_if_eq (tgt := 136) hx hb kd_R_exact_126 (by decide) (fun c_126 => ?_) (fun c_126 => ?_)
                  · skip
                    refine lv_aload_n hx hb kd_R_exact_136 rfl (lv_at hl 0 rfl) ?_
                    refine lv_iload_n hx hb kd_R_exact_137 rfl (lv_at hl 1 rfl) ?_
                    refine lv_iload hx hb kd_R_exact_138 (lv_at hl 4 rfl) ?_
                    refine hx_topi (y := nI y) (by rw [hme, hrv]) ?_
                    refine hx_callWai (va_runV (As := [.int (nI o), .int (nI y)]) (rest := []) ⟨hx, hb, hml, hown, hts⟩ (mr_make r rc ro rm ra rl rw 0 gv rp rk ow rn ct rt ki (lf_ (as_ w ra) aq ra) cd g1 g2 g3 rb gw an o y hyl hra hrl hrw _) (cwV 2 hts (goodIn_sub (hx_m5 km_773 km_775 kv_R_make km_8 km_776) (by decide +kernel)) rfl rfl rfl (by decide +kernel) ⟨Nat.le_of_ble_eq_true rfl, Nat.le_of_ble_eq_true rfl⟩) (pw_V (hC.S hS) hP hD hS hA [0, 1, 2, 3, 4, 5, 6, 7, 8, 9, 10, 11, 12, 13, 14, 15] (by decide) rfl (ci := 7) rfl (q0 := 0) rfl) rfl rfl hl.1 rfl (lv_room (Nat.le_of_ble_eq_true rfl)) kd_R_exact_140 ⟨Nat.le_of_ble_eq_true rfl, Nat.le_of_ble_eq_true rfl⟩) hP hD hS hA rfl (fun H locs hP hD hS => ?_)
                    exact hx_iretW hx hb hr hlocks (rfl) (hP) hS kd_R_exact_143
                  · exact absurd c_126 (not_not_intro rfl)
                · exact absurd c_114 (by decide)
          · skip
            refine lv_iload hx hb kd_R_exact_65 (lv_at hl 4 rfl) ?_
            refine lv_if_ge (tgt := 95) hx hb kd_R_exact_67 (by decide) (fun c_67 => ?_) (fun c_67 => ?_)
            · skip
              have hme : m9 = r9 := by
                rcases hI2 with ⟨h1, h2, h3⟩ | ⟨h1, h2⟩
                · exact absurd c_67 (by rw [h1]; decide)
                · exact h2
              refine lv_aload_n hx hb kd_R_exact_95 rfl (lv_at hl 0 rfl) ?_
              refine lv_iload hx hb kd_R_exact_96 (lv_at hl 3 rfl) ?_
              refine lv_iload hx hb kd_R_exact_98 (lv_at hl 3 rfl) ?_
              refine lv_if_ne (tgt := 121) hx hb kd_R_exact_100 (by decide) (fun c_100 => ?_) (fun c_100 => ?_)
              · exact absurd c_100 (not_not_intro rfl)
              · skip
                refine lv_iload hx hb kd_R_exact_103 (lv_at hl 4 rfl) ?_
                refine hx_topi (y := nI y) (by rw [hme, hrv]) ?_
                refine lv_if_lt (tgt := 117) hx hb kd_R_exact_105 (by decide) (fun c_105 => ?_) (fun c_105 => ?_)
                · exact absurd c_105 (nI_pos (by omega))
                · skip
                  refine lv_aload_n hx hb kd_R_exact_108 rfl (lv_at hl 0 rfl) ?_
                  refine lv_iload hx hb kd_R_exact_109 (lv_at hl 4 rfl) ?_
                  refine hx_topi (y := nI y) (by rw [hme, hrv]) ?_
                  refine hx_callRi (va_runV (As := [.int (nI y)]) (rest := [.int 0, .ref (r 0)]) ⟨hx, hb, hml, hown, hts⟩ (mr_fits r rc ro rm ra rl rw th gv rp rk ow rn ct rt ki (lf_ (as_ w ra) aq ra) cd g1 g2 g3 rb gw an y hyl hra hok hln hno hco) (cwV 1 hts (goodIn_sub (hx_m5 km_761 km_763 kv_R_fits km_8 km_764) (by decide +kernel)) rfl rfl rfl (by decide +kernel) ⟨Nat.le_of_ble_eq_true rfl, Nat.le_of_ble_eq_true rfl⟩) (pr_V (hC.S hS) hP [0, 1, 2, 3, 4, 5, 6, 7, 8, 9, 10, 11, 12, 13, 14, 15] rfl (ci := 7) rfl (q0 := 0) rfl) rfl rfl hl.1 rfl (lv_room (Nat.le_of_ble_eq_true rfl)) kd_R_exact_111 ⟨Nat.le_of_ble_eq_true rfl, Nat.le_of_ble_eq_true rfl⟩) ?_
                  refine hx_topi (y := 1) (by rw [hft]; rfl) ?_
                  refine lv_if_ne (tgt := 121) hx hb kd_R_exact_114 (by decide) (fun c_114 => ?_) (fun c_114 => ?_)
                  · skip
                    refine lv_iconst (v := 0) hx hb kd_R_exact_121 (by decide) ?_
                    refine lv_iconst (v := 0) hx hb kd_R_exact_122 (by decide) ?_
                    refine hx_callWi (va_runV (As := [.int 0, .int 0, .int 0]) (rest := []) ⟨hx, hb, hml, hown, hts⟩ (mr_throwing0 r rc ro rm ra rl rw th gv rp rk ow rn ct rt ki aq cd g1 g2 g3 rb gw an _) (cwV 3 hts (goodIn_sub (hx_m5 km_703 km_705 kv_R_throwing km_8 km_706) (by decide +kernel)) rfl rfl rfl (by decide +kernel) ⟨Nat.le_of_ble_eq_true rfl, Nat.le_of_ble_eq_true rfl⟩) (pw_V (hC.S hS) hP hD hS hA [0] (by decide) rfl (ci := 7) rfl (q0 := 0) rfl) rfl rfl hl.1 rfl (lv_room (Nat.le_of_ble_eq_true rfl)) kd_R_exact_123 ⟨Nat.le_of_ble_eq_true rfl, Nat.le_of_ble_eq_true rfl⟩) hP hD hS hA [0] rfl rfl (fun H locs hP hD hS hF => ?_)
                    have hP : va_P D cl_all [((r 0), .inr (7, [.int 0, .int (nI rc), .ref (r 1), .int (nI ro), .ref (r 2), .int (nI rm), .ref (r 3), .ref (r 4), .ref (r 5), .ref (r 6), .int (nI ra), .ref (r 7), .ref (r 8), .ref (r 9), .ref (r 10), .int (nI rl), .ref (r 11), .ref (r 12), .ref (r 13), .ref (r 14), .int (nI rw), .ref (r 15), .long gv])), ((r 1), .inl (cI, 16, .inl rp)), ((r 2), .inl (cI, 64, .inl rk)), ((r 3), .inl (cI, 64, .inl ow)), ((r 4), .inl (cI, 64, .inl rn)), ((r 5), .inl (cI, 64, .inl ct)), ((r 6), .inl (cI, 256, .inl rt)), ((r 7), .inl (cI, 4, .inl ki)), ((r 8), .inl (cL, 4, .inr (.inl rb))), ((r 9), .inl (cI, 4, .inl (lf_ (as_ w ra) aq ra))), ((r 10), .inl (cZ, 64, .inl cd)), ((r 11), .inl (cI, 64, .inl g1)), ((r 12), .inl (cI, 64, .inl g2)), ((r 13), .inl (cI, 64, .inl g3)), ((r 14), .inl (cL, 256, .inr (.inl gw))), ((r 15), .inl (cL, 64, .inr (.inl an)))] H := hP
                    have hD : va_D A [((r 0), .inr (7, [.int 0, .int (nI rc), .ref (r 1), .int (nI ro), .ref (r 2), .int (nI rm), .ref (r 3), .ref (r 4), .ref (r 5), .ref (r 6), .int (nI ra), .ref (r 7), .ref (r 8), .ref (r 9), .ref (r 10), .int (nI rl), .ref (r 11), .ref (r 12), .ref (r 13), .ref (r 14), .int (nI rw), .ref (r 15), .long gv])), ((r 1), .inl (cI, 16, .inl rp)), ((r 2), .inl (cI, 64, .inl rk)), ((r 3), .inl (cI, 64, .inl ow)), ((r 4), .inl (cI, 64, .inl rn)), ((r 5), .inl (cI, 64, .inl ct)), ((r 6), .inl (cI, 256, .inl rt)), ((r 7), .inl (cI, 4, .inl ki)), ((r 8), .inl (cL, 4, .inr (.inl rb))), ((r 9), .inl (cI, 4, .inl (lf_ (as_ w ra) aq ra))), ((r 10), .inl (cZ, 64, .inl cd)), ((r 11), .inl (cI, 64, .inl g1)), ((r 12), .inl (cI, 64, .inl g2)), ((r 13), .inl (cI, 64, .inl g3)), ((r 14), .inl (cL, 256, .inr (.inl gw))), ((r 15), .inl (cL, 64, .inr (.inl an)))] := hD
                    refine hx_topi (y := 0) (rfl) ?_
                    refine lv_if_eq (tgt := 136) hx hb kd_R_exact_126 (by decide) (fun c_126 => ?_) (fun c_126 => ?_)
                    · skip
                      refine lv_aload_n hx hb kd_R_exact_136 rfl (lv_at hl 0 rfl) ?_
                      refine lv_iload_n hx hb kd_R_exact_137 rfl (lv_at hl 1 rfl) ?_
                      refine lv_iload hx hb kd_R_exact_138 (lv_at hl 4 rfl) ?_
                      refine hx_topi (y := nI y) (by rw [hme, hrv]) ?_
                      refine hx_callWai (va_runV (As := [.int (nI o), .int (nI y)]) (rest := []) ⟨hx, hb, hml, hown, hts⟩ (mr_make r rc ro rm ra rl rw 0 gv rp rk ow rn ct rt ki (lf_ (as_ w ra) aq ra) cd g1 g2 g3 rb gw an o y hyl hra hrl hrw _) (cwV 2 hts (goodIn_sub (hx_m5 km_773 km_775 kv_R_make km_8 km_776) (by decide +kernel)) rfl rfl rfl (by decide +kernel) ⟨Nat.le_of_ble_eq_true rfl, Nat.le_of_ble_eq_true rfl⟩) (pw_V (hC.S hS) hP hD hS hA [0, 1, 2, 3, 4, 5, 6, 7, 8, 9, 10, 11, 12, 13, 14, 15] (by decide) rfl (ci := 7) rfl (q0 := 0) rfl) rfl rfl hl.1 rfl (lv_room (Nat.le_of_ble_eq_true rfl)) kd_R_exact_140 ⟨Nat.le_of_ble_eq_true rfl, Nat.le_of_ble_eq_true rfl⟩) hP hD hS hA rfl (fun H locs hP hD hS => ?_)
                      exact hx_iretW hx hb hr hlocks (rfl) (hP) hS kd_R_exact_143
                    · exact absurd c_126 (not_not_intro rfl)
                  · exact absurd c_114 (by decide)
            · skip
              obtain ⟨h1, h2, h3⟩ := hI2.resolve_right (fun h9 => h9.1 (Int32.not_le.mp c_67))
              obtain ⟨j, hj1, hj2, rfl⟩ := h2.resolve_left (fun h9 => c_62 (by rw [h9]; decide))
              have hf : 16 - n9 = (15 - n9) + 1 := by omega
              refine lv_aload_n hx hb kd_R_exact_70 rfl (lv_at hl 0 rfl) ?_
              refine lv_iload hx hb kd_R_exact_71 (lv_at hl 5 rfl) ?_
              refine lv_iload_n hx hb kd_R_exact_73 rfl (lv_at hl 2 rfl) ?_
              refine lv_aload_n hx hb kd_R_exact_74 rfl (lv_at hl 0 rfl) ?_
              refine va_get (D := D) (ci := 7) (v := .int (nI ra)) (C := "HostBridgeModel") (T := ct_R) (N := 23) hx hb hts cw_R hown hK hP 0 rfl rfl 10 (by decide) (hts _ km_631) (fun _ h9 => h9) rfl kd_R_exact_75 ?_
              refine hx_callRi (va_runV (As := [.int (nI j), .int n, .int (nI ra)]) (rest := []) ⟨hx, hb, hml, hown, hts⟩ (mr_methodOf r rc ro rm ra rl rw th gv rp rk ow rn ct rt ki (lf_ (as_ w ra) aq ra) cd g1 g2 g3 rb gw an (nI j) n ra hrm hra) (cwV 3 hts (goodIn_sub (hx_m5 km_715 km_717 kv_R_methodOf km_8 km_718) (by decide +kernel)) rfl rfl rfl (by decide +kernel) ⟨Nat.le_of_ble_eq_true rfl, Nat.le_of_ble_eq_true rfl⟩) (pr_V (hC.S hS) hP [0, 1, 2, 3, 4, 5, 6, 7, 8, 9, 10, 11, 12, 13, 14, 15] rfl (ci := 7) rfl (q0 := 0) rfl) rfl rfl hl.1 rfl (lv_room (Nat.le_of_ble_eq_true rfl)) kd_R_exact_78 ⟨Nat.le_of_ble_eq_true rfl, Nat.le_of_ble_eq_true rfl⟩) ?_
              refine hx_topi (y := (fun k => la_ (mq_ ow rn ct rt (lf_ (as_ w ra) aq ra) k n ra) rm) (nI j)) (rfl) ?_
              refine lv_istore (lv' := [(5, .int ((fun k => la_ (mq_ ow rn ct rt (lf_ (as_ w ra) aq ra) k n ra) rm) (nI j))), (0, .ref (r 0)), (1, .int (nI o)), (2, .int n), (4, .int 0), (6, .int (nI j))]) hx hb kd_R_exact_81 hl (by decide) rfl (fun ls hl => ?_)
              refine lv_aload_n hx hb kd_R_exact_83 rfl (lv_at hl 1 rfl) ?_
              refine va_get (D := D) (ci := 7) (v := .ref (r 1)) (C := "HostBridgeModel") (T := ct_R) (N := 23) hx hb hts cw_R hown hK hP 0 rfl rfl 2 (by decide) (hts _ km_623) (fun _ h9 => h9) rfl kd_R_exact_84 ?_
              refine lv_iload hx hb kd_R_exact_87 (lv_at hl 5 rfl) ?_
              refine hx_iald (j := j) hx hb hK hP 1 rfl (rfl) (by have := hln.1; omega) (by decide) kd_R_exact_89 ?_
              refine lv_istore (lv' := [(6, .int (rp j)), (5, .int ((fun k => la_ (mq_ ow rn ct rt (lf_ (as_ w ra) aq ra) k n ra) rm) (nI j))), (0, .ref (r 0)), (1, .int (nI o)), (2, .int n), (4, .int 0)]) hx hb kd_R_exact_90 hl (by decide) rfl (fun ls hl => ?_)
              have hnext : ((fun k => la_ (mq_ ow rn ct rt (lf_ (as_ w ra) aq ra) k n ra) rm) (nI j) = -1 ∧ (rp j = -1 ∨ ∃ j9 : Nat, j9 < 16 - (n9 + 1) ∧ j9 < rc ∧ rp j = nI j9) ∧ fs_ (fun k => la_ (mq_ ow rn ct rt (lf_ (as_ w ra) aq ra) k n ra) rm) rp (16 - (n9 + 1)) (rp j) = r9) ∨ (¬ (fun k => la_ (mq_ ow rn ct rt (lf_ (as_ w ra) aq ra) k n ra) rm) (nI j) < 0 ∧ (fun k => la_ (mq_ ow rn ct rt (lf_ (as_ w ra) aq ra) k n ra) rm) (nI j) = r9) := by
                have h4 : fs_ (fun k => la_ (mq_ ow rn ct rt (lf_ (as_ w ra) aq ra) k n ra) rm) rp (16 - n9) (nI j) = if (fun k => la_ (mq_ ow rn ct rt (lf_ (as_ w ra) aq ra) k n ra) rm) (nI j) = -1 then fs_ (fun k => la_ (mq_ ow rn ct rt (lf_ (as_ w ra) aq ra) k n ra) rm) rp (15 - n9) (rp j) else (fun k => la_ (mq_ ow rn ct rt (lf_ (as_ w ra) aq ra) k n ra) rm) (nI j) := by
                  rw [hf]; simp only [fs_]; rw [if_neg (nI_nm1 (by have := hln.1; omega)), nI_clamp (by have := hln.1; omega)]
                rw [h4] at h3
                by_cases h5 : (fun k => la_ (mq_ ow rn ct rt (lf_ (as_ w ra) aq ra) k n ra) rm) (nI j) = -1
                · rw [if_pos h5] at h3
                  exact Or.inl ⟨h5, (hln.2 j hj2).elim Or.inl (fun ⟨q, g1, g2⟩ => Or.inr ⟨q, by omega, by omega, g2⟩), by rw [show 16 - (n9 + 1) = 15 - n9 by omega]; exact h3⟩
                · rw [if_neg h5] at h3
                  exact Or.inr ⟨la_nn h5 (by omega), h3⟩
              refine lv_goto (tgt := 60) hx hb kd_R_exact_92 (by decide) ?_
              exact ih60 (n9 + 1, rp j, (fun k => la_ (mq_ ow rn ct rt (lf_ (as_ w ra) aq ra) k n ra) rm) (nI j)) _ (by dsimp only; rw [if_pos h1]; split <;> omega) ⟨lv_sub hl [2, 3, 4, 5, 1, 0] rfl, by dsimp only; omega, hnext⟩
        · exact absurd c_45 (not_not_intro rfl)
      · exact absurd c_30 (by decide)
