/-! THE REFERENCE (HostBridgeModel): short methods, case by case -/
set_option maxHeartbeats 4000000 in
set_option maxRecDepth 100000 in
theorem mr_thrown {l : Launch} {D : va_G} {cI cL cZ : ClassId} {tb : Nat} (r : Nat → Nat) (rc ro rm ra rl rw : Nat) (th : Int32) (gv : Int64) (rp rk ow rn ct rt ki aq cd g1 g2 g3 : Nat → Int32) (rb gw an : Nat → Int64) : Met l ky_R_thrown kw_R_thrown { frames := 0, cells := 0, slots := 0, locals := 0 } (pr_P D cI cL cZ tb [((r 0), .inr (7, [.int th, .int (nI rc), .ref (r 1), .int (nI ro), .ref (r 2), .int (nI rm), .ref (r 3), .ref (r 4), .ref (r 5), .ref (r 6), .int (nI ra), .ref (r 7), .ref (r 8), .ref (r 9), .ref (r 10), .int (nI rl), .ref (r 11), .ref (r 12), .ref (r 13), .ref (r 14), .int (nI rw), .ref (r 15), .long gv]))] [.ref (r 0)]) (hx_QR (some (.int th))) 0 0 (fun _ => False) := by
  refine Met.ofW (cc := kc_R_thrown) (maxL := 1) (ret := (some .int)) (by decide) rfl ?_
  intro p e s m args below meth c s₁ B hml hv
  obtain ⟨rfl, hC, hP⟩ := hv
  have hx := B.exec
  have hb := B.bytes
  have hr := B.returns
  have hlocks := B.notSynchronized
  have hown : s.vm.findClass "HostBridgeModel" = some m.cls := findClass_of_methodNamed B.named
  have hS : va_S (fun _ => False) s.heap s.heap [] := va_S.rf
  have hK := hC.K
  have hts := hC.ts [.ref (r 0)].toArray
  have hl := lv_entry ([.ref (r 0)]) (n := 1) (Nat.le_of_ble_eq_true rfl)
  rw [lg_entry_eq]
  generalize (lg_sl ([.ref (r 0)]) ++ List.replicate (1 - (lg_sl ([.ref (r 0)])).length) Slot.unset).toArray = ls at hl ⊢
  have hl : lv_has ls 1 [(0, .ref (r 0))] := hl
  refine lv_aload_n hx hb kd_R_thrown_0 rfl (lv_at hl 0 rfl) ?_
  refine va_get (D := D) (ci := 7) (v := .int th) (C := "HostBridgeModel") (T := ct_R) (N := 23) hx hb hts cw_R hown hK hP 0 rfl rfl 0 (by decide) (hts _ km_621) (fun _ h9 => h9) rfl kd_R_thrown_1 ?_
  exact hx_iretR hx hb hr hlocks (rfl) kd_R_thrown_4

set_option maxHeartbeats 4000000 in
set_option maxRecDepth 100000 in
theorem mr_throwing0 {l : Launch} {D : va_G} {cI cL cZ : ClassId} {tb : Nat} (r : Nat → Nat) (rc ro rm ra rl rw : Nat) (th : Int32) (gv : Int64) (rp rk ow rn ct rt ki aq cd g1 g2 g3 : Nat → Int32) (rb gw an : Nat → Int64) (sz : Nat) : Met l ky_R_throwing kw_R_throwing { frames := 0, cells := 0, slots := 0, locals := 0 } (pw_P D cI cL cZ tb [((r 0), .inr (7, [.int th, .int (nI rc), .ref (r 1), .int (nI ro), .ref (r 2), .int (nI rm), .ref (r 3), .ref (r 4), .ref (r 5), .ref (r 6), .int (nI ra), .ref (r 7), .ref (r 8), .ref (r 9), .ref (r 10), .int (nI rl), .ref (r 11), .ref (r 12), .ref (r 13), .ref (r 14), .int (nI rw), .ref (r 15), .long gv]))] sz [.ref (r 0), .int 0, .int 0, .int 0]) (hx_QW D (some (.int (b2_ false))) [((r 0), .inr (7, [.int 0, .int (nI rc), .ref (r 1), .int (nI ro), .ref (r 2), .int (nI rm), .ref (r 3), .ref (r 4), .ref (r 5), .ref (r 6), .int (nI ra), .ref (r 7), .ref (r 8), .ref (r 9), .ref (r 10), .int (nI rl), .ref (r 11), .ref (r 12), .ref (r 13), .ref (r 14), .int (nI rw), .ref (r 15), .long gv]))] (va_A [((r 0), .inr (7, [.int th, .int (nI rc), .ref (r 1), .int (nI ro), .ref (r 2), .int (nI rm), .ref (r 3), .ref (r 4), .ref (r 5), .ref (r 6), .int (nI ra), .ref (r 7), .ref (r 8), .ref (r 9), .ref (r 10), .int (nI rl), .ref (r 11), .ref (r 12), .ref (r 13), .ref (r 14), .int (nI rw), .ref (r 15), .long gv]))] sz)) 0 0 (va_A [((r 0), .inr (7, [.int th, .int (nI rc), .ref (r 1), .int (nI ro), .ref (r 2), .int (nI rm), .ref (r 3), .ref (r 4), .ref (r 5), .ref (r 6), .int (nI ra), .ref (r 7), .ref (r 8), .ref (r 9), .ref (r 10), .int (nI rl), .ref (r 11), .ref (r 12), .ref (r 13), .ref (r 14), .int (nI rw), .ref (r 15), .long gv]))] sz) := by
  refine Met.ofW (cc := kc_R_throwing) (maxL := 4) (ret := (some .boolean)) (by decide) rfl ?_
  intro p e s m args below meth c s₁ B hml hv
  obtain ⟨rfl, hsz, hC, hP, hD0⟩ := hv
  have hx := B.exec
  have hb := B.bytes
  have hr := B.returns
  have hlocks := B.notSynchronized
  have hown : s.vm.findClass "HostBridgeModel" = some m.cls := findClass_of_methodNamed B.named
  subst hsz
  have hD := hD0.self (sz := s.heap.size)
  generalize hAe : va_A [((r 0), .inr (7, [.int th, .int (nI rc), .ref (r 1), .int (nI ro), .ref (r 2), .int (nI rm), .ref (r 3), .ref (r 4), .ref (r 5), .ref (r 6), .int (nI ra), .ref (r 7), .ref (r 8), .ref (r 9), .ref (r 10), .int (nI rl), .ref (r 11), .ref (r 12), .ref (r 13), .ref (r 14), .int (nI rw), .ref (r 15), .long gv]))] s.heap.size = A at hD hC ⊢
  have hA : ∀ q : Nat, s.heap.size ≤ q → A q := fun q h => by rw [← hAe]; exact Or.inr h
  have hS : va_S A s.heap s.heap [] := va_S.rf
  have hK := hC.K
  have hts := hC.ts [.ref (r 0), .int 0, .int 0, .int 0].toArray
  have hl := lv_entry ([.ref (r 0), .int 0, .int 0, .int 0]) (n := 4) (Nat.le_of_ble_eq_true rfl)
  rw [lg_entry_eq]
  generalize (lg_sl ([.ref (r 0), .int 0, .int 0, .int 0]) ++ List.replicate (4 - (lg_sl ([.ref (r 0), .int 0, .int 0, .int 0])).length) Slot.unset).toArray = ls at hl ⊢
  have hl : lv_has ls 4 [(0, .ref (r 0)), (1, .int 0), (2, .int 0), (3, .int 0)] := hl
  refine lv_aload_n hx hb kd_R_throwing_0 rfl (lv_at hl 0 rfl) ?_
  refine lv_iload_n hx hb kd_R_throwing_1 rfl (lv_at hl 1 rfl) ?_
  refine lv_if_eq (tgt := 9) hx hb kd_R_throwing_2 (by decide) (fun c_2 => ?_) (fun c_2 => ?_)
  · skip
    refine lv_iload_n hx hb kd_R_throwing_9 rfl (lv_at hl 2 rfl) ?_
    refine lv_if_eq (tgt := 17) hx hb kd_R_throwing_10 (by decide) (fun c_10 => ?_) (fun c_10 => ?_)
    · skip
      refine lv_iload_n hx hb kd_R_throwing_17 rfl (lv_at hl 3 rfl) ?_
      refine lv_if_eq (tgt := 25) hx hb kd_R_throwing_18 (by decide) (fun c_18 => ?_) (fun c_18 => ?_)
      · skip
        refine lv_iconst (v := 0) hx hb kd_R_throwing_25 (by decide) ?_
        refine va_put (D := D) (ci := 7) (v := .int 0) (ty := .int) (C := "HostBridgeModel") (T := ct_R) (N := 23) hx hb hts cw_R cy_R cp_R cn_R hown hK hP hD hS 0 rfl rfl 0 (by decide) (hts _ km_621) (fun _ h9 => h9) rfl (by decide +kernel) rfl rfl (Nat.le_of_ble_eq_true rfl) kd_R_throwing_26 (fun H locs hP hD hS => ?_)
        have hP : va_P D cl_all [((r 0), .inr (7, [.int 0, .int (nI rc), .ref (r 1), .int (nI ro), .ref (r 2), .int (nI rm), .ref (r 3), .ref (r 4), .ref (r 5), .ref (r 6), .int (nI ra), .ref (r 7), .ref (r 8), .ref (r 9), .ref (r 10), .int (nI rl), .ref (r 11), .ref (r 12), .ref (r 13), .ref (r 14), .int (nI rw), .ref (r 15), .long gv]))] H := hP
        have hD : va_D A [((r 0), .inr (7, [.int 0, .int (nI rc), .ref (r 1), .int (nI ro), .ref (r 2), .int (nI rm), .ref (r 3), .ref (r 4), .ref (r 5), .ref (r 6), .int (nI ra), .ref (r 7), .ref (r 8), .ref (r 9), .ref (r 10), .int (nI rl), .ref (r 11), .ref (r 12), .ref (r 13), .ref (r 14), .int (nI rw), .ref (r 15), .long gv]))] := hD
        refine lv_aload_n hx hb kd_R_throwing_29 rfl (lv_at hl 0 rfl) ?_
        refine va_get (D := D) (ci := 7) (v := .int 0) (C := "HostBridgeModel") (T := ct_R) (N := 23) hx hb hts cw_R hown hK hP 0 rfl rfl 0 (by decide) (hts _ km_621) (fun _ h9 => h9) rfl kd_R_throwing_30 ?_
        refine lv_if_le (tgt := 40) hx hb kd_R_throwing_33 (by decide) (fun c_33 => ?_) (fun c_33 => ?_)
        · skip
          refine lv_iconst (v := 0) hx hb kd_R_throwing_40 (by decide) ?_
          exact hx_zretW hx hb hr hlocks (rfl) (hP) hS kd_R_throwing_41
        · exact absurd c_33 (by decide)
      · exact absurd c_18 (not_not_intro rfl)
    · exact absurd c_10 (not_not_intro rfl)
  · exact absurd c_2 (not_not_intro rfl)

set_option maxHeartbeats 4000000 in
set_option maxRecDepth 100000 in
theorem mr_throwing1 {l : Launch} {D : va_G} {cI cL cZ : ClassId} {tb : Nat} (r : Nat → Nat) (rc ro rm ra rl rw : Nat) (th : Int32) (gv : Int64) (rp rk ow rn ct rt ki aq cd g1 g2 g3 : Nat → Int32) (rb gw an : Nat → Int64) (sz : Nat) : Met l ky_R_throwing kw_R_throwing { frames := 0, cells := 0, slots := 0, locals := 0 } (pw_P D cI cL cZ tb [((r 0), .inr (7, [.int th, .int (nI rc), .ref (r 1), .int (nI ro), .ref (r 2), .int (nI rm), .ref (r 3), .ref (r 4), .ref (r 5), .ref (r 6), .int (nI ra), .ref (r 7), .ref (r 8), .ref (r 9), .ref (r 10), .int (nI rl), .ref (r 11), .ref (r 12), .ref (r 13), .ref (r 14), .int (nI rw), .ref (r 15), .long gv]))] sz [.ref (r 0), .int 1, .int 0, .int 0]) (hx_QW D (some (.int (b2_ true))) [((r 0), .inr (7, [.int 1, .int (nI rc), .ref (r 1), .int (nI ro), .ref (r 2), .int (nI rm), .ref (r 3), .ref (r 4), .ref (r 5), .ref (r 6), .int (nI ra), .ref (r 7), .ref (r 8), .ref (r 9), .ref (r 10), .int (nI rl), .ref (r 11), .ref (r 12), .ref (r 13), .ref (r 14), .int (nI rw), .ref (r 15), .long gv]))] (va_A [((r 0), .inr (7, [.int th, .int (nI rc), .ref (r 1), .int (nI ro), .ref (r 2), .int (nI rm), .ref (r 3), .ref (r 4), .ref (r 5), .ref (r 6), .int (nI ra), .ref (r 7), .ref (r 8), .ref (r 9), .ref (r 10), .int (nI rl), .ref (r 11), .ref (r 12), .ref (r 13), .ref (r 14), .int (nI rw), .ref (r 15), .long gv]))] sz)) 0 0 (va_A [((r 0), .inr (7, [.int th, .int (nI rc), .ref (r 1), .int (nI ro), .ref (r 2), .int (nI rm), .ref (r 3), .ref (r 4), .ref (r 5), .ref (r 6), .int (nI ra), .ref (r 7), .ref (r 8), .ref (r 9), .ref (r 10), .int (nI rl), .ref (r 11), .ref (r 12), .ref (r 13), .ref (r 14), .int (nI rw), .ref (r 15), .long gv]))] sz) := by
  refine Met.ofW (cc := kc_R_throwing) (maxL := 4) (ret := (some .boolean)) (by decide) rfl ?_
  intro p e s m args below meth c s₁ B hml hv
  obtain ⟨rfl, hsz, hC, hP, hD0⟩ := hv
  have hx := B.exec
  have hb := B.bytes
  have hr := B.returns
  have hlocks := B.notSynchronized
  have hown : s.vm.findClass "HostBridgeModel" = some m.cls := findClass_of_methodNamed B.named
  subst hsz
  have hD := hD0.self (sz := s.heap.size)
  generalize hAe : va_A [((r 0), .inr (7, [.int th, .int (nI rc), .ref (r 1), .int (nI ro), .ref (r 2), .int (nI rm), .ref (r 3), .ref (r 4), .ref (r 5), .ref (r 6), .int (nI ra), .ref (r 7), .ref (r 8), .ref (r 9), .ref (r 10), .int (nI rl), .ref (r 11), .ref (r 12), .ref (r 13), .ref (r 14), .int (nI rw), .ref (r 15), .long gv]))] s.heap.size = A at hD hC ⊢
  have hA : ∀ q : Nat, s.heap.size ≤ q → A q := fun q h => by rw [← hAe]; exact Or.inr h
  have hS : va_S A s.heap s.heap [] := va_S.rf
  have hK := hC.K
  have hts := hC.ts [.ref (r 0), .int 1, .int 0, .int 0].toArray
  have hl := lv_entry ([.ref (r 0), .int 1, .int 0, .int 0]) (n := 4) (Nat.le_of_ble_eq_true rfl)
  rw [lg_entry_eq]
  generalize (lg_sl ([.ref (r 0), .int 1, .int 0, .int 0]) ++ List.replicate (4 - (lg_sl ([.ref (r 0), .int 1, .int 0, .int 0])).length) Slot.unset).toArray = ls at hl ⊢
  have hl : lv_has ls 4 [(0, .ref (r 0)), (1, .int 1), (2, .int 0), (3, .int 0)] := hl
  refine lv_aload_n hx hb kd_R_throwing_0 rfl (lv_at hl 0 rfl) ?_
  refine lv_iload_n hx hb kd_R_throwing_1 rfl (lv_at hl 1 rfl) ?_
  refine lv_if_eq (tgt := 9) hx hb kd_R_throwing_2 (by decide) (fun c_2 => ?_) (fun c_2 => ?_)
  · exact absurd c_2 (by decide)
  · skip
    refine lv_iconst (v := 1) hx hb kd_R_throwing_5 (by decide) ?_
    refine lv_goto (tgt := 26) hx hb kd_R_throwing_6 (by decide) ?_
    refine va_put (D := D) (ci := 7) (v := .int 1) (ty := .int) (C := "HostBridgeModel") (T := ct_R) (N := 23) hx hb hts cw_R cy_R cp_R cn_R hown hK hP hD hS 0 rfl rfl 0 (by decide) (hts _ km_621) (fun _ h9 => h9) rfl (by decide +kernel) rfl rfl (Nat.le_of_ble_eq_true rfl) kd_R_throwing_26 (fun H locs hP hD hS => ?_)
    have hP : va_P D cl_all [((r 0), .inr (7, [.int 1, .int (nI rc), .ref (r 1), .int (nI ro), .ref (r 2), .int (nI rm), .ref (r 3), .ref (r 4), .ref (r 5), .ref (r 6), .int (nI ra), .ref (r 7), .ref (r 8), .ref (r 9), .ref (r 10), .int (nI rl), .ref (r 11), .ref (r 12), .ref (r 13), .ref (r 14), .int (nI rw), .ref (r 15), .long gv]))] H := hP
    have hD : va_D A [((r 0), .inr (7, [.int 1, .int (nI rc), .ref (r 1), .int (nI ro), .ref (r 2), .int (nI rm), .ref (r 3), .ref (r 4), .ref (r 5), .ref (r 6), .int (nI ra), .ref (r 7), .ref (r 8), .ref (r 9), .ref (r 10), .int (nI rl), .ref (r 11), .ref (r 12), .ref (r 13), .ref (r 14), .int (nI rw), .ref (r 15), .long gv]))] := hD
    refine lv_aload_n hx hb kd_R_throwing_29 rfl (lv_at hl 0 rfl) ?_
    refine va_get (D := D) (ci := 7) (v := .int 1) (C := "HostBridgeModel") (T := ct_R) (N := 23) hx hb hts cw_R hown hK hP 0 rfl rfl 0 (by decide) (hts _ km_621) (fun _ h9 => h9) rfl kd_R_throwing_30 ?_
    refine lv_if_le (tgt := 40) hx hb kd_R_throwing_33 (by decide) (fun c_33 => ?_) (fun c_33 => ?_)
    · exact absurd c_33 (by decide)
    · skip
      refine lv_iconst (v := 1) hx hb kd_R_throwing_36 (by decide) ?_
      refine lv_goto (tgt := 41) hx hb kd_R_throwing_37 (by decide) ?_
      exact hx_zretW hx hb hr hlocks (rfl) (hP) hS kd_R_throwing_41

set_option maxHeartbeats 4000000 in
set_option maxRecDepth 100000 in
theorem mr_throwing2 {l : Launch} {D : va_G} {cI cL cZ : ClassId} {tb : Nat} (r : Nat → Nat) (rc ro rm ra rl rw : Nat) (th : Int32) (gv : Int64) (rp rk ow rn ct rt ki aq cd g1 g2 g3 : Nat → Int32) (rb gw an : Nat → Int64) (sz : Nat) : Met l ky_R_throwing kw_R_throwing { frames := 0, cells := 0, slots := 0, locals := 0 } (pw_P D cI cL cZ tb [((r 0), .inr (7, [.int th, .int (nI rc), .ref (r 1), .int (nI ro), .ref (r 2), .int (nI rm), .ref (r 3), .ref (r 4), .ref (r 5), .ref (r 6), .int (nI ra), .ref (r 7), .ref (r 8), .ref (r 9), .ref (r 10), .int (nI rl), .ref (r 11), .ref (r 12), .ref (r 13), .ref (r 14), .int (nI rw), .ref (r 15), .long gv]))] sz [.ref (r 0), .int 0, .int 1, .int 0]) (hx_QW D (some (.int (b2_ true))) [((r 0), .inr (7, [.int 2, .int (nI rc), .ref (r 1), .int (nI ro), .ref (r 2), .int (nI rm), .ref (r 3), .ref (r 4), .ref (r 5), .ref (r 6), .int (nI ra), .ref (r 7), .ref (r 8), .ref (r 9), .ref (r 10), .int (nI rl), .ref (r 11), .ref (r 12), .ref (r 13), .ref (r 14), .int (nI rw), .ref (r 15), .long gv]))] (va_A [((r 0), .inr (7, [.int th, .int (nI rc), .ref (r 1), .int (nI ro), .ref (r 2), .int (nI rm), .ref (r 3), .ref (r 4), .ref (r 5), .ref (r 6), .int (nI ra), .ref (r 7), .ref (r 8), .ref (r 9), .ref (r 10), .int (nI rl), .ref (r 11), .ref (r 12), .ref (r 13), .ref (r 14), .int (nI rw), .ref (r 15), .long gv]))] sz)) 0 0 (va_A [((r 0), .inr (7, [.int th, .int (nI rc), .ref (r 1), .int (nI ro), .ref (r 2), .int (nI rm), .ref (r 3), .ref (r 4), .ref (r 5), .ref (r 6), .int (nI ra), .ref (r 7), .ref (r 8), .ref (r 9), .ref (r 10), .int (nI rl), .ref (r 11), .ref (r 12), .ref (r 13), .ref (r 14), .int (nI rw), .ref (r 15), .long gv]))] sz) := by
  refine Met.ofW (cc := kc_R_throwing) (maxL := 4) (ret := (some .boolean)) (by decide) rfl ?_
  intro p e s m args below meth c s₁ B hml hv
  obtain ⟨rfl, hsz, hC, hP, hD0⟩ := hv
  have hx := B.exec
  have hb := B.bytes
  have hr := B.returns
  have hlocks := B.notSynchronized
  have hown : s.vm.findClass "HostBridgeModel" = some m.cls := findClass_of_methodNamed B.named
  subst hsz
  have hD := hD0.self (sz := s.heap.size)
  generalize hAe : va_A [((r 0), .inr (7, [.int th, .int (nI rc), .ref (r 1), .int (nI ro), .ref (r 2), .int (nI rm), .ref (r 3), .ref (r 4), .ref (r 5), .ref (r 6), .int (nI ra), .ref (r 7), .ref (r 8), .ref (r 9), .ref (r 10), .int (nI rl), .ref (r 11), .ref (r 12), .ref (r 13), .ref (r 14), .int (nI rw), .ref (r 15), .long gv]))] s.heap.size = A at hD hC ⊢
  have hA : ∀ q : Nat, s.heap.size ≤ q → A q := fun q h => by rw [← hAe]; exact Or.inr h
  have hS : va_S A s.heap s.heap [] := va_S.rf
  have hK := hC.K
  have hts := hC.ts [.ref (r 0), .int 0, .int 1, .int 0].toArray
  have hl := lv_entry ([.ref (r 0), .int 0, .int 1, .int 0]) (n := 4) (Nat.le_of_ble_eq_true rfl)
  rw [lg_entry_eq]
  generalize (lg_sl ([.ref (r 0), .int 0, .int 1, .int 0]) ++ List.replicate (4 - (lg_sl ([.ref (r 0), .int 0, .int 1, .int 0])).length) Slot.unset).toArray = ls at hl ⊢
  have hl : lv_has ls 4 [(0, .ref (r 0)), (1, .int 0), (2, .int 1), (3, .int 0)] := hl
  refine lv_aload_n hx hb kd_R_throwing_0 rfl (lv_at hl 0 rfl) ?_
  refine lv_iload_n hx hb kd_R_throwing_1 rfl (lv_at hl 1 rfl) ?_
  refine lv_if_eq (tgt := 9) hx hb kd_R_throwing_2 (by decide) (fun c_2 => ?_) (fun c_2 => ?_)
  · skip
    refine lv_iload_n hx hb kd_R_throwing_9 rfl (lv_at hl 2 rfl) ?_
    refine lv_if_eq (tgt := 17) hx hb kd_R_throwing_10 (by decide) (fun c_10 => ?_) (fun c_10 => ?_)
    · exact absurd c_10 (by decide)
    · skip
      refine lv_iconst (v := 2) hx hb kd_R_throwing_13 (by decide) ?_
      refine lv_goto (tgt := 26) hx hb kd_R_throwing_14 (by decide) ?_
      refine va_put (D := D) (ci := 7) (v := .int 2) (ty := .int) (C := "HostBridgeModel") (T := ct_R) (N := 23) hx hb hts cw_R cy_R cp_R cn_R hown hK hP hD hS 0 rfl rfl 0 (by decide) (hts _ km_621) (fun _ h9 => h9) rfl (by decide +kernel) rfl rfl (Nat.le_of_ble_eq_true rfl) kd_R_throwing_26 (fun H locs hP hD hS => ?_)
      have hP : va_P D cl_all [((r 0), .inr (7, [.int 2, .int (nI rc), .ref (r 1), .int (nI ro), .ref (r 2), .int (nI rm), .ref (r 3), .ref (r 4), .ref (r 5), .ref (r 6), .int (nI ra), .ref (r 7), .ref (r 8), .ref (r 9), .ref (r 10), .int (nI rl), .ref (r 11), .ref (r 12), .ref (r 13), .ref (r 14), .int (nI rw), .ref (r 15), .long gv]))] H := hP
      have hD : va_D A [((r 0), .inr (7, [.int 2, .int (nI rc), .ref (r 1), .int (nI ro), .ref (r 2), .int (nI rm), .ref (r 3), .ref (r 4), .ref (r 5), .ref (r 6), .int (nI ra), .ref (r 7), .ref (r 8), .ref (r 9), .ref (r 10), .int (nI rl), .ref (r 11), .ref (r 12), .ref (r 13), .ref (r 14), .int (nI rw), .ref (r 15), .long gv]))] := hD
      refine lv_aload_n hx hb kd_R_throwing_29 rfl (lv_at hl 0 rfl) ?_
      refine va_get (D := D) (ci := 7) (v := .int 2) (C := "HostBridgeModel") (T := ct_R) (N := 23) hx hb hts cw_R hown hK hP 0 rfl rfl 0 (by decide) (hts _ km_621) (fun _ h9 => h9) rfl kd_R_throwing_30 ?_
      refine lv_if_le (tgt := 40) hx hb kd_R_throwing_33 (by decide) (fun c_33 => ?_) (fun c_33 => ?_)
      · exact absurd c_33 (by decide)
      · skip
        refine lv_iconst (v := 1) hx hb kd_R_throwing_36 (by decide) ?_
        refine lv_goto (tgt := 41) hx hb kd_R_throwing_37 (by decide) ?_
        exact hx_zretW hx hb hr hlocks (rfl) (hP) hS kd_R_throwing_41
  · exact absurd c_2 (not_not_intro rfl)

set_option maxHeartbeats 4000000 in
set_option maxRecDepth 100000 in
theorem mr_throwing3 {l : Launch} {D : va_G} {cI cL cZ : ClassId} {tb : Nat} (r : Nat → Nat) (rc ro rm ra rl rw : Nat) (th : Int32) (gv : Int64) (rp rk ow rn ct rt ki aq cd g1 g2 g3 : Nat → Int32) (rb gw an : Nat → Int64) (sz : Nat) : Met l ky_R_throwing kw_R_throwing { frames := 0, cells := 0, slots := 0, locals := 0 } (pw_P D cI cL cZ tb [((r 0), .inr (7, [.int th, .int (nI rc), .ref (r 1), .int (nI ro), .ref (r 2), .int (nI rm), .ref (r 3), .ref (r 4), .ref (r 5), .ref (r 6), .int (nI ra), .ref (r 7), .ref (r 8), .ref (r 9), .ref (r 10), .int (nI rl), .ref (r 11), .ref (r 12), .ref (r 13), .ref (r 14), .int (nI rw), .ref (r 15), .long gv]))] sz [.ref (r 0), .int 0, .int 0, .int 1]) (hx_QW D (some (.int (b2_ true))) [((r 0), .inr (7, [.int 3, .int (nI rc), .ref (r 1), .int (nI ro), .ref (r 2), .int (nI rm), .ref (r 3), .ref (r 4), .ref (r 5), .ref (r 6), .int (nI ra), .ref (r 7), .ref (r 8), .ref (r 9), .ref (r 10), .int (nI rl), .ref (r 11), .ref (r 12), .ref (r 13), .ref (r 14), .int (nI rw), .ref (r 15), .long gv]))] (va_A [((r 0), .inr (7, [.int th, .int (nI rc), .ref (r 1), .int (nI ro), .ref (r 2), .int (nI rm), .ref (r 3), .ref (r 4), .ref (r 5), .ref (r 6), .int (nI ra), .ref (r 7), .ref (r 8), .ref (r 9), .ref (r 10), .int (nI rl), .ref (r 11), .ref (r 12), .ref (r 13), .ref (r 14), .int (nI rw), .ref (r 15), .long gv]))] sz)) 0 0 (va_A [((r 0), .inr (7, [.int th, .int (nI rc), .ref (r 1), .int (nI ro), .ref (r 2), .int (nI rm), .ref (r 3), .ref (r 4), .ref (r 5), .ref (r 6), .int (nI ra), .ref (r 7), .ref (r 8), .ref (r 9), .ref (r 10), .int (nI rl), .ref (r 11), .ref (r 12), .ref (r 13), .ref (r 14), .int (nI rw), .ref (r 15), .long gv]))] sz) := by
  refine Met.ofW (cc := kc_R_throwing) (maxL := 4) (ret := (some .boolean)) (by decide) rfl ?_
  intro p e s m args below meth c s₁ B hml hv
  obtain ⟨rfl, hsz, hC, hP, hD0⟩ := hv
  have hx := B.exec
  have hb := B.bytes
  have hr := B.returns
  have hlocks := B.notSynchronized
  have hown : s.vm.findClass "HostBridgeModel" = some m.cls := findClass_of_methodNamed B.named
  subst hsz
  have hD := hD0.self (sz := s.heap.size)
  generalize hAe : va_A [((r 0), .inr (7, [.int th, .int (nI rc), .ref (r 1), .int (nI ro), .ref (r 2), .int (nI rm), .ref (r 3), .ref (r 4), .ref (r 5), .ref (r 6), .int (nI ra), .ref (r 7), .ref (r 8), .ref (r 9), .ref (r 10), .int (nI rl), .ref (r 11), .ref (r 12), .ref (r 13), .ref (r 14), .int (nI rw), .ref (r 15), .long gv]))] s.heap.size = A at hD hC ⊢
  have hA : ∀ q : Nat, s.heap.size ≤ q → A q := fun q h => by rw [← hAe]; exact Or.inr h
  have hS : va_S A s.heap s.heap [] := va_S.rf
  have hK := hC.K
  have hts := hC.ts [.ref (r 0), .int 0, .int 0, .int 1].toArray
  have hl := lv_entry ([.ref (r 0), .int 0, .int 0, .int 1]) (n := 4) (Nat.le_of_ble_eq_true rfl)
  rw [lg_entry_eq]
  generalize (lg_sl ([.ref (r 0), .int 0, .int 0, .int 1]) ++ List.replicate (4 - (lg_sl ([.ref (r 0), .int 0, .int 0, .int 1])).length) Slot.unset).toArray = ls at hl ⊢
  have hl : lv_has ls 4 [(0, .ref (r 0)), (1, .int 0), (2, .int 0), (3, .int 1)] := hl
  refine lv_aload_n hx hb kd_R_throwing_0 rfl (lv_at hl 0 rfl) ?_
  refine lv_iload_n hx hb kd_R_throwing_1 rfl (lv_at hl 1 rfl) ?_
  refine lv_if_eq (tgt := 9) hx hb kd_R_throwing_2 (by decide) (fun c_2 => ?_) (fun c_2 => ?_)
  · skip
    refine lv_iload_n hx hb kd_R_throwing_9 rfl (lv_at hl 2 rfl) ?_
    refine lv_if_eq (tgt := 17) hx hb kd_R_throwing_10 (by decide) (fun c_10 => ?_) (fun c_10 => ?_)
    · skip
      refine lv_iload_n hx hb kd_R_throwing_17 rfl (lv_at hl 3 rfl) ?_
      refine lv_if_eq (tgt := 25) hx hb kd_R_throwing_18 (by decide) (fun c_18 => ?_) (fun c_18 => ?_)
      · exact absurd c_18 (by decide)
      · skip
        refine lv_iconst (v := 3) hx hb kd_R_throwing_21 (by decide) ?_
        refine lv_goto (tgt := 26) hx hb kd_R_throwing_22 (by decide) ?_
        refine va_put (D := D) (ci := 7) (v := .int 3) (ty := .int) (C := "HostBridgeModel") (T := ct_R) (N := 23) hx hb hts cw_R cy_R cp_R cn_R hown hK hP hD hS 0 rfl rfl 0 (by decide) (hts _ km_621) (fun _ h9 => h9) rfl (by decide +kernel) rfl rfl (Nat.le_of_ble_eq_true rfl) kd_R_throwing_26 (fun H locs hP hD hS => ?_)
        have hP : va_P D cl_all [((r 0), .inr (7, [.int 3, .int (nI rc), .ref (r 1), .int (nI ro), .ref (r 2), .int (nI rm), .ref (r 3), .ref (r 4), .ref (r 5), .ref (r 6), .int (nI ra), .ref (r 7), .ref (r 8), .ref (r 9), .ref (r 10), .int (nI rl), .ref (r 11), .ref (r 12), .ref (r 13), .ref (r 14), .int (nI rw), .ref (r 15), .long gv]))] H := hP
        have hD : va_D A [((r 0), .inr (7, [.int 3, .int (nI rc), .ref (r 1), .int (nI ro), .ref (r 2), .int (nI rm), .ref (r 3), .ref (r 4), .ref (r 5), .ref (r 6), .int (nI ra), .ref (r 7), .ref (r 8), .ref (r 9), .ref (r 10), .int (nI rl), .ref (r 11), .ref (r 12), .ref (r 13), .ref (r 14), .int (nI rw), .ref (r 15), .long gv]))] := hD
        refine lv_aload_n hx hb kd_R_throwing_29 rfl (lv_at hl 0 rfl) ?_
        refine va_get (D := D) (ci := 7) (v := .int 3) (C := "HostBridgeModel") (T := ct_R) (N := 23) hx hb hts cw_R hown hK hP 0 rfl rfl 0 (by decide) (hts _ km_621) (fun _ h9 => h9) rfl kd_R_throwing_30 ?_
        refine lv_if_le (tgt := 40) hx hb kd_R_throwing_33 (by decide) (fun c_33 => ?_) (fun c_33 => ?_)
        · exact absurd c_33 (by decide)
        · skip
          refine lv_iconst (v := 1) hx hb kd_R_throwing_36 (by decide) ?_
          refine lv_goto (tgt := 41) hx hb kd_R_throwing_37 (by decide) ?_
          exact hx_zretW hx hb hr hlocks (rfl) (hP) hS kd_R_throwing_41
    · exact absurd c_10 (not_not_intro rfl)
  · exact absurd c_2 (not_not_intro rfl)

set_option maxHeartbeats 4000000 in
set_option maxRecDepth 100000 in
theorem mr_isNo {l : Launch} {D : va_G} {cI cL cZ : ClassId} {tb : Nat} (k : Int32) (n : Nat) : Met l ky_R_isNo kw_R_isNo { frames := 0, cells := 0, slots := 0, locals := 0 } (pr_P D cI cL cZ tb [] [.int k, .int (nI n)]) (hx_QR (some (.int (b2_ (!fb_in k n))))) 0 0 (fun _ => False) := by
  refine Met.ofW (cc := kc_R_isNo) (maxL := 2) (ret := (some .boolean)) (by decide) rfl ?_
  intro p e s m args below meth c s₁ B hml hv
  obtain ⟨rfl, hC, hP⟩ := hv
  have hx := B.exec
  have hb := B.bytes
  have hr := B.returns
  have hlocks := B.notSynchronized
  have hown : s.vm.findClass "HostBridgeModel" = some m.cls := findClass_of_methodNamed B.named
  have hS : va_S (fun _ => False) s.heap s.heap [] := va_S.rf
  have hK := hC.K
  have hts := hC.ts [.int k, .int (nI n)].toArray
  have hl := lv_entry ([.int k, .int (nI n)]) (n := 2) (Nat.le_of_ble_eq_true rfl)
  rw [lg_entry_eq]
  generalize (lg_sl ([.int k, .int (nI n)]) ++ List.replicate (2 - (lg_sl ([.int k, .int (nI n)])).length) Slot.unset).toArray = ls at hl ⊢
  have hl : lv_has ls 2 [(0, .int k), (1, .int (nI n))] := hl
  refine lv_iload_n hx hb kd_R_isNo_0 rfl (lv_at hl 0 rfl) ?_
  refine lv_if_lt (tgt := 9) hx hb kd_R_isNo_1 (by decide) (fun c_1 => ?_) (fun c_1 => ?_)
  · skip
    refine lv_iconst (v := 1) hx hb kd_R_isNo_9 (by decide) ?_
    refine lv_goto (tgt := 14) hx hb kd_R_isNo_10 (by decide) ?_
    exact hx_zretR hx hb hr hlocks (by simp [b2_, fb_in, c_1]) kd_R_isNo_14
  · skip
    refine lv_iload_n hx hb kd_R_isNo_4 rfl (lv_at hl 0 rfl) ?_
    refine lv_iload_n hx hb kd_R_isNo_5 rfl (lv_at hl 1 rfl) ?_
    refine lv_icmp_lt (tgt := 13) hx hb kd_R_isNo_6 (by decide) (fun c_6 => ?_) (fun c_6 => ?_)
    · skip
      refine lv_iconst (v := 0) hx hb kd_R_isNo_13 (by decide) ?_
      exact hx_zretR hx hb hr hlocks (by simp [b2_, fb_in, c_1, Int32.not_le.mpr c_6]) kd_R_isNo_14
    · skip
      refine lv_iconst (v := 1) hx hb kd_R_isNo_9 (by decide) ?_
      refine lv_goto (tgt := 14) hx hb kd_R_isNo_10 (by decide) ?_
      exact hx_zretR hx hb hr hlocks (by simp [b2_, fb_in, c_1, Int32.not_lt.mp c_6]) kd_R_isNo_14

set_option maxHeartbeats 4000000 in
set_option maxRecDepth 100000 in
theorem mr_klass0 {l : Launch} {D : va_G} {cI cL cZ : ClassId} {tb : Nat} (r : Nat → Nat) (rc ro rm ra rl rw : Nat) (th : Int32) (gv : Int64) (rp rk ow rn ct rt ki aq cd g1 g2 g3 : Nat → Int32) (rb gw an : Nat → Int64) (k : Int32) (hk : k = -1 ∨ fb_in k rc = true) (hn : rc < 16) (sz : Nat) : Met l ky_R_klass kw_R_klass { frames := 1, cells := 0, slots := 0, locals := 23 } (pw_P D cI cL cZ tb [((r 0), .inr (7, [.int th, .int (nI rc), .ref (r 1), .int (nI ro), .ref (r 2), .int (nI rm), .ref (r 3), .ref (r 4), .ref (r 5), .ref (r 6), .int (nI ra), .ref (r 7), .ref (r 8), .ref (r 9), .ref (r 10), .int (nI rl), .ref (r 11), .ref (r 12), .ref (r 13), .ref (r 14), .int (nI rw), .ref (r 15), .long gv])), ((r 1), .inl (cI, 16, .inl rp)), ((r 2), .inl (cI, 64, .inl rk)), ((r 3), .inl (cI, 64, .inl ow)), ((r 4), .inl (cI, 64, .inl rn)), ((r 5), .inl (cI, 64, .inl ct)), ((r 6), .inl (cI, 256, .inl rt)), ((r 7), .inl (cI, 4, .inl ki)), ((r 8), .inl (cL, 4, .inr (.inl rb))), ((r 9), .inl (cI, 4, .inl aq)), ((r 10), .inl (cZ, 64, .inl cd)), ((r 11), .inl (cI, 64, .inl g1)), ((r 12), .inl (cI, 64, .inl g2)), ((r 13), .inl (cI, 64, .inl g3)), ((r 14), .inl (cL, 256, .inr (.inl gw))), ((r 15), .inl (cL, 64, .inr (.inl an)))] sz [.ref (r 0), .int k]) (hx_QW D (some (.int (nI rc))) [((r 0), .inr (7, [.int 0, .int (nI (rc + 1)), .ref (r 1), .int (nI ro), .ref (r 2), .int (nI rm), .ref (r 3), .ref (r 4), .ref (r 5), .ref (r 6), .int (nI ra), .ref (r 7), .ref (r 8), .ref (r 9), .ref (r 10), .int (nI rl), .ref (r 11), .ref (r 12), .ref (r 13), .ref (r 14), .int (nI rw), .ref (r 15), .long gv])), ((r 1), .inl (cI, 16, .inl (upd rp rc k))), ((r 2), .inl (cI, 64, .inl rk)), ((r 3), .inl (cI, 64, .inl ow)), ((r 4), .inl (cI, 64, .inl rn)), ((r 5), .inl (cI, 64, .inl ct)), ((r 6), .inl (cI, 256, .inl rt)), ((r 7), .inl (cI, 4, .inl ki)), ((r 8), .inl (cL, 4, .inr (.inl rb))), ((r 9), .inl (cI, 4, .inl aq)), ((r 10), .inl (cZ, 64, .inl cd)), ((r 11), .inl (cI, 64, .inl g1)), ((r 12), .inl (cI, 64, .inl g2)), ((r 13), .inl (cI, 64, .inl g3)), ((r 14), .inl (cL, 256, .inr (.inl gw))), ((r 15), .inl (cL, 64, .inr (.inl an)))] (va_A [((r 0), .inr (7, [.int th, .int (nI rc), .ref (r 1), .int (nI ro), .ref (r 2), .int (nI rm), .ref (r 3), .ref (r 4), .ref (r 5), .ref (r 6), .int (nI ra), .ref (r 7), .ref (r 8), .ref (r 9), .ref (r 10), .int (nI rl), .ref (r 11), .ref (r 12), .ref (r 13), .ref (r 14), .int (nI rw), .ref (r 15), .long gv])), ((r 1), .inl (cI, 16, .inl rp)), ((r 2), .inl (cI, 64, .inl rk)), ((r 3), .inl (cI, 64, .inl ow)), ((r 4), .inl (cI, 64, .inl rn)), ((r 5), .inl (cI, 64, .inl ct)), ((r 6), .inl (cI, 256, .inl rt)), ((r 7), .inl (cI, 4, .inl ki)), ((r 8), .inl (cL, 4, .inr (.inl rb))), ((r 9), .inl (cI, 4, .inl aq)), ((r 10), .inl (cZ, 64, .inl cd)), ((r 11), .inl (cI, 64, .inl g1)), ((r 12), .inl (cI, 64, .inl g2)), ((r 13), .inl (cI, 64, .inl g3)), ((r 14), .inl (cL, 256, .inr (.inl gw))), ((r 15), .inl (cL, 64, .inr (.inl an)))] sz)) 0 0 (va_A [((r 0), .inr (7, [.int th, .int (nI rc), .ref (r 1), .int (nI ro), .ref (r 2), .int (nI rm), .ref (r 3), .ref (r 4), .ref (r 5), .ref (r 6), .int (nI ra), .ref (r 7), .ref (r 8), .ref (r 9), .ref (r 10), .int (nI rl), .ref (r 11), .ref (r 12), .ref (r 13), .ref (r 14), .int (nI rw), .ref (r 15), .long gv])), ((r 1), .inl (cI, 16, .inl rp)), ((r 2), .inl (cI, 64, .inl rk)), ((r 3), .inl (cI, 64, .inl ow)), ((r 4), .inl (cI, 64, .inl rn)), ((r 5), .inl (cI, 64, .inl ct)), ((r 6), .inl (cI, 256, .inl rt)), ((r 7), .inl (cI, 4, .inl ki)), ((r 8), .inl (cL, 4, .inr (.inl rb))), ((r 9), .inl (cI, 4, .inl aq)), ((r 10), .inl (cZ, 64, .inl cd)), ((r 11), .inl (cI, 64, .inl g1)), ((r 12), .inl (cI, 64, .inl g2)), ((r 13), .inl (cI, 64, .inl g3)), ((r 14), .inl (cL, 256, .inr (.inl gw))), ((r 15), .inl (cL, 64, .inr (.inl an)))] sz) := by
  refine Met.ofW (cc := kc_R_klass) (maxL := 3) (ret := (some .int)) (by decide) rfl ?_
  intro p e s m args below meth c s₁ B hml hv
  obtain ⟨rfl, hsz, hC, hP, hD0⟩ := hv
  have hx := B.exec
  have hb := B.bytes
  have hr := B.returns
  have hlocks := B.notSynchronized
  have hown : s.vm.findClass "HostBridgeModel" = some m.cls := findClass_of_methodNamed B.named
  subst hsz
  have hD := hD0.self (sz := s.heap.size)
  generalize hAe : va_A [((r 0), .inr (7, [.int th, .int (nI rc), .ref (r 1), .int (nI ro), .ref (r 2), .int (nI rm), .ref (r 3), .ref (r 4), .ref (r 5), .ref (r 6), .int (nI ra), .ref (r 7), .ref (r 8), .ref (r 9), .ref (r 10), .int (nI rl), .ref (r 11), .ref (r 12), .ref (r 13), .ref (r 14), .int (nI rw), .ref (r 15), .long gv])), ((r 1), .inl (cI, 16, .inl rp)), ((r 2), .inl (cI, 64, .inl rk)), ((r 3), .inl (cI, 64, .inl ow)), ((r 4), .inl (cI, 64, .inl rn)), ((r 5), .inl (cI, 64, .inl ct)), ((r 6), .inl (cI, 256, .inl rt)), ((r 7), .inl (cI, 4, .inl ki)), ((r 8), .inl (cL, 4, .inr (.inl rb))), ((r 9), .inl (cI, 4, .inl aq)), ((r 10), .inl (cZ, 64, .inl cd)), ((r 11), .inl (cI, 64, .inl g1)), ((r 12), .inl (cI, 64, .inl g2)), ((r 13), .inl (cI, 64, .inl g3)), ((r 14), .inl (cL, 256, .inr (.inl gw))), ((r 15), .inl (cL, 64, .inr (.inl an)))] s.heap.size = A at hD hC ⊢
  have hA : ∀ q : Nat, s.heap.size ≤ q → A q := fun q h => by rw [← hAe]; exact Or.inr h
  have hS : va_S A s.heap s.heap [] := va_S.rf
  have hK := hC.K
  have hts := hC.ts [.ref (r 0), .int k].toArray
  have hl := lv_entry ([.ref (r 0), .int k]) (n := 3) (Nat.le_of_ble_eq_true rfl)
  rw [lg_entry_eq]
  generalize (lg_sl ([.ref (r 0), .int k]) ++ List.replicate (3 - (lg_sl ([.ref (r 0), .int k])).length) Slot.unset).toArray = ls at hl ⊢
  have hl : lv_has ls 3 [(0, .ref (r 0)), (1, .int k)] := hl
  refine lv_iload_n hx hb kd_R_klass_0 rfl (lv_at hl 1 rfl) ?_
  refine lv_iconst (v := -1) hx hb kd_R_klass_1 (by decide) ?_
  refine lv_icmp_eq (tgt := 20) hx hb kd_R_klass_2 (by decide) (fun c_2 => ?_) (fun c_2 => ?_)
  · skip
    refine lv_iconst (v := 0) hx hb kd_R_klass_20 (by decide) ?_
    refine lv_istore_n (lv' := [(2, .int 0), (0, .ref (r 0)), (1, .int k)]) hx hb kd_R_klass_21 rfl hl (by decide) rfl (fun ls hl => ?_)
    refine lv_aload_n hx hb kd_R_klass_22 rfl (lv_at hl 1 rfl) ?_
    refine lv_iload_n hx hb kd_R_klass_23 rfl (lv_at hl 0 rfl) ?_
    refine lv_iload_n hx hb kd_R_klass_24 rfl (lv_at hl 0 rfl) ?_
    refine lv_if_ne (tgt := 41) hx hb kd_R_klass_25 (by decide) (fun c_25 => ?_) (fun c_25 => ?_)
    · exact absurd c_25 (not_not_intro rfl)
    · skip
      refine lv_aload_n hx hb kd_R_klass_28 rfl (lv_at hl 1 rfl) ?_
      refine va_get (D := D) (ci := 7) (v := .int (nI rc)) (C := "HostBridgeModel") (T := ct_R) (N := 23) hx hb hts cw_R hown hK hP 0 rfl rfl 1 (by decide) (hts _ km_622) (fun _ h9 => h9) rfl kd_R_klass_29 ?_
      refine lv_bipush (v := 16) hx hb kd_R_klass_32 (by decide) ?_
      refine lv_icmp_ne (tgt := 41) hx hb kd_R_klass_34 (by decide) (fun c_34 => ?_) (fun c_34 => ?_)
      · skip
        refine lv_iconst (v := 0) hx hb kd_R_klass_41 (by decide) ?_
        refine lv_iconst (v := 0) hx hb kd_R_klass_42 (by decide) ?_
        refine hx_callWi (va_runV (As := [.int 0, .int 0, .int 0]) (rest := []) ⟨hx, hb, hml, hown, hts⟩ (mr_throwing0 r rc ro rm ra rl rw th gv rp rk ow rn ct rt ki aq cd g1 g2 g3 rb gw an _) (cwV 3 hts (goodIn_sub (hx_m5 km_703 km_705 kv_R_throwing km_8 km_706) (by decide +kernel)) rfl rfl rfl (by decide +kernel) ⟨Nat.le_of_ble_eq_true rfl, Nat.le_of_ble_eq_true rfl⟩) (pw_V (hC.S hS) hP hD hS hA [0] (by decide) rfl (ci := 7) rfl (q0 := 0) rfl) rfl rfl hl.1 rfl (lv_room (Nat.le_of_ble_eq_true rfl)) kd_R_klass_43 ⟨Nat.le_of_ble_eq_true rfl, Nat.le_of_ble_eq_true rfl⟩) hP hD hS hA [0] rfl rfl (fun H locs hP hD hS hF => ?_)
        have hP : va_P D cl_all [((r 0), .inr (7, [.int 0, .int (nI rc), .ref (r 1), .int (nI ro), .ref (r 2), .int (nI rm), .ref (r 3), .ref (r 4), .ref (r 5), .ref (r 6), .int (nI ra), .ref (r 7), .ref (r 8), .ref (r 9), .ref (r 10), .int (nI rl), .ref (r 11), .ref (r 12), .ref (r 13), .ref (r 14), .int (nI rw), .ref (r 15), .long gv])), ((r 1), .inl (cI, 16, .inl rp)), ((r 2), .inl (cI, 64, .inl rk)), ((r 3), .inl (cI, 64, .inl ow)), ((r 4), .inl (cI, 64, .inl rn)), ((r 5), .inl (cI, 64, .inl ct)), ((r 6), .inl (cI, 256, .inl rt)), ((r 7), .inl (cI, 4, .inl ki)), ((r 8), .inl (cL, 4, .inr (.inl rb))), ((r 9), .inl (cI, 4, .inl aq)), ((r 10), .inl (cZ, 64, .inl cd)), ((r 11), .inl (cI, 64, .inl g1)), ((r 12), .inl (cI, 64, .inl g2)), ((r 13), .inl (cI, 64, .inl g3)), ((r 14), .inl (cL, 256, .inr (.inl gw))), ((r 15), .inl (cL, 64, .inr (.inl an)))] H := hP
        have hD : va_D A [((r 0), .inr (7, [.int 0, .int (nI rc), .ref (r 1), .int (nI ro), .ref (r 2), .int (nI rm), .ref (r 3), .ref (r 4), .ref (r 5), .ref (r 6), .int (nI ra), .ref (r 7), .ref (r 8), .ref (r 9), .ref (r 10), .int (nI rl), .ref (r 11), .ref (r 12), .ref (r 13), .ref (r 14), .int (nI rw), .ref (r 15), .long gv])), ((r 1), .inl (cI, 16, .inl rp)), ((r 2), .inl (cI, 64, .inl rk)), ((r 3), .inl (cI, 64, .inl ow)), ((r 4), .inl (cI, 64, .inl rn)), ((r 5), .inl (cI, 64, .inl ct)), ((r 6), .inl (cI, 256, .inl rt)), ((r 7), .inl (cI, 4, .inl ki)), ((r 8), .inl (cL, 4, .inr (.inl rb))), ((r 9), .inl (cI, 4, .inl aq)), ((r 10), .inl (cZ, 64, .inl cd)), ((r 11), .inl (cI, 64, .inl g1)), ((r 12), .inl (cI, 64, .inl g2)), ((r 13), .inl (cI, 64, .inl g3)), ((r 14), .inl (cL, 256, .inr (.inl gw))), ((r 15), .inl (cL, 64, .inr (.inl an)))] := hD
        refine hx_topi (y := 0) (rfl) ?_
        refine lv_if_eq (tgt := 51) hx hb kd_R_klass_46 (by decide) (fun c_46 => ?_) (fun c_46 => ?_)
        · skip
          refine lv_aload_n hx hb kd_R_klass_51 rfl (lv_at hl 1 rfl) ?_
          refine va_get (D := D) (ci := 7) (v := .ref (r 1)) (C := "HostBridgeModel") (T := ct_R) (N := 23) hx hb hts cw_R hown hK hP 0 rfl rfl 2 (by decide) (hts _ km_623) (fun _ h9 => h9) rfl kd_R_klass_52 ?_
          refine lv_aload_n hx hb kd_R_klass_55 rfl (lv_at hl 1 rfl) ?_
          refine va_get (D := D) (ci := 7) (v := .int (nI rc)) (C := "HostBridgeModel") (T := ct_R) (N := 23) hx hb hts cw_R hown hK hP 0 rfl rfl 1 (by decide) (hts _ km_622) (fun _ h9 => h9) rfl kd_R_klass_56 ?_
          refine lv_iload_n hx hb kd_R_klass_59 rfl (lv_at hl 2 rfl) ?_
          refine hx_iast (j := rc) hx hb hK hP hD hS 1 rfl (rfl) (hn) (by decide) kd_R_klass_60 (fun H locs hP hD hS => ?_)
          have hP : va_P D cl_all [((r 0), .inr (7, [.int 0, .int (nI rc), .ref (r 1), .int (nI ro), .ref (r 2), .int (nI rm), .ref (r 3), .ref (r 4), .ref (r 5), .ref (r 6), .int (nI ra), .ref (r 7), .ref (r 8), .ref (r 9), .ref (r 10), .int (nI rl), .ref (r 11), .ref (r 12), .ref (r 13), .ref (r 14), .int (nI rw), .ref (r 15), .long gv])), ((r 1), .inl (cI, 16, .inl (upd rp rc k))), ((r 2), .inl (cI, 64, .inl rk)), ((r 3), .inl (cI, 64, .inl ow)), ((r 4), .inl (cI, 64, .inl rn)), ((r 5), .inl (cI, 64, .inl ct)), ((r 6), .inl (cI, 256, .inl rt)), ((r 7), .inl (cI, 4, .inl ki)), ((r 8), .inl (cL, 4, .inr (.inl rb))), ((r 9), .inl (cI, 4, .inl aq)), ((r 10), .inl (cZ, 64, .inl cd)), ((r 11), .inl (cI, 64, .inl g1)), ((r 12), .inl (cI, 64, .inl g2)), ((r 13), .inl (cI, 64, .inl g3)), ((r 14), .inl (cL, 256, .inr (.inl gw))), ((r 15), .inl (cL, 64, .inr (.inl an)))] H := hP
          have hD : va_D A [((r 0), .inr (7, [.int 0, .int (nI rc), .ref (r 1), .int (nI ro), .ref (r 2), .int (nI rm), .ref (r 3), .ref (r 4), .ref (r 5), .ref (r 6), .int (nI ra), .ref (r 7), .ref (r 8), .ref (r 9), .ref (r 10), .int (nI rl), .ref (r 11), .ref (r 12), .ref (r 13), .ref (r 14), .int (nI rw), .ref (r 15), .long gv])), ((r 1), .inl (cI, 16, .inl (upd rp rc k))), ((r 2), .inl (cI, 64, .inl rk)), ((r 3), .inl (cI, 64, .inl ow)), ((r 4), .inl (cI, 64, .inl rn)), ((r 5), .inl (cI, 64, .inl ct)), ((r 6), .inl (cI, 256, .inl rt)), ((r 7), .inl (cI, 4, .inl ki)), ((r 8), .inl (cL, 4, .inr (.inl rb))), ((r 9), .inl (cI, 4, .inl aq)), ((r 10), .inl (cZ, 64, .inl cd)), ((r 11), .inl (cI, 64, .inl g1)), ((r 12), .inl (cI, 64, .inl g2)), ((r 13), .inl (cI, 64, .inl g3)), ((r 14), .inl (cL, 256, .inr (.inl gw))), ((r 15), .inl (cL, 64, .inr (.inl an)))] := hD
          refine lv_aload_n hx hb kd_R_klass_61 rfl (lv_at hl 1 rfl) ?_
          refine lv_dup hx hb kd_R_klass_62 rfl ?_
          refine va_get (D := D) (ci := 7) (v := .int (nI rc)) (C := "HostBridgeModel") (T := ct_R) (N := 23) hx hb hts cw_R hown hK hP 0 rfl rfl 1 (by decide) (hts _ km_622) (fun _ h9 => h9) rfl kd_R_klass_63 ?_
          refine lv_iconst (v := 1) hx hb kd_R_klass_66 (by decide) ?_
          refine lv_iadd hx hb kd_R_klass_67 ?_
          refine hx_topi (y := nI (rc + 1)) (nI_1 rc) ?_
          refine va_put (D := D) (ci := 7) (v := .int (nI (rc + 1))) (ty := .int) (C := "HostBridgeModel") (T := ct_R) (N := 23) hx hb hts cw_R cy_R cp_R cn_R hown hK hP hD hS 0 rfl rfl 1 (by decide) (hts _ km_622) (fun _ h9 => h9) rfl (by decide +kernel) rfl rfl (Nat.le_of_ble_eq_true rfl) kd_R_klass_68 (fun H locs hP hD hS => ?_)
          have hP : va_P D cl_all [((r 0), .inr (7, [.int 0, .int (nI (rc + 1)), .ref (r 1), .int (nI ro), .ref (r 2), .int (nI rm), .ref (r 3), .ref (r 4), .ref (r 5), .ref (r 6), .int (nI ra), .ref (r 7), .ref (r 8), .ref (r 9), .ref (r 10), .int (nI rl), .ref (r 11), .ref (r 12), .ref (r 13), .ref (r 14), .int (nI rw), .ref (r 15), .long gv])), ((r 1), .inl (cI, 16, .inl (upd rp rc k))), ((r 2), .inl (cI, 64, .inl rk)), ((r 3), .inl (cI, 64, .inl ow)), ((r 4), .inl (cI, 64, .inl rn)), ((r 5), .inl (cI, 64, .inl ct)), ((r 6), .inl (cI, 256, .inl rt)), ((r 7), .inl (cI, 4, .inl ki)), ((r 8), .inl (cL, 4, .inr (.inl rb))), ((r 9), .inl (cI, 4, .inl aq)), ((r 10), .inl (cZ, 64, .inl cd)), ((r 11), .inl (cI, 64, .inl g1)), ((r 12), .inl (cI, 64, .inl g2)), ((r 13), .inl (cI, 64, .inl g3)), ((r 14), .inl (cL, 256, .inr (.inl gw))), ((r 15), .inl (cL, 64, .inr (.inl an)))] H := hP
          have hD : va_D A [((r 0), .inr (7, [.int 0, .int (nI (rc + 1)), .ref (r 1), .int (nI ro), .ref (r 2), .int (nI rm), .ref (r 3), .ref (r 4), .ref (r 5), .ref (r 6), .int (nI ra), .ref (r 7), .ref (r 8), .ref (r 9), .ref (r 10), .int (nI rl), .ref (r 11), .ref (r 12), .ref (r 13), .ref (r 14), .int (nI rw), .ref (r 15), .long gv])), ((r 1), .inl (cI, 16, .inl (upd rp rc k))), ((r 2), .inl (cI, 64, .inl rk)), ((r 3), .inl (cI, 64, .inl ow)), ((r 4), .inl (cI, 64, .inl rn)), ((r 5), .inl (cI, 64, .inl ct)), ((r 6), .inl (cI, 256, .inl rt)), ((r 7), .inl (cI, 4, .inl ki)), ((r 8), .inl (cL, 4, .inr (.inl rb))), ((r 9), .inl (cI, 4, .inl aq)), ((r 10), .inl (cZ, 64, .inl cd)), ((r 11), .inl (cI, 64, .inl g1)), ((r 12), .inl (cI, 64, .inl g2)), ((r 13), .inl (cI, 64, .inl g3)), ((r 14), .inl (cL, 256, .inr (.inl gw))), ((r 15), .inl (cL, 64, .inr (.inl an)))] := hD
          refine lv_aload_n hx hb kd_R_klass_71 rfl (lv_at hl 1 rfl) ?_
          refine va_get (D := D) (ci := 7) (v := .int (nI (rc + 1))) (C := "HostBridgeModel") (T := ct_R) (N := 23) hx hb hts cw_R hown hK hP 0 rfl rfl 1 (by decide) (hts _ km_622) (fun _ h9 => h9) rfl kd_R_klass_72 ?_
          refine lv_iconst (v := 1) hx hb kd_R_klass_75 (by decide) ?_
          refine lv_isub hx hb kd_R_klass_76 ?_
          refine hx_topi (y := nI rc) (nI_pred rc) ?_
          exact hx_iretW hx hb hr hlocks (rfl) (hP) hS kd_R_klass_77
        · exact absurd c_46 (not_not_intro rfl)
      · exact absurd c_34 (fun h => absurd ((nI_eq (a := rc) (b := 16) (by omega) (by decide)).mp h) (by omega))
  · skip
    refine lv_iload_n hx hb kd_R_klass_5 rfl (lv_at hl 1 rfl) ?_
    refine lv_aload_n hx hb kd_R_klass_6 rfl (lv_at hl 0 rfl) ?_
    refine va_get (D := D) (ci := 7) (v := .int (nI rc)) (C := "HostBridgeModel") (T := ct_R) (N := 23) hx hb hts cw_R hown hK hP 0 rfl rfl 1 (by decide) (hts _ km_622) (fun _ h9 => h9) rfl kd_R_klass_7 ?_
    refine hx_callRi (va_runS (As := [.int k, .int (nI rc)]) (rest := []) ⟨hx, hb, hml, hown, hts⟩ (mr_isNo k rc) (va_cwS 2 hts (goodIn_sub (hx_m4 km_700 km_701 km_8 km_702) (by decide +kernel)) rfl rfl rfl (by decide +kernel) ⟨Nat.le_of_ble_eq_true rfl, Nat.le_of_ble_eq_true rfl⟩) (pr_S (hC.S hS) hP [] rfl) rfl rfl hl.1 rfl (lv_room (Nat.le_of_ble_eq_true rfl)) kd_R_klass_10 ⟨Nat.le_of_ble_eq_true rfl, Nat.le_of_ble_eq_true rfl⟩) ?_
    refine lv_if_eq (tgt := 20) hx hb kd_R_klass_13 (by decide) (fun c_13 => ?_) (fun c_13 => ?_)
    · skip
      refine lv_iconst (v := 0) hx hb kd_R_klass_20 (by decide) ?_
      refine lv_istore_n (lv' := [(2, .int 0), (0, .ref (r 0)), (1, .int k)]) hx hb kd_R_klass_21 rfl hl (by decide) rfl (fun ls hl => ?_)
      refine lv_aload_n hx hb kd_R_klass_22 rfl (lv_at hl 1 rfl) ?_
      refine lv_iload_n hx hb kd_R_klass_23 rfl (lv_at hl 0 rfl) ?_
      refine lv_iload_n hx hb kd_R_klass_24 rfl (lv_at hl 0 rfl) ?_
      refine lv_if_ne (tgt := 41) hx hb kd_R_klass_25 (by decide) (fun c_25 => ?_) (fun c_25 => ?_)
      · exact absurd c_25 (not_not_intro rfl)
      · skip
        refine lv_aload_n hx hb kd_R_klass_28 rfl (lv_at hl 1 rfl) ?_
        refine va_get (D := D) (ci := 7) (v := .int (nI rc)) (C := "HostBridgeModel") (T := ct_R) (N := 23) hx hb hts cw_R hown hK hP 0 rfl rfl 1 (by decide) (hts _ km_622) (fun _ h9 => h9) rfl kd_R_klass_29 ?_
        refine lv_bipush (v := 16) hx hb kd_R_klass_32 (by decide) ?_
        refine lv_icmp_ne (tgt := 41) hx hb kd_R_klass_34 (by decide) (fun c_34 => ?_) (fun c_34 => ?_)
        · skip
          refine lv_iconst (v := 0) hx hb kd_R_klass_41 (by decide) ?_
          refine lv_iconst (v := 0) hx hb kd_R_klass_42 (by decide) ?_
          refine hx_callWi (va_runV (As := [.int 0, .int 0, .int 0]) (rest := []) ⟨hx, hb, hml, hown, hts⟩ (mr_throwing0 r rc ro rm ra rl rw th gv rp rk ow rn ct rt ki aq cd g1 g2 g3 rb gw an _) (cwV 3 hts (goodIn_sub (hx_m5 km_703 km_705 kv_R_throwing km_8 km_706) (by decide +kernel)) rfl rfl rfl (by decide +kernel) ⟨Nat.le_of_ble_eq_true rfl, Nat.le_of_ble_eq_true rfl⟩) (pw_V (hC.S hS) hP hD hS hA [0] (by decide) rfl (ci := 7) rfl (q0 := 0) rfl) rfl rfl hl.1 rfl (lv_room (Nat.le_of_ble_eq_true rfl)) kd_R_klass_43 ⟨Nat.le_of_ble_eq_true rfl, Nat.le_of_ble_eq_true rfl⟩) hP hD hS hA [0] rfl rfl (fun H locs hP hD hS hF => ?_)
          have hP : va_P D cl_all [((r 0), .inr (7, [.int 0, .int (nI rc), .ref (r 1), .int (nI ro), .ref (r 2), .int (nI rm), .ref (r 3), .ref (r 4), .ref (r 5), .ref (r 6), .int (nI ra), .ref (r 7), .ref (r 8), .ref (r 9), .ref (r 10), .int (nI rl), .ref (r 11), .ref (r 12), .ref (r 13), .ref (r 14), .int (nI rw), .ref (r 15), .long gv])), ((r 1), .inl (cI, 16, .inl rp)), ((r 2), .inl (cI, 64, .inl rk)), ((r 3), .inl (cI, 64, .inl ow)), ((r 4), .inl (cI, 64, .inl rn)), ((r 5), .inl (cI, 64, .inl ct)), ((r 6), .inl (cI, 256, .inl rt)), ((r 7), .inl (cI, 4, .inl ki)), ((r 8), .inl (cL, 4, .inr (.inl rb))), ((r 9), .inl (cI, 4, .inl aq)), ((r 10), .inl (cZ, 64, .inl cd)), ((r 11), .inl (cI, 64, .inl g1)), ((r 12), .inl (cI, 64, .inl g2)), ((r 13), .inl (cI, 64, .inl g3)), ((r 14), .inl (cL, 256, .inr (.inl gw))), ((r 15), .inl (cL, 64, .inr (.inl an)))] H := hP
          have hD : va_D A [((r 0), .inr (7, [.int 0, .int (nI rc), .ref (r 1), .int (nI ro), .ref (r 2), .int (nI rm), .ref (r 3), .ref (r 4), .ref (r 5), .ref (r 6), .int (nI ra), .ref (r 7), .ref (r 8), .ref (r 9), .ref (r 10), .int (nI rl), .ref (r 11), .ref (r 12), .ref (r 13), .ref (r 14), .int (nI rw), .ref (r 15), .long gv])), ((r 1), .inl (cI, 16, .inl rp)), ((r 2), .inl (cI, 64, .inl rk)), ((r 3), .inl (cI, 64, .inl ow)), ((r 4), .inl (cI, 64, .inl rn)), ((r 5), .inl (cI, 64, .inl ct)), ((r 6), .inl (cI, 256, .inl rt)), ((r 7), .inl (cI, 4, .inl ki)), ((r 8), .inl (cL, 4, .inr (.inl rb))), ((r 9), .inl (cI, 4, .inl aq)), ((r 10), .inl (cZ, 64, .inl cd)), ((r 11), .inl (cI, 64, .inl g1)), ((r 12), .inl (cI, 64, .inl g2)), ((r 13), .inl (cI, 64, .inl g3)), ((r 14), .inl (cL, 256, .inr (.inl gw))), ((r 15), .inl (cL, 64, .inr (.inl an)))] := hD
          refine hx_topi (y := 0) (rfl) ?_
          refine lv_if_eq (tgt := 51) hx hb kd_R_klass_46 (by decide) (fun c_46 => ?_) (fun c_46 => ?_)
          · skip
            refine lv_aload_n hx hb kd_R_klass_51 rfl (lv_at hl 1 rfl) ?_
            refine va_get (D := D) (ci := 7) (v := .ref (r 1)) (C := "HostBridgeModel") (T := ct_R) (N := 23) hx hb hts cw_R hown hK hP 0 rfl rfl 2 (by decide) (hts _ km_623) (fun _ h9 => h9) rfl kd_R_klass_52 ?_
            refine lv_aload_n hx hb kd_R_klass_55 rfl (lv_at hl 1 rfl) ?_
            refine va_get (D := D) (ci := 7) (v := .int (nI rc)) (C := "HostBridgeModel") (T := ct_R) (N := 23) hx hb hts cw_R hown hK hP 0 rfl rfl 1 (by decide) (hts _ km_622) (fun _ h9 => h9) rfl kd_R_klass_56 ?_
            refine lv_iload_n hx hb kd_R_klass_59 rfl (lv_at hl 2 rfl) ?_
            refine hx_iast (j := rc) hx hb hK hP hD hS 1 rfl (rfl) (hn) (by decide) kd_R_klass_60 (fun H locs hP hD hS => ?_)
            have hP : va_P D cl_all [((r 0), .inr (7, [.int 0, .int (nI rc), .ref (r 1), .int (nI ro), .ref (r 2), .int (nI rm), .ref (r 3), .ref (r 4), .ref (r 5), .ref (r 6), .int (nI ra), .ref (r 7), .ref (r 8), .ref (r 9), .ref (r 10), .int (nI rl), .ref (r 11), .ref (r 12), .ref (r 13), .ref (r 14), .int (nI rw), .ref (r 15), .long gv])), ((r 1), .inl (cI, 16, .inl (upd rp rc k))), ((r 2), .inl (cI, 64, .inl rk)), ((r 3), .inl (cI, 64, .inl ow)), ((r 4), .inl (cI, 64, .inl rn)), ((r 5), .inl (cI, 64, .inl ct)), ((r 6), .inl (cI, 256, .inl rt)), ((r 7), .inl (cI, 4, .inl ki)), ((r 8), .inl (cL, 4, .inr (.inl rb))), ((r 9), .inl (cI, 4, .inl aq)), ((r 10), .inl (cZ, 64, .inl cd)), ((r 11), .inl (cI, 64, .inl g1)), ((r 12), .inl (cI, 64, .inl g2)), ((r 13), .inl (cI, 64, .inl g3)), ((r 14), .inl (cL, 256, .inr (.inl gw))), ((r 15), .inl (cL, 64, .inr (.inl an)))] H := hP
            have hD : va_D A [((r 0), .inr (7, [.int 0, .int (nI rc), .ref (r 1), .int (nI ro), .ref (r 2), .int (nI rm), .ref (r 3), .ref (r 4), .ref (r 5), .ref (r 6), .int (nI ra), .ref (r 7), .ref (r 8), .ref (r 9), .ref (r 10), .int (nI rl), .ref (r 11), .ref (r 12), .ref (r 13), .ref (r 14), .int (nI rw), .ref (r 15), .long gv])), ((r 1), .inl (cI, 16, .inl (upd rp rc k))), ((r 2), .inl (cI, 64, .inl rk)), ((r 3), .inl (cI, 64, .inl ow)), ((r 4), .inl (cI, 64, .inl rn)), ((r 5), .inl (cI, 64, .inl ct)), ((r 6), .inl (cI, 256, .inl rt)), ((r 7), .inl (cI, 4, .inl ki)), ((r 8), .inl (cL, 4, .inr (.inl rb))), ((r 9), .inl (cI, 4, .inl aq)), ((r 10), .inl (cZ, 64, .inl cd)), ((r 11), .inl (cI, 64, .inl g1)), ((r 12), .inl (cI, 64, .inl g2)), ((r 13), .inl (cI, 64, .inl g3)), ((r 14), .inl (cL, 256, .inr (.inl gw))), ((r 15), .inl (cL, 64, .inr (.inl an)))] := hD
            refine lv_aload_n hx hb kd_R_klass_61 rfl (lv_at hl 1 rfl) ?_
            refine lv_dup hx hb kd_R_klass_62 rfl ?_
            refine va_get (D := D) (ci := 7) (v := .int (nI rc)) (C := "HostBridgeModel") (T := ct_R) (N := 23) hx hb hts cw_R hown hK hP 0 rfl rfl 1 (by decide) (hts _ km_622) (fun _ h9 => h9) rfl kd_R_klass_63 ?_
            refine lv_iconst (v := 1) hx hb kd_R_klass_66 (by decide) ?_
            refine lv_iadd hx hb kd_R_klass_67 ?_
            refine hx_topi (y := nI (rc + 1)) (nI_1 rc) ?_
            refine va_put (D := D) (ci := 7) (v := .int (nI (rc + 1))) (ty := .int) (C := "HostBridgeModel") (T := ct_R) (N := 23) hx hb hts cw_R cy_R cp_R cn_R hown hK hP hD hS 0 rfl rfl 1 (by decide) (hts _ km_622) (fun _ h9 => h9) rfl (by decide +kernel) rfl rfl (Nat.le_of_ble_eq_true rfl) kd_R_klass_68 (fun H locs hP hD hS => ?_)
            have hP : va_P D cl_all [((r 0), .inr (7, [.int 0, .int (nI (rc + 1)), .ref (r 1), .int (nI ro), .ref (r 2), .int (nI rm), .ref (r 3), .ref (r 4), .ref (r 5), .ref (r 6), .int (nI ra), .ref (r 7), .ref (r 8), .ref (r 9), .ref (r 10), .int (nI rl), .ref (r 11), .ref (r 12), .ref (r 13), .ref (r 14), .int (nI rw), .ref (r 15), .long gv])), ((r 1), .inl (cI, 16, .inl (upd rp rc k))), ((r 2), .inl (cI, 64, .inl rk)), ((r 3), .inl (cI, 64, .inl ow)), ((r 4), .inl (cI, 64, .inl rn)), ((r 5), .inl (cI, 64, .inl ct)), ((r 6), .inl (cI, 256, .inl rt)), ((r 7), .inl (cI, 4, .inl ki)), ((r 8), .inl (cL, 4, .inr (.inl rb))), ((r 9), .inl (cI, 4, .inl aq)), ((r 10), .inl (cZ, 64, .inl cd)), ((r 11), .inl (cI, 64, .inl g1)), ((r 12), .inl (cI, 64, .inl g2)), ((r 13), .inl (cI, 64, .inl g3)), ((r 14), .inl (cL, 256, .inr (.inl gw))), ((r 15), .inl (cL, 64, .inr (.inl an)))] H := hP
            have hD : va_D A [((r 0), .inr (7, [.int 0, .int (nI (rc + 1)), .ref (r 1), .int (nI ro), .ref (r 2), .int (nI rm), .ref (r 3), .ref (r 4), .ref (r 5), .ref (r 6), .int (nI ra), .ref (r 7), .ref (r 8), .ref (r 9), .ref (r 10), .int (nI rl), .ref (r 11), .ref (r 12), .ref (r 13), .ref (r 14), .int (nI rw), .ref (r 15), .long gv])), ((r 1), .inl (cI, 16, .inl (upd rp rc k))), ((r 2), .inl (cI, 64, .inl rk)), ((r 3), .inl (cI, 64, .inl ow)), ((r 4), .inl (cI, 64, .inl rn)), ((r 5), .inl (cI, 64, .inl ct)), ((r 6), .inl (cI, 256, .inl rt)), ((r 7), .inl (cI, 4, .inl ki)), ((r 8), .inl (cL, 4, .inr (.inl rb))), ((r 9), .inl (cI, 4, .inl aq)), ((r 10), .inl (cZ, 64, .inl cd)), ((r 11), .inl (cI, 64, .inl g1)), ((r 12), .inl (cI, 64, .inl g2)), ((r 13), .inl (cI, 64, .inl g3)), ((r 14), .inl (cL, 256, .inr (.inl gw))), ((r 15), .inl (cL, 64, .inr (.inl an)))] := hD
            refine lv_aload_n hx hb kd_R_klass_71 rfl (lv_at hl 1 rfl) ?_
            refine va_get (D := D) (ci := 7) (v := .int (nI (rc + 1))) (C := "HostBridgeModel") (T := ct_R) (N := 23) hx hb hts cw_R hown hK hP 0 rfl rfl 1 (by decide) (hts _ km_622) (fun _ h9 => h9) rfl kd_R_klass_72 ?_
            refine lv_iconst (v := 1) hx hb kd_R_klass_75 (by decide) ?_
            refine lv_isub hx hb kd_R_klass_76 ?_
            refine hx_topi (y := nI rc) (nI_pred rc) ?_
            exact hx_iretW hx hb hr hlocks (rfl) (hP) hS kd_R_klass_77
          · exact absurd c_46 (not_not_intro rfl)
        · exact absurd c_34 (fun h => absurd ((nI_eq (a := rc) (b := 16) (by omega) (by decide)).mp h) (by omega))
    · exact absurd c_13 (not_not_intro (by rw [hk.resolve_left c_2]; rfl))

set_option maxHeartbeats 4000000 in
set_option maxRecDepth 100000 in
theorem mr_klass1 {l : Launch} {D : va_G} {cI cL cZ : ClassId} {tb : Nat} (r : Nat → Nat) (rc ro rm ra rl rw : Nat) (th : Int32) (gv : Int64) (rp rk ow rn ct rt ki aq cd g1 g2 g3 : Nat → Int32) (rb gw an : Nat → Int64) (k : Int32) (hk : ¬ k = -1) (hf : fb_in k rc = false) (sz : Nat) : Met l ky_R_klass kw_R_klass { frames := 1, cells := 0, slots := 0, locals := 23 } (pw_P D cI cL cZ tb [((r 0), .inr (7, [.int th, .int (nI rc), .ref (r 1), .int (nI ro), .ref (r 2), .int (nI rm), .ref (r 3), .ref (r 4), .ref (r 5), .ref (r 6), .int (nI ra), .ref (r 7), .ref (r 8), .ref (r 9), .ref (r 10), .int (nI rl), .ref (r 11), .ref (r 12), .ref (r 13), .ref (r 14), .int (nI rw), .ref (r 15), .long gv])), ((r 1), .inl (cI, 16, .inl rp)), ((r 2), .inl (cI, 64, .inl rk)), ((r 3), .inl (cI, 64, .inl ow)), ((r 4), .inl (cI, 64, .inl rn)), ((r 5), .inl (cI, 64, .inl ct)), ((r 6), .inl (cI, 256, .inl rt)), ((r 7), .inl (cI, 4, .inl ki)), ((r 8), .inl (cL, 4, .inr (.inl rb))), ((r 9), .inl (cI, 4, .inl aq)), ((r 10), .inl (cZ, 64, .inl cd)), ((r 11), .inl (cI, 64, .inl g1)), ((r 12), .inl (cI, 64, .inl g2)), ((r 13), .inl (cI, 64, .inl g3)), ((r 14), .inl (cL, 256, .inr (.inl gw))), ((r 15), .inl (cL, 64, .inr (.inl an)))] sz [.ref (r 0), .int k]) (hx_QW D (some (.int 0)) [((r 0), .inr (7, [.int 1, .int (nI rc), .ref (r 1), .int (nI ro), .ref (r 2), .int (nI rm), .ref (r 3), .ref (r 4), .ref (r 5), .ref (r 6), .int (nI ra), .ref (r 7), .ref (r 8), .ref (r 9), .ref (r 10), .int (nI rl), .ref (r 11), .ref (r 12), .ref (r 13), .ref (r 14), .int (nI rw), .ref (r 15), .long gv])), ((r 1), .inl (cI, 16, .inl rp)), ((r 2), .inl (cI, 64, .inl rk)), ((r 3), .inl (cI, 64, .inl ow)), ((r 4), .inl (cI, 64, .inl rn)), ((r 5), .inl (cI, 64, .inl ct)), ((r 6), .inl (cI, 256, .inl rt)), ((r 7), .inl (cI, 4, .inl ki)), ((r 8), .inl (cL, 4, .inr (.inl rb))), ((r 9), .inl (cI, 4, .inl aq)), ((r 10), .inl (cZ, 64, .inl cd)), ((r 11), .inl (cI, 64, .inl g1)), ((r 12), .inl (cI, 64, .inl g2)), ((r 13), .inl (cI, 64, .inl g3)), ((r 14), .inl (cL, 256, .inr (.inl gw))), ((r 15), .inl (cL, 64, .inr (.inl an)))] (va_A [((r 0), .inr (7, [.int th, .int (nI rc), .ref (r 1), .int (nI ro), .ref (r 2), .int (nI rm), .ref (r 3), .ref (r 4), .ref (r 5), .ref (r 6), .int (nI ra), .ref (r 7), .ref (r 8), .ref (r 9), .ref (r 10), .int (nI rl), .ref (r 11), .ref (r 12), .ref (r 13), .ref (r 14), .int (nI rw), .ref (r 15), .long gv])), ((r 1), .inl (cI, 16, .inl rp)), ((r 2), .inl (cI, 64, .inl rk)), ((r 3), .inl (cI, 64, .inl ow)), ((r 4), .inl (cI, 64, .inl rn)), ((r 5), .inl (cI, 64, .inl ct)), ((r 6), .inl (cI, 256, .inl rt)), ((r 7), .inl (cI, 4, .inl ki)), ((r 8), .inl (cL, 4, .inr (.inl rb))), ((r 9), .inl (cI, 4, .inl aq)), ((r 10), .inl (cZ, 64, .inl cd)), ((r 11), .inl (cI, 64, .inl g1)), ((r 12), .inl (cI, 64, .inl g2)), ((r 13), .inl (cI, 64, .inl g3)), ((r 14), .inl (cL, 256, .inr (.inl gw))), ((r 15), .inl (cL, 64, .inr (.inl an)))] sz)) 0 0 (va_A [((r 0), .inr (7, [.int th, .int (nI rc), .ref (r 1), .int (nI ro), .ref (r 2), .int (nI rm), .ref (r 3), .ref (r 4), .ref (r 5), .ref (r 6), .int (nI ra), .ref (r 7), .ref (r 8), .ref (r 9), .ref (r 10), .int (nI rl), .ref (r 11), .ref (r 12), .ref (r 13), .ref (r 14), .int (nI rw), .ref (r 15), .long gv])), ((r 1), .inl (cI, 16, .inl rp)), ((r 2), .inl (cI, 64, .inl rk)), ((r 3), .inl (cI, 64, .inl ow)), ((r 4), .inl (cI, 64, .inl rn)), ((r 5), .inl (cI, 64, .inl ct)), ((r 6), .inl (cI, 256, .inl rt)), ((r 7), .inl (cI, 4, .inl ki)), ((r 8), .inl (cL, 4, .inr (.inl rb))), ((r 9), .inl (cI, 4, .inl aq)), ((r 10), .inl (cZ, 64, .inl cd)), ((r 11), .inl (cI, 64, .inl g1)), ((r 12), .inl (cI, 64, .inl g2)), ((r 13), .inl (cI, 64, .inl g3)), ((r 14), .inl (cL, 256, .inr (.inl gw))), ((r 15), .inl (cL, 64, .inr (.inl an)))] sz) := by
  refine Met.ofW (cc := kc_R_klass) (maxL := 3) (ret := (some .int)) (by decide) rfl ?_
  intro p e s m args below meth c s₁ B hml hv
  obtain ⟨rfl, hsz, hC, hP, hD0⟩ := hv
  have hx := B.exec
  have hb := B.bytes
  have hr := B.returns
  have hlocks := B.notSynchronized
  have hown : s.vm.findClass "HostBridgeModel" = some m.cls := findClass_of_methodNamed B.named
  subst hsz
  have hD := hD0.self (sz := s.heap.size)
  generalize hAe : va_A [((r 0), .inr (7, [.int th, .int (nI rc), .ref (r 1), .int (nI ro), .ref (r 2), .int (nI rm), .ref (r 3), .ref (r 4), .ref (r 5), .ref (r 6), .int (nI ra), .ref (r 7), .ref (r 8), .ref (r 9), .ref (r 10), .int (nI rl), .ref (r 11), .ref (r 12), .ref (r 13), .ref (r 14), .int (nI rw), .ref (r 15), .long gv])), ((r 1), .inl (cI, 16, .inl rp)), ((r 2), .inl (cI, 64, .inl rk)), ((r 3), .inl (cI, 64, .inl ow)), ((r 4), .inl (cI, 64, .inl rn)), ((r 5), .inl (cI, 64, .inl ct)), ((r 6), .inl (cI, 256, .inl rt)), ((r 7), .inl (cI, 4, .inl ki)), ((r 8), .inl (cL, 4, .inr (.inl rb))), ((r 9), .inl (cI, 4, .inl aq)), ((r 10), .inl (cZ, 64, .inl cd)), ((r 11), .inl (cI, 64, .inl g1)), ((r 12), .inl (cI, 64, .inl g2)), ((r 13), .inl (cI, 64, .inl g3)), ((r 14), .inl (cL, 256, .inr (.inl gw))), ((r 15), .inl (cL, 64, .inr (.inl an)))] s.heap.size = A at hD hC ⊢
  have hA : ∀ q : Nat, s.heap.size ≤ q → A q := fun q h => by rw [← hAe]; exact Or.inr h
  have hS : va_S A s.heap s.heap [] := va_S.rf
  have hK := hC.K
  have hts := hC.ts [.ref (r 0), .int k].toArray
  have hl := lv_entry ([.ref (r 0), .int k]) (n := 3) (Nat.le_of_ble_eq_true rfl)
  rw [lg_entry_eq]
  generalize (lg_sl ([.ref (r 0), .int k]) ++ List.replicate (3 - (lg_sl ([.ref (r 0), .int k])).length) Slot.unset).toArray = ls at hl ⊢
  have hl : lv_has ls 3 [(0, .ref (r 0)), (1, .int k)] := hl
  refine lv_iload_n hx hb kd_R_klass_0 rfl (lv_at hl 1 rfl) ?_
  refine lv_iconst (v := -1) hx hb kd_R_klass_1 (by decide) ?_
  refine lv_icmp_eq (tgt := 20) hx hb kd_R_klass_2 (by decide) (fun c_2 => ?_) (fun c_2 => ?_)
  · exact absurd c_2 (hk)
  · skip
    refine lv_iload_n hx hb kd_R_klass_5 rfl (lv_at hl 1 rfl) ?_
    refine lv_aload_n hx hb kd_R_klass_6 rfl (lv_at hl 0 rfl) ?_
    refine va_get (D := D) (ci := 7) (v := .int (nI rc)) (C := "HostBridgeModel") (T := ct_R) (N := 23) hx hb hts cw_R hown hK hP 0 rfl rfl 1 (by decide) (hts _ km_622) (fun _ h9 => h9) rfl kd_R_klass_7 ?_
    refine hx_callRi (va_runS (As := [.int k, .int (nI rc)]) (rest := []) ⟨hx, hb, hml, hown, hts⟩ (mr_isNo k rc) (va_cwS 2 hts (goodIn_sub (hx_m4 km_700 km_701 km_8 km_702) (by decide +kernel)) rfl rfl rfl (by decide +kernel) ⟨Nat.le_of_ble_eq_true rfl, Nat.le_of_ble_eq_true rfl⟩) (pr_S (hC.S hS) hP [] rfl) rfl rfl hl.1 rfl (lv_room (Nat.le_of_ble_eq_true rfl)) kd_R_klass_10 ⟨Nat.le_of_ble_eq_true rfl, Nat.le_of_ble_eq_true rfl⟩) ?_
    refine hx_topi (y := 1) (by rw [hf]; rfl) ?_
    refine lv_if_eq (tgt := 20) hx hb kd_R_klass_13 (by decide) (fun c_13 => ?_) (fun c_13 => ?_)
    · exact absurd c_13 (by decide)
    · skip
      refine lv_iconst (v := 1) hx hb kd_R_klass_16 (by decide) ?_
      refine lv_goto (tgt := 21) hx hb kd_R_klass_17 (by decide) ?_
      refine lv_istore_n (lv' := [(2, .int 1), (0, .ref (r 0)), (1, .int k)]) hx hb kd_R_klass_21 rfl hl (by decide) rfl (fun ls hl => ?_)
      refine lv_aload_n hx hb kd_R_klass_22 rfl (lv_at hl 1 rfl) ?_
      refine lv_iload_n hx hb kd_R_klass_23 rfl (lv_at hl 0 rfl) ?_
      refine lv_iload_n hx hb kd_R_klass_24 rfl (lv_at hl 0 rfl) ?_
      refine lv_if_ne (tgt := 41) hx hb kd_R_klass_25 (by decide) (fun c_25 => ?_) (fun c_25 => ?_)
      · skip
        refine lv_iconst (v := 0) hx hb kd_R_klass_41 (by decide) ?_
        refine lv_iconst (v := 0) hx hb kd_R_klass_42 (by decide) ?_
        refine hx_callWi (va_runV (As := [.int 1, .int 0, .int 0]) (rest := []) ⟨hx, hb, hml, hown, hts⟩ (mr_throwing1 r rc ro rm ra rl rw th gv rp rk ow rn ct rt ki aq cd g1 g2 g3 rb gw an _) (cwV 3 hts (goodIn_sub (hx_m5 km_703 km_705 kv_R_throwing km_8 km_706) (by decide +kernel)) rfl rfl rfl (by decide +kernel) ⟨Nat.le_of_ble_eq_true rfl, Nat.le_of_ble_eq_true rfl⟩) (pw_V (hC.S hS) hP hD hS hA [0] (by decide) rfl (ci := 7) rfl (q0 := 0) rfl) rfl rfl hl.1 rfl (lv_room (Nat.le_of_ble_eq_true rfl)) kd_R_klass_43 ⟨Nat.le_of_ble_eq_true rfl, Nat.le_of_ble_eq_true rfl⟩) hP hD hS hA [0] rfl rfl (fun H locs hP hD hS hF => ?_)
        have hP : va_P D cl_all [((r 0), .inr (7, [.int 1, .int (nI rc), .ref (r 1), .int (nI ro), .ref (r 2), .int (nI rm), .ref (r 3), .ref (r 4), .ref (r 5), .ref (r 6), .int (nI ra), .ref (r 7), .ref (r 8), .ref (r 9), .ref (r 10), .int (nI rl), .ref (r 11), .ref (r 12), .ref (r 13), .ref (r 14), .int (nI rw), .ref (r 15), .long gv])), ((r 1), .inl (cI, 16, .inl rp)), ((r 2), .inl (cI, 64, .inl rk)), ((r 3), .inl (cI, 64, .inl ow)), ((r 4), .inl (cI, 64, .inl rn)), ((r 5), .inl (cI, 64, .inl ct)), ((r 6), .inl (cI, 256, .inl rt)), ((r 7), .inl (cI, 4, .inl ki)), ((r 8), .inl (cL, 4, .inr (.inl rb))), ((r 9), .inl (cI, 4, .inl aq)), ((r 10), .inl (cZ, 64, .inl cd)), ((r 11), .inl (cI, 64, .inl g1)), ((r 12), .inl (cI, 64, .inl g2)), ((r 13), .inl (cI, 64, .inl g3)), ((r 14), .inl (cL, 256, .inr (.inl gw))), ((r 15), .inl (cL, 64, .inr (.inl an)))] H := hP
        have hD : va_D A [((r 0), .inr (7, [.int 1, .int (nI rc), .ref (r 1), .int (nI ro), .ref (r 2), .int (nI rm), .ref (r 3), .ref (r 4), .ref (r 5), .ref (r 6), .int (nI ra), .ref (r 7), .ref (r 8), .ref (r 9), .ref (r 10), .int (nI rl), .ref (r 11), .ref (r 12), .ref (r 13), .ref (r 14), .int (nI rw), .ref (r 15), .long gv])), ((r 1), .inl (cI, 16, .inl rp)), ((r 2), .inl (cI, 64, .inl rk)), ((r 3), .inl (cI, 64, .inl ow)), ((r 4), .inl (cI, 64, .inl rn)), ((r 5), .inl (cI, 64, .inl ct)), ((r 6), .inl (cI, 256, .inl rt)), ((r 7), .inl (cI, 4, .inl ki)), ((r 8), .inl (cL, 4, .inr (.inl rb))), ((r 9), .inl (cI, 4, .inl aq)), ((r 10), .inl (cZ, 64, .inl cd)), ((r 11), .inl (cI, 64, .inl g1)), ((r 12), .inl (cI, 64, .inl g2)), ((r 13), .inl (cI, 64, .inl g3)), ((r 14), .inl (cL, 256, .inr (.inl gw))), ((r 15), .inl (cL, 64, .inr (.inl an)))] := hD
        refine hx_topi (y := 1) (rfl) ?_
        refine lv_if_eq (tgt := 51) hx hb kd_R_klass_46 (by decide) (fun c_46 => ?_) (fun c_46 => ?_)
        · exact absurd c_46 (by decide)
        · skip
          refine lv_iconst (v := 0) hx hb kd_R_klass_49 (by decide) ?_
          exact hx_iretW hx hb hr hlocks (rfl) (hP) hS kd_R_klass_50
      · exact absurd c_25 (by decide)

set_option maxHeartbeats 4000000 in
set_option maxRecDepth 100000 in
theorem mr_klass2 {l : Launch} {D : va_G} {cI cL cZ : ClassId} {tb : Nat} (r : Nat → Nat) (rc ro rm ra rl rw : Nat) (th : Int32) (gv : Int64) (rp rk ow rn ct rt ki aq cd g1 g2 g3 : Nat → Int32) (rb gw an : Nat → Int64) (k : Int32) (hk : k = -1 ∨ fb_in k rc = true) (hn : rc = 16) (sz : Nat) : Met l ky_R_klass kw_R_klass { frames := 1, cells := 0, slots := 0, locals := 23 } (pw_P D cI cL cZ tb [((r 0), .inr (7, [.int th, .int (nI rc), .ref (r 1), .int (nI ro), .ref (r 2), .int (nI rm), .ref (r 3), .ref (r 4), .ref (r 5), .ref (r 6), .int (nI ra), .ref (r 7), .ref (r 8), .ref (r 9), .ref (r 10), .int (nI rl), .ref (r 11), .ref (r 12), .ref (r 13), .ref (r 14), .int (nI rw), .ref (r 15), .long gv])), ((r 1), .inl (cI, 16, .inl rp)), ((r 2), .inl (cI, 64, .inl rk)), ((r 3), .inl (cI, 64, .inl ow)), ((r 4), .inl (cI, 64, .inl rn)), ((r 5), .inl (cI, 64, .inl ct)), ((r 6), .inl (cI, 256, .inl rt)), ((r 7), .inl (cI, 4, .inl ki)), ((r 8), .inl (cL, 4, .inr (.inl rb))), ((r 9), .inl (cI, 4, .inl aq)), ((r 10), .inl (cZ, 64, .inl cd)), ((r 11), .inl (cI, 64, .inl g1)), ((r 12), .inl (cI, 64, .inl g2)), ((r 13), .inl (cI, 64, .inl g3)), ((r 14), .inl (cL, 256, .inr (.inl gw))), ((r 15), .inl (cL, 64, .inr (.inl an)))] sz [.ref (r 0), .int k]) (hx_QW D (some (.int 0)) [((r 0), .inr (7, [.int 2, .int (nI rc), .ref (r 1), .int (nI ro), .ref (r 2), .int (nI rm), .ref (r 3), .ref (r 4), .ref (r 5), .ref (r 6), .int (nI ra), .ref (r 7), .ref (r 8), .ref (r 9), .ref (r 10), .int (nI rl), .ref (r 11), .ref (r 12), .ref (r 13), .ref (r 14), .int (nI rw), .ref (r 15), .long gv])), ((r 1), .inl (cI, 16, .inl rp)), ((r 2), .inl (cI, 64, .inl rk)), ((r 3), .inl (cI, 64, .inl ow)), ((r 4), .inl (cI, 64, .inl rn)), ((r 5), .inl (cI, 64, .inl ct)), ((r 6), .inl (cI, 256, .inl rt)), ((r 7), .inl (cI, 4, .inl ki)), ((r 8), .inl (cL, 4, .inr (.inl rb))), ((r 9), .inl (cI, 4, .inl aq)), ((r 10), .inl (cZ, 64, .inl cd)), ((r 11), .inl (cI, 64, .inl g1)), ((r 12), .inl (cI, 64, .inl g2)), ((r 13), .inl (cI, 64, .inl g3)), ((r 14), .inl (cL, 256, .inr (.inl gw))), ((r 15), .inl (cL, 64, .inr (.inl an)))] (va_A [((r 0), .inr (7, [.int th, .int (nI rc), .ref (r 1), .int (nI ro), .ref (r 2), .int (nI rm), .ref (r 3), .ref (r 4), .ref (r 5), .ref (r 6), .int (nI ra), .ref (r 7), .ref (r 8), .ref (r 9), .ref (r 10), .int (nI rl), .ref (r 11), .ref (r 12), .ref (r 13), .ref (r 14), .int (nI rw), .ref (r 15), .long gv])), ((r 1), .inl (cI, 16, .inl rp)), ((r 2), .inl (cI, 64, .inl rk)), ((r 3), .inl (cI, 64, .inl ow)), ((r 4), .inl (cI, 64, .inl rn)), ((r 5), .inl (cI, 64, .inl ct)), ((r 6), .inl (cI, 256, .inl rt)), ((r 7), .inl (cI, 4, .inl ki)), ((r 8), .inl (cL, 4, .inr (.inl rb))), ((r 9), .inl (cI, 4, .inl aq)), ((r 10), .inl (cZ, 64, .inl cd)), ((r 11), .inl (cI, 64, .inl g1)), ((r 12), .inl (cI, 64, .inl g2)), ((r 13), .inl (cI, 64, .inl g3)), ((r 14), .inl (cL, 256, .inr (.inl gw))), ((r 15), .inl (cL, 64, .inr (.inl an)))] sz)) 0 0 (va_A [((r 0), .inr (7, [.int th, .int (nI rc), .ref (r 1), .int (nI ro), .ref (r 2), .int (nI rm), .ref (r 3), .ref (r 4), .ref (r 5), .ref (r 6), .int (nI ra), .ref (r 7), .ref (r 8), .ref (r 9), .ref (r 10), .int (nI rl), .ref (r 11), .ref (r 12), .ref (r 13), .ref (r 14), .int (nI rw), .ref (r 15), .long gv])), ((r 1), .inl (cI, 16, .inl rp)), ((r 2), .inl (cI, 64, .inl rk)), ((r 3), .inl (cI, 64, .inl ow)), ((r 4), .inl (cI, 64, .inl rn)), ((r 5), .inl (cI, 64, .inl ct)), ((r 6), .inl (cI, 256, .inl rt)), ((r 7), .inl (cI, 4, .inl ki)), ((r 8), .inl (cL, 4, .inr (.inl rb))), ((r 9), .inl (cI, 4, .inl aq)), ((r 10), .inl (cZ, 64, .inl cd)), ((r 11), .inl (cI, 64, .inl g1)), ((r 12), .inl (cI, 64, .inl g2)), ((r 13), .inl (cI, 64, .inl g3)), ((r 14), .inl (cL, 256, .inr (.inl gw))), ((r 15), .inl (cL, 64, .inr (.inl an)))] sz) := by
  refine Met.ofW (cc := kc_R_klass) (maxL := 3) (ret := (some .int)) (by decide) rfl ?_
  intro p e s m args below meth c s₁ B hml hv
  obtain ⟨rfl, hsz, hC, hP, hD0⟩ := hv
  have hx := B.exec
  have hb := B.bytes
  have hr := B.returns
  have hlocks := B.notSynchronized
  have hown : s.vm.findClass "HostBridgeModel" = some m.cls := findClass_of_methodNamed B.named
  subst hsz
  have hD := hD0.self (sz := s.heap.size)
  generalize hAe : va_A [((r 0), .inr (7, [.int th, .int (nI rc), .ref (r 1), .int (nI ro), .ref (r 2), .int (nI rm), .ref (r 3), .ref (r 4), .ref (r 5), .ref (r 6), .int (nI ra), .ref (r 7), .ref (r 8), .ref (r 9), .ref (r 10), .int (nI rl), .ref (r 11), .ref (r 12), .ref (r 13), .ref (r 14), .int (nI rw), .ref (r 15), .long gv])), ((r 1), .inl (cI, 16, .inl rp)), ((r 2), .inl (cI, 64, .inl rk)), ((r 3), .inl (cI, 64, .inl ow)), ((r 4), .inl (cI, 64, .inl rn)), ((r 5), .inl (cI, 64, .inl ct)), ((r 6), .inl (cI, 256, .inl rt)), ((r 7), .inl (cI, 4, .inl ki)), ((r 8), .inl (cL, 4, .inr (.inl rb))), ((r 9), .inl (cI, 4, .inl aq)), ((r 10), .inl (cZ, 64, .inl cd)), ((r 11), .inl (cI, 64, .inl g1)), ((r 12), .inl (cI, 64, .inl g2)), ((r 13), .inl (cI, 64, .inl g3)), ((r 14), .inl (cL, 256, .inr (.inl gw))), ((r 15), .inl (cL, 64, .inr (.inl an)))] s.heap.size = A at hD hC ⊢
  have hA : ∀ q : Nat, s.heap.size ≤ q → A q := fun q h => by rw [← hAe]; exact Or.inr h
  have hS : va_S A s.heap s.heap [] := va_S.rf
  have hK := hC.K
  have hts := hC.ts [.ref (r 0), .int k].toArray
  have hl := lv_entry ([.ref (r 0), .int k]) (n := 3) (Nat.le_of_ble_eq_true rfl)
  rw [lg_entry_eq]
  generalize (lg_sl ([.ref (r 0), .int k]) ++ List.replicate (3 - (lg_sl ([.ref (r 0), .int k])).length) Slot.unset).toArray = ls at hl ⊢
  have hl : lv_has ls 3 [(0, .ref (r 0)), (1, .int k)] := hl
  refine lv_iload_n hx hb kd_R_klass_0 rfl (lv_at hl 1 rfl) ?_
  refine lv_iconst (v := -1) hx hb kd_R_klass_1 (by decide) ?_
  refine lv_icmp_eq (tgt := 20) hx hb kd_R_klass_2 (by decide) (fun c_2 => ?_) (fun c_2 => ?_)
  · skip
    refine lv_iconst (v := 0) hx hb kd_R_klass_20 (by decide) ?_
    refine lv_istore_n (lv' := [(2, .int 0), (0, .ref (r 0)), (1, .int k)]) hx hb kd_R_klass_21 rfl hl (by decide) rfl (fun ls hl => ?_)
    refine lv_aload_n hx hb kd_R_klass_22 rfl (lv_at hl 1 rfl) ?_
    refine lv_iload_n hx hb kd_R_klass_23 rfl (lv_at hl 0 rfl) ?_
    refine lv_iload_n hx hb kd_R_klass_24 rfl (lv_at hl 0 rfl) ?_
    refine lv_if_ne (tgt := 41) hx hb kd_R_klass_25 (by decide) (fun c_25 => ?_) (fun c_25 => ?_)
    · exact absurd c_25 (not_not_intro rfl)
    · skip
      refine lv_aload_n hx hb kd_R_klass_28 rfl (lv_at hl 1 rfl) ?_
      refine va_get (D := D) (ci := 7) (v := .int (nI rc)) (C := "HostBridgeModel") (T := ct_R) (N := 23) hx hb hts cw_R hown hK hP 0 rfl rfl 1 (by decide) (hts _ km_622) (fun _ h9 => h9) rfl kd_R_klass_29 ?_
      refine lv_bipush (v := 16) hx hb kd_R_klass_32 (by decide) ?_
      refine lv_icmp_ne (tgt := 41) hx hb kd_R_klass_34 (by decide) (fun c_34 => ?_) (fun c_34 => ?_)
      · exact absurd c_34 (not_not_intro (by rw [hn]; rfl))
      · skip
        refine lv_iconst (v := 1) hx hb kd_R_klass_37 (by decide) ?_
        refine lv_goto (tgt := 42) hx hb kd_R_klass_38 (by decide) ?_
        refine lv_iconst (v := 0) hx hb kd_R_klass_42 (by decide) ?_
        refine hx_callWi (va_runV (As := [.int 0, .int 1, .int 0]) (rest := []) ⟨hx, hb, hml, hown, hts⟩ (mr_throwing2 r rc ro rm ra rl rw th gv rp rk ow rn ct rt ki aq cd g1 g2 g3 rb gw an _) (cwV 3 hts (goodIn_sub (hx_m5 km_703 km_705 kv_R_throwing km_8 km_706) (by decide +kernel)) rfl rfl rfl (by decide +kernel) ⟨Nat.le_of_ble_eq_true rfl, Nat.le_of_ble_eq_true rfl⟩) (pw_V (hC.S hS) hP hD hS hA [0] (by decide) rfl (ci := 7) rfl (q0 := 0) rfl) rfl rfl hl.1 rfl (lv_room (Nat.le_of_ble_eq_true rfl)) kd_R_klass_43 ⟨Nat.le_of_ble_eq_true rfl, Nat.le_of_ble_eq_true rfl⟩) hP hD hS hA [0] rfl rfl (fun H locs hP hD hS hF => ?_)
        have hP : va_P D cl_all [((r 0), .inr (7, [.int 2, .int (nI rc), .ref (r 1), .int (nI ro), .ref (r 2), .int (nI rm), .ref (r 3), .ref (r 4), .ref (r 5), .ref (r 6), .int (nI ra), .ref (r 7), .ref (r 8), .ref (r 9), .ref (r 10), .int (nI rl), .ref (r 11), .ref (r 12), .ref (r 13), .ref (r 14), .int (nI rw), .ref (r 15), .long gv])), ((r 1), .inl (cI, 16, .inl rp)), ((r 2), .inl (cI, 64, .inl rk)), ((r 3), .inl (cI, 64, .inl ow)), ((r 4), .inl (cI, 64, .inl rn)), ((r 5), .inl (cI, 64, .inl ct)), ((r 6), .inl (cI, 256, .inl rt)), ((r 7), .inl (cI, 4, .inl ki)), ((r 8), .inl (cL, 4, .inr (.inl rb))), ((r 9), .inl (cI, 4, .inl aq)), ((r 10), .inl (cZ, 64, .inl cd)), ((r 11), .inl (cI, 64, .inl g1)), ((r 12), .inl (cI, 64, .inl g2)), ((r 13), .inl (cI, 64, .inl g3)), ((r 14), .inl (cL, 256, .inr (.inl gw))), ((r 15), .inl (cL, 64, .inr (.inl an)))] H := hP
        have hD : va_D A [((r 0), .inr (7, [.int 2, .int (nI rc), .ref (r 1), .int (nI ro), .ref (r 2), .int (nI rm), .ref (r 3), .ref (r 4), .ref (r 5), .ref (r 6), .int (nI ra), .ref (r 7), .ref (r 8), .ref (r 9), .ref (r 10), .int (nI rl), .ref (r 11), .ref (r 12), .ref (r 13), .ref (r 14), .int (nI rw), .ref (r 15), .long gv])), ((r 1), .inl (cI, 16, .inl rp)), ((r 2), .inl (cI, 64, .inl rk)), ((r 3), .inl (cI, 64, .inl ow)), ((r 4), .inl (cI, 64, .inl rn)), ((r 5), .inl (cI, 64, .inl ct)), ((r 6), .inl (cI, 256, .inl rt)), ((r 7), .inl (cI, 4, .inl ki)), ((r 8), .inl (cL, 4, .inr (.inl rb))), ((r 9), .inl (cI, 4, .inl aq)), ((r 10), .inl (cZ, 64, .inl cd)), ((r 11), .inl (cI, 64, .inl g1)), ((r 12), .inl (cI, 64, .inl g2)), ((r 13), .inl (cI, 64, .inl g3)), ((r 14), .inl (cL, 256, .inr (.inl gw))), ((r 15), .inl (cL, 64, .inr (.inl an)))] := hD
        refine hx_topi (y := 1) (rfl) ?_
        refine lv_if_eq (tgt := 51) hx hb kd_R_klass_46 (by decide) (fun c_46 => ?_) (fun c_46 => ?_)
        · exact absurd c_46 (by decide)
        · skip
          refine lv_iconst (v := 0) hx hb kd_R_klass_49 (by decide) ?_
          exact hx_iretW hx hb hr hlocks (rfl) (hP) hS kd_R_klass_50
  · skip
    refine lv_iload_n hx hb kd_R_klass_5 rfl (lv_at hl 1 rfl) ?_
    refine lv_aload_n hx hb kd_R_klass_6 rfl (lv_at hl 0 rfl) ?_
    refine va_get (D := D) (ci := 7) (v := .int (nI rc)) (C := "HostBridgeModel") (T := ct_R) (N := 23) hx hb hts cw_R hown hK hP 0 rfl rfl 1 (by decide) (hts _ km_622) (fun _ h9 => h9) rfl kd_R_klass_7 ?_
    refine hx_callRi (va_runS (As := [.int k, .int (nI rc)]) (rest := []) ⟨hx, hb, hml, hown, hts⟩ (mr_isNo k rc) (va_cwS 2 hts (goodIn_sub (hx_m4 km_700 km_701 km_8 km_702) (by decide +kernel)) rfl rfl rfl (by decide +kernel) ⟨Nat.le_of_ble_eq_true rfl, Nat.le_of_ble_eq_true rfl⟩) (pr_S (hC.S hS) hP [] rfl) rfl rfl hl.1 rfl (lv_room (Nat.le_of_ble_eq_true rfl)) kd_R_klass_10 ⟨Nat.le_of_ble_eq_true rfl, Nat.le_of_ble_eq_true rfl⟩) ?_
    refine lv_if_eq (tgt := 20) hx hb kd_R_klass_13 (by decide) (fun c_13 => ?_) (fun c_13 => ?_)
    · skip
      refine lv_iconst (v := 0) hx hb kd_R_klass_20 (by decide) ?_
      refine lv_istore_n (lv' := [(2, .int 0), (0, .ref (r 0)), (1, .int k)]) hx hb kd_R_klass_21 rfl hl (by decide) rfl (fun ls hl => ?_)
      refine lv_aload_n hx hb kd_R_klass_22 rfl (lv_at hl 1 rfl) ?_
      refine lv_iload_n hx hb kd_R_klass_23 rfl (lv_at hl 0 rfl) ?_
      refine lv_iload_n hx hb kd_R_klass_24 rfl (lv_at hl 0 rfl) ?_
      refine lv_if_ne (tgt := 41) hx hb kd_R_klass_25 (by decide) (fun c_25 => ?_) (fun c_25 => ?_)
      · exact absurd c_25 (not_not_intro rfl)
      · skip
        refine lv_aload_n hx hb kd_R_klass_28 rfl (lv_at hl 1 rfl) ?_
        refine va_get (D := D) (ci := 7) (v := .int (nI rc)) (C := "HostBridgeModel") (T := ct_R) (N := 23) hx hb hts cw_R hown hK hP 0 rfl rfl 1 (by decide) (hts _ km_622) (fun _ h9 => h9) rfl kd_R_klass_29 ?_
        refine lv_bipush (v := 16) hx hb kd_R_klass_32 (by decide) ?_
        refine lv_icmp_ne (tgt := 41) hx hb kd_R_klass_34 (by decide) (fun c_34 => ?_) (fun c_34 => ?_)
        · exact absurd c_34 (not_not_intro (by rw [hn]; rfl))
        · skip
          refine lv_iconst (v := 1) hx hb kd_R_klass_37 (by decide) ?_
          refine lv_goto (tgt := 42) hx hb kd_R_klass_38 (by decide) ?_
          refine lv_iconst (v := 0) hx hb kd_R_klass_42 (by decide) ?_
          refine hx_callWi (va_runV (As := [.int 0, .int 1, .int 0]) (rest := []) ⟨hx, hb, hml, hown, hts⟩ (mr_throwing2 r rc ro rm ra rl rw th gv rp rk ow rn ct rt ki aq cd g1 g2 g3 rb gw an _) (cwV 3 hts (goodIn_sub (hx_m5 km_703 km_705 kv_R_throwing km_8 km_706) (by decide +kernel)) rfl rfl rfl (by decide +kernel) ⟨Nat.le_of_ble_eq_true rfl, Nat.le_of_ble_eq_true rfl⟩) (pw_V (hC.S hS) hP hD hS hA [0] (by decide) rfl (ci := 7) rfl (q0 := 0) rfl) rfl rfl hl.1 rfl (lv_room (Nat.le_of_ble_eq_true rfl)) kd_R_klass_43 ⟨Nat.le_of_ble_eq_true rfl, Nat.le_of_ble_eq_true rfl⟩) hP hD hS hA [0] rfl rfl (fun H locs hP hD hS hF => ?_)
          have hP : va_P D cl_all [((r 0), .inr (7, [.int 2, .int (nI rc), .ref (r 1), .int (nI ro), .ref (r 2), .int (nI rm), .ref (r 3), .ref (r 4), .ref (r 5), .ref (r 6), .int (nI ra), .ref (r 7), .ref (r 8), .ref (r 9), .ref (r 10), .int (nI rl), .ref (r 11), .ref (r 12), .ref (r 13), .ref (r 14), .int (nI rw), .ref (r 15), .long gv])), ((r 1), .inl (cI, 16, .inl rp)), ((r 2), .inl (cI, 64, .inl rk)), ((r 3), .inl (cI, 64, .inl ow)), ((r 4), .inl (cI, 64, .inl rn)), ((r 5), .inl (cI, 64, .inl ct)), ((r 6), .inl (cI, 256, .inl rt)), ((r 7), .inl (cI, 4, .inl ki)), ((r 8), .inl (cL, 4, .inr (.inl rb))), ((r 9), .inl (cI, 4, .inl aq)), ((r 10), .inl (cZ, 64, .inl cd)), ((r 11), .inl (cI, 64, .inl g1)), ((r 12), .inl (cI, 64, .inl g2)), ((r 13), .inl (cI, 64, .inl g3)), ((r 14), .inl (cL, 256, .inr (.inl gw))), ((r 15), .inl (cL, 64, .inr (.inl an)))] H := hP
          have hD : va_D A [((r 0), .inr (7, [.int 2, .int (nI rc), .ref (r 1), .int (nI ro), .ref (r 2), .int (nI rm), .ref (r 3), .ref (r 4), .ref (r 5), .ref (r 6), .int (nI ra), .ref (r 7), .ref (r 8), .ref (r 9), .ref (r 10), .int (nI rl), .ref (r 11), .ref (r 12), .ref (r 13), .ref (r 14), .int (nI rw), .ref (r 15), .long gv])), ((r 1), .inl (cI, 16, .inl rp)), ((r 2), .inl (cI, 64, .inl rk)), ((r 3), .inl (cI, 64, .inl ow)), ((r 4), .inl (cI, 64, .inl rn)), ((r 5), .inl (cI, 64, .inl ct)), ((r 6), .inl (cI, 256, .inl rt)), ((r 7), .inl (cI, 4, .inl ki)), ((r 8), .inl (cL, 4, .inr (.inl rb))), ((r 9), .inl (cI, 4, .inl aq)), ((r 10), .inl (cZ, 64, .inl cd)), ((r 11), .inl (cI, 64, .inl g1)), ((r 12), .inl (cI, 64, .inl g2)), ((r 13), .inl (cI, 64, .inl g3)), ((r 14), .inl (cL, 256, .inr (.inl gw))), ((r 15), .inl (cL, 64, .inr (.inl an)))] := hD
          refine hx_topi (y := 1) (rfl) ?_
          refine lv_if_eq (tgt := 51) hx hb kd_R_klass_46 (by decide) (fun c_46 => ?_) (fun c_46 => ?_)
          · exact absurd c_46 (by decide)
          · skip
            refine lv_iconst (v := 0) hx hb kd_R_klass_49 (by decide) ?_
            exact hx_iretW hx hb hr hlocks (rfl) (hP) hS kd_R_klass_50
    · exact absurd c_13 (not_not_intro (by rw [hk.resolve_left c_2]; rfl))

set_option maxHeartbeats 4000000 in
set_option maxRecDepth 100000 in
theorem mr_object0 {l : Launch} {D : va_G} {cI cL cZ : ClassId} {tb : Nat} (r : Nat → Nat) (rc ro rm ra rl rw : Nat) (th : Int32) (gv : Int64) (rp rk ow rn ct rt ki aq cd g1 g2 g3 : Nat → Int32) (rb gw an : Nat → Int64) (k : Int32) (hk : fb_in k rc = true) (hn : ro < 64) (sz : Nat) : Met l ky_R_object kw_R_object { frames := 1, cells := 0, slots := 0, locals := 23 } (pw_P D cI cL cZ tb [((r 0), .inr (7, [.int th, .int (nI rc), .ref (r 1), .int (nI ro), .ref (r 2), .int (nI rm), .ref (r 3), .ref (r 4), .ref (r 5), .ref (r 6), .int (nI ra), .ref (r 7), .ref (r 8), .ref (r 9), .ref (r 10), .int (nI rl), .ref (r 11), .ref (r 12), .ref (r 13), .ref (r 14), .int (nI rw), .ref (r 15), .long gv])), ((r 1), .inl (cI, 16, .inl rp)), ((r 2), .inl (cI, 64, .inl rk)), ((r 3), .inl (cI, 64, .inl ow)), ((r 4), .inl (cI, 64, .inl rn)), ((r 5), .inl (cI, 64, .inl ct)), ((r 6), .inl (cI, 256, .inl rt)), ((r 7), .inl (cI, 4, .inl ki)), ((r 8), .inl (cL, 4, .inr (.inl rb))), ((r 9), .inl (cI, 4, .inl aq)), ((r 10), .inl (cZ, 64, .inl cd)), ((r 11), .inl (cI, 64, .inl g1)), ((r 12), .inl (cI, 64, .inl g2)), ((r 13), .inl (cI, 64, .inl g3)), ((r 14), .inl (cL, 256, .inr (.inl gw))), ((r 15), .inl (cL, 64, .inr (.inl an)))] sz [.ref (r 0), .int k]) (hx_QW D (some (.int (nI ro))) [((r 0), .inr (7, [.int 0, .int (nI rc), .ref (r 1), .int (nI (ro + 1)), .ref (r 2), .int (nI rm), .ref (r 3), .ref (r 4), .ref (r 5), .ref (r 6), .int (nI ra), .ref (r 7), .ref (r 8), .ref (r 9), .ref (r 10), .int (nI rl), .ref (r 11), .ref (r 12), .ref (r 13), .ref (r 14), .int (nI rw), .ref (r 15), .long gv])), ((r 1), .inl (cI, 16, .inl rp)), ((r 2), .inl (cI, 64, .inl (upd rk ro k))), ((r 3), .inl (cI, 64, .inl ow)), ((r 4), .inl (cI, 64, .inl rn)), ((r 5), .inl (cI, 64, .inl ct)), ((r 6), .inl (cI, 256, .inl rt)), ((r 7), .inl (cI, 4, .inl ki)), ((r 8), .inl (cL, 4, .inr (.inl rb))), ((r 9), .inl (cI, 4, .inl aq)), ((r 10), .inl (cZ, 64, .inl cd)), ((r 11), .inl (cI, 64, .inl g1)), ((r 12), .inl (cI, 64, .inl g2)), ((r 13), .inl (cI, 64, .inl g3)), ((r 14), .inl (cL, 256, .inr (.inl gw))), ((r 15), .inl (cL, 64, .inr (.inl an)))] (va_A [((r 0), .inr (7, [.int th, .int (nI rc), .ref (r 1), .int (nI ro), .ref (r 2), .int (nI rm), .ref (r 3), .ref (r 4), .ref (r 5), .ref (r 6), .int (nI ra), .ref (r 7), .ref (r 8), .ref (r 9), .ref (r 10), .int (nI rl), .ref (r 11), .ref (r 12), .ref (r 13), .ref (r 14), .int (nI rw), .ref (r 15), .long gv])), ((r 1), .inl (cI, 16, .inl rp)), ((r 2), .inl (cI, 64, .inl rk)), ((r 3), .inl (cI, 64, .inl ow)), ((r 4), .inl (cI, 64, .inl rn)), ((r 5), .inl (cI, 64, .inl ct)), ((r 6), .inl (cI, 256, .inl rt)), ((r 7), .inl (cI, 4, .inl ki)), ((r 8), .inl (cL, 4, .inr (.inl rb))), ((r 9), .inl (cI, 4, .inl aq)), ((r 10), .inl (cZ, 64, .inl cd)), ((r 11), .inl (cI, 64, .inl g1)), ((r 12), .inl (cI, 64, .inl g2)), ((r 13), .inl (cI, 64, .inl g3)), ((r 14), .inl (cL, 256, .inr (.inl gw))), ((r 15), .inl (cL, 64, .inr (.inl an)))] sz)) 0 0 (va_A [((r 0), .inr (7, [.int th, .int (nI rc), .ref (r 1), .int (nI ro), .ref (r 2), .int (nI rm), .ref (r 3), .ref (r 4), .ref (r 5), .ref (r 6), .int (nI ra), .ref (r 7), .ref (r 8), .ref (r 9), .ref (r 10), .int (nI rl), .ref (r 11), .ref (r 12), .ref (r 13), .ref (r 14), .int (nI rw), .ref (r 15), .long gv])), ((r 1), .inl (cI, 16, .inl rp)), ((r 2), .inl (cI, 64, .inl rk)), ((r 3), .inl (cI, 64, .inl ow)), ((r 4), .inl (cI, 64, .inl rn)), ((r 5), .inl (cI, 64, .inl ct)), ((r 6), .inl (cI, 256, .inl rt)), ((r 7), .inl (cI, 4, .inl ki)), ((r 8), .inl (cL, 4, .inr (.inl rb))), ((r 9), .inl (cI, 4, .inl aq)), ((r 10), .inl (cZ, 64, .inl cd)), ((r 11), .inl (cI, 64, .inl g1)), ((r 12), .inl (cI, 64, .inl g2)), ((r 13), .inl (cI, 64, .inl g3)), ((r 14), .inl (cL, 256, .inr (.inl gw))), ((r 15), .inl (cL, 64, .inr (.inl an)))] sz) := by
  refine Met.ofW (cc := kc_R_object) (maxL := 3) (ret := (some .int)) (by decide) rfl ?_
  intro p e s m args below meth c s₁ B hml hv
  obtain ⟨rfl, hsz, hC, hP, hD0⟩ := hv
  have hx := B.exec
  have hb := B.bytes
  have hr := B.returns
  have hlocks := B.notSynchronized
  have hown : s.vm.findClass "HostBridgeModel" = some m.cls := findClass_of_methodNamed B.named
  subst hsz
  have hD := hD0.self (sz := s.heap.size)
  generalize hAe : va_A [((r 0), .inr (7, [.int th, .int (nI rc), .ref (r 1), .int (nI ro), .ref (r 2), .int (nI rm), .ref (r 3), .ref (r 4), .ref (r 5), .ref (r 6), .int (nI ra), .ref (r 7), .ref (r 8), .ref (r 9), .ref (r 10), .int (nI rl), .ref (r 11), .ref (r 12), .ref (r 13), .ref (r 14), .int (nI rw), .ref (r 15), .long gv])), ((r 1), .inl (cI, 16, .inl rp)), ((r 2), .inl (cI, 64, .inl rk)), ((r 3), .inl (cI, 64, .inl ow)), ((r 4), .inl (cI, 64, .inl rn)), ((r 5), .inl (cI, 64, .inl ct)), ((r 6), .inl (cI, 256, .inl rt)), ((r 7), .inl (cI, 4, .inl ki)), ((r 8), .inl (cL, 4, .inr (.inl rb))), ((r 9), .inl (cI, 4, .inl aq)), ((r 10), .inl (cZ, 64, .inl cd)), ((r 11), .inl (cI, 64, .inl g1)), ((r 12), .inl (cI, 64, .inl g2)), ((r 13), .inl (cI, 64, .inl g3)), ((r 14), .inl (cL, 256, .inr (.inl gw))), ((r 15), .inl (cL, 64, .inr (.inl an)))] s.heap.size = A at hD hC ⊢
  have hA : ∀ q : Nat, s.heap.size ≤ q → A q := fun q h => by rw [← hAe]; exact Or.inr h
  have hS : va_S A s.heap s.heap [] := va_S.rf
  have hK := hC.K
  have hts := hC.ts [.ref (r 0), .int k].toArray
  have hl := lv_entry ([.ref (r 0), .int k]) (n := 3) (Nat.le_of_ble_eq_true rfl)
  rw [lg_entry_eq]
  generalize (lg_sl ([.ref (r 0), .int k]) ++ List.replicate (3 - (lg_sl ([.ref (r 0), .int k])).length) Slot.unset).toArray = ls at hl ⊢
  have hl : lv_has ls 3 [(0, .ref (r 0)), (1, .int k)] := hl
  refine lv_iload_n hx hb kd_R_object_0 rfl (lv_at hl 1 rfl) ?_
  refine lv_aload_n hx hb kd_R_object_1 rfl (lv_at hl 0 rfl) ?_
  refine va_get (D := D) (ci := 7) (v := .int (nI rc)) (C := "HostBridgeModel") (T := ct_R) (N := 23) hx hb hts cw_R hown hK hP 0 rfl rfl 1 (by decide) (hts _ km_622) (fun _ h9 => h9) rfl kd_R_object_2 ?_
  refine hx_callRi (va_runS (As := [.int k, .int (nI rc)]) (rest := []) ⟨hx, hb, hml, hown, hts⟩ (mr_isNo k rc) (va_cwS 2 hts (goodIn_sub (hx_m4 km_700 km_701 km_8 km_702) (by decide +kernel)) rfl rfl rfl (by decide +kernel) ⟨Nat.le_of_ble_eq_true rfl, Nat.le_of_ble_eq_true rfl⟩) (pr_S (hC.S hS) hP [] rfl) rfl rfl hl.1 rfl (lv_room (Nat.le_of_ble_eq_true rfl)) kd_R_object_5 ⟨Nat.le_of_ble_eq_true rfl, Nat.le_of_ble_eq_true rfl⟩) ?_
  refine hx_topi (y := 0) (by rw [hk]; rfl) ?_
  refine lv_istore_n (lv' := [(2, .int 0), (0, .ref (r 0)), (1, .int k)]) hx hb kd_R_object_8 rfl hl (by decide) rfl (fun ls hl => ?_)
  refine lv_aload_n hx hb kd_R_object_9 rfl (lv_at hl 1 rfl) ?_
  refine lv_iload_n hx hb kd_R_object_10 rfl (lv_at hl 0 rfl) ?_
  refine lv_iload_n hx hb kd_R_object_11 rfl (lv_at hl 0 rfl) ?_
  refine lv_if_ne (tgt := 28) hx hb kd_R_object_12 (by decide) (fun c_12 => ?_) (fun c_12 => ?_)
  · exact absurd c_12 (not_not_intro rfl)
  · skip
    refine lv_aload_n hx hb kd_R_object_15 rfl (lv_at hl 1 rfl) ?_
    refine va_get (D := D) (ci := 7) (v := .int (nI ro)) (C := "HostBridgeModel") (T := ct_R) (N := 23) hx hb hts cw_R hown hK hP 0 rfl rfl 3 (by decide) (hts _ km_624) (fun _ h9 => h9) rfl kd_R_object_16 ?_
    refine lv_bipush (v := 64) hx hb kd_R_object_19 (by decide) ?_
    refine lv_icmp_ne (tgt := 28) hx hb kd_R_object_21 (by decide) (fun c_21 => ?_) (fun c_21 => ?_)
    · skip
      refine lv_iconst (v := 0) hx hb kd_R_object_28 (by decide) ?_
      refine lv_iconst (v := 0) hx hb kd_R_object_29 (by decide) ?_
      refine hx_callWi (va_runV (As := [.int 0, .int 0, .int 0]) (rest := []) ⟨hx, hb, hml, hown, hts⟩ (mr_throwing0 r rc ro rm ra rl rw th gv rp rk ow rn ct rt ki aq cd g1 g2 g3 rb gw an _) (cwV 3 hts (goodIn_sub (hx_m5 km_703 km_705 kv_R_throwing km_8 km_706) (by decide +kernel)) rfl rfl rfl (by decide +kernel) ⟨Nat.le_of_ble_eq_true rfl, Nat.le_of_ble_eq_true rfl⟩) (pw_V (hC.S hS) hP hD hS hA [0] (by decide) rfl (ci := 7) rfl (q0 := 0) rfl) rfl rfl hl.1 rfl (lv_room (Nat.le_of_ble_eq_true rfl)) kd_R_object_30 ⟨Nat.le_of_ble_eq_true rfl, Nat.le_of_ble_eq_true rfl⟩) hP hD hS hA [0] rfl rfl (fun H locs hP hD hS hF => ?_)
      have hP : va_P D cl_all [((r 0), .inr (7, [.int 0, .int (nI rc), .ref (r 1), .int (nI ro), .ref (r 2), .int (nI rm), .ref (r 3), .ref (r 4), .ref (r 5), .ref (r 6), .int (nI ra), .ref (r 7), .ref (r 8), .ref (r 9), .ref (r 10), .int (nI rl), .ref (r 11), .ref (r 12), .ref (r 13), .ref (r 14), .int (nI rw), .ref (r 15), .long gv])), ((r 1), .inl (cI, 16, .inl rp)), ((r 2), .inl (cI, 64, .inl rk)), ((r 3), .inl (cI, 64, .inl ow)), ((r 4), .inl (cI, 64, .inl rn)), ((r 5), .inl (cI, 64, .inl ct)), ((r 6), .inl (cI, 256, .inl rt)), ((r 7), .inl (cI, 4, .inl ki)), ((r 8), .inl (cL, 4, .inr (.inl rb))), ((r 9), .inl (cI, 4, .inl aq)), ((r 10), .inl (cZ, 64, .inl cd)), ((r 11), .inl (cI, 64, .inl g1)), ((r 12), .inl (cI, 64, .inl g2)), ((r 13), .inl (cI, 64, .inl g3)), ((r 14), .inl (cL, 256, .inr (.inl gw))), ((r 15), .inl (cL, 64, .inr (.inl an)))] H := hP
      have hD : va_D A [((r 0), .inr (7, [.int 0, .int (nI rc), .ref (r 1), .int (nI ro), .ref (r 2), .int (nI rm), .ref (r 3), .ref (r 4), .ref (r 5), .ref (r 6), .int (nI ra), .ref (r 7), .ref (r 8), .ref (r 9), .ref (r 10), .int (nI rl), .ref (r 11), .ref (r 12), .ref (r 13), .ref (r 14), .int (nI rw), .ref (r 15), .long gv])), ((r 1), .inl (cI, 16, .inl rp)), ((r 2), .inl (cI, 64, .inl rk)), ((r 3), .inl (cI, 64, .inl ow)), ((r 4), .inl (cI, 64, .inl rn)), ((r 5), .inl (cI, 64, .inl ct)), ((r 6), .inl (cI, 256, .inl rt)), ((r 7), .inl (cI, 4, .inl ki)), ((r 8), .inl (cL, 4, .inr (.inl rb))), ((r 9), .inl (cI, 4, .inl aq)), ((r 10), .inl (cZ, 64, .inl cd)), ((r 11), .inl (cI, 64, .inl g1)), ((r 12), .inl (cI, 64, .inl g2)), ((r 13), .inl (cI, 64, .inl g3)), ((r 14), .inl (cL, 256, .inr (.inl gw))), ((r 15), .inl (cL, 64, .inr (.inl an)))] := hD
      refine hx_topi (y := 0) (rfl) ?_
      refine lv_if_eq (tgt := 38) hx hb kd_R_object_33 (by decide) (fun c_33 => ?_) (fun c_33 => ?_)
      · skip
        refine lv_aload_n hx hb kd_R_object_38 rfl (lv_at hl 1 rfl) ?_
        refine va_get (D := D) (ci := 7) (v := .ref (r 2)) (C := "HostBridgeModel") (T := ct_R) (N := 23) hx hb hts cw_R hown hK hP 0 rfl rfl 4 (by decide) (hts _ km_625) (fun _ h9 => h9) rfl kd_R_object_39 ?_
        refine lv_aload_n hx hb kd_R_object_42 rfl (lv_at hl 1 rfl) ?_
        refine va_get (D := D) (ci := 7) (v := .int (nI ro)) (C := "HostBridgeModel") (T := ct_R) (N := 23) hx hb hts cw_R hown hK hP 0 rfl rfl 3 (by decide) (hts _ km_624) (fun _ h9 => h9) rfl kd_R_object_43 ?_
        refine lv_iload_n hx hb kd_R_object_46 rfl (lv_at hl 2 rfl) ?_
        refine hx_iast (j := ro) hx hb hK hP hD hS 2 rfl (rfl) (hn) (by decide) kd_R_object_47 (fun H locs hP hD hS => ?_)
        have hP : va_P D cl_all [((r 0), .inr (7, [.int 0, .int (nI rc), .ref (r 1), .int (nI ro), .ref (r 2), .int (nI rm), .ref (r 3), .ref (r 4), .ref (r 5), .ref (r 6), .int (nI ra), .ref (r 7), .ref (r 8), .ref (r 9), .ref (r 10), .int (nI rl), .ref (r 11), .ref (r 12), .ref (r 13), .ref (r 14), .int (nI rw), .ref (r 15), .long gv])), ((r 1), .inl (cI, 16, .inl rp)), ((r 2), .inl (cI, 64, .inl (upd rk ro k))), ((r 3), .inl (cI, 64, .inl ow)), ((r 4), .inl (cI, 64, .inl rn)), ((r 5), .inl (cI, 64, .inl ct)), ((r 6), .inl (cI, 256, .inl rt)), ((r 7), .inl (cI, 4, .inl ki)), ((r 8), .inl (cL, 4, .inr (.inl rb))), ((r 9), .inl (cI, 4, .inl aq)), ((r 10), .inl (cZ, 64, .inl cd)), ((r 11), .inl (cI, 64, .inl g1)), ((r 12), .inl (cI, 64, .inl g2)), ((r 13), .inl (cI, 64, .inl g3)), ((r 14), .inl (cL, 256, .inr (.inl gw))), ((r 15), .inl (cL, 64, .inr (.inl an)))] H := hP
        have hD : va_D A [((r 0), .inr (7, [.int 0, .int (nI rc), .ref (r 1), .int (nI ro), .ref (r 2), .int (nI rm), .ref (r 3), .ref (r 4), .ref (r 5), .ref (r 6), .int (nI ra), .ref (r 7), .ref (r 8), .ref (r 9), .ref (r 10), .int (nI rl), .ref (r 11), .ref (r 12), .ref (r 13), .ref (r 14), .int (nI rw), .ref (r 15), .long gv])), ((r 1), .inl (cI, 16, .inl rp)), ((r 2), .inl (cI, 64, .inl (upd rk ro k))), ((r 3), .inl (cI, 64, .inl ow)), ((r 4), .inl (cI, 64, .inl rn)), ((r 5), .inl (cI, 64, .inl ct)), ((r 6), .inl (cI, 256, .inl rt)), ((r 7), .inl (cI, 4, .inl ki)), ((r 8), .inl (cL, 4, .inr (.inl rb))), ((r 9), .inl (cI, 4, .inl aq)), ((r 10), .inl (cZ, 64, .inl cd)), ((r 11), .inl (cI, 64, .inl g1)), ((r 12), .inl (cI, 64, .inl g2)), ((r 13), .inl (cI, 64, .inl g3)), ((r 14), .inl (cL, 256, .inr (.inl gw))), ((r 15), .inl (cL, 64, .inr (.inl an)))] := hD
        refine lv_aload_n hx hb kd_R_object_48 rfl (lv_at hl 1 rfl) ?_
        refine lv_dup hx hb kd_R_object_49 rfl ?_
        refine va_get (D := D) (ci := 7) (v := .int (nI ro)) (C := "HostBridgeModel") (T := ct_R) (N := 23) hx hb hts cw_R hown hK hP 0 rfl rfl 3 (by decide) (hts _ km_624) (fun _ h9 => h9) rfl kd_R_object_50 ?_
        refine lv_iconst (v := 1) hx hb kd_R_object_53 (by decide) ?_
        refine lv_iadd hx hb kd_R_object_54 ?_
        refine hx_topi (y := nI (ro + 1)) (nI_1 ro) ?_
        refine va_put (D := D) (ci := 7) (v := .int (nI (ro + 1))) (ty := .int) (C := "HostBridgeModel") (T := ct_R) (N := 23) hx hb hts cw_R cy_R cp_R cn_R hown hK hP hD hS 0 rfl rfl 3 (by decide) (hts _ km_624) (fun _ h9 => h9) rfl (by decide +kernel) rfl rfl (Nat.le_of_ble_eq_true rfl) kd_R_object_55 (fun H locs hP hD hS => ?_)
        have hP : va_P D cl_all [((r 0), .inr (7, [.int 0, .int (nI rc), .ref (r 1), .int (nI (ro + 1)), .ref (r 2), .int (nI rm), .ref (r 3), .ref (r 4), .ref (r 5), .ref (r 6), .int (nI ra), .ref (r 7), .ref (r 8), .ref (r 9), .ref (r 10), .int (nI rl), .ref (r 11), .ref (r 12), .ref (r 13), .ref (r 14), .int (nI rw), .ref (r 15), .long gv])), ((r 1), .inl (cI, 16, .inl rp)), ((r 2), .inl (cI, 64, .inl (upd rk ro k))), ((r 3), .inl (cI, 64, .inl ow)), ((r 4), .inl (cI, 64, .inl rn)), ((r 5), .inl (cI, 64, .inl ct)), ((r 6), .inl (cI, 256, .inl rt)), ((r 7), .inl (cI, 4, .inl ki)), ((r 8), .inl (cL, 4, .inr (.inl rb))), ((r 9), .inl (cI, 4, .inl aq)), ((r 10), .inl (cZ, 64, .inl cd)), ((r 11), .inl (cI, 64, .inl g1)), ((r 12), .inl (cI, 64, .inl g2)), ((r 13), .inl (cI, 64, .inl g3)), ((r 14), .inl (cL, 256, .inr (.inl gw))), ((r 15), .inl (cL, 64, .inr (.inl an)))] H := hP
        have hD : va_D A [((r 0), .inr (7, [.int 0, .int (nI rc), .ref (r 1), .int (nI (ro + 1)), .ref (r 2), .int (nI rm), .ref (r 3), .ref (r 4), .ref (r 5), .ref (r 6), .int (nI ra), .ref (r 7), .ref (r 8), .ref (r 9), .ref (r 10), .int (nI rl), .ref (r 11), .ref (r 12), .ref (r 13), .ref (r 14), .int (nI rw), .ref (r 15), .long gv])), ((r 1), .inl (cI, 16, .inl rp)), ((r 2), .inl (cI, 64, .inl (upd rk ro k))), ((r 3), .inl (cI, 64, .inl ow)), ((r 4), .inl (cI, 64, .inl rn)), ((r 5), .inl (cI, 64, .inl ct)), ((r 6), .inl (cI, 256, .inl rt)), ((r 7), .inl (cI, 4, .inl ki)), ((r 8), .inl (cL, 4, .inr (.inl rb))), ((r 9), .inl (cI, 4, .inl aq)), ((r 10), .inl (cZ, 64, .inl cd)), ((r 11), .inl (cI, 64, .inl g1)), ((r 12), .inl (cI, 64, .inl g2)), ((r 13), .inl (cI, 64, .inl g3)), ((r 14), .inl (cL, 256, .inr (.inl gw))), ((r 15), .inl (cL, 64, .inr (.inl an)))] := hD
        refine lv_aload_n hx hb kd_R_object_58 rfl (lv_at hl 1 rfl) ?_
        refine va_get (D := D) (ci := 7) (v := .int (nI (ro + 1))) (C := "HostBridgeModel") (T := ct_R) (N := 23) hx hb hts cw_R hown hK hP 0 rfl rfl 3 (by decide) (hts _ km_624) (fun _ h9 => h9) rfl kd_R_object_59 ?_
        refine lv_iconst (v := 1) hx hb kd_R_object_62 (by decide) ?_
        refine lv_isub hx hb kd_R_object_63 ?_
        refine hx_topi (y := nI ro) (nI_pred ro) ?_
        exact hx_iretW hx hb hr hlocks (rfl) (hP) hS kd_R_object_64
      · exact absurd c_33 (not_not_intro rfl)
    · exact absurd c_21 (fun h => absurd ((nI_eq (a := ro) (b := 64) (by omega) (by decide)).mp h) (by omega))

set_option maxHeartbeats 4000000 in
set_option maxRecDepth 100000 in
theorem mr_object1 {l : Launch} {D : va_G} {cI cL cZ : ClassId} {tb : Nat} (r : Nat → Nat) (rc ro rm ra rl rw : Nat) (th : Int32) (gv : Int64) (rp rk ow rn ct rt ki aq cd g1 g2 g3 : Nat → Int32) (rb gw an : Nat → Int64) (k : Int32) (hf : fb_in k rc = false) (sz : Nat) : Met l ky_R_object kw_R_object { frames := 1, cells := 0, slots := 0, locals := 23 } (pw_P D cI cL cZ tb [((r 0), .inr (7, [.int th, .int (nI rc), .ref (r 1), .int (nI ro), .ref (r 2), .int (nI rm), .ref (r 3), .ref (r 4), .ref (r 5), .ref (r 6), .int (nI ra), .ref (r 7), .ref (r 8), .ref (r 9), .ref (r 10), .int (nI rl), .ref (r 11), .ref (r 12), .ref (r 13), .ref (r 14), .int (nI rw), .ref (r 15), .long gv])), ((r 1), .inl (cI, 16, .inl rp)), ((r 2), .inl (cI, 64, .inl rk)), ((r 3), .inl (cI, 64, .inl ow)), ((r 4), .inl (cI, 64, .inl rn)), ((r 5), .inl (cI, 64, .inl ct)), ((r 6), .inl (cI, 256, .inl rt)), ((r 7), .inl (cI, 4, .inl ki)), ((r 8), .inl (cL, 4, .inr (.inl rb))), ((r 9), .inl (cI, 4, .inl aq)), ((r 10), .inl (cZ, 64, .inl cd)), ((r 11), .inl (cI, 64, .inl g1)), ((r 12), .inl (cI, 64, .inl g2)), ((r 13), .inl (cI, 64, .inl g3)), ((r 14), .inl (cL, 256, .inr (.inl gw))), ((r 15), .inl (cL, 64, .inr (.inl an)))] sz [.ref (r 0), .int k]) (hx_QW D (some (.int 0)) [((r 0), .inr (7, [.int 1, .int (nI rc), .ref (r 1), .int (nI ro), .ref (r 2), .int (nI rm), .ref (r 3), .ref (r 4), .ref (r 5), .ref (r 6), .int (nI ra), .ref (r 7), .ref (r 8), .ref (r 9), .ref (r 10), .int (nI rl), .ref (r 11), .ref (r 12), .ref (r 13), .ref (r 14), .int (nI rw), .ref (r 15), .long gv])), ((r 1), .inl (cI, 16, .inl rp)), ((r 2), .inl (cI, 64, .inl rk)), ((r 3), .inl (cI, 64, .inl ow)), ((r 4), .inl (cI, 64, .inl rn)), ((r 5), .inl (cI, 64, .inl ct)), ((r 6), .inl (cI, 256, .inl rt)), ((r 7), .inl (cI, 4, .inl ki)), ((r 8), .inl (cL, 4, .inr (.inl rb))), ((r 9), .inl (cI, 4, .inl aq)), ((r 10), .inl (cZ, 64, .inl cd)), ((r 11), .inl (cI, 64, .inl g1)), ((r 12), .inl (cI, 64, .inl g2)), ((r 13), .inl (cI, 64, .inl g3)), ((r 14), .inl (cL, 256, .inr (.inl gw))), ((r 15), .inl (cL, 64, .inr (.inl an)))] (va_A [((r 0), .inr (7, [.int th, .int (nI rc), .ref (r 1), .int (nI ro), .ref (r 2), .int (nI rm), .ref (r 3), .ref (r 4), .ref (r 5), .ref (r 6), .int (nI ra), .ref (r 7), .ref (r 8), .ref (r 9), .ref (r 10), .int (nI rl), .ref (r 11), .ref (r 12), .ref (r 13), .ref (r 14), .int (nI rw), .ref (r 15), .long gv])), ((r 1), .inl (cI, 16, .inl rp)), ((r 2), .inl (cI, 64, .inl rk)), ((r 3), .inl (cI, 64, .inl ow)), ((r 4), .inl (cI, 64, .inl rn)), ((r 5), .inl (cI, 64, .inl ct)), ((r 6), .inl (cI, 256, .inl rt)), ((r 7), .inl (cI, 4, .inl ki)), ((r 8), .inl (cL, 4, .inr (.inl rb))), ((r 9), .inl (cI, 4, .inl aq)), ((r 10), .inl (cZ, 64, .inl cd)), ((r 11), .inl (cI, 64, .inl g1)), ((r 12), .inl (cI, 64, .inl g2)), ((r 13), .inl (cI, 64, .inl g3)), ((r 14), .inl (cL, 256, .inr (.inl gw))), ((r 15), .inl (cL, 64, .inr (.inl an)))] sz)) 0 0 (va_A [((r 0), .inr (7, [.int th, .int (nI rc), .ref (r 1), .int (nI ro), .ref (r 2), .int (nI rm), .ref (r 3), .ref (r 4), .ref (r 5), .ref (r 6), .int (nI ra), .ref (r 7), .ref (r 8), .ref (r 9), .ref (r 10), .int (nI rl), .ref (r 11), .ref (r 12), .ref (r 13), .ref (r 14), .int (nI rw), .ref (r 15), .long gv])), ((r 1), .inl (cI, 16, .inl rp)), ((r 2), .inl (cI, 64, .inl rk)), ((r 3), .inl (cI, 64, .inl ow)), ((r 4), .inl (cI, 64, .inl rn)), ((r 5), .inl (cI, 64, .inl ct)), ((r 6), .inl (cI, 256, .inl rt)), ((r 7), .inl (cI, 4, .inl ki)), ((r 8), .inl (cL, 4, .inr (.inl rb))), ((r 9), .inl (cI, 4, .inl aq)), ((r 10), .inl (cZ, 64, .inl cd)), ((r 11), .inl (cI, 64, .inl g1)), ((r 12), .inl (cI, 64, .inl g2)), ((r 13), .inl (cI, 64, .inl g3)), ((r 14), .inl (cL, 256, .inr (.inl gw))), ((r 15), .inl (cL, 64, .inr (.inl an)))] sz) := by
  refine Met.ofW (cc := kc_R_object) (maxL := 3) (ret := (some .int)) (by decide) rfl ?_
  intro p e s m args below meth c s₁ B hml hv
  obtain ⟨rfl, hsz, hC, hP, hD0⟩ := hv
  have hx := B.exec
  have hb := B.bytes
  have hr := B.returns
  have hlocks := B.notSynchronized
  have hown : s.vm.findClass "HostBridgeModel" = some m.cls := findClass_of_methodNamed B.named
  subst hsz
  have hD := hD0.self (sz := s.heap.size)
  generalize hAe : va_A [((r 0), .inr (7, [.int th, .int (nI rc), .ref (r 1), .int (nI ro), .ref (r 2), .int (nI rm), .ref (r 3), .ref (r 4), .ref (r 5), .ref (r 6), .int (nI ra), .ref (r 7), .ref (r 8), .ref (r 9), .ref (r 10), .int (nI rl), .ref (r 11), .ref (r 12), .ref (r 13), .ref (r 14), .int (nI rw), .ref (r 15), .long gv])), ((r 1), .inl (cI, 16, .inl rp)), ((r 2), .inl (cI, 64, .inl rk)), ((r 3), .inl (cI, 64, .inl ow)), ((r 4), .inl (cI, 64, .inl rn)), ((r 5), .inl (cI, 64, .inl ct)), ((r 6), .inl (cI, 256, .inl rt)), ((r 7), .inl (cI, 4, .inl ki)), ((r 8), .inl (cL, 4, .inr (.inl rb))), ((r 9), .inl (cI, 4, .inl aq)), ((r 10), .inl (cZ, 64, .inl cd)), ((r 11), .inl (cI, 64, .inl g1)), ((r 12), .inl (cI, 64, .inl g2)), ((r 13), .inl (cI, 64, .inl g3)), ((r 14), .inl (cL, 256, .inr (.inl gw))), ((r 15), .inl (cL, 64, .inr (.inl an)))] s.heap.size = A at hD hC ⊢
  have hA : ∀ q : Nat, s.heap.size ≤ q → A q := fun q h => by rw [← hAe]; exact Or.inr h
  have hS : va_S A s.heap s.heap [] := va_S.rf
  have hK := hC.K
  have hts := hC.ts [.ref (r 0), .int k].toArray
  have hl := lv_entry ([.ref (r 0), .int k]) (n := 3) (Nat.le_of_ble_eq_true rfl)
  rw [lg_entry_eq]
  generalize (lg_sl ([.ref (r 0), .int k]) ++ List.replicate (3 - (lg_sl ([.ref (r 0), .int k])).length) Slot.unset).toArray = ls at hl ⊢
  have hl : lv_has ls 3 [(0, .ref (r 0)), (1, .int k)] := hl
  refine lv_iload_n hx hb kd_R_object_0 rfl (lv_at hl 1 rfl) ?_
  refine lv_aload_n hx hb kd_R_object_1 rfl (lv_at hl 0 rfl) ?_
  refine va_get (D := D) (ci := 7) (v := .int (nI rc)) (C := "HostBridgeModel") (T := ct_R) (N := 23) hx hb hts cw_R hown hK hP 0 rfl rfl 1 (by decide) (hts _ km_622) (fun _ h9 => h9) rfl kd_R_object_2 ?_
  refine hx_callRi (va_runS (As := [.int k, .int (nI rc)]) (rest := []) ⟨hx, hb, hml, hown, hts⟩ (mr_isNo k rc) (va_cwS 2 hts (goodIn_sub (hx_m4 km_700 km_701 km_8 km_702) (by decide +kernel)) rfl rfl rfl (by decide +kernel) ⟨Nat.le_of_ble_eq_true rfl, Nat.le_of_ble_eq_true rfl⟩) (pr_S (hC.S hS) hP [] rfl) rfl rfl hl.1 rfl (lv_room (Nat.le_of_ble_eq_true rfl)) kd_R_object_5 ⟨Nat.le_of_ble_eq_true rfl, Nat.le_of_ble_eq_true rfl⟩) ?_
  refine hx_topi (y := 1) (by rw [hf]; rfl) ?_
  refine lv_istore_n (lv' := [(2, .int 1), (0, .ref (r 0)), (1, .int k)]) hx hb kd_R_object_8 rfl hl (by decide) rfl (fun ls hl => ?_)
  refine lv_aload_n hx hb kd_R_object_9 rfl (lv_at hl 1 rfl) ?_
  refine lv_iload_n hx hb kd_R_object_10 rfl (lv_at hl 0 rfl) ?_
  refine lv_iload_n hx hb kd_R_object_11 rfl (lv_at hl 0 rfl) ?_
  refine lv_if_ne (tgt := 28) hx hb kd_R_object_12 (by decide) (fun c_12 => ?_) (fun c_12 => ?_)
  · skip
    refine lv_iconst (v := 0) hx hb kd_R_object_28 (by decide) ?_
    refine lv_iconst (v := 0) hx hb kd_R_object_29 (by decide) ?_
    refine hx_callWi (va_runV (As := [.int 1, .int 0, .int 0]) (rest := []) ⟨hx, hb, hml, hown, hts⟩ (mr_throwing1 r rc ro rm ra rl rw th gv rp rk ow rn ct rt ki aq cd g1 g2 g3 rb gw an _) (cwV 3 hts (goodIn_sub (hx_m5 km_703 km_705 kv_R_throwing km_8 km_706) (by decide +kernel)) rfl rfl rfl (by decide +kernel) ⟨Nat.le_of_ble_eq_true rfl, Nat.le_of_ble_eq_true rfl⟩) (pw_V (hC.S hS) hP hD hS hA [0] (by decide) rfl (ci := 7) rfl (q0 := 0) rfl) rfl rfl hl.1 rfl (lv_room (Nat.le_of_ble_eq_true rfl)) kd_R_object_30 ⟨Nat.le_of_ble_eq_true rfl, Nat.le_of_ble_eq_true rfl⟩) hP hD hS hA [0] rfl rfl (fun H locs hP hD hS hF => ?_)
    have hP : va_P D cl_all [((r 0), .inr (7, [.int 1, .int (nI rc), .ref (r 1), .int (nI ro), .ref (r 2), .int (nI rm), .ref (r 3), .ref (r 4), .ref (r 5), .ref (r 6), .int (nI ra), .ref (r 7), .ref (r 8), .ref (r 9), .ref (r 10), .int (nI rl), .ref (r 11), .ref (r 12), .ref (r 13), .ref (r 14), .int (nI rw), .ref (r 15), .long gv])), ((r 1), .inl (cI, 16, .inl rp)), ((r 2), .inl (cI, 64, .inl rk)), ((r 3), .inl (cI, 64, .inl ow)), ((r 4), .inl (cI, 64, .inl rn)), ((r 5), .inl (cI, 64, .inl ct)), ((r 6), .inl (cI, 256, .inl rt)), ((r 7), .inl (cI, 4, .inl ki)), ((r 8), .inl (cL, 4, .inr (.inl rb))), ((r 9), .inl (cI, 4, .inl aq)), ((r 10), .inl (cZ, 64, .inl cd)), ((r 11), .inl (cI, 64, .inl g1)), ((r 12), .inl (cI, 64, .inl g2)), ((r 13), .inl (cI, 64, .inl g3)), ((r 14), .inl (cL, 256, .inr (.inl gw))), ((r 15), .inl (cL, 64, .inr (.inl an)))] H := hP
    have hD : va_D A [((r 0), .inr (7, [.int 1, .int (nI rc), .ref (r 1), .int (nI ro), .ref (r 2), .int (nI rm), .ref (r 3), .ref (r 4), .ref (r 5), .ref (r 6), .int (nI ra), .ref (r 7), .ref (r 8), .ref (r 9), .ref (r 10), .int (nI rl), .ref (r 11), .ref (r 12), .ref (r 13), .ref (r 14), .int (nI rw), .ref (r 15), .long gv])), ((r 1), .inl (cI, 16, .inl rp)), ((r 2), .inl (cI, 64, .inl rk)), ((r 3), .inl (cI, 64, .inl ow)), ((r 4), .inl (cI, 64, .inl rn)), ((r 5), .inl (cI, 64, .inl ct)), ((r 6), .inl (cI, 256, .inl rt)), ((r 7), .inl (cI, 4, .inl ki)), ((r 8), .inl (cL, 4, .inr (.inl rb))), ((r 9), .inl (cI, 4, .inl aq)), ((r 10), .inl (cZ, 64, .inl cd)), ((r 11), .inl (cI, 64, .inl g1)), ((r 12), .inl (cI, 64, .inl g2)), ((r 13), .inl (cI, 64, .inl g3)), ((r 14), .inl (cL, 256, .inr (.inl gw))), ((r 15), .inl (cL, 64, .inr (.inl an)))] := hD
    refine hx_topi (y := 1) (rfl) ?_
    refine lv_if_eq (tgt := 38) hx hb kd_R_object_33 (by decide) (fun c_33 => ?_) (fun c_33 => ?_)
    · exact absurd c_33 (by decide)
    · skip
      refine lv_iconst (v := 0) hx hb kd_R_object_36 (by decide) ?_
      exact hx_iretW hx hb hr hlocks (rfl) (hP) hS kd_R_object_37
  · exact absurd c_12 (by decide)

set_option maxHeartbeats 4000000 in
set_option maxRecDepth 100000 in
theorem mr_object2 {l : Launch} {D : va_G} {cI cL cZ : ClassId} {tb : Nat} (r : Nat → Nat) (rc ro rm ra rl rw : Nat) (th : Int32) (gv : Int64) (rp rk ow rn ct rt ki aq cd g1 g2 g3 : Nat → Int32) (rb gw an : Nat → Int64) (k : Int32) (hk : fb_in k rc = true) (hn : ro = 64) (sz : Nat) : Met l ky_R_object kw_R_object { frames := 1, cells := 0, slots := 0, locals := 23 } (pw_P D cI cL cZ tb [((r 0), .inr (7, [.int th, .int (nI rc), .ref (r 1), .int (nI ro), .ref (r 2), .int (nI rm), .ref (r 3), .ref (r 4), .ref (r 5), .ref (r 6), .int (nI ra), .ref (r 7), .ref (r 8), .ref (r 9), .ref (r 10), .int (nI rl), .ref (r 11), .ref (r 12), .ref (r 13), .ref (r 14), .int (nI rw), .ref (r 15), .long gv])), ((r 1), .inl (cI, 16, .inl rp)), ((r 2), .inl (cI, 64, .inl rk)), ((r 3), .inl (cI, 64, .inl ow)), ((r 4), .inl (cI, 64, .inl rn)), ((r 5), .inl (cI, 64, .inl ct)), ((r 6), .inl (cI, 256, .inl rt)), ((r 7), .inl (cI, 4, .inl ki)), ((r 8), .inl (cL, 4, .inr (.inl rb))), ((r 9), .inl (cI, 4, .inl aq)), ((r 10), .inl (cZ, 64, .inl cd)), ((r 11), .inl (cI, 64, .inl g1)), ((r 12), .inl (cI, 64, .inl g2)), ((r 13), .inl (cI, 64, .inl g3)), ((r 14), .inl (cL, 256, .inr (.inl gw))), ((r 15), .inl (cL, 64, .inr (.inl an)))] sz [.ref (r 0), .int k]) (hx_QW D (some (.int 0)) [((r 0), .inr (7, [.int 2, .int (nI rc), .ref (r 1), .int (nI ro), .ref (r 2), .int (nI rm), .ref (r 3), .ref (r 4), .ref (r 5), .ref (r 6), .int (nI ra), .ref (r 7), .ref (r 8), .ref (r 9), .ref (r 10), .int (nI rl), .ref (r 11), .ref (r 12), .ref (r 13), .ref (r 14), .int (nI rw), .ref (r 15), .long gv])), ((r 1), .inl (cI, 16, .inl rp)), ((r 2), .inl (cI, 64, .inl rk)), ((r 3), .inl (cI, 64, .inl ow)), ((r 4), .inl (cI, 64, .inl rn)), ((r 5), .inl (cI, 64, .inl ct)), ((r 6), .inl (cI, 256, .inl rt)), ((r 7), .inl (cI, 4, .inl ki)), ((r 8), .inl (cL, 4, .inr (.inl rb))), ((r 9), .inl (cI, 4, .inl aq)), ((r 10), .inl (cZ, 64, .inl cd)), ((r 11), .inl (cI, 64, .inl g1)), ((r 12), .inl (cI, 64, .inl g2)), ((r 13), .inl (cI, 64, .inl g3)), ((r 14), .inl (cL, 256, .inr (.inl gw))), ((r 15), .inl (cL, 64, .inr (.inl an)))] (va_A [((r 0), .inr (7, [.int th, .int (nI rc), .ref (r 1), .int (nI ro), .ref (r 2), .int (nI rm), .ref (r 3), .ref (r 4), .ref (r 5), .ref (r 6), .int (nI ra), .ref (r 7), .ref (r 8), .ref (r 9), .ref (r 10), .int (nI rl), .ref (r 11), .ref (r 12), .ref (r 13), .ref (r 14), .int (nI rw), .ref (r 15), .long gv])), ((r 1), .inl (cI, 16, .inl rp)), ((r 2), .inl (cI, 64, .inl rk)), ((r 3), .inl (cI, 64, .inl ow)), ((r 4), .inl (cI, 64, .inl rn)), ((r 5), .inl (cI, 64, .inl ct)), ((r 6), .inl (cI, 256, .inl rt)), ((r 7), .inl (cI, 4, .inl ki)), ((r 8), .inl (cL, 4, .inr (.inl rb))), ((r 9), .inl (cI, 4, .inl aq)), ((r 10), .inl (cZ, 64, .inl cd)), ((r 11), .inl (cI, 64, .inl g1)), ((r 12), .inl (cI, 64, .inl g2)), ((r 13), .inl (cI, 64, .inl g3)), ((r 14), .inl (cL, 256, .inr (.inl gw))), ((r 15), .inl (cL, 64, .inr (.inl an)))] sz)) 0 0 (va_A [((r 0), .inr (7, [.int th, .int (nI rc), .ref (r 1), .int (nI ro), .ref (r 2), .int (nI rm), .ref (r 3), .ref (r 4), .ref (r 5), .ref (r 6), .int (nI ra), .ref (r 7), .ref (r 8), .ref (r 9), .ref (r 10), .int (nI rl), .ref (r 11), .ref (r 12), .ref (r 13), .ref (r 14), .int (nI rw), .ref (r 15), .long gv])), ((r 1), .inl (cI, 16, .inl rp)), ((r 2), .inl (cI, 64, .inl rk)), ((r 3), .inl (cI, 64, .inl ow)), ((r 4), .inl (cI, 64, .inl rn)), ((r 5), .inl (cI, 64, .inl ct)), ((r 6), .inl (cI, 256, .inl rt)), ((r 7), .inl (cI, 4, .inl ki)), ((r 8), .inl (cL, 4, .inr (.inl rb))), ((r 9), .inl (cI, 4, .inl aq)), ((r 10), .inl (cZ, 64, .inl cd)), ((r 11), .inl (cI, 64, .inl g1)), ((r 12), .inl (cI, 64, .inl g2)), ((r 13), .inl (cI, 64, .inl g3)), ((r 14), .inl (cL, 256, .inr (.inl gw))), ((r 15), .inl (cL, 64, .inr (.inl an)))] sz) := by
  refine Met.ofW (cc := kc_R_object) (maxL := 3) (ret := (some .int)) (by decide) rfl ?_
  intro p e s m args below meth c s₁ B hml hv
  obtain ⟨rfl, hsz, hC, hP, hD0⟩ := hv
  have hx := B.exec
  have hb := B.bytes
  have hr := B.returns
  have hlocks := B.notSynchronized
  have hown : s.vm.findClass "HostBridgeModel" = some m.cls := findClass_of_methodNamed B.named
  subst hsz
  have hD := hD0.self (sz := s.heap.size)
  generalize hAe : va_A [((r 0), .inr (7, [.int th, .int (nI rc), .ref (r 1), .int (nI ro), .ref (r 2), .int (nI rm), .ref (r 3), .ref (r 4), .ref (r 5), .ref (r 6), .int (nI ra), .ref (r 7), .ref (r 8), .ref (r 9), .ref (r 10), .int (nI rl), .ref (r 11), .ref (r 12), .ref (r 13), .ref (r 14), .int (nI rw), .ref (r 15), .long gv])), ((r 1), .inl (cI, 16, .inl rp)), ((r 2), .inl (cI, 64, .inl rk)), ((r 3), .inl (cI, 64, .inl ow)), ((r 4), .inl (cI, 64, .inl rn)), ((r 5), .inl (cI, 64, .inl ct)), ((r 6), .inl (cI, 256, .inl rt)), ((r 7), .inl (cI, 4, .inl ki)), ((r 8), .inl (cL, 4, .inr (.inl rb))), ((r 9), .inl (cI, 4, .inl aq)), ((r 10), .inl (cZ, 64, .inl cd)), ((r 11), .inl (cI, 64, .inl g1)), ((r 12), .inl (cI, 64, .inl g2)), ((r 13), .inl (cI, 64, .inl g3)), ((r 14), .inl (cL, 256, .inr (.inl gw))), ((r 15), .inl (cL, 64, .inr (.inl an)))] s.heap.size = A at hD hC ⊢
  have hA : ∀ q : Nat, s.heap.size ≤ q → A q := fun q h => by rw [← hAe]; exact Or.inr h
  have hS : va_S A s.heap s.heap [] := va_S.rf
  have hK := hC.K
  have hts := hC.ts [.ref (r 0), .int k].toArray
  have hl := lv_entry ([.ref (r 0), .int k]) (n := 3) (Nat.le_of_ble_eq_true rfl)
  rw [lg_entry_eq]
  generalize (lg_sl ([.ref (r 0), .int k]) ++ List.replicate (3 - (lg_sl ([.ref (r 0), .int k])).length) Slot.unset).toArray = ls at hl ⊢
  have hl : lv_has ls 3 [(0, .ref (r 0)), (1, .int k)] := hl
  refine lv_iload_n hx hb kd_R_object_0 rfl (lv_at hl 1 rfl) ?_
  refine lv_aload_n hx hb kd_R_object_1 rfl (lv_at hl 0 rfl) ?_
  refine va_get (D := D) (ci := 7) (v := .int (nI rc)) (C := "HostBridgeModel") (T := ct_R) (N := 23) hx hb hts cw_R hown hK hP 0 rfl rfl 1 (by decide) (hts _ km_622) (fun _ h9 => h9) rfl kd_R_object_2 ?_
  refine hx_callRi (va_runS (As := [.int k, .int (nI rc)]) (rest := []) ⟨hx, hb, hml, hown, hts⟩ (mr_isNo k rc) (va_cwS 2 hts (goodIn_sub (hx_m4 km_700 km_701 km_8 km_702) (by decide +kernel)) rfl rfl rfl (by decide +kernel) ⟨Nat.le_of_ble_eq_true rfl, Nat.le_of_ble_eq_true rfl⟩) (pr_S (hC.S hS) hP [] rfl) rfl rfl hl.1 rfl (lv_room (Nat.le_of_ble_eq_true rfl)) kd_R_object_5 ⟨Nat.le_of_ble_eq_true rfl, Nat.le_of_ble_eq_true rfl⟩) ?_
  refine hx_topi (y := 0) (by rw [hk]; rfl) ?_
  refine lv_istore_n (lv' := [(2, .int 0), (0, .ref (r 0)), (1, .int k)]) hx hb kd_R_object_8 rfl hl (by decide) rfl (fun ls hl => ?_)
  refine lv_aload_n hx hb kd_R_object_9 rfl (lv_at hl 1 rfl) ?_
  refine lv_iload_n hx hb kd_R_object_10 rfl (lv_at hl 0 rfl) ?_
  refine lv_iload_n hx hb kd_R_object_11 rfl (lv_at hl 0 rfl) ?_
  refine lv_if_ne (tgt := 28) hx hb kd_R_object_12 (by decide) (fun c_12 => ?_) (fun c_12 => ?_)
  · exact absurd c_12 (not_not_intro rfl)
  · skip
    refine lv_aload_n hx hb kd_R_object_15 rfl (lv_at hl 1 rfl) ?_
    refine va_get (D := D) (ci := 7) (v := .int (nI ro)) (C := "HostBridgeModel") (T := ct_R) (N := 23) hx hb hts cw_R hown hK hP 0 rfl rfl 3 (by decide) (hts _ km_624) (fun _ h9 => h9) rfl kd_R_object_16 ?_
    refine lv_bipush (v := 64) hx hb kd_R_object_19 (by decide) ?_
    refine lv_icmp_ne (tgt := 28) hx hb kd_R_object_21 (by decide) (fun c_21 => ?_) (fun c_21 => ?_)
    · exact absurd c_21 (not_not_intro (by rw [hn]; rfl))
    · skip
      refine lv_iconst (v := 1) hx hb kd_R_object_24 (by decide) ?_
      refine lv_goto (tgt := 29) hx hb kd_R_object_25 (by decide) ?_
      refine lv_iconst (v := 0) hx hb kd_R_object_29 (by decide) ?_
      refine hx_callWi (va_runV (As := [.int 0, .int 1, .int 0]) (rest := []) ⟨hx, hb, hml, hown, hts⟩ (mr_throwing2 r rc ro rm ra rl rw th gv rp rk ow rn ct rt ki aq cd g1 g2 g3 rb gw an _) (cwV 3 hts (goodIn_sub (hx_m5 km_703 km_705 kv_R_throwing km_8 km_706) (by decide +kernel)) rfl rfl rfl (by decide +kernel) ⟨Nat.le_of_ble_eq_true rfl, Nat.le_of_ble_eq_true rfl⟩) (pw_V (hC.S hS) hP hD hS hA [0] (by decide) rfl (ci := 7) rfl (q0 := 0) rfl) rfl rfl hl.1 rfl (lv_room (Nat.le_of_ble_eq_true rfl)) kd_R_object_30 ⟨Nat.le_of_ble_eq_true rfl, Nat.le_of_ble_eq_true rfl⟩) hP hD hS hA [0] rfl rfl (fun H locs hP hD hS hF => ?_)
      have hP : va_P D cl_all [((r 0), .inr (7, [.int 2, .int (nI rc), .ref (r 1), .int (nI ro), .ref (r 2), .int (nI rm), .ref (r 3), .ref (r 4), .ref (r 5), .ref (r 6), .int (nI ra), .ref (r 7), .ref (r 8), .ref (r 9), .ref (r 10), .int (nI rl), .ref (r 11), .ref (r 12), .ref (r 13), .ref (r 14), .int (nI rw), .ref (r 15), .long gv])), ((r 1), .inl (cI, 16, .inl rp)), ((r 2), .inl (cI, 64, .inl rk)), ((r 3), .inl (cI, 64, .inl ow)), ((r 4), .inl (cI, 64, .inl rn)), ((r 5), .inl (cI, 64, .inl ct)), ((r 6), .inl (cI, 256, .inl rt)), ((r 7), .inl (cI, 4, .inl ki)), ((r 8), .inl (cL, 4, .inr (.inl rb))), ((r 9), .inl (cI, 4, .inl aq)), ((r 10), .inl (cZ, 64, .inl cd)), ((r 11), .inl (cI, 64, .inl g1)), ((r 12), .inl (cI, 64, .inl g2)), ((r 13), .inl (cI, 64, .inl g3)), ((r 14), .inl (cL, 256, .inr (.inl gw))), ((r 15), .inl (cL, 64, .inr (.inl an)))] H := hP
      have hD : va_D A [((r 0), .inr (7, [.int 2, .int (nI rc), .ref (r 1), .int (nI ro), .ref (r 2), .int (nI rm), .ref (r 3), .ref (r 4), .ref (r 5), .ref (r 6), .int (nI ra), .ref (r 7), .ref (r 8), .ref (r 9), .ref (r 10), .int (nI rl), .ref (r 11), .ref (r 12), .ref (r 13), .ref (r 14), .int (nI rw), .ref (r 15), .long gv])), ((r 1), .inl (cI, 16, .inl rp)), ((r 2), .inl (cI, 64, .inl rk)), ((r 3), .inl (cI, 64, .inl ow)), ((r 4), .inl (cI, 64, .inl rn)), ((r 5), .inl (cI, 64, .inl ct)), ((r 6), .inl (cI, 256, .inl rt)), ((r 7), .inl (cI, 4, .inl ki)), ((r 8), .inl (cL, 4, .inr (.inl rb))), ((r 9), .inl (cI, 4, .inl aq)), ((r 10), .inl (cZ, 64, .inl cd)), ((r 11), .inl (cI, 64, .inl g1)), ((r 12), .inl (cI, 64, .inl g2)), ((r 13), .inl (cI, 64, .inl g3)), ((r 14), .inl (cL, 256, .inr (.inl gw))), ((r 15), .inl (cL, 64, .inr (.inl an)))] := hD
      refine hx_topi (y := 1) (rfl) ?_
      refine lv_if_eq (tgt := 38) hx hb kd_R_object_33 (by decide) (fun c_33 => ?_) (fun c_33 => ?_)
      · exact absurd c_33 (by decide)
      · skip
        refine lv_iconst (v := 0) hx hb kd_R_object_36 (by decide) ?_
        exact hx_iretW hx hb hr hlocks (rfl) (hP) hS kd_R_object_37

/-- the reference's own question of a value -/
def ab_ (ro : Nat) (k : Int32) (b : Int64) : Bool :=
  !fb_in k 7 || (decide (k = 2) && !decide (lg_cmp b 0 = 0) && !decide (lg_cmp b 1 = 0)) || ((decide (k = 4) || decide (k = 6)) && decide (lg_cmp b 0 < 0)) || (decide (k = 5) && (decide (lg_cmp b 0 < 0) || !decide (lg_cmp b (nI ro).toInt64 < 0)))

set_option maxHeartbeats 4000000 in
set_option maxRecDepth 100000 in
theorem mr_argument0 {l : Launch} {D : va_G} {cI cL cZ : ClassId} {tb : Nat} (r : Nat → Nat) (rc ro rm ra rl rw : Nat) (th : Int32) (gv : Int64) (rp rk ow rn ct rt ki aq cd g1 g2 g3 : Nat → Int32) (rb gw an : Nat → Int64) (k : Int32) (b : Int64) (hv : ab_ ro k b = false) (hn : ra < 4) (sz : Nat) : Met l ky_R_argument kw_R_argument { frames := 1, cells := 0, slots := 0, locals := 23 } (pw_P D cI cL cZ tb [((r 0), .inr (7, [.int th, .int (nI rc), .ref (r 1), .int (nI ro), .ref (r 2), .int (nI rm), .ref (r 3), .ref (r 4), .ref (r 5), .ref (r 6), .int (nI ra), .ref (r 7), .ref (r 8), .ref (r 9), .ref (r 10), .int (nI rl), .ref (r 11), .ref (r 12), .ref (r 13), .ref (r 14), .int (nI rw), .ref (r 15), .long gv])), ((r 1), .inl (cI, 16, .inl rp)), ((r 2), .inl (cI, 64, .inl rk)), ((r 3), .inl (cI, 64, .inl ow)), ((r 4), .inl (cI, 64, .inl rn)), ((r 5), .inl (cI, 64, .inl ct)), ((r 6), .inl (cI, 256, .inl rt)), ((r 7), .inl (cI, 4, .inl ki)), ((r 8), .inl (cL, 4, .inr (.inl rb))), ((r 9), .inl (cI, 4, .inl aq)), ((r 10), .inl (cZ, 64, .inl cd)), ((r 11), .inl (cI, 64, .inl g1)), ((r 12), .inl (cI, 64, .inl g2)), ((r 13), .inl (cI, 64, .inl g3)), ((r 14), .inl (cL, 256, .inr (.inl gw))), ((r 15), .inl (cL, 64, .inr (.inl an)))] sz [.ref (r 0), .int k, .long b]) (hx_QW D (some (.int (nI (ra + 1)))) [((r 0), .inr (7, [.int 0, .int (nI rc), .ref (r 1), .int (nI ro), .ref (r 2), .int (nI rm), .ref (r 3), .ref (r 4), .ref (r 5), .ref (r 6), .int (nI (ra + 1)), .ref (r 7), .ref (r 8), .ref (r 9), .ref (r 10), .int (nI rl), .ref (r 11), .ref (r 12), .ref (r 13), .ref (r 14), .int (nI rw), .ref (r 15), .long gv])), ((r 1), .inl (cI, 16, .inl rp)), ((r 2), .inl (cI, 64, .inl rk)), ((r 3), .inl (cI, 64, .inl ow)), ((r 4), .inl (cI, 64, .inl rn)), ((r 5), .inl (cI, 64, .inl ct)), ((r 6), .inl (cI, 256, .inl rt)), ((r 7), .inl (cI, 4, .inl (upd ki ra k))), ((r 8), .inl (cL, 4, .inr (.inl (vp_updL rb ra b)))), ((r 9), .inl (cI, 4, .inl aq)), ((r 10), .inl (cZ, 64, .inl cd)), ((r 11), .inl (cI, 64, .inl g1)), ((r 12), .inl (cI, 64, .inl g2)), ((r 13), .inl (cI, 64, .inl g3)), ((r 14), .inl (cL, 256, .inr (.inl gw))), ((r 15), .inl (cL, 64, .inr (.inl an)))] (va_A [((r 0), .inr (7, [.int th, .int (nI rc), .ref (r 1), .int (nI ro), .ref (r 2), .int (nI rm), .ref (r 3), .ref (r 4), .ref (r 5), .ref (r 6), .int (nI ra), .ref (r 7), .ref (r 8), .ref (r 9), .ref (r 10), .int (nI rl), .ref (r 11), .ref (r 12), .ref (r 13), .ref (r 14), .int (nI rw), .ref (r 15), .long gv])), ((r 1), .inl (cI, 16, .inl rp)), ((r 2), .inl (cI, 64, .inl rk)), ((r 3), .inl (cI, 64, .inl ow)), ((r 4), .inl (cI, 64, .inl rn)), ((r 5), .inl (cI, 64, .inl ct)), ((r 6), .inl (cI, 256, .inl rt)), ((r 7), .inl (cI, 4, .inl ki)), ((r 8), .inl (cL, 4, .inr (.inl rb))), ((r 9), .inl (cI, 4, .inl aq)), ((r 10), .inl (cZ, 64, .inl cd)), ((r 11), .inl (cI, 64, .inl g1)), ((r 12), .inl (cI, 64, .inl g2)), ((r 13), .inl (cI, 64, .inl g3)), ((r 14), .inl (cL, 256, .inr (.inl gw))), ((r 15), .inl (cL, 64, .inr (.inl an)))] sz)) 0 0 (va_A [((r 0), .inr (7, [.int th, .int (nI rc), .ref (r 1), .int (nI ro), .ref (r 2), .int (nI rm), .ref (r 3), .ref (r 4), .ref (r 5), .ref (r 6), .int (nI ra), .ref (r 7), .ref (r 8), .ref (r 9), .ref (r 10), .int (nI rl), .ref (r 11), .ref (r 12), .ref (r 13), .ref (r 14), .int (nI rw), .ref (r 15), .long gv])), ((r 1), .inl (cI, 16, .inl rp)), ((r 2), .inl (cI, 64, .inl rk)), ((r 3), .inl (cI, 64, .inl ow)), ((r 4), .inl (cI, 64, .inl rn)), ((r 5), .inl (cI, 64, .inl ct)), ((r 6), .inl (cI, 256, .inl rt)), ((r 7), .inl (cI, 4, .inl ki)), ((r 8), .inl (cL, 4, .inr (.inl rb))), ((r 9), .inl (cI, 4, .inl aq)), ((r 10), .inl (cZ, 64, .inl cd)), ((r 11), .inl (cI, 64, .inl g1)), ((r 12), .inl (cI, 64, .inl g2)), ((r 13), .inl (cI, 64, .inl g3)), ((r 14), .inl (cL, 256, .inr (.inl gw))), ((r 15), .inl (cL, 64, .inr (.inl an)))] sz) := by
  refine Met.ofW (cc := kc_R_argument) (maxL := 5) (ret := (some .int)) (by decide) rfl ?_
  intro p e s m args below meth c s₁ B hml hv
  obtain ⟨rfl, hsz, hC, hP, hD0⟩ := hv
  have hx := B.exec
  have hb := B.bytes
  have hr := B.returns
  have hlocks := B.notSynchronized
  have hown : s.vm.findClass "HostBridgeModel" = some m.cls := findClass_of_methodNamed B.named
  subst hsz
  have hD := hD0.self (sz := s.heap.size)
  generalize hAe : va_A [((r 0), .inr (7, [.int th, .int (nI rc), .ref (r 1), .int (nI ro), .ref (r 2), .int (nI rm), .ref (r 3), .ref (r 4), .ref (r 5), .ref (r 6), .int (nI ra), .ref (r 7), .ref (r 8), .ref (r 9), .ref (r 10), .int (nI rl), .ref (r 11), .ref (r 12), .ref (r 13), .ref (r 14), .int (nI rw), .ref (r 15), .long gv])), ((r 1), .inl (cI, 16, .inl rp)), ((r 2), .inl (cI, 64, .inl rk)), ((r 3), .inl (cI, 64, .inl ow)), ((r 4), .inl (cI, 64, .inl rn)), ((r 5), .inl (cI, 64, .inl ct)), ((r 6), .inl (cI, 256, .inl rt)), ((r 7), .inl (cI, 4, .inl ki)), ((r 8), .inl (cL, 4, .inr (.inl rb))), ((r 9), .inl (cI, 4, .inl aq)), ((r 10), .inl (cZ, 64, .inl cd)), ((r 11), .inl (cI, 64, .inl g1)), ((r 12), .inl (cI, 64, .inl g2)), ((r 13), .inl (cI, 64, .inl g3)), ((r 14), .inl (cL, 256, .inr (.inl gw))), ((r 15), .inl (cL, 64, .inr (.inl an)))] s.heap.size = A at hD hC ⊢
  have hA : ∀ q : Nat, s.heap.size ≤ q → A q := fun q h => by rw [← hAe]; exact Or.inr h
  have hS : va_S A s.heap s.heap [] := va_S.rf
  have hK := hC.K
  have hts := hC.ts [.ref (r 0), .int k, .long b].toArray
  have hl := lv_entry ([.ref (r 0), .int k, .long b]) (n := 5) (Nat.le_of_ble_eq_true rfl)
  rw [lg_entry_eq]
  generalize (lg_sl ([.ref (r 0), .int k, .long b]) ++ List.replicate (5 - (lg_sl ([.ref (r 0), .int k, .long b])).length) Slot.unset).toArray = ls at hl ⊢
  have hl : lv_has ls 5 [(0, .ref (r 0)), (1, .int k), (2, .long b)] := hl
  refine hx_cut (pc2 := 69) (ls2 := ls) (rest2 := []) (P := fun x => x = b2_ (ab_ ro k b)) ?_ (fun hj1 => ?_)
  · intro x2 e3
    obtain rfl : x2 = 0 := by rw [e3, hv]; rfl
    refine lv_istore (lv' := [(4, .int 0), (0, .ref (r 0)), (1, .int k), (2, .long b)]) hx hb kd_R_argument_69 hl (by decide) rfl (fun ls hl => ?_)
    refine lv_aload_n hx hb kd_R_argument_71 rfl (lv_at hl 1 rfl) ?_
    refine lv_iload hx hb kd_R_argument_72 (lv_at hl 0 rfl) ?_
    refine lv_iload hx hb kd_R_argument_74 (lv_at hl 0 rfl) ?_
    refine lv_if_ne (tgt := 91) hx hb kd_R_argument_76 (by decide) (fun c_76 => ?_) (fun c_76 => ?_)
    · exact absurd c_76 (not_not_intro rfl)
    · skip
      refine lv_aload_n hx hb kd_R_argument_79 rfl (lv_at hl 1 rfl) ?_
      refine va_get (D := D) (ci := 7) (v := .int (nI ra)) (C := "HostBridgeModel") (T := ct_R) (N := 23) hx hb hts cw_R hown hK hP 0 rfl rfl 10 (by decide) (hts _ km_631) (fun _ h9 => h9) rfl kd_R_argument_80 ?_
      refine lv_iconst (v := 4) hx hb kd_R_argument_83 (by decide) ?_
      refine lv_icmp_ne (tgt := 91) hx hb kd_R_argument_84 (by decide) (fun c_84 => ?_) (fun c_84 => ?_)
      · skip
        refine lv_iconst (v := 0) hx hb kd_R_argument_91 (by decide) ?_
        refine lv_iconst (v := 0) hx hb kd_R_argument_92 (by decide) ?_
        refine hx_callWi (va_runV (As := [.int 0, .int 0, .int 0]) (rest := []) ⟨hx, hb, hml, hown, hts⟩ (mr_throwing0 r rc ro rm ra rl rw th gv rp rk ow rn ct rt ki aq cd g1 g2 g3 rb gw an _) (cwV 3 hts (goodIn_sub (hx_m5 km_703 km_705 kv_R_throwing km_8 km_706) (by decide +kernel)) rfl rfl rfl (by decide +kernel) ⟨Nat.le_of_ble_eq_true rfl, Nat.le_of_ble_eq_true rfl⟩) (pw_V (hC.S hS) hP hD hS hA [0] (by decide) rfl (ci := 7) rfl (q0 := 0) rfl) rfl rfl hl.1 rfl (lv_room (Nat.le_of_ble_eq_true rfl)) kd_R_argument_93 ⟨Nat.le_of_ble_eq_true rfl, Nat.le_of_ble_eq_true rfl⟩) hP hD hS hA [0] rfl rfl (fun H locs hP hD hS hF => ?_)
        have hP : va_P D cl_all [((r 0), .inr (7, [.int 0, .int (nI rc), .ref (r 1), .int (nI ro), .ref (r 2), .int (nI rm), .ref (r 3), .ref (r 4), .ref (r 5), .ref (r 6), .int (nI ra), .ref (r 7), .ref (r 8), .ref (r 9), .ref (r 10), .int (nI rl), .ref (r 11), .ref (r 12), .ref (r 13), .ref (r 14), .int (nI rw), .ref (r 15), .long gv])), ((r 1), .inl (cI, 16, .inl rp)), ((r 2), .inl (cI, 64, .inl rk)), ((r 3), .inl (cI, 64, .inl ow)), ((r 4), .inl (cI, 64, .inl rn)), ((r 5), .inl (cI, 64, .inl ct)), ((r 6), .inl (cI, 256, .inl rt)), ((r 7), .inl (cI, 4, .inl ki)), ((r 8), .inl (cL, 4, .inr (.inl rb))), ((r 9), .inl (cI, 4, .inl aq)), ((r 10), .inl (cZ, 64, .inl cd)), ((r 11), .inl (cI, 64, .inl g1)), ((r 12), .inl (cI, 64, .inl g2)), ((r 13), .inl (cI, 64, .inl g3)), ((r 14), .inl (cL, 256, .inr (.inl gw))), ((r 15), .inl (cL, 64, .inr (.inl an)))] H := hP
        have hD : va_D A [((r 0), .inr (7, [.int 0, .int (nI rc), .ref (r 1), .int (nI ro), .ref (r 2), .int (nI rm), .ref (r 3), .ref (r 4), .ref (r 5), .ref (r 6), .int (nI ra), .ref (r 7), .ref (r 8), .ref (r 9), .ref (r 10), .int (nI rl), .ref (r 11), .ref (r 12), .ref (r 13), .ref (r 14), .int (nI rw), .ref (r 15), .long gv])), ((r 1), .inl (cI, 16, .inl rp)), ((r 2), .inl (cI, 64, .inl rk)), ((r 3), .inl (cI, 64, .inl ow)), ((r 4), .inl (cI, 64, .inl rn)), ((r 5), .inl (cI, 64, .inl ct)), ((r 6), .inl (cI, 256, .inl rt)), ((r 7), .inl (cI, 4, .inl ki)), ((r 8), .inl (cL, 4, .inr (.inl rb))), ((r 9), .inl (cI, 4, .inl aq)), ((r 10), .inl (cZ, 64, .inl cd)), ((r 11), .inl (cI, 64, .inl g1)), ((r 12), .inl (cI, 64, .inl g2)), ((r 13), .inl (cI, 64, .inl g3)), ((r 14), .inl (cL, 256, .inr (.inl gw))), ((r 15), .inl (cL, 64, .inr (.inl an)))] := hD
        refine hx_topi (y := 0) (rfl) ?_
        refine lv_if_eq (tgt := 101) hx hb kd_R_argument_96 (by decide) (fun c_96 => ?_) (fun c_96 => ?_)
        · skip
          refine lv_aload_n hx hb kd_R_argument_101 rfl (lv_at hl 1 rfl) ?_
          refine va_get (D := D) (ci := 7) (v := .ref (r 7)) (C := "HostBridgeModel") (T := ct_R) (N := 23) hx hb hts cw_R hown hK hP 0 rfl rfl 11 (by decide) (hts _ km_632) (fun _ h9 => h9) rfl kd_R_argument_102 ?_
          refine lv_aload_n hx hb kd_R_argument_105 rfl (lv_at hl 1 rfl) ?_
          refine va_get (D := D) (ci := 7) (v := .int (nI ra)) (C := "HostBridgeModel") (T := ct_R) (N := 23) hx hb hts cw_R hown hK hP 0 rfl rfl 10 (by decide) (hts _ km_631) (fun _ h9 => h9) rfl kd_R_argument_106 ?_
          refine lv_iload_n hx hb kd_R_argument_109 rfl (lv_at hl 2 rfl) ?_
          refine hx_iast (j := ra) hx hb hK hP hD hS 7 rfl (rfl) (hn) (by decide) kd_R_argument_110 (fun H locs hP hD hS => ?_)
          have hP : va_P D cl_all [((r 0), .inr (7, [.int 0, .int (nI rc), .ref (r 1), .int (nI ro), .ref (r 2), .int (nI rm), .ref (r 3), .ref (r 4), .ref (r 5), .ref (r 6), .int (nI ra), .ref (r 7), .ref (r 8), .ref (r 9), .ref (r 10), .int (nI rl), .ref (r 11), .ref (r 12), .ref (r 13), .ref (r 14), .int (nI rw), .ref (r 15), .long gv])), ((r 1), .inl (cI, 16, .inl rp)), ((r 2), .inl (cI, 64, .inl rk)), ((r 3), .inl (cI, 64, .inl ow)), ((r 4), .inl (cI, 64, .inl rn)), ((r 5), .inl (cI, 64, .inl ct)), ((r 6), .inl (cI, 256, .inl rt)), ((r 7), .inl (cI, 4, .inl (upd ki ra k))), ((r 8), .inl (cL, 4, .inr (.inl rb))), ((r 9), .inl (cI, 4, .inl aq)), ((r 10), .inl (cZ, 64, .inl cd)), ((r 11), .inl (cI, 64, .inl g1)), ((r 12), .inl (cI, 64, .inl g2)), ((r 13), .inl (cI, 64, .inl g3)), ((r 14), .inl (cL, 256, .inr (.inl gw))), ((r 15), .inl (cL, 64, .inr (.inl an)))] H := hP
          have hD : va_D A [((r 0), .inr (7, [.int 0, .int (nI rc), .ref (r 1), .int (nI ro), .ref (r 2), .int (nI rm), .ref (r 3), .ref (r 4), .ref (r 5), .ref (r 6), .int (nI ra), .ref (r 7), .ref (r 8), .ref (r 9), .ref (r 10), .int (nI rl), .ref (r 11), .ref (r 12), .ref (r 13), .ref (r 14), .int (nI rw), .ref (r 15), .long gv])), ((r 1), .inl (cI, 16, .inl rp)), ((r 2), .inl (cI, 64, .inl rk)), ((r 3), .inl (cI, 64, .inl ow)), ((r 4), .inl (cI, 64, .inl rn)), ((r 5), .inl (cI, 64, .inl ct)), ((r 6), .inl (cI, 256, .inl rt)), ((r 7), .inl (cI, 4, .inl (upd ki ra k))), ((r 8), .inl (cL, 4, .inr (.inl rb))), ((r 9), .inl (cI, 4, .inl aq)), ((r 10), .inl (cZ, 64, .inl cd)), ((r 11), .inl (cI, 64, .inl g1)), ((r 12), .inl (cI, 64, .inl g2)), ((r 13), .inl (cI, 64, .inl g3)), ((r 14), .inl (cL, 256, .inr (.inl gw))), ((r 15), .inl (cL, 64, .inr (.inl an)))] := hD
          refine lv_aload_n hx hb kd_R_argument_111 rfl (lv_at hl 1 rfl) ?_
          refine va_get (D := D) (ci := 7) (v := .ref (r 8)) (C := "HostBridgeModel") (T := ct_R) (N := 23) hx hb hts cw_R hown hK hP 0 rfl rfl 12 (by decide) (hts _ km_633) (fun _ h9 => h9) rfl kd_R_argument_112 ?_
          refine lv_aload_n hx hb kd_R_argument_115 rfl (lv_at hl 1 rfl) ?_
          refine va_get (D := D) (ci := 7) (v := .int (nI ra)) (C := "HostBridgeModel") (T := ct_R) (N := 23) hx hb hts cw_R hown hK hP 0 rfl rfl 10 (by decide) (hts _ km_631) (fun _ h9 => h9) rfl kd_R_argument_116 ?_
          refine lv_lload_n hx hb kd_R_argument_119 rfl (lv_at hl 3 rfl) ?_
          refine hx_last (j := ra) hx hb hK hP hD hS 8 rfl (rfl) (hn) (by decide) kd_R_argument_120 (fun H locs hP hD hS => ?_)
          have hP : va_P D cl_all [((r 0), .inr (7, [.int 0, .int (nI rc), .ref (r 1), .int (nI ro), .ref (r 2), .int (nI rm), .ref (r 3), .ref (r 4), .ref (r 5), .ref (r 6), .int (nI ra), .ref (r 7), .ref (r 8), .ref (r 9), .ref (r 10), .int (nI rl), .ref (r 11), .ref (r 12), .ref (r 13), .ref (r 14), .int (nI rw), .ref (r 15), .long gv])), ((r 1), .inl (cI, 16, .inl rp)), ((r 2), .inl (cI, 64, .inl rk)), ((r 3), .inl (cI, 64, .inl ow)), ((r 4), .inl (cI, 64, .inl rn)), ((r 5), .inl (cI, 64, .inl ct)), ((r 6), .inl (cI, 256, .inl rt)), ((r 7), .inl (cI, 4, .inl (upd ki ra k))), ((r 8), .inl (cL, 4, .inr (.inl (vp_updL rb ra b)))), ((r 9), .inl (cI, 4, .inl aq)), ((r 10), .inl (cZ, 64, .inl cd)), ((r 11), .inl (cI, 64, .inl g1)), ((r 12), .inl (cI, 64, .inl g2)), ((r 13), .inl (cI, 64, .inl g3)), ((r 14), .inl (cL, 256, .inr (.inl gw))), ((r 15), .inl (cL, 64, .inr (.inl an)))] H := hP
          have hD : va_D A [((r 0), .inr (7, [.int 0, .int (nI rc), .ref (r 1), .int (nI ro), .ref (r 2), .int (nI rm), .ref (r 3), .ref (r 4), .ref (r 5), .ref (r 6), .int (nI ra), .ref (r 7), .ref (r 8), .ref (r 9), .ref (r 10), .int (nI rl), .ref (r 11), .ref (r 12), .ref (r 13), .ref (r 14), .int (nI rw), .ref (r 15), .long gv])), ((r 1), .inl (cI, 16, .inl rp)), ((r 2), .inl (cI, 64, .inl rk)), ((r 3), .inl (cI, 64, .inl ow)), ((r 4), .inl (cI, 64, .inl rn)), ((r 5), .inl (cI, 64, .inl ct)), ((r 6), .inl (cI, 256, .inl rt)), ((r 7), .inl (cI, 4, .inl (upd ki ra k))), ((r 8), .inl (cL, 4, .inr (.inl (vp_updL rb ra b)))), ((r 9), .inl (cI, 4, .inl aq)), ((r 10), .inl (cZ, 64, .inl cd)), ((r 11), .inl (cI, 64, .inl g1)), ((r 12), .inl (cI, 64, .inl g2)), ((r 13), .inl (cI, 64, .inl g3)), ((r 14), .inl (cL, 256, .inr (.inl gw))), ((r 15), .inl (cL, 64, .inr (.inl an)))] := hD
          refine lv_aload_n hx hb kd_R_argument_121 rfl (lv_at hl 1 rfl) ?_
          refine lv_dup hx hb kd_R_argument_122 rfl ?_
          refine va_get (D := D) (ci := 7) (v := .int (nI ra)) (C := "HostBridgeModel") (T := ct_R) (N := 23) hx hb hts cw_R hown hK hP 0 rfl rfl 10 (by decide) (hts _ km_631) (fun _ h9 => h9) rfl kd_R_argument_123 ?_
          refine lv_iconst (v := 1) hx hb kd_R_argument_126 (by decide) ?_
          refine lv_iadd hx hb kd_R_argument_127 ?_
          refine hx_topi (y := nI (ra + 1)) (nI_1 ra) ?_
          refine va_put (D := D) (ci := 7) (v := .int (nI (ra + 1))) (ty := .int) (C := "HostBridgeModel") (T := ct_R) (N := 23) hx hb hts cw_R cy_R cp_R cn_R hown hK hP hD hS 0 rfl rfl 10 (by decide) (hts _ km_631) (fun _ h9 => h9) rfl (by decide +kernel) rfl rfl (Nat.le_of_ble_eq_true rfl) kd_R_argument_128 (fun H locs hP hD hS => ?_)
          have hP : va_P D cl_all [((r 0), .inr (7, [.int 0, .int (nI rc), .ref (r 1), .int (nI ro), .ref (r 2), .int (nI rm), .ref (r 3), .ref (r 4), .ref (r 5), .ref (r 6), .int (nI (ra + 1)), .ref (r 7), .ref (r 8), .ref (r 9), .ref (r 10), .int (nI rl), .ref (r 11), .ref (r 12), .ref (r 13), .ref (r 14), .int (nI rw), .ref (r 15), .long gv])), ((r 1), .inl (cI, 16, .inl rp)), ((r 2), .inl (cI, 64, .inl rk)), ((r 3), .inl (cI, 64, .inl ow)), ((r 4), .inl (cI, 64, .inl rn)), ((r 5), .inl (cI, 64, .inl ct)), ((r 6), .inl (cI, 256, .inl rt)), ((r 7), .inl (cI, 4, .inl (upd ki ra k))), ((r 8), .inl (cL, 4, .inr (.inl (vp_updL rb ra b)))), ((r 9), .inl (cI, 4, .inl aq)), ((r 10), .inl (cZ, 64, .inl cd)), ((r 11), .inl (cI, 64, .inl g1)), ((r 12), .inl (cI, 64, .inl g2)), ((r 13), .inl (cI, 64, .inl g3)), ((r 14), .inl (cL, 256, .inr (.inl gw))), ((r 15), .inl (cL, 64, .inr (.inl an)))] H := hP
          have hD : va_D A [((r 0), .inr (7, [.int 0, .int (nI rc), .ref (r 1), .int (nI ro), .ref (r 2), .int (nI rm), .ref (r 3), .ref (r 4), .ref (r 5), .ref (r 6), .int (nI (ra + 1)), .ref (r 7), .ref (r 8), .ref (r 9), .ref (r 10), .int (nI rl), .ref (r 11), .ref (r 12), .ref (r 13), .ref (r 14), .int (nI rw), .ref (r 15), .long gv])), ((r 1), .inl (cI, 16, .inl rp)), ((r 2), .inl (cI, 64, .inl rk)), ((r 3), .inl (cI, 64, .inl ow)), ((r 4), .inl (cI, 64, .inl rn)), ((r 5), .inl (cI, 64, .inl ct)), ((r 6), .inl (cI, 256, .inl rt)), ((r 7), .inl (cI, 4, .inl (upd ki ra k))), ((r 8), .inl (cL, 4, .inr (.inl (vp_updL rb ra b)))), ((r 9), .inl (cI, 4, .inl aq)), ((r 10), .inl (cZ, 64, .inl cd)), ((r 11), .inl (cI, 64, .inl g1)), ((r 12), .inl (cI, 64, .inl g2)), ((r 13), .inl (cI, 64, .inl g3)), ((r 14), .inl (cL, 256, .inr (.inl gw))), ((r 15), .inl (cL, 64, .inr (.inl an)))] := hD
          refine lv_aload_n hx hb kd_R_argument_131 rfl (lv_at hl 1 rfl) ?_
          refine va_get (D := D) (ci := 7) (v := .int (nI (ra + 1))) (C := "HostBridgeModel") (T := ct_R) (N := 23) hx hb hts cw_R hown hK hP 0 rfl rfl 10 (by decide) (hts _ km_631) (fun _ h9 => h9) rfl kd_R_argument_132 ?_
          exact hx_iretW hx hb hr hlocks (rfl) (hP) hS kd_R_argument_135
        · exact absurd c_96 (not_not_intro rfl)
      · exact absurd c_84 (fun h => absurd ((nI_eq (a := ra) (b := 4) (by omega) (by decide)).mp h) (by omega))
  · skip
    refine lv_iload_n hx hb kd_R_argument_0 rfl (lv_at hl 1 rfl) ?_
    refine lv_bipush (v := 7) hx hb kd_R_argument_1 (by decide) ?_
    refine hx_callRi (va_runS (As := [.int k, .int 7]) (rest := []) ⟨hx, hb, hml, hown, hts⟩ (mr_isNo k 7) (va_cwS 2 hts (goodIn_sub (hx_m4 km_700 km_701 km_8 km_702) (by decide +kernel)) rfl rfl rfl (by decide +kernel) ⟨Nat.le_of_ble_eq_true rfl, Nat.le_of_ble_eq_true rfl⟩) (pr_S (hC.S hS) hP [] rfl) rfl rfl hl.1 rfl (lv_room (Nat.le_of_ble_eq_true rfl)) kd_R_argument_3 ⟨Nat.le_of_ble_eq_true rfl, Nat.le_of_ble_eq_true rfl⟩) ?_
    refine lv_if_ne (tgt := 64) hx hb kd_R_argument_6 (by decide) (fun c_6 => ?_) (fun c_6 => ?_)
    · skip
      have h6 : fb_in k 7 = false := by simpa using b2_t c_6
      refine lv_iconst (v := 1) hx hb kd_R_argument_64 (by decide) ?_
      refine lv_goto (tgt := 69) hx hb kd_R_argument_65 (by decide) ?_
      exact hj1 _ (by rw [ab_, h6]; simp [b2_])
    · skip
      have h6 : fb_in k 7 = true := by simpa using b2_f c_6
      refine lv_iload_n hx hb kd_R_argument_9 rfl (lv_at hl 1 rfl) ?_
      refine lv_iconst (v := 2) hx hb kd_R_argument_10 (by decide) ?_
      refine lv_icmp_ne (tgt := 26) hx hb kd_R_argument_11 (by decide) (fun c_11 => ?_) (fun c_11 => ?_)
      · skip
        refine lv_iload_n hx hb kd_R_argument_26 rfl (lv_at hl 1 rfl) ?_
        refine lv_iconst (v := 4) hx hb kd_R_argument_27 (by decide) ?_
        refine lv_icmp_eq (tgt := 37) hx hb kd_R_argument_28 (by decide) (fun c_28 => ?_) (fun c_28 => ?_)
        · skip
          refine lv_lload_n hx hb kd_R_argument_37 rfl (lv_at hl 2 rfl) ?_
          refine lv_lconst (v := 0) hx hb kd_R_argument_38 (by decide) ?_
          refine W.lcmp hx hb kd_R_argument_39 ?_
          refine lv_if_lt (tgt := 64) hx hb kd_R_argument_40 (by decide) (fun c_40 => ?_) (fun c_40 => ?_)
          · skip
            refine lv_iconst (v := 1) hx hb kd_R_argument_64 (by decide) ?_
            refine lv_goto (tgt := 69) hx hb kd_R_argument_65 (by decide) ?_
            exact hj1 _ (by rw [ab_, h6]; simp [b2_, c_11, c_28, c_40])
          · skip
            refine lv_iload_n hx hb kd_R_argument_43 rfl (lv_at hl 1 rfl) ?_
            refine lv_iconst (v := 5) hx hb kd_R_argument_44 (by decide) ?_
            refine lv_icmp_ne (tgt := 68) hx hb kd_R_argument_45 (by decide) (fun c_45 => ?_) (fun c_45 => ?_)
            · skip
              refine lv_iconst (v := 0) hx hb kd_R_argument_68 (by decide) ?_
              exact hj1 _ (by rw [ab_, h6]; simp [b2_, c_11, c_28, c_40, c_45])
            · skip
              refine lv_lload_n hx hb kd_R_argument_48 rfl (lv_at hl 2 rfl) ?_
              refine lv_lconst (v := 0) hx hb kd_R_argument_49 (by decide) ?_
              refine W.lcmp hx hb kd_R_argument_50 ?_
              refine lv_if_lt (tgt := 64) hx hb kd_R_argument_51 (by decide) (fun c_51 => ?_) (fun c_51 => ?_)
              · skip
                refine lv_iconst (v := 1) hx hb kd_R_argument_64 (by decide) ?_
                refine lv_goto (tgt := 69) hx hb kd_R_argument_65 (by decide) ?_
                exact hj1 _ (absurd (c_28.symm.trans c_45) (by decide))
              · skip
                refine lv_lload_n hx hb kd_R_argument_54 rfl (lv_at hl 2 rfl) ?_
                refine lv_aload_n hx hb kd_R_argument_55 rfl (lv_at hl 0 rfl) ?_
                refine va_get (D := D) (ci := 7) (v := .int (nI ro)) (C := "HostBridgeModel") (T := ct_R) (N := 23) hx hb hts cw_R hown hK hP 0 rfl rfl 3 (by decide) (hts _ km_624) (fun _ h9 => h9) rfl kd_R_argument_56 ?_
                refine lv_i2l hx hb kd_R_argument_59 rfl ?_
                refine W.lcmp hx hb kd_R_argument_60 ?_
                refine lv_if_lt (tgt := 68) hx hb kd_R_argument_61 (by decide) (fun c_61 => ?_) (fun c_61 => ?_)
                · skip
                  refine lv_iconst (v := 0) hx hb kd_R_argument_68 (by decide) ?_
                  exact hj1 _ (absurd (c_28.symm.trans c_45) (by decide))
                · skip
                  refine lv_iconst (v := 1) hx hb kd_R_argument_64 (by decide) ?_
                  refine lv_goto (tgt := 69) hx hb kd_R_argument_65 (by decide) ?_
                  exact hj1 _ (absurd (c_28.symm.trans c_45) (by decide))
        · skip
          refine lv_iload_n hx hb kd_R_argument_31 rfl (lv_at hl 1 rfl) ?_
          refine lv_bipush (v := 6) hx hb kd_R_argument_32 (by decide) ?_
          refine lv_icmp_ne (tgt := 43) hx hb kd_R_argument_34 (by decide) (fun c_34 => ?_) (fun c_34 => ?_)
          · skip
            refine lv_iload_n hx hb kd_R_argument_43 rfl (lv_at hl 1 rfl) ?_
            refine lv_iconst (v := 5) hx hb kd_R_argument_44 (by decide) ?_
            refine lv_icmp_ne (tgt := 68) hx hb kd_R_argument_45 (by decide) (fun c_45 => ?_) (fun c_45 => ?_)
            · skip
              refine lv_iconst (v := 0) hx hb kd_R_argument_68 (by decide) ?_
              exact hj1 _ (by rw [ab_, h6]; simp [b2_, c_11, c_28, c_34, c_45])
            · skip
              refine lv_lload_n hx hb kd_R_argument_48 rfl (lv_at hl 2 rfl) ?_
              refine lv_lconst (v := 0) hx hb kd_R_argument_49 (by decide) ?_
              refine W.lcmp hx hb kd_R_argument_50 ?_
              refine lv_if_lt (tgt := 64) hx hb kd_R_argument_51 (by decide) (fun c_51 => ?_) (fun c_51 => ?_)
              · skip
                refine lv_iconst (v := 1) hx hb kd_R_argument_64 (by decide) ?_
                refine lv_goto (tgt := 69) hx hb kd_R_argument_65 (by decide) ?_
                exact hj1 _ (by rw [ab_, h6]; simp [b2_, c_11, c_28, c_34, c_45, c_51])
              · skip
                refine lv_lload_n hx hb kd_R_argument_54 rfl (lv_at hl 2 rfl) ?_
                refine lv_aload_n hx hb kd_R_argument_55 rfl (lv_at hl 0 rfl) ?_
                refine va_get (D := D) (ci := 7) (v := .int (nI ro)) (C := "HostBridgeModel") (T := ct_R) (N := 23) hx hb hts cw_R hown hK hP 0 rfl rfl 3 (by decide) (hts _ km_624) (fun _ h9 => h9) rfl kd_R_argument_56 ?_
                refine lv_i2l hx hb kd_R_argument_59 rfl ?_
                refine W.lcmp hx hb kd_R_argument_60 ?_
                refine lv_if_lt (tgt := 68) hx hb kd_R_argument_61 (by decide) (fun c_61 => ?_) (fun c_61 => ?_)
                · skip
                  refine lv_iconst (v := 0) hx hb kd_R_argument_68 (by decide) ?_
                  exact hj1 _ (by rw [ab_, h6]; simp [b2_, c_11, c_28, c_34, c_45, c_51, c_61])
                · skip
                  refine lv_iconst (v := 1) hx hb kd_R_argument_64 (by decide) ?_
                  refine lv_goto (tgt := 69) hx hb kd_R_argument_65 (by decide) ?_
                  exact hj1 _ (by rw [ab_, h6]; simp [b2_, c_11, c_28, c_34, c_45, c_51, c_61])
          · skip
            refine lv_lload_n hx hb kd_R_argument_37 rfl (lv_at hl 2 rfl) ?_
            refine lv_lconst (v := 0) hx hb kd_R_argument_38 (by decide) ?_
            refine W.lcmp hx hb kd_R_argument_39 ?_
            refine lv_if_lt (tgt := 64) hx hb kd_R_argument_40 (by decide) (fun c_40 => ?_) (fun c_40 => ?_)
            · skip
              refine lv_iconst (v := 1) hx hb kd_R_argument_64 (by decide) ?_
              refine lv_goto (tgt := 69) hx hb kd_R_argument_65 (by decide) ?_
              exact hj1 _ (by rw [ab_, h6]; simp [b2_, c_11, c_28, c_34, c_40])
            · skip
              refine lv_iload_n hx hb kd_R_argument_43 rfl (lv_at hl 1 rfl) ?_
              refine lv_iconst (v := 5) hx hb kd_R_argument_44 (by decide) ?_
              refine lv_icmp_ne (tgt := 68) hx hb kd_R_argument_45 (by decide) (fun c_45 => ?_) (fun c_45 => ?_)
              · skip
                refine lv_iconst (v := 0) hx hb kd_R_argument_68 (by decide) ?_
                exact hj1 _ (by rw [ab_, h6]; simp [b2_, c_11, c_28, c_34, c_40, c_45])
              · skip
                refine lv_lload_n hx hb kd_R_argument_48 rfl (lv_at hl 2 rfl) ?_
                refine lv_lconst (v := 0) hx hb kd_R_argument_49 (by decide) ?_
                refine W.lcmp hx hb kd_R_argument_50 ?_
                refine lv_if_lt (tgt := 64) hx hb kd_R_argument_51 (by decide) (fun c_51 => ?_) (fun c_51 => ?_)
                · skip
                  refine lv_iconst (v := 1) hx hb kd_R_argument_64 (by decide) ?_
                  refine lv_goto (tgt := 69) hx hb kd_R_argument_65 (by decide) ?_
                  exact hj1 _ (absurd (c_34.symm.trans c_45) (by decide))
                · skip
                  refine lv_lload_n hx hb kd_R_argument_54 rfl (lv_at hl 2 rfl) ?_
                  refine lv_aload_n hx hb kd_R_argument_55 rfl (lv_at hl 0 rfl) ?_
                  refine va_get (D := D) (ci := 7) (v := .int (nI ro)) (C := "HostBridgeModel") (T := ct_R) (N := 23) hx hb hts cw_R hown hK hP 0 rfl rfl 3 (by decide) (hts _ km_624) (fun _ h9 => h9) rfl kd_R_argument_56 ?_
                  refine lv_i2l hx hb kd_R_argument_59 rfl ?_
                  refine W.lcmp hx hb kd_R_argument_60 ?_
                  refine lv_if_lt (tgt := 68) hx hb kd_R_argument_61 (by decide) (fun c_61 => ?_) (fun c_61 => ?_)
                  · skip
                    refine lv_iconst (v := 0) hx hb kd_R_argument_68 (by decide) ?_
                    exact hj1 _ (absurd (c_34.symm.trans c_45) (by decide))
                  · skip
                    refine lv_iconst (v := 1) hx hb kd_R_argument_64 (by decide) ?_
                    refine lv_goto (tgt := 69) hx hb kd_R_argument_65 (by decide) ?_
                    exact hj1 _ (absurd (c_34.symm.trans c_45) (by decide))
      · skip
        refine lv_lload_n hx hb kd_R_argument_14 rfl (lv_at hl 2 rfl) ?_
        refine lv_lconst (v := 0) hx hb kd_R_argument_15 (by decide) ?_
        refine W.lcmp hx hb kd_R_argument_16 ?_
        refine lv_if_eq (tgt := 26) hx hb kd_R_argument_17 (by decide) (fun c_17 => ?_) (fun c_17 => ?_)
        · skip
          refine lv_iload_n hx hb kd_R_argument_26 rfl (lv_at hl 1 rfl) ?_
          refine lv_iconst (v := 4) hx hb kd_R_argument_27 (by decide) ?_
          refine lv_icmp_eq (tgt := 37) hx hb kd_R_argument_28 (by decide) (fun c_28 => ?_) (fun c_28 => ?_)
          · skip
            refine lv_lload_n hx hb kd_R_argument_37 rfl (lv_at hl 2 rfl) ?_
            refine lv_lconst (v := 0) hx hb kd_R_argument_38 (by decide) ?_
            refine W.lcmp hx hb kd_R_argument_39 ?_
            refine lv_if_lt (tgt := 64) hx hb kd_R_argument_40 (by decide) (fun c_40 => ?_) (fun c_40 => ?_)
            · skip
              refine lv_iconst (v := 1) hx hb kd_R_argument_64 (by decide) ?_
              refine lv_goto (tgt := 69) hx hb kd_R_argument_65 (by decide) ?_
              exact hj1 _ (absurd (c_11.symm.trans c_28) (by decide))
            · skip
              refine lv_iload_n hx hb kd_R_argument_43 rfl (lv_at hl 1 rfl) ?_
              refine lv_iconst (v := 5) hx hb kd_R_argument_44 (by decide) ?_
              refine lv_icmp_ne (tgt := 68) hx hb kd_R_argument_45 (by decide) (fun c_45 => ?_) (fun c_45 => ?_)
              · skip
                refine lv_iconst (v := 0) hx hb kd_R_argument_68 (by decide) ?_
                exact hj1 _ (absurd (c_11.symm.trans c_28) (by decide))
              · skip
                refine lv_lload_n hx hb kd_R_argument_48 rfl (lv_at hl 2 rfl) ?_
                refine lv_lconst (v := 0) hx hb kd_R_argument_49 (by decide) ?_
                refine W.lcmp hx hb kd_R_argument_50 ?_
                refine lv_if_lt (tgt := 64) hx hb kd_R_argument_51 (by decide) (fun c_51 => ?_) (fun c_51 => ?_)
                · skip
                  refine lv_iconst (v := 1) hx hb kd_R_argument_64 (by decide) ?_
                  refine lv_goto (tgt := 69) hx hb kd_R_argument_65 (by decide) ?_
                  exact hj1 _ (absurd (c_11.symm.trans c_28) (by decide))
                · skip
                  refine lv_lload_n hx hb kd_R_argument_54 rfl (lv_at hl 2 rfl) ?_
                  refine lv_aload_n hx hb kd_R_argument_55 rfl (lv_at hl 0 rfl) ?_
                  refine va_get (D := D) (ci := 7) (v := .int (nI ro)) (C := "HostBridgeModel") (T := ct_R) (N := 23) hx hb hts cw_R hown hK hP 0 rfl rfl 3 (by decide) (hts _ km_624) (fun _ h9 => h9) rfl kd_R_argument_56 ?_
                  refine lv_i2l hx hb kd_R_argument_59 rfl ?_
                  refine W.lcmp hx hb kd_R_argument_60 ?_
                  refine lv_if_lt (tgt := 68) hx hb kd_R_argument_61 (by decide) (fun c_61 => ?_) (fun c_61 => ?_)
                  · skip
                    refine lv_iconst (v := 0) hx hb kd_R_argument_68 (by decide) ?_
                    exact hj1 _ (absurd (c_11.symm.trans c_28) (by decide))
                  · skip
                    refine lv_iconst (v := 1) hx hb kd_R_argument_64 (by decide) ?_
                    refine lv_goto (tgt := 69) hx hb kd_R_argument_65 (by decide) ?_
                    exact hj1 _ (absurd (c_11.symm.trans c_28) (by decide))
          · skip
            refine lv_iload_n hx hb kd_R_argument_31 rfl (lv_at hl 1 rfl) ?_
            refine lv_bipush (v := 6) hx hb kd_R_argument_32 (by decide) ?_
            refine lv_icmp_ne (tgt := 43) hx hb kd_R_argument_34 (by decide) (fun c_34 => ?_) (fun c_34 => ?_)
            · skip
              refine lv_iload_n hx hb kd_R_argument_43 rfl (lv_at hl 1 rfl) ?_
              refine lv_iconst (v := 5) hx hb kd_R_argument_44 (by decide) ?_
              refine lv_icmp_ne (tgt := 68) hx hb kd_R_argument_45 (by decide) (fun c_45 => ?_) (fun c_45 => ?_)
              · skip
                refine lv_iconst (v := 0) hx hb kd_R_argument_68 (by decide) ?_
                exact hj1 _ (by rw [ab_, h6]; simp [b2_, c_11, c_17, c_28, c_34, c_45])
              · skip
                refine lv_lload_n hx hb kd_R_argument_48 rfl (lv_at hl 2 rfl) ?_
                refine lv_lconst (v := 0) hx hb kd_R_argument_49 (by decide) ?_
                refine W.lcmp hx hb kd_R_argument_50 ?_
                refine lv_if_lt (tgt := 64) hx hb kd_R_argument_51 (by decide) (fun c_51 => ?_) (fun c_51 => ?_)
                · skip
                  refine lv_iconst (v := 1) hx hb kd_R_argument_64 (by decide) ?_
                  refine lv_goto (tgt := 69) hx hb kd_R_argument_65 (by decide) ?_
                  exact hj1 _ (absurd (c_11.symm.trans c_45) (by decide))
                · skip
                  refine lv_lload_n hx hb kd_R_argument_54 rfl (lv_at hl 2 rfl) ?_
                  refine lv_aload_n hx hb kd_R_argument_55 rfl (lv_at hl 0 rfl) ?_
                  refine va_get (D := D) (ci := 7) (v := .int (nI ro)) (C := "HostBridgeModel") (T := ct_R) (N := 23) hx hb hts cw_R hown hK hP 0 rfl rfl 3 (by decide) (hts _ km_624) (fun _ h9 => h9) rfl kd_R_argument_56 ?_
                  refine lv_i2l hx hb kd_R_argument_59 rfl ?_
                  refine W.lcmp hx hb kd_R_argument_60 ?_
                  refine lv_if_lt (tgt := 68) hx hb kd_R_argument_61 (by decide) (fun c_61 => ?_) (fun c_61 => ?_)
                  · skip
                    refine lv_iconst (v := 0) hx hb kd_R_argument_68 (by decide) ?_
                    exact hj1 _ (absurd (c_11.symm.trans c_45) (by decide))
                  · skip
                    refine lv_iconst (v := 1) hx hb kd_R_argument_64 (by decide) ?_
                    refine lv_goto (tgt := 69) hx hb kd_R_argument_65 (by decide) ?_
                    exact hj1 _ (absurd (c_11.symm.trans c_45) (by decide))
            · skip
              refine lv_lload_n hx hb kd_R_argument_37 rfl (lv_at hl 2 rfl) ?_
              refine lv_lconst (v := 0) hx hb kd_R_argument_38 (by decide) ?_
              refine W.lcmp hx hb kd_R_argument_39 ?_
              refine lv_if_lt (tgt := 64) hx hb kd_R_argument_40 (by decide) (fun c_40 => ?_) (fun c_40 => ?_)
              · skip
                refine lv_iconst (v := 1) hx hb kd_R_argument_64 (by decide) ?_
                refine lv_goto (tgt := 69) hx hb kd_R_argument_65 (by decide) ?_
                exact hj1 _ (absurd (c_11.symm.trans c_34) (by decide))
              · skip
                refine lv_iload_n hx hb kd_R_argument_43 rfl (lv_at hl 1 rfl) ?_
                refine lv_iconst (v := 5) hx hb kd_R_argument_44 (by decide) ?_
                refine lv_icmp_ne (tgt := 68) hx hb kd_R_argument_45 (by decide) (fun c_45 => ?_) (fun c_45 => ?_)
                · skip
                  refine lv_iconst (v := 0) hx hb kd_R_argument_68 (by decide) ?_
                  exact hj1 _ (absurd (c_11.symm.trans c_34) (by decide))
                · skip
                  refine lv_lload_n hx hb kd_R_argument_48 rfl (lv_at hl 2 rfl) ?_
                  refine lv_lconst (v := 0) hx hb kd_R_argument_49 (by decide) ?_
                  refine W.lcmp hx hb kd_R_argument_50 ?_
                  refine lv_if_lt (tgt := 64) hx hb kd_R_argument_51 (by decide) (fun c_51 => ?_) (fun c_51 => ?_)
                  · skip
                    refine lv_iconst (v := 1) hx hb kd_R_argument_64 (by decide) ?_
                    refine lv_goto (tgt := 69) hx hb kd_R_argument_65 (by decide) ?_
                    exact hj1 _ (absurd (c_11.symm.trans c_34) (by decide))
                  · skip
                    refine lv_lload_n hx hb kd_R_argument_54 rfl (lv_at hl 2 rfl) ?_
                    refine lv_aload_n hx hb kd_R_argument_55 rfl (lv_at hl 0 rfl) ?_
                    refine va_get (D := D) (ci := 7) (v := .int (nI ro)) (C := "HostBridgeModel") (T := ct_R) (N := 23) hx hb hts cw_R hown hK hP 0 rfl rfl 3 (by decide) (hts _ km_624) (fun _ h9 => h9) rfl kd_R_argument_56 ?_
                    refine lv_i2l hx hb kd_R_argument_59 rfl ?_
                    refine W.lcmp hx hb kd_R_argument_60 ?_
                    refine lv_if_lt (tgt := 68) hx hb kd_R_argument_61 (by decide) (fun c_61 => ?_) (fun c_61 => ?_)
                    · skip
                      refine lv_iconst (v := 0) hx hb kd_R_argument_68 (by decide) ?_
                      exact hj1 _ (absurd (c_11.symm.trans c_34) (by decide))
                    · skip
                      refine lv_iconst (v := 1) hx hb kd_R_argument_64 (by decide) ?_
                      refine lv_goto (tgt := 69) hx hb kd_R_argument_65 (by decide) ?_
                      exact hj1 _ (absurd (c_11.symm.trans c_34) (by decide))
        · skip
          refine lv_lload_n hx hb kd_R_argument_20 rfl (lv_at hl 2 rfl) ?_
          refine lv_lconst (v := 1) hx hb kd_R_argument_21 (by decide) ?_
          refine W.lcmp hx hb kd_R_argument_22 ?_
          refine lv_if_ne (tgt := 64) hx hb kd_R_argument_23 (by decide) (fun c_23 => ?_) (fun c_23 => ?_)
          · skip
            refine lv_iconst (v := 1) hx hb kd_R_argument_64 (by decide) ?_
            refine lv_goto (tgt := 69) hx hb kd_R_argument_65 (by decide) ?_
            exact hj1 _ (by rw [ab_, h6]; simp [b2_, c_11, c_17, c_23])
          · skip
            refine lv_iload_n hx hb kd_R_argument_26 rfl (lv_at hl 1 rfl) ?_
            refine lv_iconst (v := 4) hx hb kd_R_argument_27 (by decide) ?_
            refine lv_icmp_eq (tgt := 37) hx hb kd_R_argument_28 (by decide) (fun c_28 => ?_) (fun c_28 => ?_)
            · skip
              refine lv_lload_n hx hb kd_R_argument_37 rfl (lv_at hl 2 rfl) ?_
              refine lv_lconst (v := 0) hx hb kd_R_argument_38 (by decide) ?_
              refine W.lcmp hx hb kd_R_argument_39 ?_
              refine lv_if_lt (tgt := 64) hx hb kd_R_argument_40 (by decide) (fun c_40 => ?_) (fun c_40 => ?_)
              · skip
                refine lv_iconst (v := 1) hx hb kd_R_argument_64 (by decide) ?_
                refine lv_goto (tgt := 69) hx hb kd_R_argument_65 (by decide) ?_
                exact hj1 _ (absurd (c_11.symm.trans c_28) (by decide))
              · skip
                refine lv_iload_n hx hb kd_R_argument_43 rfl (lv_at hl 1 rfl) ?_
                refine lv_iconst (v := 5) hx hb kd_R_argument_44 (by decide) ?_
                refine lv_icmp_ne (tgt := 68) hx hb kd_R_argument_45 (by decide) (fun c_45 => ?_) (fun c_45 => ?_)
                · skip
                  refine lv_iconst (v := 0) hx hb kd_R_argument_68 (by decide) ?_
                  exact hj1 _ (absurd (c_11.symm.trans c_28) (by decide))
                · skip
                  refine lv_lload_n hx hb kd_R_argument_48 rfl (lv_at hl 2 rfl) ?_
                  refine lv_lconst (v := 0) hx hb kd_R_argument_49 (by decide) ?_
                  refine W.lcmp hx hb kd_R_argument_50 ?_
                  refine lv_if_lt (tgt := 64) hx hb kd_R_argument_51 (by decide) (fun c_51 => ?_) (fun c_51 => ?_)
                  · skip
                    refine lv_iconst (v := 1) hx hb kd_R_argument_64 (by decide) ?_
                    refine lv_goto (tgt := 69) hx hb kd_R_argument_65 (by decide) ?_
                    exact hj1 _ (absurd (c_11.symm.trans c_28) (by decide))
                  · skip
                    refine lv_lload_n hx hb kd_R_argument_54 rfl (lv_at hl 2 rfl) ?_
                    refine lv_aload_n hx hb kd_R_argument_55 rfl (lv_at hl 0 rfl) ?_
                    refine va_get (D := D) (ci := 7) (v := .int (nI ro)) (C := "HostBridgeModel") (T := ct_R) (N := 23) hx hb hts cw_R hown hK hP 0 rfl rfl 3 (by decide) (hts _ km_624) (fun _ h9 => h9) rfl kd_R_argument_56 ?_
                    refine lv_i2l hx hb kd_R_argument_59 rfl ?_
                    refine W.lcmp hx hb kd_R_argument_60 ?_
                    refine lv_if_lt (tgt := 68) hx hb kd_R_argument_61 (by decide) (fun c_61 => ?_) (fun c_61 => ?_)
                    · skip
                      refine lv_iconst (v := 0) hx hb kd_R_argument_68 (by decide) ?_
                      exact hj1 _ (absurd (c_11.symm.trans c_28) (by decide))
                    · skip
                      refine lv_iconst (v := 1) hx hb kd_R_argument_64 (by decide) ?_
                      refine lv_goto (tgt := 69) hx hb kd_R_argument_65 (by decide) ?_
                      exact hj1 _ (absurd (c_11.symm.trans c_28) (by decide))
            · skip
              refine lv_iload_n hx hb kd_R_argument_31 rfl (lv_at hl 1 rfl) ?_
              refine lv_bipush (v := 6) hx hb kd_R_argument_32 (by decide) ?_
              refine lv_icmp_ne (tgt := 43) hx hb kd_R_argument_34 (by decide) (fun c_34 => ?_) (fun c_34 => ?_)
              · skip
                refine lv_iload_n hx hb kd_R_argument_43 rfl (lv_at hl 1 rfl) ?_
                refine lv_iconst (v := 5) hx hb kd_R_argument_44 (by decide) ?_
                refine lv_icmp_ne (tgt := 68) hx hb kd_R_argument_45 (by decide) (fun c_45 => ?_) (fun c_45 => ?_)
                · skip
                  refine lv_iconst (v := 0) hx hb kd_R_argument_68 (by decide) ?_
                  exact hj1 _ (by rw [ab_, h6]; simp [b2_, c_11, c_17, c_23, c_28, c_34, c_45])
                · skip
                  refine lv_lload_n hx hb kd_R_argument_48 rfl (lv_at hl 2 rfl) ?_
                  refine lv_lconst (v := 0) hx hb kd_R_argument_49 (by decide) ?_
                  refine W.lcmp hx hb kd_R_argument_50 ?_
                  refine lv_if_lt (tgt := 64) hx hb kd_R_argument_51 (by decide) (fun c_51 => ?_) (fun c_51 => ?_)
                  · skip
                    refine lv_iconst (v := 1) hx hb kd_R_argument_64 (by decide) ?_
                    refine lv_goto (tgt := 69) hx hb kd_R_argument_65 (by decide) ?_
                    exact hj1 _ (absurd (c_11.symm.trans c_45) (by decide))
                  · skip
                    refine lv_lload_n hx hb kd_R_argument_54 rfl (lv_at hl 2 rfl) ?_
                    refine lv_aload_n hx hb kd_R_argument_55 rfl (lv_at hl 0 rfl) ?_
                    refine va_get (D := D) (ci := 7) (v := .int (nI ro)) (C := "HostBridgeModel") (T := ct_R) (N := 23) hx hb hts cw_R hown hK hP 0 rfl rfl 3 (by decide) (hts _ km_624) (fun _ h9 => h9) rfl kd_R_argument_56 ?_
                    refine lv_i2l hx hb kd_R_argument_59 rfl ?_
                    refine W.lcmp hx hb kd_R_argument_60 ?_
                    refine lv_if_lt (tgt := 68) hx hb kd_R_argument_61 (by decide) (fun c_61 => ?_) (fun c_61 => ?_)
                    · skip
                      refine lv_iconst (v := 0) hx hb kd_R_argument_68 (by decide) ?_
                      exact hj1 _ (absurd (c_11.symm.trans c_45) (by decide))
                    · skip
                      refine lv_iconst (v := 1) hx hb kd_R_argument_64 (by decide) ?_
                      refine lv_goto (tgt := 69) hx hb kd_R_argument_65 (by decide) ?_
                      exact hj1 _ (absurd (c_11.symm.trans c_45) (by decide))
              · skip
                refine lv_lload_n hx hb kd_R_argument_37 rfl (lv_at hl 2 rfl) ?_
                refine lv_lconst (v := 0) hx hb kd_R_argument_38 (by decide) ?_
                refine W.lcmp hx hb kd_R_argument_39 ?_
                refine lv_if_lt (tgt := 64) hx hb kd_R_argument_40 (by decide) (fun c_40 => ?_) (fun c_40 => ?_)
                · skip
                  refine lv_iconst (v := 1) hx hb kd_R_argument_64 (by decide) ?_
                  refine lv_goto (tgt := 69) hx hb kd_R_argument_65 (by decide) ?_
                  exact hj1 _ (absurd (c_11.symm.trans c_34) (by decide))
                · skip
                  refine lv_iload_n hx hb kd_R_argument_43 rfl (lv_at hl 1 rfl) ?_
                  refine lv_iconst (v := 5) hx hb kd_R_argument_44 (by decide) ?_
                  refine lv_icmp_ne (tgt := 68) hx hb kd_R_argument_45 (by decide) (fun c_45 => ?_) (fun c_45 => ?_)
                  · skip
                    refine lv_iconst (v := 0) hx hb kd_R_argument_68 (by decide) ?_
                    exact hj1 _ (absurd (c_11.symm.trans c_34) (by decide))
                  · skip
                    refine lv_lload_n hx hb kd_R_argument_48 rfl (lv_at hl 2 rfl) ?_
                    refine lv_lconst (v := 0) hx hb kd_R_argument_49 (by decide) ?_
                    refine W.lcmp hx hb kd_R_argument_50 ?_
                    refine lv_if_lt (tgt := 64) hx hb kd_R_argument_51 (by decide) (fun c_51 => ?_) (fun c_51 => ?_)
                    · skip
                      refine lv_iconst (v := 1) hx hb kd_R_argument_64 (by decide) ?_
                      refine lv_goto (tgt := 69) hx hb kd_R_argument_65 (by decide) ?_
                      exact hj1 _ (absurd (c_11.symm.trans c_34) (by decide))
                    · skip
                      refine lv_lload_n hx hb kd_R_argument_54 rfl (lv_at hl 2 rfl) ?_
                      refine lv_aload_n hx hb kd_R_argument_55 rfl (lv_at hl 0 rfl) ?_
                      refine va_get (D := D) (ci := 7) (v := .int (nI ro)) (C := "HostBridgeModel") (T := ct_R) (N := 23) hx hb hts cw_R hown hK hP 0 rfl rfl 3 (by decide) (hts _ km_624) (fun _ h9 => h9) rfl kd_R_argument_56 ?_
                      refine lv_i2l hx hb kd_R_argument_59 rfl ?_
                      refine W.lcmp hx hb kd_R_argument_60 ?_
                      refine lv_if_lt (tgt := 68) hx hb kd_R_argument_61 (by decide) (fun c_61 => ?_) (fun c_61 => ?_)
                      · skip
                        refine lv_iconst (v := 0) hx hb kd_R_argument_68 (by decide) ?_
                        exact hj1 _ (absurd (c_11.symm.trans c_34) (by decide))
                      · skip
                        refine lv_iconst (v := 1) hx hb kd_R_argument_64 (by decide) ?_
                        refine lv_goto (tgt := 69) hx hb kd_R_argument_65 (by decide) ?_
                        exact hj1 _ (absurd (c_11.symm.trans c_34) (by decide))

set_option maxHeartbeats 4000000 in
set_option maxRecDepth 100000 in
theorem mr_argument1 {l : Launch} {D : va_G} {cI cL cZ : ClassId} {tb : Nat} (r : Nat → Nat) (rc ro rm ra rl rw : Nat) (th : Int32) (gv : Int64) (rp rk ow rn ct rt ki aq cd g1 g2 g3 : Nat → Int32) (rb gw an : Nat → Int64) (k : Int32) (b : Int64) (hv : ab_ ro k b = true) (sz : Nat) : Met l ky_R_argument kw_R_argument { frames := 1, cells := 0, slots := 0, locals := 23 } (pw_P D cI cL cZ tb [((r 0), .inr (7, [.int th, .int (nI rc), .ref (r 1), .int (nI ro), .ref (r 2), .int (nI rm), .ref (r 3), .ref (r 4), .ref (r 5), .ref (r 6), .int (nI ra), .ref (r 7), .ref (r 8), .ref (r 9), .ref (r 10), .int (nI rl), .ref (r 11), .ref (r 12), .ref (r 13), .ref (r 14), .int (nI rw), .ref (r 15), .long gv])), ((r 1), .inl (cI, 16, .inl rp)), ((r 2), .inl (cI, 64, .inl rk)), ((r 3), .inl (cI, 64, .inl ow)), ((r 4), .inl (cI, 64, .inl rn)), ((r 5), .inl (cI, 64, .inl ct)), ((r 6), .inl (cI, 256, .inl rt)), ((r 7), .inl (cI, 4, .inl ki)), ((r 8), .inl (cL, 4, .inr (.inl rb))), ((r 9), .inl (cI, 4, .inl aq)), ((r 10), .inl (cZ, 64, .inl cd)), ((r 11), .inl (cI, 64, .inl g1)), ((r 12), .inl (cI, 64, .inl g2)), ((r 13), .inl (cI, 64, .inl g3)), ((r 14), .inl (cL, 256, .inr (.inl gw))), ((r 15), .inl (cL, 64, .inr (.inl an)))] sz [.ref (r 0), .int k, .long b]) (hx_QW D (some (.int 0)) [((r 0), .inr (7, [.int 1, .int (nI rc), .ref (r 1), .int (nI ro), .ref (r 2), .int (nI rm), .ref (r 3), .ref (r 4), .ref (r 5), .ref (r 6), .int (nI ra), .ref (r 7), .ref (r 8), .ref (r 9), .ref (r 10), .int (nI rl), .ref (r 11), .ref (r 12), .ref (r 13), .ref (r 14), .int (nI rw), .ref (r 15), .long gv])), ((r 1), .inl (cI, 16, .inl rp)), ((r 2), .inl (cI, 64, .inl rk)), ((r 3), .inl (cI, 64, .inl ow)), ((r 4), .inl (cI, 64, .inl rn)), ((r 5), .inl (cI, 64, .inl ct)), ((r 6), .inl (cI, 256, .inl rt)), ((r 7), .inl (cI, 4, .inl ki)), ((r 8), .inl (cL, 4, .inr (.inl rb))), ((r 9), .inl (cI, 4, .inl aq)), ((r 10), .inl (cZ, 64, .inl cd)), ((r 11), .inl (cI, 64, .inl g1)), ((r 12), .inl (cI, 64, .inl g2)), ((r 13), .inl (cI, 64, .inl g3)), ((r 14), .inl (cL, 256, .inr (.inl gw))), ((r 15), .inl (cL, 64, .inr (.inl an)))] (va_A [((r 0), .inr (7, [.int th, .int (nI rc), .ref (r 1), .int (nI ro), .ref (r 2), .int (nI rm), .ref (r 3), .ref (r 4), .ref (r 5), .ref (r 6), .int (nI ra), .ref (r 7), .ref (r 8), .ref (r 9), .ref (r 10), .int (nI rl), .ref (r 11), .ref (r 12), .ref (r 13), .ref (r 14), .int (nI rw), .ref (r 15), .long gv])), ((r 1), .inl (cI, 16, .inl rp)), ((r 2), .inl (cI, 64, .inl rk)), ((r 3), .inl (cI, 64, .inl ow)), ((r 4), .inl (cI, 64, .inl rn)), ((r 5), .inl (cI, 64, .inl ct)), ((r 6), .inl (cI, 256, .inl rt)), ((r 7), .inl (cI, 4, .inl ki)), ((r 8), .inl (cL, 4, .inr (.inl rb))), ((r 9), .inl (cI, 4, .inl aq)), ((r 10), .inl (cZ, 64, .inl cd)), ((r 11), .inl (cI, 64, .inl g1)), ((r 12), .inl (cI, 64, .inl g2)), ((r 13), .inl (cI, 64, .inl g3)), ((r 14), .inl (cL, 256, .inr (.inl gw))), ((r 15), .inl (cL, 64, .inr (.inl an)))] sz)) 0 0 (va_A [((r 0), .inr (7, [.int th, .int (nI rc), .ref (r 1), .int (nI ro), .ref (r 2), .int (nI rm), .ref (r 3), .ref (r 4), .ref (r 5), .ref (r 6), .int (nI ra), .ref (r 7), .ref (r 8), .ref (r 9), .ref (r 10), .int (nI rl), .ref (r 11), .ref (r 12), .ref (r 13), .ref (r 14), .int (nI rw), .ref (r 15), .long gv])), ((r 1), .inl (cI, 16, .inl rp)), ((r 2), .inl (cI, 64, .inl rk)), ((r 3), .inl (cI, 64, .inl ow)), ((r 4), .inl (cI, 64, .inl rn)), ((r 5), .inl (cI, 64, .inl ct)), ((r 6), .inl (cI, 256, .inl rt)), ((r 7), .inl (cI, 4, .inl ki)), ((r 8), .inl (cL, 4, .inr (.inl rb))), ((r 9), .inl (cI, 4, .inl aq)), ((r 10), .inl (cZ, 64, .inl cd)), ((r 11), .inl (cI, 64, .inl g1)), ((r 12), .inl (cI, 64, .inl g2)), ((r 13), .inl (cI, 64, .inl g3)), ((r 14), .inl (cL, 256, .inr (.inl gw))), ((r 15), .inl (cL, 64, .inr (.inl an)))] sz) := by
  refine Met.ofW (cc := kc_R_argument) (maxL := 5) (ret := (some .int)) (by decide) rfl ?_
  intro p e s m args below meth c s₁ B hml hv
  obtain ⟨rfl, hsz, hC, hP, hD0⟩ := hv
  have hx := B.exec
  have hb := B.bytes
  have hr := B.returns
  have hlocks := B.notSynchronized
  have hown : s.vm.findClass "HostBridgeModel" = some m.cls := findClass_of_methodNamed B.named
  subst hsz
  have hD := hD0.self (sz := s.heap.size)
  generalize hAe : va_A [((r 0), .inr (7, [.int th, .int (nI rc), .ref (r 1), .int (nI ro), .ref (r 2), .int (nI rm), .ref (r 3), .ref (r 4), .ref (r 5), .ref (r 6), .int (nI ra), .ref (r 7), .ref (r 8), .ref (r 9), .ref (r 10), .int (nI rl), .ref (r 11), .ref (r 12), .ref (r 13), .ref (r 14), .int (nI rw), .ref (r 15), .long gv])), ((r 1), .inl (cI, 16, .inl rp)), ((r 2), .inl (cI, 64, .inl rk)), ((r 3), .inl (cI, 64, .inl ow)), ((r 4), .inl (cI, 64, .inl rn)), ((r 5), .inl (cI, 64, .inl ct)), ((r 6), .inl (cI, 256, .inl rt)), ((r 7), .inl (cI, 4, .inl ki)), ((r 8), .inl (cL, 4, .inr (.inl rb))), ((r 9), .inl (cI, 4, .inl aq)), ((r 10), .inl (cZ, 64, .inl cd)), ((r 11), .inl (cI, 64, .inl g1)), ((r 12), .inl (cI, 64, .inl g2)), ((r 13), .inl (cI, 64, .inl g3)), ((r 14), .inl (cL, 256, .inr (.inl gw))), ((r 15), .inl (cL, 64, .inr (.inl an)))] s.heap.size = A at hD hC ⊢
  have hA : ∀ q : Nat, s.heap.size ≤ q → A q := fun q h => by rw [← hAe]; exact Or.inr h
  have hS : va_S A s.heap s.heap [] := va_S.rf
  have hK := hC.K
  have hts := hC.ts [.ref (r 0), .int k, .long b].toArray
  have hl := lv_entry ([.ref (r 0), .int k, .long b]) (n := 5) (Nat.le_of_ble_eq_true rfl)
  rw [lg_entry_eq]
  generalize (lg_sl ([.ref (r 0), .int k, .long b]) ++ List.replicate (5 - (lg_sl ([.ref (r 0), .int k, .long b])).length) Slot.unset).toArray = ls at hl ⊢
  have hl : lv_has ls 5 [(0, .ref (r 0)), (1, .int k), (2, .long b)] := hl
  refine hx_cut (pc2 := 69) (ls2 := ls) (rest2 := []) (P := fun x => x = b2_ (ab_ ro k b)) ?_ (fun hj1 => ?_)
  · intro x2 e3
    obtain rfl : x2 = 1 := by rw [e3, hv]; rfl
    refine lv_istore (lv' := [(4, .int 1), (0, .ref (r 0)), (1, .int k), (2, .long b)]) hx hb kd_R_argument_69 hl (by decide) rfl (fun ls hl => ?_)
    refine lv_aload_n hx hb kd_R_argument_71 rfl (lv_at hl 1 rfl) ?_
    refine lv_iload hx hb kd_R_argument_72 (lv_at hl 0 rfl) ?_
    refine lv_iload hx hb kd_R_argument_74 (lv_at hl 0 rfl) ?_
    refine lv_if_ne (tgt := 91) hx hb kd_R_argument_76 (by decide) (fun c_76 => ?_) (fun c_76 => ?_)
    · skip
      refine lv_iconst (v := 0) hx hb kd_R_argument_91 (by decide) ?_
      refine lv_iconst (v := 0) hx hb kd_R_argument_92 (by decide) ?_
      refine hx_callWi (va_runV (As := [.int 1, .int 0, .int 0]) (rest := []) ⟨hx, hb, hml, hown, hts⟩ (mr_throwing1 r rc ro rm ra rl rw th gv rp rk ow rn ct rt ki aq cd g1 g2 g3 rb gw an _) (cwV 3 hts (goodIn_sub (hx_m5 km_703 km_705 kv_R_throwing km_8 km_706) (by decide +kernel)) rfl rfl rfl (by decide +kernel) ⟨Nat.le_of_ble_eq_true rfl, Nat.le_of_ble_eq_true rfl⟩) (pw_V (hC.S hS) hP hD hS hA [0] (by decide) rfl (ci := 7) rfl (q0 := 0) rfl) rfl rfl hl.1 rfl (lv_room (Nat.le_of_ble_eq_true rfl)) kd_R_argument_93 ⟨Nat.le_of_ble_eq_true rfl, Nat.le_of_ble_eq_true rfl⟩) hP hD hS hA [0] rfl rfl (fun H locs hP hD hS hF => ?_)
      have hP : va_P D cl_all [((r 0), .inr (7, [.int 1, .int (nI rc), .ref (r 1), .int (nI ro), .ref (r 2), .int (nI rm), .ref (r 3), .ref (r 4), .ref (r 5), .ref (r 6), .int (nI ra), .ref (r 7), .ref (r 8), .ref (r 9), .ref (r 10), .int (nI rl), .ref (r 11), .ref (r 12), .ref (r 13), .ref (r 14), .int (nI rw), .ref (r 15), .long gv])), ((r 1), .inl (cI, 16, .inl rp)), ((r 2), .inl (cI, 64, .inl rk)), ((r 3), .inl (cI, 64, .inl ow)), ((r 4), .inl (cI, 64, .inl rn)), ((r 5), .inl (cI, 64, .inl ct)), ((r 6), .inl (cI, 256, .inl rt)), ((r 7), .inl (cI, 4, .inl ki)), ((r 8), .inl (cL, 4, .inr (.inl rb))), ((r 9), .inl (cI, 4, .inl aq)), ((r 10), .inl (cZ, 64, .inl cd)), ((r 11), .inl (cI, 64, .inl g1)), ((r 12), .inl (cI, 64, .inl g2)), ((r 13), .inl (cI, 64, .inl g3)), ((r 14), .inl (cL, 256, .inr (.inl gw))), ((r 15), .inl (cL, 64, .inr (.inl an)))] H := hP
      have hD : va_D A [((r 0), .inr (7, [.int 1, .int (nI rc), .ref (r 1), .int (nI ro), .ref (r 2), .int (nI rm), .ref (r 3), .ref (r 4), .ref (r 5), .ref (r 6), .int (nI ra), .ref (r 7), .ref (r 8), .ref (r 9), .ref (r 10), .int (nI rl), .ref (r 11), .ref (r 12), .ref (r 13), .ref (r 14), .int (nI rw), .ref (r 15), .long gv])), ((r 1), .inl (cI, 16, .inl rp)), ((r 2), .inl (cI, 64, .inl rk)), ((r 3), .inl (cI, 64, .inl ow)), ((r 4), .inl (cI, 64, .inl rn)), ((r 5), .inl (cI, 64, .inl ct)), ((r 6), .inl (cI, 256, .inl rt)), ((r 7), .inl (cI, 4, .inl ki)), ((r 8), .inl (cL, 4, .inr (.inl rb))), ((r 9), .inl (cI, 4, .inl aq)), ((r 10), .inl (cZ, 64, .inl cd)), ((r 11), .inl (cI, 64, .inl g1)), ((r 12), .inl (cI, 64, .inl g2)), ((r 13), .inl (cI, 64, .inl g3)), ((r 14), .inl (cL, 256, .inr (.inl gw))), ((r 15), .inl (cL, 64, .inr (.inl an)))] := hD
      refine hx_topi (y := 1) (rfl) ?_
      refine lv_if_eq (tgt := 101) hx hb kd_R_argument_96 (by decide) (fun c_96 => ?_) (fun c_96 => ?_)
      · exact absurd c_96 (by decide)
      · skip
        refine lv_iconst (v := 0) hx hb kd_R_argument_99 (by decide) ?_
        exact hx_iretW hx hb hr hlocks (rfl) (hP) hS kd_R_argument_100
    · exact absurd c_76 (by decide)
  · skip
    refine lv_iload_n hx hb kd_R_argument_0 rfl (lv_at hl 1 rfl) ?_
    refine lv_bipush (v := 7) hx hb kd_R_argument_1 (by decide) ?_
    refine hx_callRi (va_runS (As := [.int k, .int 7]) (rest := []) ⟨hx, hb, hml, hown, hts⟩ (mr_isNo k 7) (va_cwS 2 hts (goodIn_sub (hx_m4 km_700 km_701 km_8 km_702) (by decide +kernel)) rfl rfl rfl (by decide +kernel) ⟨Nat.le_of_ble_eq_true rfl, Nat.le_of_ble_eq_true rfl⟩) (pr_S (hC.S hS) hP [] rfl) rfl rfl hl.1 rfl (lv_room (Nat.le_of_ble_eq_true rfl)) kd_R_argument_3 ⟨Nat.le_of_ble_eq_true rfl, Nat.le_of_ble_eq_true rfl⟩) ?_
    refine lv_if_ne (tgt := 64) hx hb kd_R_argument_6 (by decide) (fun c_6 => ?_) (fun c_6 => ?_)
    · skip
      have h6 : fb_in k 7 = false := by simpa using b2_t c_6
      refine lv_iconst (v := 1) hx hb kd_R_argument_64 (by decide) ?_
      refine lv_goto (tgt := 69) hx hb kd_R_argument_65 (by decide) ?_
      exact hj1 _ (by rw [ab_, h6]; simp [b2_])
    · skip
      have h6 : fb_in k 7 = true := by simpa using b2_f c_6
      refine lv_iload_n hx hb kd_R_argument_9 rfl (lv_at hl 1 rfl) ?_
      refine lv_iconst (v := 2) hx hb kd_R_argument_10 (by decide) ?_
      refine lv_icmp_ne (tgt := 26) hx hb kd_R_argument_11 (by decide) (fun c_11 => ?_) (fun c_11 => ?_)
      · skip
        refine lv_iload_n hx hb kd_R_argument_26 rfl (lv_at hl 1 rfl) ?_
        refine lv_iconst (v := 4) hx hb kd_R_argument_27 (by decide) ?_
        refine lv_icmp_eq (tgt := 37) hx hb kd_R_argument_28 (by decide) (fun c_28 => ?_) (fun c_28 => ?_)
        · skip
          refine lv_lload_n hx hb kd_R_argument_37 rfl (lv_at hl 2 rfl) ?_
          refine lv_lconst (v := 0) hx hb kd_R_argument_38 (by decide) ?_
          refine W.lcmp hx hb kd_R_argument_39 ?_
          refine lv_if_lt (tgt := 64) hx hb kd_R_argument_40 (by decide) (fun c_40 => ?_) (fun c_40 => ?_)
          · skip
            refine lv_iconst (v := 1) hx hb kd_R_argument_64 (by decide) ?_
            refine lv_goto (tgt := 69) hx hb kd_R_argument_65 (by decide) ?_
            exact hj1 _ (by rw [ab_, h6]; simp [b2_, c_11, c_28, c_40])
          · skip
            refine lv_iload_n hx hb kd_R_argument_43 rfl (lv_at hl 1 rfl) ?_
            refine lv_iconst (v := 5) hx hb kd_R_argument_44 (by decide) ?_
            refine lv_icmp_ne (tgt := 68) hx hb kd_R_argument_45 (by decide) (fun c_45 => ?_) (fun c_45 => ?_)
            · skip
              refine lv_iconst (v := 0) hx hb kd_R_argument_68 (by decide) ?_
              exact hj1 _ (by rw [ab_, h6]; simp [b2_, c_11, c_28, c_40, c_45])
            · skip
              refine lv_lload_n hx hb kd_R_argument_48 rfl (lv_at hl 2 rfl) ?_
              refine lv_lconst (v := 0) hx hb kd_R_argument_49 (by decide) ?_
              refine W.lcmp hx hb kd_R_argument_50 ?_
              refine lv_if_lt (tgt := 64) hx hb kd_R_argument_51 (by decide) (fun c_51 => ?_) (fun c_51 => ?_)
              · skip
                refine lv_iconst (v := 1) hx hb kd_R_argument_64 (by decide) ?_
                refine lv_goto (tgt := 69) hx hb kd_R_argument_65 (by decide) ?_
                exact hj1 _ (absurd (c_28.symm.trans c_45) (by decide))
              · skip
                refine lv_lload_n hx hb kd_R_argument_54 rfl (lv_at hl 2 rfl) ?_
                refine lv_aload_n hx hb kd_R_argument_55 rfl (lv_at hl 0 rfl) ?_
                refine va_get (D := D) (ci := 7) (v := .int (nI ro)) (C := "HostBridgeModel") (T := ct_R) (N := 23) hx hb hts cw_R hown hK hP 0 rfl rfl 3 (by decide) (hts _ km_624) (fun _ h9 => h9) rfl kd_R_argument_56 ?_
                refine lv_i2l hx hb kd_R_argument_59 rfl ?_
                refine W.lcmp hx hb kd_R_argument_60 ?_
                refine lv_if_lt (tgt := 68) hx hb kd_R_argument_61 (by decide) (fun c_61 => ?_) (fun c_61 => ?_)
                · skip
                  refine lv_iconst (v := 0) hx hb kd_R_argument_68 (by decide) ?_
                  exact hj1 _ (absurd (c_28.symm.trans c_45) (by decide))
                · skip
                  refine lv_iconst (v := 1) hx hb kd_R_argument_64 (by decide) ?_
                  refine lv_goto (tgt := 69) hx hb kd_R_argument_65 (by decide) ?_
                  exact hj1 _ (absurd (c_28.symm.trans c_45) (by decide))
        · skip
          refine lv_iload_n hx hb kd_R_argument_31 rfl (lv_at hl 1 rfl) ?_
          refine lv_bipush (v := 6) hx hb kd_R_argument_32 (by decide) ?_
          refine lv_icmp_ne (tgt := 43) hx hb kd_R_argument_34 (by decide) (fun c_34 => ?_) (fun c_34 => ?_)
          · skip
            refine lv_iload_n hx hb kd_R_argument_43 rfl (lv_at hl 1 rfl) ?_
            refine lv_iconst (v := 5) hx hb kd_R_argument_44 (by decide) ?_
            refine lv_icmp_ne (tgt := 68) hx hb kd_R_argument_45 (by decide) (fun c_45 => ?_) (fun c_45 => ?_)
            · skip
              refine lv_iconst (v := 0) hx hb kd_R_argument_68 (by decide) ?_
              exact hj1 _ (by rw [ab_, h6]; simp [b2_, c_11, c_28, c_34, c_45])
            · skip
              refine lv_lload_n hx hb kd_R_argument_48 rfl (lv_at hl 2 rfl) ?_
              refine lv_lconst (v := 0) hx hb kd_R_argument_49 (by decide) ?_
              refine W.lcmp hx hb kd_R_argument_50 ?_
              refine lv_if_lt (tgt := 64) hx hb kd_R_argument_51 (by decide) (fun c_51 => ?_) (fun c_51 => ?_)
              · skip
                refine lv_iconst (v := 1) hx hb kd_R_argument_64 (by decide) ?_
                refine lv_goto (tgt := 69) hx hb kd_R_argument_65 (by decide) ?_
                exact hj1 _ (by rw [ab_, h6]; simp [b2_, c_11, c_28, c_34, c_45, c_51])
              · skip
                refine lv_lload_n hx hb kd_R_argument_54 rfl (lv_at hl 2 rfl) ?_
                refine lv_aload_n hx hb kd_R_argument_55 rfl (lv_at hl 0 rfl) ?_
                refine va_get (D := D) (ci := 7) (v := .int (nI ro)) (C := "HostBridgeModel") (T := ct_R) (N := 23) hx hb hts cw_R hown hK hP 0 rfl rfl 3 (by decide) (hts _ km_624) (fun _ h9 => h9) rfl kd_R_argument_56 ?_
                refine lv_i2l hx hb kd_R_argument_59 rfl ?_
                refine W.lcmp hx hb kd_R_argument_60 ?_
                refine lv_if_lt (tgt := 68) hx hb kd_R_argument_61 (by decide) (fun c_61 => ?_) (fun c_61 => ?_)
                · skip
                  refine lv_iconst (v := 0) hx hb kd_R_argument_68 (by decide) ?_
                  exact hj1 _ (by rw [ab_, h6]; simp [b2_, c_11, c_28, c_34, c_45, c_51, c_61])
                · skip
                  refine lv_iconst (v := 1) hx hb kd_R_argument_64 (by decide) ?_
                  refine lv_goto (tgt := 69) hx hb kd_R_argument_65 (by decide) ?_
                  exact hj1 _ (by rw [ab_, h6]; simp [b2_, c_11, c_28, c_34, c_45, c_51, c_61])
          · skip
            refine lv_lload_n hx hb kd_R_argument_37 rfl (lv_at hl 2 rfl) ?_
            refine lv_lconst (v := 0) hx hb kd_R_argument_38 (by decide) ?_
            refine W.lcmp hx hb kd_R_argument_39 ?_
            refine lv_if_lt (tgt := 64) hx hb kd_R_argument_40 (by decide) (fun c_40 => ?_) (fun c_40 => ?_)
            · skip
              refine lv_iconst (v := 1) hx hb kd_R_argument_64 (by decide) ?_
              refine lv_goto (tgt := 69) hx hb kd_R_argument_65 (by decide) ?_
              exact hj1 _ (by rw [ab_, h6]; simp [b2_, c_11, c_28, c_34, c_40])
            · skip
              refine lv_iload_n hx hb kd_R_argument_43 rfl (lv_at hl 1 rfl) ?_
              refine lv_iconst (v := 5) hx hb kd_R_argument_44 (by decide) ?_
              refine lv_icmp_ne (tgt := 68) hx hb kd_R_argument_45 (by decide) (fun c_45 => ?_) (fun c_45 => ?_)
              · skip
                refine lv_iconst (v := 0) hx hb kd_R_argument_68 (by decide) ?_
                exact hj1 _ (by rw [ab_, h6]; simp [b2_, c_11, c_28, c_34, c_40, c_45])
              · skip
                refine lv_lload_n hx hb kd_R_argument_48 rfl (lv_at hl 2 rfl) ?_
                refine lv_lconst (v := 0) hx hb kd_R_argument_49 (by decide) ?_
                refine W.lcmp hx hb kd_R_argument_50 ?_
                refine lv_if_lt (tgt := 64) hx hb kd_R_argument_51 (by decide) (fun c_51 => ?_) (fun c_51 => ?_)
                · skip
                  refine lv_iconst (v := 1) hx hb kd_R_argument_64 (by decide) ?_
                  refine lv_goto (tgt := 69) hx hb kd_R_argument_65 (by decide) ?_
                  exact hj1 _ (absurd (c_34.symm.trans c_45) (by decide))
                · skip
                  refine lv_lload_n hx hb kd_R_argument_54 rfl (lv_at hl 2 rfl) ?_
                  refine lv_aload_n hx hb kd_R_argument_55 rfl (lv_at hl 0 rfl) ?_
                  refine va_get (D := D) (ci := 7) (v := .int (nI ro)) (C := "HostBridgeModel") (T := ct_R) (N := 23) hx hb hts cw_R hown hK hP 0 rfl rfl 3 (by decide) (hts _ km_624) (fun _ h9 => h9) rfl kd_R_argument_56 ?_
                  refine lv_i2l hx hb kd_R_argument_59 rfl ?_
                  refine W.lcmp hx hb kd_R_argument_60 ?_
                  refine lv_if_lt (tgt := 68) hx hb kd_R_argument_61 (by decide) (fun c_61 => ?_) (fun c_61 => ?_)
                  · skip
                    refine lv_iconst (v := 0) hx hb kd_R_argument_68 (by decide) ?_
                    exact hj1 _ (absurd (c_34.symm.trans c_45) (by decide))
                  · skip
                    refine lv_iconst (v := 1) hx hb kd_R_argument_64 (by decide) ?_
                    refine lv_goto (tgt := 69) hx hb kd_R_argument_65 (by decide) ?_
                    exact hj1 _ (absurd (c_34.symm.trans c_45) (by decide))
      · skip
        refine lv_lload_n hx hb kd_R_argument_14 rfl (lv_at hl 2 rfl) ?_
        refine lv_lconst (v := 0) hx hb kd_R_argument_15 (by decide) ?_
        refine W.lcmp hx hb kd_R_argument_16 ?_
        refine lv_if_eq (tgt := 26) hx hb kd_R_argument_17 (by decide) (fun c_17 => ?_) (fun c_17 => ?_)
        · skip
          refine lv_iload_n hx hb kd_R_argument_26 rfl (lv_at hl 1 rfl) ?_
          refine lv_iconst (v := 4) hx hb kd_R_argument_27 (by decide) ?_
          refine lv_icmp_eq (tgt := 37) hx hb kd_R_argument_28 (by decide) (fun c_28 => ?_) (fun c_28 => ?_)
          · skip
            refine lv_lload_n hx hb kd_R_argument_37 rfl (lv_at hl 2 rfl) ?_
            refine lv_lconst (v := 0) hx hb kd_R_argument_38 (by decide) ?_
            refine W.lcmp hx hb kd_R_argument_39 ?_
            refine lv_if_lt (tgt := 64) hx hb kd_R_argument_40 (by decide) (fun c_40 => ?_) (fun c_40 => ?_)
            · skip
              refine lv_iconst (v := 1) hx hb kd_R_argument_64 (by decide) ?_
              refine lv_goto (tgt := 69) hx hb kd_R_argument_65 (by decide) ?_
              exact hj1 _ (absurd (c_11.symm.trans c_28) (by decide))
            · skip
              refine lv_iload_n hx hb kd_R_argument_43 rfl (lv_at hl 1 rfl) ?_
              refine lv_iconst (v := 5) hx hb kd_R_argument_44 (by decide) ?_
              refine lv_icmp_ne (tgt := 68) hx hb kd_R_argument_45 (by decide) (fun c_45 => ?_) (fun c_45 => ?_)
              · skip
                refine lv_iconst (v := 0) hx hb kd_R_argument_68 (by decide) ?_
                exact hj1 _ (absurd (c_11.symm.trans c_28) (by decide))
              · skip
                refine lv_lload_n hx hb kd_R_argument_48 rfl (lv_at hl 2 rfl) ?_
                refine lv_lconst (v := 0) hx hb kd_R_argument_49 (by decide) ?_
                refine W.lcmp hx hb kd_R_argument_50 ?_
                refine lv_if_lt (tgt := 64) hx hb kd_R_argument_51 (by decide) (fun c_51 => ?_) (fun c_51 => ?_)
                · skip
                  refine lv_iconst (v := 1) hx hb kd_R_argument_64 (by decide) ?_
                  refine lv_goto (tgt := 69) hx hb kd_R_argument_65 (by decide) ?_
                  exact hj1 _ (absurd (c_11.symm.trans c_28) (by decide))
                · skip
                  refine lv_lload_n hx hb kd_R_argument_54 rfl (lv_at hl 2 rfl) ?_
                  refine lv_aload_n hx hb kd_R_argument_55 rfl (lv_at hl 0 rfl) ?_
                  refine va_get (D := D) (ci := 7) (v := .int (nI ro)) (C := "HostBridgeModel") (T := ct_R) (N := 23) hx hb hts cw_R hown hK hP 0 rfl rfl 3 (by decide) (hts _ km_624) (fun _ h9 => h9) rfl kd_R_argument_56 ?_
                  refine lv_i2l hx hb kd_R_argument_59 rfl ?_
                  refine W.lcmp hx hb kd_R_argument_60 ?_
                  refine lv_if_lt (tgt := 68) hx hb kd_R_argument_61 (by decide) (fun c_61 => ?_) (fun c_61 => ?_)
                  · skip
                    refine lv_iconst (v := 0) hx hb kd_R_argument_68 (by decide) ?_
                    exact hj1 _ (absurd (c_11.symm.trans c_28) (by decide))
                  · skip
                    refine lv_iconst (v := 1) hx hb kd_R_argument_64 (by decide) ?_
                    refine lv_goto (tgt := 69) hx hb kd_R_argument_65 (by decide) ?_
                    exact hj1 _ (absurd (c_11.symm.trans c_28) (by decide))
          · skip
            refine lv_iload_n hx hb kd_R_argument_31 rfl (lv_at hl 1 rfl) ?_
            refine lv_bipush (v := 6) hx hb kd_R_argument_32 (by decide) ?_
            refine lv_icmp_ne (tgt := 43) hx hb kd_R_argument_34 (by decide) (fun c_34 => ?_) (fun c_34 => ?_)
            · skip
              refine lv_iload_n hx hb kd_R_argument_43 rfl (lv_at hl 1 rfl) ?_
              refine lv_iconst (v := 5) hx hb kd_R_argument_44 (by decide) ?_
              refine lv_icmp_ne (tgt := 68) hx hb kd_R_argument_45 (by decide) (fun c_45 => ?_) (fun c_45 => ?_)
              · skip
                refine lv_iconst (v := 0) hx hb kd_R_argument_68 (by decide) ?_
                exact hj1 _ (by rw [ab_, h6]; simp [b2_, c_11, c_17, c_28, c_34, c_45])
              · skip
                refine lv_lload_n hx hb kd_R_argument_48 rfl (lv_at hl 2 rfl) ?_
                refine lv_lconst (v := 0) hx hb kd_R_argument_49 (by decide) ?_
                refine W.lcmp hx hb kd_R_argument_50 ?_
                refine lv_if_lt (tgt := 64) hx hb kd_R_argument_51 (by decide) (fun c_51 => ?_) (fun c_51 => ?_)
                · skip
                  refine lv_iconst (v := 1) hx hb kd_R_argument_64 (by decide) ?_
                  refine lv_goto (tgt := 69) hx hb kd_R_argument_65 (by decide) ?_
                  exact hj1 _ (absurd (c_11.symm.trans c_45) (by decide))
                · skip
                  refine lv_lload_n hx hb kd_R_argument_54 rfl (lv_at hl 2 rfl) ?_
                  refine lv_aload_n hx hb kd_R_argument_55 rfl (lv_at hl 0 rfl) ?_
                  refine va_get (D := D) (ci := 7) (v := .int (nI ro)) (C := "HostBridgeModel") (T := ct_R) (N := 23) hx hb hts cw_R hown hK hP 0 rfl rfl 3 (by decide) (hts _ km_624) (fun _ h9 => h9) rfl kd_R_argument_56 ?_
                  refine lv_i2l hx hb kd_R_argument_59 rfl ?_
                  refine W.lcmp hx hb kd_R_argument_60 ?_
                  refine lv_if_lt (tgt := 68) hx hb kd_R_argument_61 (by decide) (fun c_61 => ?_) (fun c_61 => ?_)
                  · skip
                    refine lv_iconst (v := 0) hx hb kd_R_argument_68 (by decide) ?_
                    exact hj1 _ (absurd (c_11.symm.trans c_45) (by decide))
                  · skip
                    refine lv_iconst (v := 1) hx hb kd_R_argument_64 (by decide) ?_
                    refine lv_goto (tgt := 69) hx hb kd_R_argument_65 (by decide) ?_
                    exact hj1 _ (absurd (c_11.symm.trans c_45) (by decide))
            · skip
              refine lv_lload_n hx hb kd_R_argument_37 rfl (lv_at hl 2 rfl) ?_
              refine lv_lconst (v := 0) hx hb kd_R_argument_38 (by decide) ?_
              refine W.lcmp hx hb kd_R_argument_39 ?_
              refine lv_if_lt (tgt := 64) hx hb kd_R_argument_40 (by decide) (fun c_40 => ?_) (fun c_40 => ?_)
              · skip
                refine lv_iconst (v := 1) hx hb kd_R_argument_64 (by decide) ?_
                refine lv_goto (tgt := 69) hx hb kd_R_argument_65 (by decide) ?_
                exact hj1 _ (absurd (c_11.symm.trans c_34) (by decide))
              · skip
                refine lv_iload_n hx hb kd_R_argument_43 rfl (lv_at hl 1 rfl) ?_
                refine lv_iconst (v := 5) hx hb kd_R_argument_44 (by decide) ?_
                refine lv_icmp_ne (tgt := 68) hx hb kd_R_argument_45 (by decide) (fun c_45 => ?_) (fun c_45 => ?_)
                · skip
                  refine lv_iconst (v := 0) hx hb kd_R_argument_68 (by decide) ?_
                  exact hj1 _ (absurd (c_11.symm.trans c_34) (by decide))
                · skip
                  refine lv_lload_n hx hb kd_R_argument_48 rfl (lv_at hl 2 rfl) ?_
                  refine lv_lconst (v := 0) hx hb kd_R_argument_49 (by decide) ?_
                  refine W.lcmp hx hb kd_R_argument_50 ?_
                  refine lv_if_lt (tgt := 64) hx hb kd_R_argument_51 (by decide) (fun c_51 => ?_) (fun c_51 => ?_)
                  · skip
                    refine lv_iconst (v := 1) hx hb kd_R_argument_64 (by decide) ?_
                    refine lv_goto (tgt := 69) hx hb kd_R_argument_65 (by decide) ?_
                    exact hj1 _ (absurd (c_11.symm.trans c_34) (by decide))
                  · skip
                    refine lv_lload_n hx hb kd_R_argument_54 rfl (lv_at hl 2 rfl) ?_
                    refine lv_aload_n hx hb kd_R_argument_55 rfl (lv_at hl 0 rfl) ?_
                    refine va_get (D := D) (ci := 7) (v := .int (nI ro)) (C := "HostBridgeModel") (T := ct_R) (N := 23) hx hb hts cw_R hown hK hP 0 rfl rfl 3 (by decide) (hts _ km_624) (fun _ h9 => h9) rfl kd_R_argument_56 ?_
                    refine lv_i2l hx hb kd_R_argument_59 rfl ?_
                    refine W.lcmp hx hb kd_R_argument_60 ?_
                    refine lv_if_lt (tgt := 68) hx hb kd_R_argument_61 (by decide) (fun c_61 => ?_) (fun c_61 => ?_)
                    · skip
                      refine lv_iconst (v := 0) hx hb kd_R_argument_68 (by decide) ?_
                      exact hj1 _ (absurd (c_11.symm.trans c_34) (by decide))
                    · skip
                      refine lv_iconst (v := 1) hx hb kd_R_argument_64 (by decide) ?_
                      refine lv_goto (tgt := 69) hx hb kd_R_argument_65 (by decide) ?_
                      exact hj1 _ (absurd (c_11.symm.trans c_34) (by decide))
        · skip
          refine lv_lload_n hx hb kd_R_argument_20 rfl (lv_at hl 2 rfl) ?_
          refine lv_lconst (v := 1) hx hb kd_R_argument_21 (by decide) ?_
          refine W.lcmp hx hb kd_R_argument_22 ?_
          refine lv_if_ne (tgt := 64) hx hb kd_R_argument_23 (by decide) (fun c_23 => ?_) (fun c_23 => ?_)
          · skip
            refine lv_iconst (v := 1) hx hb kd_R_argument_64 (by decide) ?_
            refine lv_goto (tgt := 69) hx hb kd_R_argument_65 (by decide) ?_
            exact hj1 _ (by rw [ab_, h6]; simp [b2_, c_11, c_17, c_23])
          · skip
            refine lv_iload_n hx hb kd_R_argument_26 rfl (lv_at hl 1 rfl) ?_
            refine lv_iconst (v := 4) hx hb kd_R_argument_27 (by decide) ?_
            refine lv_icmp_eq (tgt := 37) hx hb kd_R_argument_28 (by decide) (fun c_28 => ?_) (fun c_28 => ?_)
            · skip
              refine lv_lload_n hx hb kd_R_argument_37 rfl (lv_at hl 2 rfl) ?_
              refine lv_lconst (v := 0) hx hb kd_R_argument_38 (by decide) ?_
              refine W.lcmp hx hb kd_R_argument_39 ?_
              refine lv_if_lt (tgt := 64) hx hb kd_R_argument_40 (by decide) (fun c_40 => ?_) (fun c_40 => ?_)
              · skip
                refine lv_iconst (v := 1) hx hb kd_R_argument_64 (by decide) ?_
                refine lv_goto (tgt := 69) hx hb kd_R_argument_65 (by decide) ?_
                exact hj1 _ (absurd (c_11.symm.trans c_28) (by decide))
              · skip
                refine lv_iload_n hx hb kd_R_argument_43 rfl (lv_at hl 1 rfl) ?_
                refine lv_iconst (v := 5) hx hb kd_R_argument_44 (by decide) ?_
                refine lv_icmp_ne (tgt := 68) hx hb kd_R_argument_45 (by decide) (fun c_45 => ?_) (fun c_45 => ?_)
                · skip
                  refine lv_iconst (v := 0) hx hb kd_R_argument_68 (by decide) ?_
                  exact hj1 _ (absurd (c_11.symm.trans c_28) (by decide))
                · skip
                  refine lv_lload_n hx hb kd_R_argument_48 rfl (lv_at hl 2 rfl) ?_
                  refine lv_lconst (v := 0) hx hb kd_R_argument_49 (by decide) ?_
                  refine W.lcmp hx hb kd_R_argument_50 ?_
                  refine lv_if_lt (tgt := 64) hx hb kd_R_argument_51 (by decide) (fun c_51 => ?_) (fun c_51 => ?_)
                  · skip
                    refine lv_iconst (v := 1) hx hb kd_R_argument_64 (by decide) ?_
                    refine lv_goto (tgt := 69) hx hb kd_R_argument_65 (by decide) ?_
                    exact hj1 _ (absurd (c_11.symm.trans c_28) (by decide))
                  · skip
                    refine lv_lload_n hx hb kd_R_argument_54 rfl (lv_at hl 2 rfl) ?_
                    refine lv_aload_n hx hb kd_R_argument_55 rfl (lv_at hl 0 rfl) ?_
                    refine va_get (D := D) (ci := 7) (v := .int (nI ro)) (C := "HostBridgeModel") (T := ct_R) (N := 23) hx hb hts cw_R hown hK hP 0 rfl rfl 3 (by decide) (hts _ km_624) (fun _ h9 => h9) rfl kd_R_argument_56 ?_
                    refine lv_i2l hx hb kd_R_argument_59 rfl ?_
                    refine W.lcmp hx hb kd_R_argument_60 ?_
                    refine lv_if_lt (tgt := 68) hx hb kd_R_argument_61 (by decide) (fun c_61 => ?_) (fun c_61 => ?_)
                    · skip
                      refine lv_iconst (v := 0) hx hb kd_R_argument_68 (by decide) ?_
                      exact hj1 _ (absurd (c_11.symm.trans c_28) (by decide))
                    · skip
                      refine lv_iconst (v := 1) hx hb kd_R_argument_64 (by decide) ?_
                      refine lv_goto (tgt := 69) hx hb kd_R_argument_65 (by decide) ?_
                      exact hj1 _ (absurd (c_11.symm.trans c_28) (by decide))
            · skip
              refine lv_iload_n hx hb kd_R_argument_31 rfl (lv_at hl 1 rfl) ?_
              refine lv_bipush (v := 6) hx hb kd_R_argument_32 (by decide) ?_
              refine lv_icmp_ne (tgt := 43) hx hb kd_R_argument_34 (by decide) (fun c_34 => ?_) (fun c_34 => ?_)
              · skip
                refine lv_iload_n hx hb kd_R_argument_43 rfl (lv_at hl 1 rfl) ?_
                refine lv_iconst (v := 5) hx hb kd_R_argument_44 (by decide) ?_
                refine lv_icmp_ne (tgt := 68) hx hb kd_R_argument_45 (by decide) (fun c_45 => ?_) (fun c_45 => ?_)
                · skip
                  refine lv_iconst (v := 0) hx hb kd_R_argument_68 (by decide) ?_
                  exact hj1 _ (by rw [ab_, h6]; simp [b2_, c_11, c_17, c_23, c_28, c_34, c_45])
                · skip
                  refine lv_lload_n hx hb kd_R_argument_48 rfl (lv_at hl 2 rfl) ?_
                  refine lv_lconst (v := 0) hx hb kd_R_argument_49 (by decide) ?_
                  refine W.lcmp hx hb kd_R_argument_50 ?_
                  refine lv_if_lt (tgt := 64) hx hb kd_R_argument_51 (by decide) (fun c_51 => ?_) (fun c_51 => ?_)
                  · skip
                    refine lv_iconst (v := 1) hx hb kd_R_argument_64 (by decide) ?_
                    refine lv_goto (tgt := 69) hx hb kd_R_argument_65 (by decide) ?_
                    exact hj1 _ (absurd (c_11.symm.trans c_45) (by decide))
                  · skip
                    refine lv_lload_n hx hb kd_R_argument_54 rfl (lv_at hl 2 rfl) ?_
                    refine lv_aload_n hx hb kd_R_argument_55 rfl (lv_at hl 0 rfl) ?_
                    refine va_get (D := D) (ci := 7) (v := .int (nI ro)) (C := "HostBridgeModel") (T := ct_R) (N := 23) hx hb hts cw_R hown hK hP 0 rfl rfl 3 (by decide) (hts _ km_624) (fun _ h9 => h9) rfl kd_R_argument_56 ?_
                    refine lv_i2l hx hb kd_R_argument_59 rfl ?_
                    refine W.lcmp hx hb kd_R_argument_60 ?_
                    refine lv_if_lt (tgt := 68) hx hb kd_R_argument_61 (by decide) (fun c_61 => ?_) (fun c_61 => ?_)
                    · skip
                      refine lv_iconst (v := 0) hx hb kd_R_argument_68 (by decide) ?_
                      exact hj1 _ (absurd (c_11.symm.trans c_45) (by decide))
                    · skip
                      refine lv_iconst (v := 1) hx hb kd_R_argument_64 (by decide) ?_
                      refine lv_goto (tgt := 69) hx hb kd_R_argument_65 (by decide) ?_
                      exact hj1 _ (absurd (c_11.symm.trans c_45) (by decide))
              · skip
                refine lv_lload_n hx hb kd_R_argument_37 rfl (lv_at hl 2 rfl) ?_
                refine lv_lconst (v := 0) hx hb kd_R_argument_38 (by decide) ?_
                refine W.lcmp hx hb kd_R_argument_39 ?_
                refine lv_if_lt (tgt := 64) hx hb kd_R_argument_40 (by decide) (fun c_40 => ?_) (fun c_40 => ?_)
                · skip
                  refine lv_iconst (v := 1) hx hb kd_R_argument_64 (by decide) ?_
                  refine lv_goto (tgt := 69) hx hb kd_R_argument_65 (by decide) ?_
                  exact hj1 _ (absurd (c_11.symm.trans c_34) (by decide))
                · skip
                  refine lv_iload_n hx hb kd_R_argument_43 rfl (lv_at hl 1 rfl) ?_
                  refine lv_iconst (v := 5) hx hb kd_R_argument_44 (by decide) ?_
                  refine lv_icmp_ne (tgt := 68) hx hb kd_R_argument_45 (by decide) (fun c_45 => ?_) (fun c_45 => ?_)
                  · skip
                    refine lv_iconst (v := 0) hx hb kd_R_argument_68 (by decide) ?_
                    exact hj1 _ (absurd (c_11.symm.trans c_34) (by decide))
                  · skip
                    refine lv_lload_n hx hb kd_R_argument_48 rfl (lv_at hl 2 rfl) ?_
                    refine lv_lconst (v := 0) hx hb kd_R_argument_49 (by decide) ?_
                    refine W.lcmp hx hb kd_R_argument_50 ?_
                    refine lv_if_lt (tgt := 64) hx hb kd_R_argument_51 (by decide) (fun c_51 => ?_) (fun c_51 => ?_)
                    · skip
                      refine lv_iconst (v := 1) hx hb kd_R_argument_64 (by decide) ?_
                      refine lv_goto (tgt := 69) hx hb kd_R_argument_65 (by decide) ?_
                      exact hj1 _ (absurd (c_11.symm.trans c_34) (by decide))
                    · skip
                      refine lv_lload_n hx hb kd_R_argument_54 rfl (lv_at hl 2 rfl) ?_
                      refine lv_aload_n hx hb kd_R_argument_55 rfl (lv_at hl 0 rfl) ?_
                      refine va_get (D := D) (ci := 7) (v := .int (nI ro)) (C := "HostBridgeModel") (T := ct_R) (N := 23) hx hb hts cw_R hown hK hP 0 rfl rfl 3 (by decide) (hts _ km_624) (fun _ h9 => h9) rfl kd_R_argument_56 ?_
                      refine lv_i2l hx hb kd_R_argument_59 rfl ?_
                      refine W.lcmp hx hb kd_R_argument_60 ?_
                      refine lv_if_lt (tgt := 68) hx hb kd_R_argument_61 (by decide) (fun c_61 => ?_) (fun c_61 => ?_)
                      · skip
                        refine lv_iconst (v := 0) hx hb kd_R_argument_68 (by decide) ?_
                        exact hj1 _ (absurd (c_11.symm.trans c_34) (by decide))
                      · skip
                        refine lv_iconst (v := 1) hx hb kd_R_argument_64 (by decide) ?_
                        refine lv_goto (tgt := 69) hx hb kd_R_argument_65 (by decide) ?_
                        exact hj1 _ (absurd (c_11.symm.trans c_34) (by decide))

set_option maxHeartbeats 4000000 in
set_option maxRecDepth 100000 in
theorem mr_argument2 {l : Launch} {D : va_G} {cI cL cZ : ClassId} {tb : Nat} (r : Nat → Nat) (rc ro rm ra rl rw : Nat) (th : Int32) (gv : Int64) (rp rk ow rn ct rt ki aq cd g1 g2 g3 : Nat → Int32) (rb gw an : Nat → Int64) (k : Int32) (b : Int64) (hv : ab_ ro k b = false) (hn : ra = 4) (sz : Nat) : Met l ky_R_argument kw_R_argument { frames := 1, cells := 0, slots := 0, locals := 23 } (pw_P D cI cL cZ tb [((r 0), .inr (7, [.int th, .int (nI rc), .ref (r 1), .int (nI ro), .ref (r 2), .int (nI rm), .ref (r 3), .ref (r 4), .ref (r 5), .ref (r 6), .int (nI ra), .ref (r 7), .ref (r 8), .ref (r 9), .ref (r 10), .int (nI rl), .ref (r 11), .ref (r 12), .ref (r 13), .ref (r 14), .int (nI rw), .ref (r 15), .long gv])), ((r 1), .inl (cI, 16, .inl rp)), ((r 2), .inl (cI, 64, .inl rk)), ((r 3), .inl (cI, 64, .inl ow)), ((r 4), .inl (cI, 64, .inl rn)), ((r 5), .inl (cI, 64, .inl ct)), ((r 6), .inl (cI, 256, .inl rt)), ((r 7), .inl (cI, 4, .inl ki)), ((r 8), .inl (cL, 4, .inr (.inl rb))), ((r 9), .inl (cI, 4, .inl aq)), ((r 10), .inl (cZ, 64, .inl cd)), ((r 11), .inl (cI, 64, .inl g1)), ((r 12), .inl (cI, 64, .inl g2)), ((r 13), .inl (cI, 64, .inl g3)), ((r 14), .inl (cL, 256, .inr (.inl gw))), ((r 15), .inl (cL, 64, .inr (.inl an)))] sz [.ref (r 0), .int k, .long b]) (hx_QW D (some (.int 0)) [((r 0), .inr (7, [.int 2, .int (nI rc), .ref (r 1), .int (nI ro), .ref (r 2), .int (nI rm), .ref (r 3), .ref (r 4), .ref (r 5), .ref (r 6), .int (nI ra), .ref (r 7), .ref (r 8), .ref (r 9), .ref (r 10), .int (nI rl), .ref (r 11), .ref (r 12), .ref (r 13), .ref (r 14), .int (nI rw), .ref (r 15), .long gv])), ((r 1), .inl (cI, 16, .inl rp)), ((r 2), .inl (cI, 64, .inl rk)), ((r 3), .inl (cI, 64, .inl ow)), ((r 4), .inl (cI, 64, .inl rn)), ((r 5), .inl (cI, 64, .inl ct)), ((r 6), .inl (cI, 256, .inl rt)), ((r 7), .inl (cI, 4, .inl ki)), ((r 8), .inl (cL, 4, .inr (.inl rb))), ((r 9), .inl (cI, 4, .inl aq)), ((r 10), .inl (cZ, 64, .inl cd)), ((r 11), .inl (cI, 64, .inl g1)), ((r 12), .inl (cI, 64, .inl g2)), ((r 13), .inl (cI, 64, .inl g3)), ((r 14), .inl (cL, 256, .inr (.inl gw))), ((r 15), .inl (cL, 64, .inr (.inl an)))] (va_A [((r 0), .inr (7, [.int th, .int (nI rc), .ref (r 1), .int (nI ro), .ref (r 2), .int (nI rm), .ref (r 3), .ref (r 4), .ref (r 5), .ref (r 6), .int (nI ra), .ref (r 7), .ref (r 8), .ref (r 9), .ref (r 10), .int (nI rl), .ref (r 11), .ref (r 12), .ref (r 13), .ref (r 14), .int (nI rw), .ref (r 15), .long gv])), ((r 1), .inl (cI, 16, .inl rp)), ((r 2), .inl (cI, 64, .inl rk)), ((r 3), .inl (cI, 64, .inl ow)), ((r 4), .inl (cI, 64, .inl rn)), ((r 5), .inl (cI, 64, .inl ct)), ((r 6), .inl (cI, 256, .inl rt)), ((r 7), .inl (cI, 4, .inl ki)), ((r 8), .inl (cL, 4, .inr (.inl rb))), ((r 9), .inl (cI, 4, .inl aq)), ((r 10), .inl (cZ, 64, .inl cd)), ((r 11), .inl (cI, 64, .inl g1)), ((r 12), .inl (cI, 64, .inl g2)), ((r 13), .inl (cI, 64, .inl g3)), ((r 14), .inl (cL, 256, .inr (.inl gw))), ((r 15), .inl (cL, 64, .inr (.inl an)))] sz)) 0 0 (va_A [((r 0), .inr (7, [.int th, .int (nI rc), .ref (r 1), .int (nI ro), .ref (r 2), .int (nI rm), .ref (r 3), .ref (r 4), .ref (r 5), .ref (r 6), .int (nI ra), .ref (r 7), .ref (r 8), .ref (r 9), .ref (r 10), .int (nI rl), .ref (r 11), .ref (r 12), .ref (r 13), .ref (r 14), .int (nI rw), .ref (r 15), .long gv])), ((r 1), .inl (cI, 16, .inl rp)), ((r 2), .inl (cI, 64, .inl rk)), ((r 3), .inl (cI, 64, .inl ow)), ((r 4), .inl (cI, 64, .inl rn)), ((r 5), .inl (cI, 64, .inl ct)), ((r 6), .inl (cI, 256, .inl rt)), ((r 7), .inl (cI, 4, .inl ki)), ((r 8), .inl (cL, 4, .inr (.inl rb))), ((r 9), .inl (cI, 4, .inl aq)), ((r 10), .inl (cZ, 64, .inl cd)), ((r 11), .inl (cI, 64, .inl g1)), ((r 12), .inl (cI, 64, .inl g2)), ((r 13), .inl (cI, 64, .inl g3)), ((r 14), .inl (cL, 256, .inr (.inl gw))), ((r 15), .inl (cL, 64, .inr (.inl an)))] sz) := by
  refine Met.ofW (cc := kc_R_argument) (maxL := 5) (ret := (some .int)) (by decide) rfl ?_
  intro p e s m args below meth c s₁ B hml hv
  obtain ⟨rfl, hsz, hC, hP, hD0⟩ := hv
  have hx := B.exec
  have hb := B.bytes
  have hr := B.returns
  have hlocks := B.notSynchronized
  have hown : s.vm.findClass "HostBridgeModel" = some m.cls := findClass_of_methodNamed B.named
  subst hsz
  have hD := hD0.self (sz := s.heap.size)
  generalize hAe : va_A [((r 0), .inr (7, [.int th, .int (nI rc), .ref (r 1), .int (nI ro), .ref (r 2), .int (nI rm), .ref (r 3), .ref (r 4), .ref (r 5), .ref (r 6), .int (nI ra), .ref (r 7), .ref (r 8), .ref (r 9), .ref (r 10), .int (nI rl), .ref (r 11), .ref (r 12), .ref (r 13), .ref (r 14), .int (nI rw), .ref (r 15), .long gv])), ((r 1), .inl (cI, 16, .inl rp)), ((r 2), .inl (cI, 64, .inl rk)), ((r 3), .inl (cI, 64, .inl ow)), ((r 4), .inl (cI, 64, .inl rn)), ((r 5), .inl (cI, 64, .inl ct)), ((r 6), .inl (cI, 256, .inl rt)), ((r 7), .inl (cI, 4, .inl ki)), ((r 8), .inl (cL, 4, .inr (.inl rb))), ((r 9), .inl (cI, 4, .inl aq)), ((r 10), .inl (cZ, 64, .inl cd)), ((r 11), .inl (cI, 64, .inl g1)), ((r 12), .inl (cI, 64, .inl g2)), ((r 13), .inl (cI, 64, .inl g3)), ((r 14), .inl (cL, 256, .inr (.inl gw))), ((r 15), .inl (cL, 64, .inr (.inl an)))] s.heap.size = A at hD hC ⊢
  have hA : ∀ q : Nat, s.heap.size ≤ q → A q := fun q h => by rw [← hAe]; exact Or.inr h
  have hS : va_S A s.heap s.heap [] := va_S.rf
  have hK := hC.K
  have hts := hC.ts [.ref (r 0), .int k, .long b].toArray
  have hl := lv_entry ([.ref (r 0), .int k, .long b]) (n := 5) (Nat.le_of_ble_eq_true rfl)
  rw [lg_entry_eq]
  generalize (lg_sl ([.ref (r 0), .int k, .long b]) ++ List.replicate (5 - (lg_sl ([.ref (r 0), .int k, .long b])).length) Slot.unset).toArray = ls at hl ⊢
  have hl : lv_has ls 5 [(0, .ref (r 0)), (1, .int k), (2, .long b)] := hl
  refine hx_cut (pc2 := 69) (ls2 := ls) (rest2 := []) (P := fun x => x = b2_ (ab_ ro k b)) ?_ (fun hj1 => ?_)
  · intro x2 e3
    obtain rfl : x2 = 0 := by rw [e3, hv]; rfl
    refine lv_istore (lv' := [(4, .int 0), (0, .ref (r 0)), (1, .int k), (2, .long b)]) hx hb kd_R_argument_69 hl (by decide) rfl (fun ls hl => ?_)
    refine lv_aload_n hx hb kd_R_argument_71 rfl (lv_at hl 1 rfl) ?_
    refine lv_iload hx hb kd_R_argument_72 (lv_at hl 0 rfl) ?_
    refine lv_iload hx hb kd_R_argument_74 (lv_at hl 0 rfl) ?_
    refine lv_if_ne (tgt := 91) hx hb kd_R_argument_76 (by decide) (fun c_76 => ?_) (fun c_76 => ?_)
    · exact absurd c_76 (not_not_intro rfl)
    · skip
      refine lv_aload_n hx hb kd_R_argument_79 rfl (lv_at hl 1 rfl) ?_
      refine va_get (D := D) (ci := 7) (v := .int (nI ra)) (C := "HostBridgeModel") (T := ct_R) (N := 23) hx hb hts cw_R hown hK hP 0 rfl rfl 10 (by decide) (hts _ km_631) (fun _ h9 => h9) rfl kd_R_argument_80 ?_
      refine lv_iconst (v := 4) hx hb kd_R_argument_83 (by decide) ?_
      refine lv_icmp_ne (tgt := 91) hx hb kd_R_argument_84 (by decide) (fun c_84 => ?_) (fun c_84 => ?_)
      · exact absurd c_84 (not_not_intro (by rw [hn]; rfl))
      · skip
        refine lv_iconst (v := 1) hx hb kd_R_argument_87 (by decide) ?_
        refine lv_goto (tgt := 92) hx hb kd_R_argument_88 (by decide) ?_
        refine lv_iconst (v := 0) hx hb kd_R_argument_92 (by decide) ?_
        refine hx_callWi (va_runV (As := [.int 0, .int 1, .int 0]) (rest := []) ⟨hx, hb, hml, hown, hts⟩ (mr_throwing2 r rc ro rm ra rl rw th gv rp rk ow rn ct rt ki aq cd g1 g2 g3 rb gw an _) (cwV 3 hts (goodIn_sub (hx_m5 km_703 km_705 kv_R_throwing km_8 km_706) (by decide +kernel)) rfl rfl rfl (by decide +kernel) ⟨Nat.le_of_ble_eq_true rfl, Nat.le_of_ble_eq_true rfl⟩) (pw_V (hC.S hS) hP hD hS hA [0] (by decide) rfl (ci := 7) rfl (q0 := 0) rfl) rfl rfl hl.1 rfl (lv_room (Nat.le_of_ble_eq_true rfl)) kd_R_argument_93 ⟨Nat.le_of_ble_eq_true rfl, Nat.le_of_ble_eq_true rfl⟩) hP hD hS hA [0] rfl rfl (fun H locs hP hD hS hF => ?_)
        have hP : va_P D cl_all [((r 0), .inr (7, [.int 2, .int (nI rc), .ref (r 1), .int (nI ro), .ref (r 2), .int (nI rm), .ref (r 3), .ref (r 4), .ref (r 5), .ref (r 6), .int (nI ra), .ref (r 7), .ref (r 8), .ref (r 9), .ref (r 10), .int (nI rl), .ref (r 11), .ref (r 12), .ref (r 13), .ref (r 14), .int (nI rw), .ref (r 15), .long gv])), ((r 1), .inl (cI, 16, .inl rp)), ((r 2), .inl (cI, 64, .inl rk)), ((r 3), .inl (cI, 64, .inl ow)), ((r 4), .inl (cI, 64, .inl rn)), ((r 5), .inl (cI, 64, .inl ct)), ((r 6), .inl (cI, 256, .inl rt)), ((r 7), .inl (cI, 4, .inl ki)), ((r 8), .inl (cL, 4, .inr (.inl rb))), ((r 9), .inl (cI, 4, .inl aq)), ((r 10), .inl (cZ, 64, .inl cd)), ((r 11), .inl (cI, 64, .inl g1)), ((r 12), .inl (cI, 64, .inl g2)), ((r 13), .inl (cI, 64, .inl g3)), ((r 14), .inl (cL, 256, .inr (.inl gw))), ((r 15), .inl (cL, 64, .inr (.inl an)))] H := hP
        have hD : va_D A [((r 0), .inr (7, [.int 2, .int (nI rc), .ref (r 1), .int (nI ro), .ref (r 2), .int (nI rm), .ref (r 3), .ref (r 4), .ref (r 5), .ref (r 6), .int (nI ra), .ref (r 7), .ref (r 8), .ref (r 9), .ref (r 10), .int (nI rl), .ref (r 11), .ref (r 12), .ref (r 13), .ref (r 14), .int (nI rw), .ref (r 15), .long gv])), ((r 1), .inl (cI, 16, .inl rp)), ((r 2), .inl (cI, 64, .inl rk)), ((r 3), .inl (cI, 64, .inl ow)), ((r 4), .inl (cI, 64, .inl rn)), ((r 5), .inl (cI, 64, .inl ct)), ((r 6), .inl (cI, 256, .inl rt)), ((r 7), .inl (cI, 4, .inl ki)), ((r 8), .inl (cL, 4, .inr (.inl rb))), ((r 9), .inl (cI, 4, .inl aq)), ((r 10), .inl (cZ, 64, .inl cd)), ((r 11), .inl (cI, 64, .inl g1)), ((r 12), .inl (cI, 64, .inl g2)), ((r 13), .inl (cI, 64, .inl g3)), ((r 14), .inl (cL, 256, .inr (.inl gw))), ((r 15), .inl (cL, 64, .inr (.inl an)))] := hD
        refine hx_topi (y := 1) (rfl) ?_
        refine lv_if_eq (tgt := 101) hx hb kd_R_argument_96 (by decide) (fun c_96 => ?_) (fun c_96 => ?_)
        · exact absurd c_96 (by decide)
        · skip
          refine lv_iconst (v := 0) hx hb kd_R_argument_99 (by decide) ?_
          exact hx_iretW hx hb hr hlocks (rfl) (hP) hS kd_R_argument_100
  · skip
    refine lv_iload_n hx hb kd_R_argument_0 rfl (lv_at hl 1 rfl) ?_
    refine lv_bipush (v := 7) hx hb kd_R_argument_1 (by decide) ?_
    refine hx_callRi (va_runS (As := [.int k, .int 7]) (rest := []) ⟨hx, hb, hml, hown, hts⟩ (mr_isNo k 7) (va_cwS 2 hts (goodIn_sub (hx_m4 km_700 km_701 km_8 km_702) (by decide +kernel)) rfl rfl rfl (by decide +kernel) ⟨Nat.le_of_ble_eq_true rfl, Nat.le_of_ble_eq_true rfl⟩) (pr_S (hC.S hS) hP [] rfl) rfl rfl hl.1 rfl (lv_room (Nat.le_of_ble_eq_true rfl)) kd_R_argument_3 ⟨Nat.le_of_ble_eq_true rfl, Nat.le_of_ble_eq_true rfl⟩) ?_
    refine lv_if_ne (tgt := 64) hx hb kd_R_argument_6 (by decide) (fun c_6 => ?_) (fun c_6 => ?_)
    · skip
      have h6 : fb_in k 7 = false := by simpa using b2_t c_6
      refine lv_iconst (v := 1) hx hb kd_R_argument_64 (by decide) ?_
      refine lv_goto (tgt := 69) hx hb kd_R_argument_65 (by decide) ?_
      exact hj1 _ (by rw [ab_, h6]; simp [b2_])
    · skip
      have h6 : fb_in k 7 = true := by simpa using b2_f c_6
      refine lv_iload_n hx hb kd_R_argument_9 rfl (lv_at hl 1 rfl) ?_
      refine lv_iconst (v := 2) hx hb kd_R_argument_10 (by decide) ?_
      refine lv_icmp_ne (tgt := 26) hx hb kd_R_argument_11 (by decide) (fun c_11 => ?_) (fun c_11 => ?_)
      · skip
        refine lv_iload_n hx hb kd_R_argument_26 rfl (lv_at hl 1 rfl) ?_
        refine lv_iconst (v := 4) hx hb kd_R_argument_27 (by decide) ?_
        refine lv_icmp_eq (tgt := 37) hx hb kd_R_argument_28 (by decide) (fun c_28 => ?_) (fun c_28 => ?_)
        · skip
          refine lv_lload_n hx hb kd_R_argument_37 rfl (lv_at hl 2 rfl) ?_
          refine lv_lconst (v := 0) hx hb kd_R_argument_38 (by decide) ?_
          refine W.lcmp hx hb kd_R_argument_39 ?_
          refine lv_if_lt (tgt := 64) hx hb kd_R_argument_40 (by decide) (fun c_40 => ?_) (fun c_40 => ?_)
          · skip
            refine lv_iconst (v := 1) hx hb kd_R_argument_64 (by decide) ?_
            refine lv_goto (tgt := 69) hx hb kd_R_argument_65 (by decide) ?_
            exact hj1 _ (by rw [ab_, h6]; simp [b2_, c_11, c_28, c_40])
          · skip
            refine lv_iload_n hx hb kd_R_argument_43 rfl (lv_at hl 1 rfl) ?_
            refine lv_iconst (v := 5) hx hb kd_R_argument_44 (by decide) ?_
            refine lv_icmp_ne (tgt := 68) hx hb kd_R_argument_45 (by decide) (fun c_45 => ?_) (fun c_45 => ?_)
            · skip
              refine lv_iconst (v := 0) hx hb kd_R_argument_68 (by decide) ?_
              exact hj1 _ (by rw [ab_, h6]; simp [b2_, c_11, c_28, c_40, c_45])
            · skip
              refine lv_lload_n hx hb kd_R_argument_48 rfl (lv_at hl 2 rfl) ?_
              refine lv_lconst (v := 0) hx hb kd_R_argument_49 (by decide) ?_
              refine W.lcmp hx hb kd_R_argument_50 ?_
              refine lv_if_lt (tgt := 64) hx hb kd_R_argument_51 (by decide) (fun c_51 => ?_) (fun c_51 => ?_)
              · skip
                refine lv_iconst (v := 1) hx hb kd_R_argument_64 (by decide) ?_
                refine lv_goto (tgt := 69) hx hb kd_R_argument_65 (by decide) ?_
                exact hj1 _ (absurd (c_28.symm.trans c_45) (by decide))
              · skip
                refine lv_lload_n hx hb kd_R_argument_54 rfl (lv_at hl 2 rfl) ?_
                refine lv_aload_n hx hb kd_R_argument_55 rfl (lv_at hl 0 rfl) ?_
                refine va_get (D := D) (ci := 7) (v := .int (nI ro)) (C := "HostBridgeModel") (T := ct_R) (N := 23) hx hb hts cw_R hown hK hP 0 rfl rfl 3 (by decide) (hts _ km_624) (fun _ h9 => h9) rfl kd_R_argument_56 ?_
                refine lv_i2l hx hb kd_R_argument_59 rfl ?_
                refine W.lcmp hx hb kd_R_argument_60 ?_
                refine lv_if_lt (tgt := 68) hx hb kd_R_argument_61 (by decide) (fun c_61 => ?_) (fun c_61 => ?_)
                · skip
                  refine lv_iconst (v := 0) hx hb kd_R_argument_68 (by decide) ?_
                  exact hj1 _ (absurd (c_28.symm.trans c_45) (by decide))
                · skip
                  refine lv_iconst (v := 1) hx hb kd_R_argument_64 (by decide) ?_
                  refine lv_goto (tgt := 69) hx hb kd_R_argument_65 (by decide) ?_
                  exact hj1 _ (absurd (c_28.symm.trans c_45) (by decide))
        · skip
          refine lv_iload_n hx hb kd_R_argument_31 rfl (lv_at hl 1 rfl) ?_
          refine lv_bipush (v := 6) hx hb kd_R_argument_32 (by decide) ?_
          refine lv_icmp_ne (tgt := 43) hx hb kd_R_argument_34 (by decide) (fun c_34 => ?_) (fun c_34 => ?_)
          · skip
            refine lv_iload_n hx hb kd_R_argument_43 rfl (lv_at hl 1 rfl) ?_
            refine lv_iconst (v := 5) hx hb kd_R_argument_44 (by decide) ?_
            refine lv_icmp_ne (tgt := 68) hx hb kd_R_argument_45 (by decide) (fun c_45 => ?_) (fun c_45 => ?_)
            · skip
              refine lv_iconst (v := 0) hx hb kd_R_argument_68 (by decide) ?_
              exact hj1 _ (by rw [ab_, h6]; simp [b2_, c_11, c_28, c_34, c_45])
            · skip
              refine lv_lload_n hx hb kd_R_argument_48 rfl (lv_at hl 2 rfl) ?_
              refine lv_lconst (v := 0) hx hb kd_R_argument_49 (by decide) ?_
              refine W.lcmp hx hb kd_R_argument_50 ?_
              refine lv_if_lt (tgt := 64) hx hb kd_R_argument_51 (by decide) (fun c_51 => ?_) (fun c_51 => ?_)
              · skip
                refine lv_iconst (v := 1) hx hb kd_R_argument_64 (by decide) ?_
                refine lv_goto (tgt := 69) hx hb kd_R_argument_65 (by decide) ?_
                exact hj1 _ (by rw [ab_, h6]; simp [b2_, c_11, c_28, c_34, c_45, c_51])
              · skip
                refine lv_lload_n hx hb kd_R_argument_54 rfl (lv_at hl 2 rfl) ?_
                refine lv_aload_n hx hb kd_R_argument_55 rfl (lv_at hl 0 rfl) ?_
                refine va_get (D := D) (ci := 7) (v := .int (nI ro)) (C := "HostBridgeModel") (T := ct_R) (N := 23) hx hb hts cw_R hown hK hP 0 rfl rfl 3 (by decide) (hts _ km_624) (fun _ h9 => h9) rfl kd_R_argument_56 ?_
                refine lv_i2l hx hb kd_R_argument_59 rfl ?_
                refine W.lcmp hx hb kd_R_argument_60 ?_
                refine lv_if_lt (tgt := 68) hx hb kd_R_argument_61 (by decide) (fun c_61 => ?_) (fun c_61 => ?_)
                · skip
                  refine lv_iconst (v := 0) hx hb kd_R_argument_68 (by decide) ?_
                  exact hj1 _ (by rw [ab_, h6]; simp [b2_, c_11, c_28, c_34, c_45, c_51, c_61])
                · skip
                  refine lv_iconst (v := 1) hx hb kd_R_argument_64 (by decide) ?_
                  refine lv_goto (tgt := 69) hx hb kd_R_argument_65 (by decide) ?_
                  exact hj1 _ (by rw [ab_, h6]; simp [b2_, c_11, c_28, c_34, c_45, c_51, c_61])
          · skip
            refine lv_lload_n hx hb kd_R_argument_37 rfl (lv_at hl 2 rfl) ?_
            refine lv_lconst (v := 0) hx hb kd_R_argument_38 (by decide) ?_
            refine W.lcmp hx hb kd_R_argument_39 ?_
            refine lv_if_lt (tgt := 64) hx hb kd_R_argument_40 (by decide) (fun c_40 => ?_) (fun c_40 => ?_)
            · skip
              refine lv_iconst (v := 1) hx hb kd_R_argument_64 (by decide) ?_
              refine lv_goto (tgt := 69) hx hb kd_R_argument_65 (by decide) ?_
              exact hj1 _ (by rw [ab_, h6]; simp [b2_, c_11, c_28, c_34, c_40])
            · skip
              refine lv_iload_n hx hb kd_R_argument_43 rfl (lv_at hl 1 rfl) ?_
              refine lv_iconst (v := 5) hx hb kd_R_argument_44 (by decide) ?_
              refine lv_icmp_ne (tgt := 68) hx hb kd_R_argument_45 (by decide) (fun c_45 => ?_) (fun c_45 => ?_)
              · skip
                refine lv_iconst (v := 0) hx hb kd_R_argument_68 (by decide) ?_
                exact hj1 _ (by rw [ab_, h6]; simp [b2_, c_11, c_28, c_34, c_40, c_45])
              · skip
                refine lv_lload_n hx hb kd_R_argument_48 rfl (lv_at hl 2 rfl) ?_
                refine lv_lconst (v := 0) hx hb kd_R_argument_49 (by decide) ?_
                refine W.lcmp hx hb kd_R_argument_50 ?_
                refine lv_if_lt (tgt := 64) hx hb kd_R_argument_51 (by decide) (fun c_51 => ?_) (fun c_51 => ?_)
                · skip
                  refine lv_iconst (v := 1) hx hb kd_R_argument_64 (by decide) ?_
                  refine lv_goto (tgt := 69) hx hb kd_R_argument_65 (by decide) ?_
                  exact hj1 _ (absurd (c_34.symm.trans c_45) (by decide))
                · skip
                  refine lv_lload_n hx hb kd_R_argument_54 rfl (lv_at hl 2 rfl) ?_
                  refine lv_aload_n hx hb kd_R_argument_55 rfl (lv_at hl 0 rfl) ?_
                  refine va_get (D := D) (ci := 7) (v := .int (nI ro)) (C := "HostBridgeModel") (T := ct_R) (N := 23) hx hb hts cw_R hown hK hP 0 rfl rfl 3 (by decide) (hts _ km_624) (fun _ h9 => h9) rfl kd_R_argument_56 ?_
                  refine lv_i2l hx hb kd_R_argument_59 rfl ?_
                  refine W.lcmp hx hb kd_R_argument_60 ?_
                  refine lv_if_lt (tgt := 68) hx hb kd_R_argument_61 (by decide) (fun c_61 => ?_) (fun c_61 => ?_)
                  · skip
                    refine lv_iconst (v := 0) hx hb kd_R_argument_68 (by decide) ?_
                    exact hj1 _ (absurd (c_34.symm.trans c_45) (by decide))
                  · skip
                    refine lv_iconst (v := 1) hx hb kd_R_argument_64 (by decide) ?_
                    refine lv_goto (tgt := 69) hx hb kd_R_argument_65 (by decide) ?_
                    exact hj1 _ (absurd (c_34.symm.trans c_45) (by decide))
      · skip
        refine lv_lload_n hx hb kd_R_argument_14 rfl (lv_at hl 2 rfl) ?_
        refine lv_lconst (v := 0) hx hb kd_R_argument_15 (by decide) ?_
        refine W.lcmp hx hb kd_R_argument_16 ?_
        refine lv_if_eq (tgt := 26) hx hb kd_R_argument_17 (by decide) (fun c_17 => ?_) (fun c_17 => ?_)
        · skip
          refine lv_iload_n hx hb kd_R_argument_26 rfl (lv_at hl 1 rfl) ?_
          refine lv_iconst (v := 4) hx hb kd_R_argument_27 (by decide) ?_
          refine lv_icmp_eq (tgt := 37) hx hb kd_R_argument_28 (by decide) (fun c_28 => ?_) (fun c_28 => ?_)
          · skip
            refine lv_lload_n hx hb kd_R_argument_37 rfl (lv_at hl 2 rfl) ?_
            refine lv_lconst (v := 0) hx hb kd_R_argument_38 (by decide) ?_
            refine W.lcmp hx hb kd_R_argument_39 ?_
            refine lv_if_lt (tgt := 64) hx hb kd_R_argument_40 (by decide) (fun c_40 => ?_) (fun c_40 => ?_)
            · skip
              refine lv_iconst (v := 1) hx hb kd_R_argument_64 (by decide) ?_
              refine lv_goto (tgt := 69) hx hb kd_R_argument_65 (by decide) ?_
              exact hj1 _ (absurd (c_11.symm.trans c_28) (by decide))
            · skip
              refine lv_iload_n hx hb kd_R_argument_43 rfl (lv_at hl 1 rfl) ?_
              refine lv_iconst (v := 5) hx hb kd_R_argument_44 (by decide) ?_
              refine lv_icmp_ne (tgt := 68) hx hb kd_R_argument_45 (by decide) (fun c_45 => ?_) (fun c_45 => ?_)
              · skip
                refine lv_iconst (v := 0) hx hb kd_R_argument_68 (by decide) ?_
                exact hj1 _ (absurd (c_11.symm.trans c_28) (by decide))
              · skip
                refine lv_lload_n hx hb kd_R_argument_48 rfl (lv_at hl 2 rfl) ?_
                refine lv_lconst (v := 0) hx hb kd_R_argument_49 (by decide) ?_
                refine W.lcmp hx hb kd_R_argument_50 ?_
                refine lv_if_lt (tgt := 64) hx hb kd_R_argument_51 (by decide) (fun c_51 => ?_) (fun c_51 => ?_)
                · skip
                  refine lv_iconst (v := 1) hx hb kd_R_argument_64 (by decide) ?_
                  refine lv_goto (tgt := 69) hx hb kd_R_argument_65 (by decide) ?_
                  exact hj1 _ (absurd (c_11.symm.trans c_28) (by decide))
                · skip
                  refine lv_lload_n hx hb kd_R_argument_54 rfl (lv_at hl 2 rfl) ?_
                  refine lv_aload_n hx hb kd_R_argument_55 rfl (lv_at hl 0 rfl) ?_
                  refine va_get (D := D) (ci := 7) (v := .int (nI ro)) (C := "HostBridgeModel") (T := ct_R) (N := 23) hx hb hts cw_R hown hK hP 0 rfl rfl 3 (by decide) (hts _ km_624) (fun _ h9 => h9) rfl kd_R_argument_56 ?_
                  refine lv_i2l hx hb kd_R_argument_59 rfl ?_
                  refine W.lcmp hx hb kd_R_argument_60 ?_
                  refine lv_if_lt (tgt := 68) hx hb kd_R_argument_61 (by decide) (fun c_61 => ?_) (fun c_61 => ?_)
                  · skip
                    refine lv_iconst (v := 0) hx hb kd_R_argument_68 (by decide) ?_
                    exact hj1 _ (absurd (c_11.symm.trans c_28) (by decide))
                  · skip
                    refine lv_iconst (v := 1) hx hb kd_R_argument_64 (by decide) ?_
                    refine lv_goto (tgt := 69) hx hb kd_R_argument_65 (by decide) ?_
                    exact hj1 _ (absurd (c_11.symm.trans c_28) (by decide))
          · skip
            refine lv_iload_n hx hb kd_R_argument_31 rfl (lv_at hl 1 rfl) ?_
            refine lv_bipush (v := 6) hx hb kd_R_argument_32 (by decide) ?_
            refine lv_icmp_ne (tgt := 43) hx hb kd_R_argument_34 (by decide) (fun c_34 => ?_) (fun c_34 => ?_)
            · skip
              refine lv_iload_n hx hb kd_R_argument_43 rfl (lv_at hl 1 rfl) ?_
              refine lv_iconst (v := 5) hx hb kd_R_argument_44 (by decide) ?_
              refine lv_icmp_ne (tgt := 68) hx hb kd_R_argument_45 (by decide) (fun c_45 => ?_) (fun c_45 => ?_)
              · skip
                refine lv_iconst (v := 0) hx hb kd_R_argument_68 (by decide) ?_
                exact hj1 _ (by rw [ab_, h6]; simp [b2_, c_11, c_17, c_28, c_34, c_45])
              · skip
                refine lv_lload_n hx hb kd_R_argument_48 rfl (lv_at hl 2 rfl) ?_
                refine lv_lconst (v := 0) hx hb kd_R_argument_49 (by decide) ?_
                refine W.lcmp hx hb kd_R_argument_50 ?_
                refine lv_if_lt (tgt := 64) hx hb kd_R_argument_51 (by decide) (fun c_51 => ?_) (fun c_51 => ?_)
                · skip
                  refine lv_iconst (v := 1) hx hb kd_R_argument_64 (by decide) ?_
                  refine lv_goto (tgt := 69) hx hb kd_R_argument_65 (by decide) ?_
                  exact hj1 _ (absurd (c_11.symm.trans c_45) (by decide))
                · skip
                  refine lv_lload_n hx hb kd_R_argument_54 rfl (lv_at hl 2 rfl) ?_
                  refine lv_aload_n hx hb kd_R_argument_55 rfl (lv_at hl 0 rfl) ?_
                  refine va_get (D := D) (ci := 7) (v := .int (nI ro)) (C := "HostBridgeModel") (T := ct_R) (N := 23) hx hb hts cw_R hown hK hP 0 rfl rfl 3 (by decide) (hts _ km_624) (fun _ h9 => h9) rfl kd_R_argument_56 ?_
                  refine lv_i2l hx hb kd_R_argument_59 rfl ?_
                  refine W.lcmp hx hb kd_R_argument_60 ?_
                  refine lv_if_lt (tgt := 68) hx hb kd_R_argument_61 (by decide) (fun c_61 => ?_) (fun c_61 => ?_)
                  · skip
                    refine lv_iconst (v := 0) hx hb kd_R_argument_68 (by decide) ?_
                    exact hj1 _ (absurd (c_11.symm.trans c_45) (by decide))
                  · skip
                    refine lv_iconst (v := 1) hx hb kd_R_argument_64 (by decide) ?_
                    refine lv_goto (tgt := 69) hx hb kd_R_argument_65 (by decide) ?_
                    exact hj1 _ (absurd (c_11.symm.trans c_45) (by decide))
            · skip
              refine lv_lload_n hx hb kd_R_argument_37 rfl (lv_at hl 2 rfl) ?_
              refine lv_lconst (v := 0) hx hb kd_R_argument_38 (by decide) ?_
              refine W.lcmp hx hb kd_R_argument_39 ?_
              refine lv_if_lt (tgt := 64) hx hb kd_R_argument_40 (by decide) (fun c_40 => ?_) (fun c_40 => ?_)
              · skip
                refine lv_iconst (v := 1) hx hb kd_R_argument_64 (by decide) ?_
                refine lv_goto (tgt := 69) hx hb kd_R_argument_65 (by decide) ?_
                exact hj1 _ (absurd (c_11.symm.trans c_34) (by decide))
              · skip
                refine lv_iload_n hx hb kd_R_argument_43 rfl (lv_at hl 1 rfl) ?_
                refine lv_iconst (v := 5) hx hb kd_R_argument_44 (by decide) ?_
                refine lv_icmp_ne (tgt := 68) hx hb kd_R_argument_45 (by decide) (fun c_45 => ?_) (fun c_45 => ?_)
                · skip
                  refine lv_iconst (v := 0) hx hb kd_R_argument_68 (by decide) ?_
                  exact hj1 _ (absurd (c_11.symm.trans c_34) (by decide))
                · skip
                  refine lv_lload_n hx hb kd_R_argument_48 rfl (lv_at hl 2 rfl) ?_
                  refine lv_lconst (v := 0) hx hb kd_R_argument_49 (by decide) ?_
                  refine W.lcmp hx hb kd_R_argument_50 ?_
                  refine lv_if_lt (tgt := 64) hx hb kd_R_argument_51 (by decide) (fun c_51 => ?_) (fun c_51 => ?_)
                  · skip
                    refine lv_iconst (v := 1) hx hb kd_R_argument_64 (by decide) ?_
                    refine lv_goto (tgt := 69) hx hb kd_R_argument_65 (by decide) ?_
                    exact hj1 _ (absurd (c_11.symm.trans c_34) (by decide))
                  · skip
                    refine lv_lload_n hx hb kd_R_argument_54 rfl (lv_at hl 2 rfl) ?_
                    refine lv_aload_n hx hb kd_R_argument_55 rfl (lv_at hl 0 rfl) ?_
                    refine va_get (D := D) (ci := 7) (v := .int (nI ro)) (C := "HostBridgeModel") (T := ct_R) (N := 23) hx hb hts cw_R hown hK hP 0 rfl rfl 3 (by decide) (hts _ km_624) (fun _ h9 => h9) rfl kd_R_argument_56 ?_
                    refine lv_i2l hx hb kd_R_argument_59 rfl ?_
                    refine W.lcmp hx hb kd_R_argument_60 ?_
                    refine lv_if_lt (tgt := 68) hx hb kd_R_argument_61 (by decide) (fun c_61 => ?_) (fun c_61 => ?_)
                    · skip
                      refine lv_iconst (v := 0) hx hb kd_R_argument_68 (by decide) ?_
                      exact hj1 _ (absurd (c_11.symm.trans c_34) (by decide))
                    · skip
                      refine lv_iconst (v := 1) hx hb kd_R_argument_64 (by decide) ?_
                      refine lv_goto (tgt := 69) hx hb kd_R_argument_65 (by decide) ?_
                      exact hj1 _ (absurd (c_11.symm.trans c_34) (by decide))
        · skip
          refine lv_lload_n hx hb kd_R_argument_20 rfl (lv_at hl 2 rfl) ?_
          refine lv_lconst (v := 1) hx hb kd_R_argument_21 (by decide) ?_
          refine W.lcmp hx hb kd_R_argument_22 ?_
          refine lv_if_ne (tgt := 64) hx hb kd_R_argument_23 (by decide) (fun c_23 => ?_) (fun c_23 => ?_)
          · skip
            refine lv_iconst (v := 1) hx hb kd_R_argument_64 (by decide) ?_
            refine lv_goto (tgt := 69) hx hb kd_R_argument_65 (by decide) ?_
            exact hj1 _ (by rw [ab_, h6]; simp [b2_, c_11, c_17, c_23])
          · skip
            refine lv_iload_n hx hb kd_R_argument_26 rfl (lv_at hl 1 rfl) ?_
            refine lv_iconst (v := 4) hx hb kd_R_argument_27 (by decide) ?_
            refine lv_icmp_eq (tgt := 37) hx hb kd_R_argument_28 (by decide) (fun c_28 => ?_) (fun c_28 => ?_)
            · skip
              refine lv_lload_n hx hb kd_R_argument_37 rfl (lv_at hl 2 rfl) ?_
              refine lv_lconst (v := 0) hx hb kd_R_argument_38 (by decide) ?_
              refine W.lcmp hx hb kd_R_argument_39 ?_
              refine lv_if_lt (tgt := 64) hx hb kd_R_argument_40 (by decide) (fun c_40 => ?_) (fun c_40 => ?_)
              · skip
                refine lv_iconst (v := 1) hx hb kd_R_argument_64 (by decide) ?_
                refine lv_goto (tgt := 69) hx hb kd_R_argument_65 (by decide) ?_
                exact hj1 _ (absurd (c_11.symm.trans c_28) (by decide))
              · skip
                refine lv_iload_n hx hb kd_R_argument_43 rfl (lv_at hl 1 rfl) ?_
                refine lv_iconst (v := 5) hx hb kd_R_argument_44 (by decide) ?_
                refine lv_icmp_ne (tgt := 68) hx hb kd_R_argument_45 (by decide) (fun c_45 => ?_) (fun c_45 => ?_)
                · skip
                  refine lv_iconst (v := 0) hx hb kd_R_argument_68 (by decide) ?_
                  exact hj1 _ (absurd (c_11.symm.trans c_28) (by decide))
                · skip
                  refine lv_lload_n hx hb kd_R_argument_48 rfl (lv_at hl 2 rfl) ?_
                  refine lv_lconst (v := 0) hx hb kd_R_argument_49 (by decide) ?_
                  refine W.lcmp hx hb kd_R_argument_50 ?_
                  refine lv_if_lt (tgt := 64) hx hb kd_R_argument_51 (by decide) (fun c_51 => ?_) (fun c_51 => ?_)
                  · skip
                    refine lv_iconst (v := 1) hx hb kd_R_argument_64 (by decide) ?_
                    refine lv_goto (tgt := 69) hx hb kd_R_argument_65 (by decide) ?_
                    exact hj1 _ (absurd (c_11.symm.trans c_28) (by decide))
                  · skip
                    refine lv_lload_n hx hb kd_R_argument_54 rfl (lv_at hl 2 rfl) ?_
                    refine lv_aload_n hx hb kd_R_argument_55 rfl (lv_at hl 0 rfl) ?_
                    refine va_get (D := D) (ci := 7) (v := .int (nI ro)) (C := "HostBridgeModel") (T := ct_R) (N := 23) hx hb hts cw_R hown hK hP 0 rfl rfl 3 (by decide) (hts _ km_624) (fun _ h9 => h9) rfl kd_R_argument_56 ?_
                    refine lv_i2l hx hb kd_R_argument_59 rfl ?_
                    refine W.lcmp hx hb kd_R_argument_60 ?_
                    refine lv_if_lt (tgt := 68) hx hb kd_R_argument_61 (by decide) (fun c_61 => ?_) (fun c_61 => ?_)
                    · skip
                      refine lv_iconst (v := 0) hx hb kd_R_argument_68 (by decide) ?_
                      exact hj1 _ (absurd (c_11.symm.trans c_28) (by decide))
                    · skip
                      refine lv_iconst (v := 1) hx hb kd_R_argument_64 (by decide) ?_
                      refine lv_goto (tgt := 69) hx hb kd_R_argument_65 (by decide) ?_
                      exact hj1 _ (absurd (c_11.symm.trans c_28) (by decide))
            · skip
              refine lv_iload_n hx hb kd_R_argument_31 rfl (lv_at hl 1 rfl) ?_
              refine lv_bipush (v := 6) hx hb kd_R_argument_32 (by decide) ?_
              refine lv_icmp_ne (tgt := 43) hx hb kd_R_argument_34 (by decide) (fun c_34 => ?_) (fun c_34 => ?_)
              · skip
                refine lv_iload_n hx hb kd_R_argument_43 rfl (lv_at hl 1 rfl) ?_
                refine lv_iconst (v := 5) hx hb kd_R_argument_44 (by decide) ?_
                refine lv_icmp_ne (tgt := 68) hx hb kd_R_argument_45 (by decide) (fun c_45 => ?_) (fun c_45 => ?_)
                · skip
                  refine lv_iconst (v := 0) hx hb kd_R_argument_68 (by decide) ?_
                  exact hj1 _ (by rw [ab_, h6]; simp [b2_, c_11, c_17, c_23, c_28, c_34, c_45])
                · skip
                  refine lv_lload_n hx hb kd_R_argument_48 rfl (lv_at hl 2 rfl) ?_
                  refine lv_lconst (v := 0) hx hb kd_R_argument_49 (by decide) ?_
                  refine W.lcmp hx hb kd_R_argument_50 ?_
                  refine lv_if_lt (tgt := 64) hx hb kd_R_argument_51 (by decide) (fun c_51 => ?_) (fun c_51 => ?_)
                  · skip
                    refine lv_iconst (v := 1) hx hb kd_R_argument_64 (by decide) ?_
                    refine lv_goto (tgt := 69) hx hb kd_R_argument_65 (by decide) ?_
                    exact hj1 _ (absurd (c_11.symm.trans c_45) (by decide))
                  · skip
                    refine lv_lload_n hx hb kd_R_argument_54 rfl (lv_at hl 2 rfl) ?_
                    refine lv_aload_n hx hb kd_R_argument_55 rfl (lv_at hl 0 rfl) ?_
                    refine va_get (D := D) (ci := 7) (v := .int (nI ro)) (C := "HostBridgeModel") (T := ct_R) (N := 23) hx hb hts cw_R hown hK hP 0 rfl rfl 3 (by decide) (hts _ km_624) (fun _ h9 => h9) rfl kd_R_argument_56 ?_
                    refine lv_i2l hx hb kd_R_argument_59 rfl ?_
                    refine W.lcmp hx hb kd_R_argument_60 ?_
                    refine lv_if_lt (tgt := 68) hx hb kd_R_argument_61 (by decide) (fun c_61 => ?_) (fun c_61 => ?_)
                    · skip
                      refine lv_iconst (v := 0) hx hb kd_R_argument_68 (by decide) ?_
                      exact hj1 _ (absurd (c_11.symm.trans c_45) (by decide))
                    · skip
                      refine lv_iconst (v := 1) hx hb kd_R_argument_64 (by decide) ?_
                      refine lv_goto (tgt := 69) hx hb kd_R_argument_65 (by decide) ?_
                      exact hj1 _ (absurd (c_11.symm.trans c_45) (by decide))
              · skip
                refine lv_lload_n hx hb kd_R_argument_37 rfl (lv_at hl 2 rfl) ?_
                refine lv_lconst (v := 0) hx hb kd_R_argument_38 (by decide) ?_
                refine W.lcmp hx hb kd_R_argument_39 ?_
                refine lv_if_lt (tgt := 64) hx hb kd_R_argument_40 (by decide) (fun c_40 => ?_) (fun c_40 => ?_)
                · skip
                  refine lv_iconst (v := 1) hx hb kd_R_argument_64 (by decide) ?_
                  refine lv_goto (tgt := 69) hx hb kd_R_argument_65 (by decide) ?_
                  exact hj1 _ (absurd (c_11.symm.trans c_34) (by decide))
                · skip
                  refine lv_iload_n hx hb kd_R_argument_43 rfl (lv_at hl 1 rfl) ?_
                  refine lv_iconst (v := 5) hx hb kd_R_argument_44 (by decide) ?_
                  refine lv_icmp_ne (tgt := 68) hx hb kd_R_argument_45 (by decide) (fun c_45 => ?_) (fun c_45 => ?_)
                  · skip
                    refine lv_iconst (v := 0) hx hb kd_R_argument_68 (by decide) ?_
                    exact hj1 _ (absurd (c_11.symm.trans c_34) (by decide))
                  · skip
                    refine lv_lload_n hx hb kd_R_argument_48 rfl (lv_at hl 2 rfl) ?_
                    refine lv_lconst (v := 0) hx hb kd_R_argument_49 (by decide) ?_
                    refine W.lcmp hx hb kd_R_argument_50 ?_
                    refine lv_if_lt (tgt := 64) hx hb kd_R_argument_51 (by decide) (fun c_51 => ?_) (fun c_51 => ?_)
                    · skip
                      refine lv_iconst (v := 1) hx hb kd_R_argument_64 (by decide) ?_
                      refine lv_goto (tgt := 69) hx hb kd_R_argument_65 (by decide) ?_
                      exact hj1 _ (absurd (c_11.symm.trans c_34) (by decide))
                    · skip
                      refine lv_lload_n hx hb kd_R_argument_54 rfl (lv_at hl 2 rfl) ?_
                      refine lv_aload_n hx hb kd_R_argument_55 rfl (lv_at hl 0 rfl) ?_
                      refine va_get (D := D) (ci := 7) (v := .int (nI ro)) (C := "HostBridgeModel") (T := ct_R) (N := 23) hx hb hts cw_R hown hK hP 0 rfl rfl 3 (by decide) (hts _ km_624) (fun _ h9 => h9) rfl kd_R_argument_56 ?_
                      refine lv_i2l hx hb kd_R_argument_59 rfl ?_
                      refine W.lcmp hx hb kd_R_argument_60 ?_
                      refine lv_if_lt (tgt := 68) hx hb kd_R_argument_61 (by decide) (fun c_61 => ?_) (fun c_61 => ?_)
                      · skip
                        refine lv_iconst (v := 0) hx hb kd_R_argument_68 (by decide) ?_
                        exact hj1 _ (absurd (c_11.symm.trans c_34) (by decide))
                      · skip
                        refine lv_iconst (v := 1) hx hb kd_R_argument_64 (by decide) ?_
                        refine lv_goto (tgt := 69) hx hb kd_R_argument_65 (by decide) ?_
                        exact hj1 _ (absurd (c_11.symm.trans c_34) (by decide))

set_option maxHeartbeats 4000000 in
set_option maxRecDepth 100000 in
theorem mr_answer0 {l : Launch} {D : va_G} {cI cL cZ : ClassId} {tb : Nat} (r : Nat → Nat) (rc ro rm ra rl rw : Nat) (th : Int32) (gv : Int64) (rp rk ow rn ct rt ki aq cd g1 g2 g3 : Nat → Int32) (rb gw an : Nat → Int64) (v : Int64) (hn : rw < 64) (sz : Nat) : Met l ky_R_answer kw_R_answer { frames := 1, cells := 0, slots := 0, locals := 23 } (pw_P D cI cL cZ tb [((r 0), .inr (7, [.int th, .int (nI rc), .ref (r 1), .int (nI ro), .ref (r 2), .int (nI rm), .ref (r 3), .ref (r 4), .ref (r 5), .ref (r 6), .int (nI ra), .ref (r 7), .ref (r 8), .ref (r 9), .ref (r 10), .int (nI rl), .ref (r 11), .ref (r 12), .ref (r 13), .ref (r 14), .int (nI rw), .ref (r 15), .long gv])), ((r 1), .inl (cI, 16, .inl rp)), ((r 2), .inl (cI, 64, .inl rk)), ((r 3), .inl (cI, 64, .inl ow)), ((r 4), .inl (cI, 64, .inl rn)), ((r 5), .inl (cI, 64, .inl ct)), ((r 6), .inl (cI, 256, .inl rt)), ((r 7), .inl (cI, 4, .inl ki)), ((r 8), .inl (cL, 4, .inr (.inl rb))), ((r 9), .inl (cI, 4, .inl aq)), ((r 10), .inl (cZ, 64, .inl cd)), ((r 11), .inl (cI, 64, .inl g1)), ((r 12), .inl (cI, 64, .inl g2)), ((r 13), .inl (cI, 64, .inl g3)), ((r 14), .inl (cL, 256, .inr (.inl gw))), ((r 15), .inl (cL, 64, .inr (.inl an)))] sz [.ref (r 0), .long v]) (hx_QW D none [((r 0), .inr (7, [.int 0, .int (nI rc), .ref (r 1), .int (nI ro), .ref (r 2), .int (nI rm), .ref (r 3), .ref (r 4), .ref (r 5), .ref (r 6), .int (nI ra), .ref (r 7), .ref (r 8), .ref (r 9), .ref (r 10), .int (nI rl), .ref (r 11), .ref (r 12), .ref (r 13), .ref (r 14), .int (nI (rw + 1)), .ref (r 15), .long gv])), ((r 1), .inl (cI, 16, .inl rp)), ((r 2), .inl (cI, 64, .inl rk)), ((r 3), .inl (cI, 64, .inl ow)), ((r 4), .inl (cI, 64, .inl rn)), ((r 5), .inl (cI, 64, .inl ct)), ((r 6), .inl (cI, 256, .inl rt)), ((r 7), .inl (cI, 4, .inl ki)), ((r 8), .inl (cL, 4, .inr (.inl rb))), ((r 9), .inl (cI, 4, .inl aq)), ((r 10), .inl (cZ, 64, .inl cd)), ((r 11), .inl (cI, 64, .inl g1)), ((r 12), .inl (cI, 64, .inl g2)), ((r 13), .inl (cI, 64, .inl g3)), ((r 14), .inl (cL, 256, .inr (.inl gw))), ((r 15), .inl (cL, 64, .inr (.inl (vp_updL an rw v))))] (va_A [((r 0), .inr (7, [.int th, .int (nI rc), .ref (r 1), .int (nI ro), .ref (r 2), .int (nI rm), .ref (r 3), .ref (r 4), .ref (r 5), .ref (r 6), .int (nI ra), .ref (r 7), .ref (r 8), .ref (r 9), .ref (r 10), .int (nI rl), .ref (r 11), .ref (r 12), .ref (r 13), .ref (r 14), .int (nI rw), .ref (r 15), .long gv])), ((r 1), .inl (cI, 16, .inl rp)), ((r 2), .inl (cI, 64, .inl rk)), ((r 3), .inl (cI, 64, .inl ow)), ((r 4), .inl (cI, 64, .inl rn)), ((r 5), .inl (cI, 64, .inl ct)), ((r 6), .inl (cI, 256, .inl rt)), ((r 7), .inl (cI, 4, .inl ki)), ((r 8), .inl (cL, 4, .inr (.inl rb))), ((r 9), .inl (cI, 4, .inl aq)), ((r 10), .inl (cZ, 64, .inl cd)), ((r 11), .inl (cI, 64, .inl g1)), ((r 12), .inl (cI, 64, .inl g2)), ((r 13), .inl (cI, 64, .inl g3)), ((r 14), .inl (cL, 256, .inr (.inl gw))), ((r 15), .inl (cL, 64, .inr (.inl an)))] sz)) 0 0 (va_A [((r 0), .inr (7, [.int th, .int (nI rc), .ref (r 1), .int (nI ro), .ref (r 2), .int (nI rm), .ref (r 3), .ref (r 4), .ref (r 5), .ref (r 6), .int (nI ra), .ref (r 7), .ref (r 8), .ref (r 9), .ref (r 10), .int (nI rl), .ref (r 11), .ref (r 12), .ref (r 13), .ref (r 14), .int (nI rw), .ref (r 15), .long gv])), ((r 1), .inl (cI, 16, .inl rp)), ((r 2), .inl (cI, 64, .inl rk)), ((r 3), .inl (cI, 64, .inl ow)), ((r 4), .inl (cI, 64, .inl rn)), ((r 5), .inl (cI, 64, .inl ct)), ((r 6), .inl (cI, 256, .inl rt)), ((r 7), .inl (cI, 4, .inl ki)), ((r 8), .inl (cL, 4, .inr (.inl rb))), ((r 9), .inl (cI, 4, .inl aq)), ((r 10), .inl (cZ, 64, .inl cd)), ((r 11), .inl (cI, 64, .inl g1)), ((r 12), .inl (cI, 64, .inl g2)), ((r 13), .inl (cI, 64, .inl g3)), ((r 14), .inl (cL, 256, .inr (.inl gw))), ((r 15), .inl (cL, 64, .inr (.inl an)))] sz) := by
  refine Met.ofW (cc := kc_R_answer) (maxL := 3) (ret := none) (by decide) rfl ?_
  intro p e s m args below meth c s₁ B hml hv
  obtain ⟨rfl, hsz, hC, hP, hD0⟩ := hv
  have hx := B.exec
  have hb := B.bytes
  have hr := B.returns
  have hlocks := B.notSynchronized
  have hown : s.vm.findClass "HostBridgeModel" = some m.cls := findClass_of_methodNamed B.named
  subst hsz
  have hD := hD0.self (sz := s.heap.size)
  generalize hAe : va_A [((r 0), .inr (7, [.int th, .int (nI rc), .ref (r 1), .int (nI ro), .ref (r 2), .int (nI rm), .ref (r 3), .ref (r 4), .ref (r 5), .ref (r 6), .int (nI ra), .ref (r 7), .ref (r 8), .ref (r 9), .ref (r 10), .int (nI rl), .ref (r 11), .ref (r 12), .ref (r 13), .ref (r 14), .int (nI rw), .ref (r 15), .long gv])), ((r 1), .inl (cI, 16, .inl rp)), ((r 2), .inl (cI, 64, .inl rk)), ((r 3), .inl (cI, 64, .inl ow)), ((r 4), .inl (cI, 64, .inl rn)), ((r 5), .inl (cI, 64, .inl ct)), ((r 6), .inl (cI, 256, .inl rt)), ((r 7), .inl (cI, 4, .inl ki)), ((r 8), .inl (cL, 4, .inr (.inl rb))), ((r 9), .inl (cI, 4, .inl aq)), ((r 10), .inl (cZ, 64, .inl cd)), ((r 11), .inl (cI, 64, .inl g1)), ((r 12), .inl (cI, 64, .inl g2)), ((r 13), .inl (cI, 64, .inl g3)), ((r 14), .inl (cL, 256, .inr (.inl gw))), ((r 15), .inl (cL, 64, .inr (.inl an)))] s.heap.size = A at hD hC ⊢
  have hA : ∀ q : Nat, s.heap.size ≤ q → A q := fun q h => by rw [← hAe]; exact Or.inr h
  have hS : va_S A s.heap s.heap [] := va_S.rf
  have hK := hC.K
  have hts := hC.ts [.ref (r 0), .long v].toArray
  have hl := lv_entry ([.ref (r 0), .long v]) (n := 3) (Nat.le_of_ble_eq_true rfl)
  rw [lg_entry_eq]
  generalize (lg_sl ([.ref (r 0), .long v]) ++ List.replicate (3 - (lg_sl ([.ref (r 0), .long v])).length) Slot.unset).toArray = ls at hl ⊢
  have hl : lv_has ls 3 [(0, .ref (r 0)), (1, .long v)] := hl
  refine lv_aload_n hx hb kd_R_answer_0 rfl (lv_at hl 0 rfl) ?_
  refine lv_aload_n hx hb kd_R_answer_1 rfl (lv_at hl 0 rfl) ?_
  refine va_get (D := D) (ci := 7) (v := .int (nI rw)) (C := "HostBridgeModel") (T := ct_R) (N := 23) hx hb hts cw_R hown hK hP 0 rfl rfl 20 (by decide) (hts _ km_641) (fun _ h9 => h9) rfl kd_R_answer_2 ?_
  refine lv_bipush (v := 64) hx hb kd_R_answer_5 (by decide) ?_
  refine lv_icmp_ne (tgt := 14) hx hb kd_R_answer_7 (by decide) (fun c_7 => ?_) (fun c_7 => ?_)
  · skip
    refine lv_iconst (v := 0) hx hb kd_R_answer_14 (by decide) ?_
    refine lv_iconst (v := 0) hx hb kd_R_answer_15 (by decide) ?_
    refine lv_iconst (v := 0) hx hb kd_R_answer_16 (by decide) ?_
    refine hx_callWi (va_runV (As := [.int 0, .int 0, .int 0]) (rest := []) ⟨hx, hb, hml, hown, hts⟩ (mr_throwing0 r rc ro rm ra rl rw th gv rp rk ow rn ct rt ki aq cd g1 g2 g3 rb gw an _) (cwV 3 hts (goodIn_sub (hx_m5 km_703 km_705 kv_R_throwing km_8 km_706) (by decide +kernel)) rfl rfl rfl (by decide +kernel) ⟨Nat.le_of_ble_eq_true rfl, Nat.le_of_ble_eq_true rfl⟩) (pw_V (hC.S hS) hP hD hS hA [0] (by decide) rfl (ci := 7) rfl (q0 := 0) rfl) rfl rfl hl.1 rfl (lv_room (Nat.le_of_ble_eq_true rfl)) kd_R_answer_17 ⟨Nat.le_of_ble_eq_true rfl, Nat.le_of_ble_eq_true rfl⟩) hP hD hS hA [0] rfl rfl (fun H locs hP hD hS hF => ?_)
    have hP : va_P D cl_all [((r 0), .inr (7, [.int 0, .int (nI rc), .ref (r 1), .int (nI ro), .ref (r 2), .int (nI rm), .ref (r 3), .ref (r 4), .ref (r 5), .ref (r 6), .int (nI ra), .ref (r 7), .ref (r 8), .ref (r 9), .ref (r 10), .int (nI rl), .ref (r 11), .ref (r 12), .ref (r 13), .ref (r 14), .int (nI rw), .ref (r 15), .long gv])), ((r 1), .inl (cI, 16, .inl rp)), ((r 2), .inl (cI, 64, .inl rk)), ((r 3), .inl (cI, 64, .inl ow)), ((r 4), .inl (cI, 64, .inl rn)), ((r 5), .inl (cI, 64, .inl ct)), ((r 6), .inl (cI, 256, .inl rt)), ((r 7), .inl (cI, 4, .inl ki)), ((r 8), .inl (cL, 4, .inr (.inl rb))), ((r 9), .inl (cI, 4, .inl aq)), ((r 10), .inl (cZ, 64, .inl cd)), ((r 11), .inl (cI, 64, .inl g1)), ((r 12), .inl (cI, 64, .inl g2)), ((r 13), .inl (cI, 64, .inl g3)), ((r 14), .inl (cL, 256, .inr (.inl gw))), ((r 15), .inl (cL, 64, .inr (.inl an)))] H := hP
    have hD : va_D A [((r 0), .inr (7, [.int 0, .int (nI rc), .ref (r 1), .int (nI ro), .ref (r 2), .int (nI rm), .ref (r 3), .ref (r 4), .ref (r 5), .ref (r 6), .int (nI ra), .ref (r 7), .ref (r 8), .ref (r 9), .ref (r 10), .int (nI rl), .ref (r 11), .ref (r 12), .ref (r 13), .ref (r 14), .int (nI rw), .ref (r 15), .long gv])), ((r 1), .inl (cI, 16, .inl rp)), ((r 2), .inl (cI, 64, .inl rk)), ((r 3), .inl (cI, 64, .inl ow)), ((r 4), .inl (cI, 64, .inl rn)), ((r 5), .inl (cI, 64, .inl ct)), ((r 6), .inl (cI, 256, .inl rt)), ((r 7), .inl (cI, 4, .inl ki)), ((r 8), .inl (cL, 4, .inr (.inl rb))), ((r 9), .inl (cI, 4, .inl aq)), ((r 10), .inl (cZ, 64, .inl cd)), ((r 11), .inl (cI, 64, .inl g1)), ((r 12), .inl (cI, 64, .inl g2)), ((r 13), .inl (cI, 64, .inl g3)), ((r 14), .inl (cL, 256, .inr (.inl gw))), ((r 15), .inl (cL, 64, .inr (.inl an)))] := hD
    refine hx_topi (y := 0) (rfl) ?_
    refine lv_if_eq (tgt := 24) hx hb kd_R_answer_20 (by decide) (fun c_20 => ?_) (fun c_20 => ?_)
    · skip
      refine lv_aload_n hx hb kd_R_answer_24 rfl (lv_at hl 0 rfl) ?_
      refine va_get (D := D) (ci := 7) (v := .ref (r 15)) (C := "HostBridgeModel") (T := ct_R) (N := 23) hx hb hts cw_R hown hK hP 0 rfl rfl 21 (by decide) (hts _ km_642) (fun _ h9 => h9) rfl kd_R_answer_25 ?_
      refine lv_aload_n hx hb kd_R_answer_28 rfl (lv_at hl 0 rfl) ?_
      refine va_get (D := D) (ci := 7) (v := .int (nI rw)) (C := "HostBridgeModel") (T := ct_R) (N := 23) hx hb hts cw_R hown hK hP 0 rfl rfl 20 (by decide) (hts _ km_641) (fun _ h9 => h9) rfl kd_R_answer_29 ?_
      refine lv_lload_n hx hb kd_R_answer_32 rfl (lv_at hl 1 rfl) ?_
      refine hx_last (j := rw) hx hb hK hP hD hS 15 rfl (rfl) (hn) (by decide) kd_R_answer_33 (fun H locs hP hD hS => ?_)
      have hP : va_P D cl_all [((r 0), .inr (7, [.int 0, .int (nI rc), .ref (r 1), .int (nI ro), .ref (r 2), .int (nI rm), .ref (r 3), .ref (r 4), .ref (r 5), .ref (r 6), .int (nI ra), .ref (r 7), .ref (r 8), .ref (r 9), .ref (r 10), .int (nI rl), .ref (r 11), .ref (r 12), .ref (r 13), .ref (r 14), .int (nI rw), .ref (r 15), .long gv])), ((r 1), .inl (cI, 16, .inl rp)), ((r 2), .inl (cI, 64, .inl rk)), ((r 3), .inl (cI, 64, .inl ow)), ((r 4), .inl (cI, 64, .inl rn)), ((r 5), .inl (cI, 64, .inl ct)), ((r 6), .inl (cI, 256, .inl rt)), ((r 7), .inl (cI, 4, .inl ki)), ((r 8), .inl (cL, 4, .inr (.inl rb))), ((r 9), .inl (cI, 4, .inl aq)), ((r 10), .inl (cZ, 64, .inl cd)), ((r 11), .inl (cI, 64, .inl g1)), ((r 12), .inl (cI, 64, .inl g2)), ((r 13), .inl (cI, 64, .inl g3)), ((r 14), .inl (cL, 256, .inr (.inl gw))), ((r 15), .inl (cL, 64, .inr (.inl (vp_updL an rw v))))] H := hP
      have hD : va_D A [((r 0), .inr (7, [.int 0, .int (nI rc), .ref (r 1), .int (nI ro), .ref (r 2), .int (nI rm), .ref (r 3), .ref (r 4), .ref (r 5), .ref (r 6), .int (nI ra), .ref (r 7), .ref (r 8), .ref (r 9), .ref (r 10), .int (nI rl), .ref (r 11), .ref (r 12), .ref (r 13), .ref (r 14), .int (nI rw), .ref (r 15), .long gv])), ((r 1), .inl (cI, 16, .inl rp)), ((r 2), .inl (cI, 64, .inl rk)), ((r 3), .inl (cI, 64, .inl ow)), ((r 4), .inl (cI, 64, .inl rn)), ((r 5), .inl (cI, 64, .inl ct)), ((r 6), .inl (cI, 256, .inl rt)), ((r 7), .inl (cI, 4, .inl ki)), ((r 8), .inl (cL, 4, .inr (.inl rb))), ((r 9), .inl (cI, 4, .inl aq)), ((r 10), .inl (cZ, 64, .inl cd)), ((r 11), .inl (cI, 64, .inl g1)), ((r 12), .inl (cI, 64, .inl g2)), ((r 13), .inl (cI, 64, .inl g3)), ((r 14), .inl (cL, 256, .inr (.inl gw))), ((r 15), .inl (cL, 64, .inr (.inl (vp_updL an rw v))))] := hD
      refine lv_aload_n hx hb kd_R_answer_34 rfl (lv_at hl 0 rfl) ?_
      refine lv_dup hx hb kd_R_answer_35 rfl ?_
      refine va_get (D := D) (ci := 7) (v := .int (nI rw)) (C := "HostBridgeModel") (T := ct_R) (N := 23) hx hb hts cw_R hown hK hP 0 rfl rfl 20 (by decide) (hts _ km_641) (fun _ h9 => h9) rfl kd_R_answer_36 ?_
      refine lv_iconst (v := 1) hx hb kd_R_answer_39 (by decide) ?_
      refine lv_iadd hx hb kd_R_answer_40 ?_
      refine hx_topi (y := nI (rw + 1)) (nI_1 rw) ?_
      refine va_put (D := D) (ci := 7) (v := .int (nI (rw + 1))) (ty := .int) (C := "HostBridgeModel") (T := ct_R) (N := 23) hx hb hts cw_R cy_R cp_R cn_R hown hK hP hD hS 0 rfl rfl 20 (by decide) (hts _ km_641) (fun _ h9 => h9) rfl (by decide +kernel) rfl rfl (Nat.le_of_ble_eq_true rfl) kd_R_answer_41 (fun H locs hP hD hS => ?_)
      have hP : va_P D cl_all [((r 0), .inr (7, [.int 0, .int (nI rc), .ref (r 1), .int (nI ro), .ref (r 2), .int (nI rm), .ref (r 3), .ref (r 4), .ref (r 5), .ref (r 6), .int (nI ra), .ref (r 7), .ref (r 8), .ref (r 9), .ref (r 10), .int (nI rl), .ref (r 11), .ref (r 12), .ref (r 13), .ref (r 14), .int (nI (rw + 1)), .ref (r 15), .long gv])), ((r 1), .inl (cI, 16, .inl rp)), ((r 2), .inl (cI, 64, .inl rk)), ((r 3), .inl (cI, 64, .inl ow)), ((r 4), .inl (cI, 64, .inl rn)), ((r 5), .inl (cI, 64, .inl ct)), ((r 6), .inl (cI, 256, .inl rt)), ((r 7), .inl (cI, 4, .inl ki)), ((r 8), .inl (cL, 4, .inr (.inl rb))), ((r 9), .inl (cI, 4, .inl aq)), ((r 10), .inl (cZ, 64, .inl cd)), ((r 11), .inl (cI, 64, .inl g1)), ((r 12), .inl (cI, 64, .inl g2)), ((r 13), .inl (cI, 64, .inl g3)), ((r 14), .inl (cL, 256, .inr (.inl gw))), ((r 15), .inl (cL, 64, .inr (.inl (vp_updL an rw v))))] H := hP
      have hD : va_D A [((r 0), .inr (7, [.int 0, .int (nI rc), .ref (r 1), .int (nI ro), .ref (r 2), .int (nI rm), .ref (r 3), .ref (r 4), .ref (r 5), .ref (r 6), .int (nI ra), .ref (r 7), .ref (r 8), .ref (r 9), .ref (r 10), .int (nI rl), .ref (r 11), .ref (r 12), .ref (r 13), .ref (r 14), .int (nI (rw + 1)), .ref (r 15), .long gv])), ((r 1), .inl (cI, 16, .inl rp)), ((r 2), .inl (cI, 64, .inl rk)), ((r 3), .inl (cI, 64, .inl ow)), ((r 4), .inl (cI, 64, .inl rn)), ((r 5), .inl (cI, 64, .inl ct)), ((r 6), .inl (cI, 256, .inl rt)), ((r 7), .inl (cI, 4, .inl ki)), ((r 8), .inl (cL, 4, .inr (.inl rb))), ((r 9), .inl (cI, 4, .inl aq)), ((r 10), .inl (cZ, 64, .inl cd)), ((r 11), .inl (cI, 64, .inl g1)), ((r 12), .inl (cI, 64, .inl g2)), ((r 13), .inl (cI, 64, .inl g3)), ((r 14), .inl (cL, 256, .inr (.inl gw))), ((r 15), .inl (cL, 64, .inr (.inl (vp_updL an rw v))))] := hD
      exact hx_vretW hx hb hr hlocks (hP.sub [0, 1, 2, 3, 4, 5, 6, 7, 8, 9, 10, 11, 12, 13, 14, 15] rfl) hS kd_R_answer_44
    · exact absurd c_20 (not_not_intro rfl)
  · exact absurd c_7 (fun h => absurd ((nI_eq (a := rw) (b := 64) (by omega) (by decide)).mp h) (by omega))

set_option maxHeartbeats 4000000 in
set_option maxRecDepth 100000 in
theorem mr_answer1 {l : Launch} {D : va_G} {cI cL cZ : ClassId} {tb : Nat} (r : Nat → Nat) (rc ro rm ra rl rw : Nat) (th : Int32) (gv : Int64) (rp rk ow rn ct rt ki aq cd g1 g2 g3 : Nat → Int32) (rb gw an : Nat → Int64) (v : Int64) (hn : rw = 64) (sz : Nat) : Met l ky_R_answer kw_R_answer { frames := 1, cells := 0, slots := 0, locals := 23 } (pw_P D cI cL cZ tb [((r 0), .inr (7, [.int th, .int (nI rc), .ref (r 1), .int (nI ro), .ref (r 2), .int (nI rm), .ref (r 3), .ref (r 4), .ref (r 5), .ref (r 6), .int (nI ra), .ref (r 7), .ref (r 8), .ref (r 9), .ref (r 10), .int (nI rl), .ref (r 11), .ref (r 12), .ref (r 13), .ref (r 14), .int (nI rw), .ref (r 15), .long gv])), ((r 1), .inl (cI, 16, .inl rp)), ((r 2), .inl (cI, 64, .inl rk)), ((r 3), .inl (cI, 64, .inl ow)), ((r 4), .inl (cI, 64, .inl rn)), ((r 5), .inl (cI, 64, .inl ct)), ((r 6), .inl (cI, 256, .inl rt)), ((r 7), .inl (cI, 4, .inl ki)), ((r 8), .inl (cL, 4, .inr (.inl rb))), ((r 9), .inl (cI, 4, .inl aq)), ((r 10), .inl (cZ, 64, .inl cd)), ((r 11), .inl (cI, 64, .inl g1)), ((r 12), .inl (cI, 64, .inl g2)), ((r 13), .inl (cI, 64, .inl g3)), ((r 14), .inl (cL, 256, .inr (.inl gw))), ((r 15), .inl (cL, 64, .inr (.inl an)))] sz [.ref (r 0), .long v]) (hx_QW D none [((r 0), .inr (7, [.int 1, .int (nI rc), .ref (r 1), .int (nI ro), .ref (r 2), .int (nI rm), .ref (r 3), .ref (r 4), .ref (r 5), .ref (r 6), .int (nI ra), .ref (r 7), .ref (r 8), .ref (r 9), .ref (r 10), .int (nI rl), .ref (r 11), .ref (r 12), .ref (r 13), .ref (r 14), .int (nI rw), .ref (r 15), .long gv])), ((r 1), .inl (cI, 16, .inl rp)), ((r 2), .inl (cI, 64, .inl rk)), ((r 3), .inl (cI, 64, .inl ow)), ((r 4), .inl (cI, 64, .inl rn)), ((r 5), .inl (cI, 64, .inl ct)), ((r 6), .inl (cI, 256, .inl rt)), ((r 7), .inl (cI, 4, .inl ki)), ((r 8), .inl (cL, 4, .inr (.inl rb))), ((r 9), .inl (cI, 4, .inl aq)), ((r 10), .inl (cZ, 64, .inl cd)), ((r 11), .inl (cI, 64, .inl g1)), ((r 12), .inl (cI, 64, .inl g2)), ((r 13), .inl (cI, 64, .inl g3)), ((r 14), .inl (cL, 256, .inr (.inl gw))), ((r 15), .inl (cL, 64, .inr (.inl an)))] (va_A [((r 0), .inr (7, [.int th, .int (nI rc), .ref (r 1), .int (nI ro), .ref (r 2), .int (nI rm), .ref (r 3), .ref (r 4), .ref (r 5), .ref (r 6), .int (nI ra), .ref (r 7), .ref (r 8), .ref (r 9), .ref (r 10), .int (nI rl), .ref (r 11), .ref (r 12), .ref (r 13), .ref (r 14), .int (nI rw), .ref (r 15), .long gv])), ((r 1), .inl (cI, 16, .inl rp)), ((r 2), .inl (cI, 64, .inl rk)), ((r 3), .inl (cI, 64, .inl ow)), ((r 4), .inl (cI, 64, .inl rn)), ((r 5), .inl (cI, 64, .inl ct)), ((r 6), .inl (cI, 256, .inl rt)), ((r 7), .inl (cI, 4, .inl ki)), ((r 8), .inl (cL, 4, .inr (.inl rb))), ((r 9), .inl (cI, 4, .inl aq)), ((r 10), .inl (cZ, 64, .inl cd)), ((r 11), .inl (cI, 64, .inl g1)), ((r 12), .inl (cI, 64, .inl g2)), ((r 13), .inl (cI, 64, .inl g3)), ((r 14), .inl (cL, 256, .inr (.inl gw))), ((r 15), .inl (cL, 64, .inr (.inl an)))] sz)) 0 0 (va_A [((r 0), .inr (7, [.int th, .int (nI rc), .ref (r 1), .int (nI ro), .ref (r 2), .int (nI rm), .ref (r 3), .ref (r 4), .ref (r 5), .ref (r 6), .int (nI ra), .ref (r 7), .ref (r 8), .ref (r 9), .ref (r 10), .int (nI rl), .ref (r 11), .ref (r 12), .ref (r 13), .ref (r 14), .int (nI rw), .ref (r 15), .long gv])), ((r 1), .inl (cI, 16, .inl rp)), ((r 2), .inl (cI, 64, .inl rk)), ((r 3), .inl (cI, 64, .inl ow)), ((r 4), .inl (cI, 64, .inl rn)), ((r 5), .inl (cI, 64, .inl ct)), ((r 6), .inl (cI, 256, .inl rt)), ((r 7), .inl (cI, 4, .inl ki)), ((r 8), .inl (cL, 4, .inr (.inl rb))), ((r 9), .inl (cI, 4, .inl aq)), ((r 10), .inl (cZ, 64, .inl cd)), ((r 11), .inl (cI, 64, .inl g1)), ((r 12), .inl (cI, 64, .inl g2)), ((r 13), .inl (cI, 64, .inl g3)), ((r 14), .inl (cL, 256, .inr (.inl gw))), ((r 15), .inl (cL, 64, .inr (.inl an)))] sz) := by
  refine Met.ofW (cc := kc_R_answer) (maxL := 3) (ret := none) (by decide) rfl ?_
  intro p e s m args below meth c s₁ B hml hv
  obtain ⟨rfl, hsz, hC, hP, hD0⟩ := hv
  have hx := B.exec
  have hb := B.bytes
  have hr := B.returns
  have hlocks := B.notSynchronized
  have hown : s.vm.findClass "HostBridgeModel" = some m.cls := findClass_of_methodNamed B.named
  subst hsz
  have hD := hD0.self (sz := s.heap.size)
  generalize hAe : va_A [((r 0), .inr (7, [.int th, .int (nI rc), .ref (r 1), .int (nI ro), .ref (r 2), .int (nI rm), .ref (r 3), .ref (r 4), .ref (r 5), .ref (r 6), .int (nI ra), .ref (r 7), .ref (r 8), .ref (r 9), .ref (r 10), .int (nI rl), .ref (r 11), .ref (r 12), .ref (r 13), .ref (r 14), .int (nI rw), .ref (r 15), .long gv])), ((r 1), .inl (cI, 16, .inl rp)), ((r 2), .inl (cI, 64, .inl rk)), ((r 3), .inl (cI, 64, .inl ow)), ((r 4), .inl (cI, 64, .inl rn)), ((r 5), .inl (cI, 64, .inl ct)), ((r 6), .inl (cI, 256, .inl rt)), ((r 7), .inl (cI, 4, .inl ki)), ((r 8), .inl (cL, 4, .inr (.inl rb))), ((r 9), .inl (cI, 4, .inl aq)), ((r 10), .inl (cZ, 64, .inl cd)), ((r 11), .inl (cI, 64, .inl g1)), ((r 12), .inl (cI, 64, .inl g2)), ((r 13), .inl (cI, 64, .inl g3)), ((r 14), .inl (cL, 256, .inr (.inl gw))), ((r 15), .inl (cL, 64, .inr (.inl an)))] s.heap.size = A at hD hC ⊢
  have hA : ∀ q : Nat, s.heap.size ≤ q → A q := fun q h => by rw [← hAe]; exact Or.inr h
  have hS : va_S A s.heap s.heap [] := va_S.rf
  have hK := hC.K
  have hts := hC.ts [.ref (r 0), .long v].toArray
  have hl := lv_entry ([.ref (r 0), .long v]) (n := 3) (Nat.le_of_ble_eq_true rfl)
  rw [lg_entry_eq]
  generalize (lg_sl ([.ref (r 0), .long v]) ++ List.replicate (3 - (lg_sl ([.ref (r 0), .long v])).length) Slot.unset).toArray = ls at hl ⊢
  have hl : lv_has ls 3 [(0, .ref (r 0)), (1, .long v)] := hl
  refine lv_aload_n hx hb kd_R_answer_0 rfl (lv_at hl 0 rfl) ?_
  refine lv_aload_n hx hb kd_R_answer_1 rfl (lv_at hl 0 rfl) ?_
  refine va_get (D := D) (ci := 7) (v := .int (nI rw)) (C := "HostBridgeModel") (T := ct_R) (N := 23) hx hb hts cw_R hown hK hP 0 rfl rfl 20 (by decide) (hts _ km_641) (fun _ h9 => h9) rfl kd_R_answer_2 ?_
  refine lv_bipush (v := 64) hx hb kd_R_answer_5 (by decide) ?_
  refine lv_icmp_ne (tgt := 14) hx hb kd_R_answer_7 (by decide) (fun c_7 => ?_) (fun c_7 => ?_)
  · exact absurd c_7 (not_not_intro (by rw [hn]; rfl))
  · skip
    refine lv_iconst (v := 1) hx hb kd_R_answer_10 (by decide) ?_
    refine lv_goto (tgt := 15) hx hb kd_R_answer_11 (by decide) ?_
    refine lv_iconst (v := 0) hx hb kd_R_answer_15 (by decide) ?_
    refine lv_iconst (v := 0) hx hb kd_R_answer_16 (by decide) ?_
    refine hx_callWi (va_runV (As := [.int 1, .int 0, .int 0]) (rest := []) ⟨hx, hb, hml, hown, hts⟩ (mr_throwing1 r rc ro rm ra rl rw th gv rp rk ow rn ct rt ki aq cd g1 g2 g3 rb gw an _) (cwV 3 hts (goodIn_sub (hx_m5 km_703 km_705 kv_R_throwing km_8 km_706) (by decide +kernel)) rfl rfl rfl (by decide +kernel) ⟨Nat.le_of_ble_eq_true rfl, Nat.le_of_ble_eq_true rfl⟩) (pw_V (hC.S hS) hP hD hS hA [0] (by decide) rfl (ci := 7) rfl (q0 := 0) rfl) rfl rfl hl.1 rfl (lv_room (Nat.le_of_ble_eq_true rfl)) kd_R_answer_17 ⟨Nat.le_of_ble_eq_true rfl, Nat.le_of_ble_eq_true rfl⟩) hP hD hS hA [0] rfl rfl (fun H locs hP hD hS hF => ?_)
    have hP : va_P D cl_all [((r 0), .inr (7, [.int 1, .int (nI rc), .ref (r 1), .int (nI ro), .ref (r 2), .int (nI rm), .ref (r 3), .ref (r 4), .ref (r 5), .ref (r 6), .int (nI ra), .ref (r 7), .ref (r 8), .ref (r 9), .ref (r 10), .int (nI rl), .ref (r 11), .ref (r 12), .ref (r 13), .ref (r 14), .int (nI rw), .ref (r 15), .long gv])), ((r 1), .inl (cI, 16, .inl rp)), ((r 2), .inl (cI, 64, .inl rk)), ((r 3), .inl (cI, 64, .inl ow)), ((r 4), .inl (cI, 64, .inl rn)), ((r 5), .inl (cI, 64, .inl ct)), ((r 6), .inl (cI, 256, .inl rt)), ((r 7), .inl (cI, 4, .inl ki)), ((r 8), .inl (cL, 4, .inr (.inl rb))), ((r 9), .inl (cI, 4, .inl aq)), ((r 10), .inl (cZ, 64, .inl cd)), ((r 11), .inl (cI, 64, .inl g1)), ((r 12), .inl (cI, 64, .inl g2)), ((r 13), .inl (cI, 64, .inl g3)), ((r 14), .inl (cL, 256, .inr (.inl gw))), ((r 15), .inl (cL, 64, .inr (.inl an)))] H := hP
    have hD : va_D A [((r 0), .inr (7, [.int 1, .int (nI rc), .ref (r 1), .int (nI ro), .ref (r 2), .int (nI rm), .ref (r 3), .ref (r 4), .ref (r 5), .ref (r 6), .int (nI ra), .ref (r 7), .ref (r 8), .ref (r 9), .ref (r 10), .int (nI rl), .ref (r 11), .ref (r 12), .ref (r 13), .ref (r 14), .int (nI rw), .ref (r 15), .long gv])), ((r 1), .inl (cI, 16, .inl rp)), ((r 2), .inl (cI, 64, .inl rk)), ((r 3), .inl (cI, 64, .inl ow)), ((r 4), .inl (cI, 64, .inl rn)), ((r 5), .inl (cI, 64, .inl ct)), ((r 6), .inl (cI, 256, .inl rt)), ((r 7), .inl (cI, 4, .inl ki)), ((r 8), .inl (cL, 4, .inr (.inl rb))), ((r 9), .inl (cI, 4, .inl aq)), ((r 10), .inl (cZ, 64, .inl cd)), ((r 11), .inl (cI, 64, .inl g1)), ((r 12), .inl (cI, 64, .inl g2)), ((r 13), .inl (cI, 64, .inl g3)), ((r 14), .inl (cL, 256, .inr (.inl gw))), ((r 15), .inl (cL, 64, .inr (.inl an)))] := hD
    refine hx_topi (y := 1) (rfl) ?_
    refine lv_if_eq (tgt := 24) hx hb kd_R_answer_20 (by decide) (fun c_20 => ?_) (fun c_20 => ?_)
    · exact absurd c_20 (by decide)
    · skip
      exact hx_vretW hx hb hr hlocks (hP.sub [0, 1, 2, 3, 4, 5, 6, 7, 8, 9, 10, 11, 12, 13, 14, 15] rfl) hS kd_R_answer_23

set_option maxHeartbeats 4000000 in
set_option maxRecDepth 100000 in
theorem mr_given0 {l : Launch} {D : va_G} {cI cL cZ : ClassId} {tb : Nat} (r : Nat → Nat) (rc ro rm ra rl rw : Nat) (th : Int32) (gv : Int64) (rp rk ow rn ct rt ki aq cd g1 g2 g3 : Nat → Int32) (rb gw an : Nat → Int64) (hn : 0 < rl) (hd : rl < 2 ^ 31) (sz : Nat) : Met l ky_R_given kw_R_given { frames := 1, cells := 0, slots := 0, locals := 23 } (pw_P D cI cL cZ tb [((r 0), .inr (7, [.int th, .int (nI rc), .ref (r 1), .int (nI ro), .ref (r 2), .int (nI rm), .ref (r 3), .ref (r 4), .ref (r 5), .ref (r 6), .int (nI ra), .ref (r 7), .ref (r 8), .ref (r 9), .ref (r 10), .int (nI rl), .ref (r 11), .ref (r 12), .ref (r 13), .ref (r 14), .int (nI rw), .ref (r 15), .long gv])), ((r 1), .inl (cI, 16, .inl rp)), ((r 2), .inl (cI, 64, .inl rk)), ((r 3), .inl (cI, 64, .inl ow)), ((r 4), .inl (cI, 64, .inl rn)), ((r 5), .inl (cI, 64, .inl ct)), ((r 6), .inl (cI, 256, .inl rt)), ((r 7), .inl (cI, 4, .inl ki)), ((r 8), .inl (cL, 4, .inr (.inl rb))), ((r 9), .inl (cI, 4, .inl aq)), ((r 10), .inl (cZ, 64, .inl cd)), ((r 11), .inl (cI, 64, .inl g1)), ((r 12), .inl (cI, 64, .inl g2)), ((r 13), .inl (cI, 64, .inl g3)), ((r 14), .inl (cL, 256, .inr (.inl gw))), ((r 15), .inl (cL, 64, .inr (.inl an)))] sz [.ref (r 0)]) (hx_QW D (some (.long gv)) [((r 0), .inr (7, [.int 0, .int (nI rc), .ref (r 1), .int (nI ro), .ref (r 2), .int (nI rm), .ref (r 3), .ref (r 4), .ref (r 5), .ref (r 6), .int (nI ra), .ref (r 7), .ref (r 8), .ref (r 9), .ref (r 10), .int (nI rl), .ref (r 11), .ref (r 12), .ref (r 13), .ref (r 14), .int (nI rw), .ref (r 15), .long gv])), ((r 1), .inl (cI, 16, .inl rp)), ((r 2), .inl (cI, 64, .inl rk)), ((r 3), .inl (cI, 64, .inl ow)), ((r 4), .inl (cI, 64, .inl rn)), ((r 5), .inl (cI, 64, .inl ct)), ((r 6), .inl (cI, 256, .inl rt)), ((r 7), .inl (cI, 4, .inl ki)), ((r 8), .inl (cL, 4, .inr (.inl rb))), ((r 9), .inl (cI, 4, .inl aq)), ((r 10), .inl (cZ, 64, .inl cd)), ((r 11), .inl (cI, 64, .inl g1)), ((r 12), .inl (cI, 64, .inl g2)), ((r 13), .inl (cI, 64, .inl g3)), ((r 14), .inl (cL, 256, .inr (.inl gw))), ((r 15), .inl (cL, 64, .inr (.inl an)))] (va_A [((r 0), .inr (7, [.int th, .int (nI rc), .ref (r 1), .int (nI ro), .ref (r 2), .int (nI rm), .ref (r 3), .ref (r 4), .ref (r 5), .ref (r 6), .int (nI ra), .ref (r 7), .ref (r 8), .ref (r 9), .ref (r 10), .int (nI rl), .ref (r 11), .ref (r 12), .ref (r 13), .ref (r 14), .int (nI rw), .ref (r 15), .long gv])), ((r 1), .inl (cI, 16, .inl rp)), ((r 2), .inl (cI, 64, .inl rk)), ((r 3), .inl (cI, 64, .inl ow)), ((r 4), .inl (cI, 64, .inl rn)), ((r 5), .inl (cI, 64, .inl ct)), ((r 6), .inl (cI, 256, .inl rt)), ((r 7), .inl (cI, 4, .inl ki)), ((r 8), .inl (cL, 4, .inr (.inl rb))), ((r 9), .inl (cI, 4, .inl aq)), ((r 10), .inl (cZ, 64, .inl cd)), ((r 11), .inl (cI, 64, .inl g1)), ((r 12), .inl (cI, 64, .inl g2)), ((r 13), .inl (cI, 64, .inl g3)), ((r 14), .inl (cL, 256, .inr (.inl gw))), ((r 15), .inl (cL, 64, .inr (.inl an)))] sz)) 0 0 (va_A [((r 0), .inr (7, [.int th, .int (nI rc), .ref (r 1), .int (nI ro), .ref (r 2), .int (nI rm), .ref (r 3), .ref (r 4), .ref (r 5), .ref (r 6), .int (nI ra), .ref (r 7), .ref (r 8), .ref (r 9), .ref (r 10), .int (nI rl), .ref (r 11), .ref (r 12), .ref (r 13), .ref (r 14), .int (nI rw), .ref (r 15), .long gv])), ((r 1), .inl (cI, 16, .inl rp)), ((r 2), .inl (cI, 64, .inl rk)), ((r 3), .inl (cI, 64, .inl ow)), ((r 4), .inl (cI, 64, .inl rn)), ((r 5), .inl (cI, 64, .inl ct)), ((r 6), .inl (cI, 256, .inl rt)), ((r 7), .inl (cI, 4, .inl ki)), ((r 8), .inl (cL, 4, .inr (.inl rb))), ((r 9), .inl (cI, 4, .inl aq)), ((r 10), .inl (cZ, 64, .inl cd)), ((r 11), .inl (cI, 64, .inl g1)), ((r 12), .inl (cI, 64, .inl g2)), ((r 13), .inl (cI, 64, .inl g3)), ((r 14), .inl (cL, 256, .inr (.inl gw))), ((r 15), .inl (cL, 64, .inr (.inl an)))] sz) := by
  refine Met.ofW (cc := kc_R_given) (maxL := 1) (ret := (some .long)) (by decide) rfl ?_
  intro p e s m args below meth c s₁ B hml hv
  obtain ⟨rfl, hsz, hC, hP, hD0⟩ := hv
  have hx := B.exec
  have hb := B.bytes
  have hr := B.returns
  have hlocks := B.notSynchronized
  have hown : s.vm.findClass "HostBridgeModel" = some m.cls := findClass_of_methodNamed B.named
  subst hsz
  have hD := hD0.self (sz := s.heap.size)
  generalize hAe : va_A [((r 0), .inr (7, [.int th, .int (nI rc), .ref (r 1), .int (nI ro), .ref (r 2), .int (nI rm), .ref (r 3), .ref (r 4), .ref (r 5), .ref (r 6), .int (nI ra), .ref (r 7), .ref (r 8), .ref (r 9), .ref (r 10), .int (nI rl), .ref (r 11), .ref (r 12), .ref (r 13), .ref (r 14), .int (nI rw), .ref (r 15), .long gv])), ((r 1), .inl (cI, 16, .inl rp)), ((r 2), .inl (cI, 64, .inl rk)), ((r 3), .inl (cI, 64, .inl ow)), ((r 4), .inl (cI, 64, .inl rn)), ((r 5), .inl (cI, 64, .inl ct)), ((r 6), .inl (cI, 256, .inl rt)), ((r 7), .inl (cI, 4, .inl ki)), ((r 8), .inl (cL, 4, .inr (.inl rb))), ((r 9), .inl (cI, 4, .inl aq)), ((r 10), .inl (cZ, 64, .inl cd)), ((r 11), .inl (cI, 64, .inl g1)), ((r 12), .inl (cI, 64, .inl g2)), ((r 13), .inl (cI, 64, .inl g3)), ((r 14), .inl (cL, 256, .inr (.inl gw))), ((r 15), .inl (cL, 64, .inr (.inl an)))] s.heap.size = A at hD hC ⊢
  have hA : ∀ q : Nat, s.heap.size ≤ q → A q := fun q h => by rw [← hAe]; exact Or.inr h
  have hS : va_S A s.heap s.heap [] := va_S.rf
  have hK := hC.K
  have hts := hC.ts [.ref (r 0)].toArray
  have hl := lv_entry ([.ref (r 0)]) (n := 1) (Nat.le_of_ble_eq_true rfl)
  rw [lg_entry_eq]
  generalize (lg_sl ([.ref (r 0)]) ++ List.replicate (1 - (lg_sl ([.ref (r 0)])).length) Slot.unset).toArray = ls at hl ⊢
  have hl : lv_has ls 1 [(0, .ref (r 0))] := hl
  refine lv_aload_n hx hb kd_R_given_0 rfl (lv_at hl 0 rfl) ?_
  refine lv_aload_n hx hb kd_R_given_1 rfl (lv_at hl 0 rfl) ?_
  refine va_get (D := D) (ci := 7) (v := .int (nI rl)) (C := "HostBridgeModel") (T := ct_R) (N := 23) hx hb hts cw_R hown hK hP 0 rfl rfl 15 (by decide) (hts _ km_636) (fun _ h9 => h9) rfl kd_R_given_2 ?_
  refine lv_if_ne (tgt := 12) hx hb kd_R_given_5 (by decide) (fun c_5 => ?_) (fun c_5 => ?_)
  · skip
    refine lv_iconst (v := 0) hx hb kd_R_given_12 (by decide) ?_
    refine lv_iconst (v := 0) hx hb kd_R_given_13 (by decide) ?_
    refine lv_iconst (v := 0) hx hb kd_R_given_14 (by decide) ?_
    refine hx_callWi (va_runV (As := [.int 0, .int 0, .int 0]) (rest := []) ⟨hx, hb, hml, hown, hts⟩ (mr_throwing0 r rc ro rm ra rl rw th gv rp rk ow rn ct rt ki aq cd g1 g2 g3 rb gw an _) (cwV 3 hts (goodIn_sub (hx_m5 km_703 km_705 kv_R_throwing km_8 km_706) (by decide +kernel)) rfl rfl rfl (by decide +kernel) ⟨Nat.le_of_ble_eq_true rfl, Nat.le_of_ble_eq_true rfl⟩) (pw_V (hC.S hS) hP hD hS hA [0] (by decide) rfl (ci := 7) rfl (q0 := 0) rfl) rfl rfl hl.1 rfl (lv_room (Nat.le_of_ble_eq_true rfl)) kd_R_given_15 ⟨Nat.le_of_ble_eq_true rfl, Nat.le_of_ble_eq_true rfl⟩) hP hD hS hA [0] rfl rfl (fun H locs hP hD hS hF => ?_)
    have hP : va_P D cl_all [((r 0), .inr (7, [.int 0, .int (nI rc), .ref (r 1), .int (nI ro), .ref (r 2), .int (nI rm), .ref (r 3), .ref (r 4), .ref (r 5), .ref (r 6), .int (nI ra), .ref (r 7), .ref (r 8), .ref (r 9), .ref (r 10), .int (nI rl), .ref (r 11), .ref (r 12), .ref (r 13), .ref (r 14), .int (nI rw), .ref (r 15), .long gv])), ((r 1), .inl (cI, 16, .inl rp)), ((r 2), .inl (cI, 64, .inl rk)), ((r 3), .inl (cI, 64, .inl ow)), ((r 4), .inl (cI, 64, .inl rn)), ((r 5), .inl (cI, 64, .inl ct)), ((r 6), .inl (cI, 256, .inl rt)), ((r 7), .inl (cI, 4, .inl ki)), ((r 8), .inl (cL, 4, .inr (.inl rb))), ((r 9), .inl (cI, 4, .inl aq)), ((r 10), .inl (cZ, 64, .inl cd)), ((r 11), .inl (cI, 64, .inl g1)), ((r 12), .inl (cI, 64, .inl g2)), ((r 13), .inl (cI, 64, .inl g3)), ((r 14), .inl (cL, 256, .inr (.inl gw))), ((r 15), .inl (cL, 64, .inr (.inl an)))] H := hP
    have hD : va_D A [((r 0), .inr (7, [.int 0, .int (nI rc), .ref (r 1), .int (nI ro), .ref (r 2), .int (nI rm), .ref (r 3), .ref (r 4), .ref (r 5), .ref (r 6), .int (nI ra), .ref (r 7), .ref (r 8), .ref (r 9), .ref (r 10), .int (nI rl), .ref (r 11), .ref (r 12), .ref (r 13), .ref (r 14), .int (nI rw), .ref (r 15), .long gv])), ((r 1), .inl (cI, 16, .inl rp)), ((r 2), .inl (cI, 64, .inl rk)), ((r 3), .inl (cI, 64, .inl ow)), ((r 4), .inl (cI, 64, .inl rn)), ((r 5), .inl (cI, 64, .inl ct)), ((r 6), .inl (cI, 256, .inl rt)), ((r 7), .inl (cI, 4, .inl ki)), ((r 8), .inl (cL, 4, .inr (.inl rb))), ((r 9), .inl (cI, 4, .inl aq)), ((r 10), .inl (cZ, 64, .inl cd)), ((r 11), .inl (cI, 64, .inl g1)), ((r 12), .inl (cI, 64, .inl g2)), ((r 13), .inl (cI, 64, .inl g3)), ((r 14), .inl (cL, 256, .inr (.inl gw))), ((r 15), .inl (cL, 64, .inr (.inl an)))] := hD
    refine hx_topi (y := 0) (rfl) ?_
    refine lv_if_eq (tgt := 25) hx hb kd_R_given_18 (by decide) (fun c_18 => ?_) (fun c_18 => ?_)
    · skip
      refine lv_aload_n hx hb kd_R_given_25 rfl (lv_at hl 0 rfl) ?_
      refine va_get (D := D) (ci := 7) (v := .long gv) (C := "HostBridgeModel") (T := ct_R) (N := 23) hx hb hts cw_R hown hK hP 0 rfl rfl 22 (by decide) (hts _ km_643) (fun _ h9 => h9) rfl kd_R_given_26 ?_
      exact hx_lretW hx hb hr hlocks (rfl) (hP) hS kd_R_given_29
    · exact absurd c_18 (not_not_intro rfl)
  · exact absurd c_5 (nI_ne0 hn hd)

set_option maxHeartbeats 4000000 in
set_option maxRecDepth 100000 in
theorem mr_given1 {l : Launch} {D : va_G} {cI cL cZ : ClassId} {tb : Nat} (r : Nat → Nat) (rc ro rm ra rl rw : Nat) (th : Int32) (gv : Int64) (rp rk ow rn ct rt ki aq cd g1 g2 g3 : Nat → Int32) (rb gw an : Nat → Int64) (hn : rl = 0) (sz : Nat) : Met l ky_R_given kw_R_given { frames := 1, cells := 0, slots := 0, locals := 23 } (pw_P D cI cL cZ tb [((r 0), .inr (7, [.int th, .int (nI rc), .ref (r 1), .int (nI ro), .ref (r 2), .int (nI rm), .ref (r 3), .ref (r 4), .ref (r 5), .ref (r 6), .int (nI ra), .ref (r 7), .ref (r 8), .ref (r 9), .ref (r 10), .int (nI rl), .ref (r 11), .ref (r 12), .ref (r 13), .ref (r 14), .int (nI rw), .ref (r 15), .long gv])), ((r 1), .inl (cI, 16, .inl rp)), ((r 2), .inl (cI, 64, .inl rk)), ((r 3), .inl (cI, 64, .inl ow)), ((r 4), .inl (cI, 64, .inl rn)), ((r 5), .inl (cI, 64, .inl ct)), ((r 6), .inl (cI, 256, .inl rt)), ((r 7), .inl (cI, 4, .inl ki)), ((r 8), .inl (cL, 4, .inr (.inl rb))), ((r 9), .inl (cI, 4, .inl aq)), ((r 10), .inl (cZ, 64, .inl cd)), ((r 11), .inl (cI, 64, .inl g1)), ((r 12), .inl (cI, 64, .inl g2)), ((r 13), .inl (cI, 64, .inl g3)), ((r 14), .inl (cL, 256, .inr (.inl gw))), ((r 15), .inl (cL, 64, .inr (.inl an)))] sz [.ref (r 0)]) (hx_QW D (some (.long 0)) [((r 0), .inr (7, [.int 1, .int (nI rc), .ref (r 1), .int (nI ro), .ref (r 2), .int (nI rm), .ref (r 3), .ref (r 4), .ref (r 5), .ref (r 6), .int (nI ra), .ref (r 7), .ref (r 8), .ref (r 9), .ref (r 10), .int (nI rl), .ref (r 11), .ref (r 12), .ref (r 13), .ref (r 14), .int (nI rw), .ref (r 15), .long gv])), ((r 1), .inl (cI, 16, .inl rp)), ((r 2), .inl (cI, 64, .inl rk)), ((r 3), .inl (cI, 64, .inl ow)), ((r 4), .inl (cI, 64, .inl rn)), ((r 5), .inl (cI, 64, .inl ct)), ((r 6), .inl (cI, 256, .inl rt)), ((r 7), .inl (cI, 4, .inl ki)), ((r 8), .inl (cL, 4, .inr (.inl rb))), ((r 9), .inl (cI, 4, .inl aq)), ((r 10), .inl (cZ, 64, .inl cd)), ((r 11), .inl (cI, 64, .inl g1)), ((r 12), .inl (cI, 64, .inl g2)), ((r 13), .inl (cI, 64, .inl g3)), ((r 14), .inl (cL, 256, .inr (.inl gw))), ((r 15), .inl (cL, 64, .inr (.inl an)))] (va_A [((r 0), .inr (7, [.int th, .int (nI rc), .ref (r 1), .int (nI ro), .ref (r 2), .int (nI rm), .ref (r 3), .ref (r 4), .ref (r 5), .ref (r 6), .int (nI ra), .ref (r 7), .ref (r 8), .ref (r 9), .ref (r 10), .int (nI rl), .ref (r 11), .ref (r 12), .ref (r 13), .ref (r 14), .int (nI rw), .ref (r 15), .long gv])), ((r 1), .inl (cI, 16, .inl rp)), ((r 2), .inl (cI, 64, .inl rk)), ((r 3), .inl (cI, 64, .inl ow)), ((r 4), .inl (cI, 64, .inl rn)), ((r 5), .inl (cI, 64, .inl ct)), ((r 6), .inl (cI, 256, .inl rt)), ((r 7), .inl (cI, 4, .inl ki)), ((r 8), .inl (cL, 4, .inr (.inl rb))), ((r 9), .inl (cI, 4, .inl aq)), ((r 10), .inl (cZ, 64, .inl cd)), ((r 11), .inl (cI, 64, .inl g1)), ((r 12), .inl (cI, 64, .inl g2)), ((r 13), .inl (cI, 64, .inl g3)), ((r 14), .inl (cL, 256, .inr (.inl gw))), ((r 15), .inl (cL, 64, .inr (.inl an)))] sz)) 0 0 (va_A [((r 0), .inr (7, [.int th, .int (nI rc), .ref (r 1), .int (nI ro), .ref (r 2), .int (nI rm), .ref (r 3), .ref (r 4), .ref (r 5), .ref (r 6), .int (nI ra), .ref (r 7), .ref (r 8), .ref (r 9), .ref (r 10), .int (nI rl), .ref (r 11), .ref (r 12), .ref (r 13), .ref (r 14), .int (nI rw), .ref (r 15), .long gv])), ((r 1), .inl (cI, 16, .inl rp)), ((r 2), .inl (cI, 64, .inl rk)), ((r 3), .inl (cI, 64, .inl ow)), ((r 4), .inl (cI, 64, .inl rn)), ((r 5), .inl (cI, 64, .inl ct)), ((r 6), .inl (cI, 256, .inl rt)), ((r 7), .inl (cI, 4, .inl ki)), ((r 8), .inl (cL, 4, .inr (.inl rb))), ((r 9), .inl (cI, 4, .inl aq)), ((r 10), .inl (cZ, 64, .inl cd)), ((r 11), .inl (cI, 64, .inl g1)), ((r 12), .inl (cI, 64, .inl g2)), ((r 13), .inl (cI, 64, .inl g3)), ((r 14), .inl (cL, 256, .inr (.inl gw))), ((r 15), .inl (cL, 64, .inr (.inl an)))] sz) := by
  refine Met.ofW (cc := kc_R_given) (maxL := 1) (ret := (some .long)) (by decide) rfl ?_
  intro p e s m args below meth c s₁ B hml hv
  obtain ⟨rfl, hsz, hC, hP, hD0⟩ := hv
  have hx := B.exec
  have hb := B.bytes
  have hr := B.returns
  have hlocks := B.notSynchronized
  have hown : s.vm.findClass "HostBridgeModel" = some m.cls := findClass_of_methodNamed B.named
  subst hsz
  have hD := hD0.self (sz := s.heap.size)
  generalize hAe : va_A [((r 0), .inr (7, [.int th, .int (nI rc), .ref (r 1), .int (nI ro), .ref (r 2), .int (nI rm), .ref (r 3), .ref (r 4), .ref (r 5), .ref (r 6), .int (nI ra), .ref (r 7), .ref (r 8), .ref (r 9), .ref (r 10), .int (nI rl), .ref (r 11), .ref (r 12), .ref (r 13), .ref (r 14), .int (nI rw), .ref (r 15), .long gv])), ((r 1), .inl (cI, 16, .inl rp)), ((r 2), .inl (cI, 64, .inl rk)), ((r 3), .inl (cI, 64, .inl ow)), ((r 4), .inl (cI, 64, .inl rn)), ((r 5), .inl (cI, 64, .inl ct)), ((r 6), .inl (cI, 256, .inl rt)), ((r 7), .inl (cI, 4, .inl ki)), ((r 8), .inl (cL, 4, .inr (.inl rb))), ((r 9), .inl (cI, 4, .inl aq)), ((r 10), .inl (cZ, 64, .inl cd)), ((r 11), .inl (cI, 64, .inl g1)), ((r 12), .inl (cI, 64, .inl g2)), ((r 13), .inl (cI, 64, .inl g3)), ((r 14), .inl (cL, 256, .inr (.inl gw))), ((r 15), .inl (cL, 64, .inr (.inl an)))] s.heap.size = A at hD hC ⊢
  have hA : ∀ q : Nat, s.heap.size ≤ q → A q := fun q h => by rw [← hAe]; exact Or.inr h
  have hS : va_S A s.heap s.heap [] := va_S.rf
  have hK := hC.K
  have hts := hC.ts [.ref (r 0)].toArray
  have hl := lv_entry ([.ref (r 0)]) (n := 1) (Nat.le_of_ble_eq_true rfl)
  rw [lg_entry_eq]
  generalize (lg_sl ([.ref (r 0)]) ++ List.replicate (1 - (lg_sl ([.ref (r 0)])).length) Slot.unset).toArray = ls at hl ⊢
  have hl : lv_has ls 1 [(0, .ref (r 0))] := hl
  refine lv_aload_n hx hb kd_R_given_0 rfl (lv_at hl 0 rfl) ?_
  refine lv_aload_n hx hb kd_R_given_1 rfl (lv_at hl 0 rfl) ?_
  refine va_get (D := D) (ci := 7) (v := .int (nI rl)) (C := "HostBridgeModel") (T := ct_R) (N := 23) hx hb hts cw_R hown hK hP 0 rfl rfl 15 (by decide) (hts _ km_636) (fun _ h9 => h9) rfl kd_R_given_2 ?_
  refine lv_if_ne (tgt := 12) hx hb kd_R_given_5 (by decide) (fun c_5 => ?_) (fun c_5 => ?_)
  · exact absurd c_5 (not_not_intro (by rw [hn]; rfl))
  · skip
    refine lv_iconst (v := 1) hx hb kd_R_given_8 (by decide) ?_
    refine lv_goto (tgt := 13) hx hb kd_R_given_9 (by decide) ?_
    refine lv_iconst (v := 0) hx hb kd_R_given_13 (by decide) ?_
    refine lv_iconst (v := 0) hx hb kd_R_given_14 (by decide) ?_
    refine hx_callWi (va_runV (As := [.int 1, .int 0, .int 0]) (rest := []) ⟨hx, hb, hml, hown, hts⟩ (mr_throwing1 r rc ro rm ra rl rw th gv rp rk ow rn ct rt ki aq cd g1 g2 g3 rb gw an _) (cwV 3 hts (goodIn_sub (hx_m5 km_703 km_705 kv_R_throwing km_8 km_706) (by decide +kernel)) rfl rfl rfl (by decide +kernel) ⟨Nat.le_of_ble_eq_true rfl, Nat.le_of_ble_eq_true rfl⟩) (pw_V (hC.S hS) hP hD hS hA [0] (by decide) rfl (ci := 7) rfl (q0 := 0) rfl) rfl rfl hl.1 rfl (lv_room (Nat.le_of_ble_eq_true rfl)) kd_R_given_15 ⟨Nat.le_of_ble_eq_true rfl, Nat.le_of_ble_eq_true rfl⟩) hP hD hS hA [0] rfl rfl (fun H locs hP hD hS hF => ?_)
    have hP : va_P D cl_all [((r 0), .inr (7, [.int 1, .int (nI rc), .ref (r 1), .int (nI ro), .ref (r 2), .int (nI rm), .ref (r 3), .ref (r 4), .ref (r 5), .ref (r 6), .int (nI ra), .ref (r 7), .ref (r 8), .ref (r 9), .ref (r 10), .int (nI rl), .ref (r 11), .ref (r 12), .ref (r 13), .ref (r 14), .int (nI rw), .ref (r 15), .long gv])), ((r 1), .inl (cI, 16, .inl rp)), ((r 2), .inl (cI, 64, .inl rk)), ((r 3), .inl (cI, 64, .inl ow)), ((r 4), .inl (cI, 64, .inl rn)), ((r 5), .inl (cI, 64, .inl ct)), ((r 6), .inl (cI, 256, .inl rt)), ((r 7), .inl (cI, 4, .inl ki)), ((r 8), .inl (cL, 4, .inr (.inl rb))), ((r 9), .inl (cI, 4, .inl aq)), ((r 10), .inl (cZ, 64, .inl cd)), ((r 11), .inl (cI, 64, .inl g1)), ((r 12), .inl (cI, 64, .inl g2)), ((r 13), .inl (cI, 64, .inl g3)), ((r 14), .inl (cL, 256, .inr (.inl gw))), ((r 15), .inl (cL, 64, .inr (.inl an)))] H := hP
    have hD : va_D A [((r 0), .inr (7, [.int 1, .int (nI rc), .ref (r 1), .int (nI ro), .ref (r 2), .int (nI rm), .ref (r 3), .ref (r 4), .ref (r 5), .ref (r 6), .int (nI ra), .ref (r 7), .ref (r 8), .ref (r 9), .ref (r 10), .int (nI rl), .ref (r 11), .ref (r 12), .ref (r 13), .ref (r 14), .int (nI rw), .ref (r 15), .long gv])), ((r 1), .inl (cI, 16, .inl rp)), ((r 2), .inl (cI, 64, .inl rk)), ((r 3), .inl (cI, 64, .inl ow)), ((r 4), .inl (cI, 64, .inl rn)), ((r 5), .inl (cI, 64, .inl ct)), ((r 6), .inl (cI, 256, .inl rt)), ((r 7), .inl (cI, 4, .inl ki)), ((r 8), .inl (cL, 4, .inr (.inl rb))), ((r 9), .inl (cI, 4, .inl aq)), ((r 10), .inl (cZ, 64, .inl cd)), ((r 11), .inl (cI, 64, .inl g1)), ((r 12), .inl (cI, 64, .inl g2)), ((r 13), .inl (cI, 64, .inl g3)), ((r 14), .inl (cL, 256, .inr (.inl gw))), ((r 15), .inl (cL, 64, .inr (.inl an)))] := hD
    refine hx_topi (y := 1) (rfl) ?_
    refine lv_if_eq (tgt := 25) hx hb kd_R_given_18 (by decide) (fun c_18 => ?_) (fun c_18 => ?_)
    · exact absurd c_18 (by decide)
    · skip
      refine lv_lconst (v := 0) hx hb kd_R_given_21 (by decide) ?_
      refine lv_goto (tgt := 29) hx hb kd_R_given_22 (by decide) ?_
      exact hx_lretW hx hb hr hlocks (rfl) (hP) hS kd_R_given_29

set_option maxHeartbeats 4000000 in
set_option maxRecDepth 100000 in
theorem mr_calls {l : Launch} {D : va_G} {cI cL cZ : ClassId} {tb : Nat} (r : Nat → Nat) (rc ro rm ra rl rw : Nat) (th : Int32) (gv : Int64) (rp rk ow rn ct rt ki aq cd g1 g2 g3 : Nat → Int32) (rb gw an : Nat → Int64) (sz : Nat) : Met l ky_R_calls kw_R_calls { frames := 0, cells := 0, slots := 0, locals := 0 } (pw_P D cI cL cZ tb [((r 0), .inr (7, [.int th, .int (nI rc), .ref (r 1), .int (nI ro), .ref (r 2), .int (nI rm), .ref (r 3), .ref (r 4), .ref (r 5), .ref (r 6), .int (nI ra), .ref (r 7), .ref (r 8), .ref (r 9), .ref (r 10), .int (nI rl), .ref (r 11), .ref (r 12), .ref (r 13), .ref (r 14), .int (nI rw), .ref (r 15), .long gv])), ((r 1), .inl (cI, 16, .inl rp)), ((r 2), .inl (cI, 64, .inl rk)), ((r 3), .inl (cI, 64, .inl ow)), ((r 4), .inl (cI, 64, .inl rn)), ((r 5), .inl (cI, 64, .inl ct)), ((r 6), .inl (cI, 256, .inl rt)), ((r 7), .inl (cI, 4, .inl ki)), ((r 8), .inl (cL, 4, .inr (.inl rb))), ((r 9), .inl (cI, 4, .inl aq)), ((r 10), .inl (cZ, 64, .inl cd)), ((r 11), .inl (cI, 64, .inl g1)), ((r 12), .inl (cI, 64, .inl g2)), ((r 13), .inl (cI, 64, .inl g3)), ((r 14), .inl (cL, 256, .inr (.inl gw))), ((r 15), .inl (cL, 64, .inr (.inl an)))] sz [.ref (r 0)]) (hx_QW D (some (.int (nI rl))) [((r 0), .inr (7, [.int 0, .int (nI rc), .ref (r 1), .int (nI ro), .ref (r 2), .int (nI rm), .ref (r 3), .ref (r 4), .ref (r 5), .ref (r 6), .int (nI ra), .ref (r 7), .ref (r 8), .ref (r 9), .ref (r 10), .int (nI rl), .ref (r 11), .ref (r 12), .ref (r 13), .ref (r 14), .int (nI rw), .ref (r 15), .long gv])), ((r 1), .inl (cI, 16, .inl rp)), ((r 2), .inl (cI, 64, .inl rk)), ((r 3), .inl (cI, 64, .inl ow)), ((r 4), .inl (cI, 64, .inl rn)), ((r 5), .inl (cI, 64, .inl ct)), ((r 6), .inl (cI, 256, .inl rt)), ((r 7), .inl (cI, 4, .inl ki)), ((r 8), .inl (cL, 4, .inr (.inl rb))), ((r 9), .inl (cI, 4, .inl aq)), ((r 10), .inl (cZ, 64, .inl cd)), ((r 11), .inl (cI, 64, .inl g1)), ((r 12), .inl (cI, 64, .inl g2)), ((r 13), .inl (cI, 64, .inl g3)), ((r 14), .inl (cL, 256, .inr (.inl gw))), ((r 15), .inl (cL, 64, .inr (.inl an)))] (va_A [((r 0), .inr (7, [.int th, .int (nI rc), .ref (r 1), .int (nI ro), .ref (r 2), .int (nI rm), .ref (r 3), .ref (r 4), .ref (r 5), .ref (r 6), .int (nI ra), .ref (r 7), .ref (r 8), .ref (r 9), .ref (r 10), .int (nI rl), .ref (r 11), .ref (r 12), .ref (r 13), .ref (r 14), .int (nI rw), .ref (r 15), .long gv])), ((r 1), .inl (cI, 16, .inl rp)), ((r 2), .inl (cI, 64, .inl rk)), ((r 3), .inl (cI, 64, .inl ow)), ((r 4), .inl (cI, 64, .inl rn)), ((r 5), .inl (cI, 64, .inl ct)), ((r 6), .inl (cI, 256, .inl rt)), ((r 7), .inl (cI, 4, .inl ki)), ((r 8), .inl (cL, 4, .inr (.inl rb))), ((r 9), .inl (cI, 4, .inl aq)), ((r 10), .inl (cZ, 64, .inl cd)), ((r 11), .inl (cI, 64, .inl g1)), ((r 12), .inl (cI, 64, .inl g2)), ((r 13), .inl (cI, 64, .inl g3)), ((r 14), .inl (cL, 256, .inr (.inl gw))), ((r 15), .inl (cL, 64, .inr (.inl an)))] sz)) 0 0 (va_A [((r 0), .inr (7, [.int th, .int (nI rc), .ref (r 1), .int (nI ro), .ref (r 2), .int (nI rm), .ref (r 3), .ref (r 4), .ref (r 5), .ref (r 6), .int (nI ra), .ref (r 7), .ref (r 8), .ref (r 9), .ref (r 10), .int (nI rl), .ref (r 11), .ref (r 12), .ref (r 13), .ref (r 14), .int (nI rw), .ref (r 15), .long gv])), ((r 1), .inl (cI, 16, .inl rp)), ((r 2), .inl (cI, 64, .inl rk)), ((r 3), .inl (cI, 64, .inl ow)), ((r 4), .inl (cI, 64, .inl rn)), ((r 5), .inl (cI, 64, .inl ct)), ((r 6), .inl (cI, 256, .inl rt)), ((r 7), .inl (cI, 4, .inl ki)), ((r 8), .inl (cL, 4, .inr (.inl rb))), ((r 9), .inl (cI, 4, .inl aq)), ((r 10), .inl (cZ, 64, .inl cd)), ((r 11), .inl (cI, 64, .inl g1)), ((r 12), .inl (cI, 64, .inl g2)), ((r 13), .inl (cI, 64, .inl g3)), ((r 14), .inl (cL, 256, .inr (.inl gw))), ((r 15), .inl (cL, 64, .inr (.inl an)))] sz) := by
  refine Met.ofW (cc := kc_R_calls) (maxL := 1) (ret := (some .int)) (by decide) rfl ?_
  intro p e s m args below meth c s₁ B hml hv
  obtain ⟨rfl, hsz, hC, hP, hD0⟩ := hv
  have hx := B.exec
  have hb := B.bytes
  have hr := B.returns
  have hlocks := B.notSynchronized
  have hown : s.vm.findClass "HostBridgeModel" = some m.cls := findClass_of_methodNamed B.named
  subst hsz
  have hD := hD0.self (sz := s.heap.size)
  generalize hAe : va_A [((r 0), .inr (7, [.int th, .int (nI rc), .ref (r 1), .int (nI ro), .ref (r 2), .int (nI rm), .ref (r 3), .ref (r 4), .ref (r 5), .ref (r 6), .int (nI ra), .ref (r 7), .ref (r 8), .ref (r 9), .ref (r 10), .int (nI rl), .ref (r 11), .ref (r 12), .ref (r 13), .ref (r 14), .int (nI rw), .ref (r 15), .long gv])), ((r 1), .inl (cI, 16, .inl rp)), ((r 2), .inl (cI, 64, .inl rk)), ((r 3), .inl (cI, 64, .inl ow)), ((r 4), .inl (cI, 64, .inl rn)), ((r 5), .inl (cI, 64, .inl ct)), ((r 6), .inl (cI, 256, .inl rt)), ((r 7), .inl (cI, 4, .inl ki)), ((r 8), .inl (cL, 4, .inr (.inl rb))), ((r 9), .inl (cI, 4, .inl aq)), ((r 10), .inl (cZ, 64, .inl cd)), ((r 11), .inl (cI, 64, .inl g1)), ((r 12), .inl (cI, 64, .inl g2)), ((r 13), .inl (cI, 64, .inl g3)), ((r 14), .inl (cL, 256, .inr (.inl gw))), ((r 15), .inl (cL, 64, .inr (.inl an)))] s.heap.size = A at hD hC ⊢
  have hA : ∀ q : Nat, s.heap.size ≤ q → A q := fun q h => by rw [← hAe]; exact Or.inr h
  have hS : va_S A s.heap s.heap [] := va_S.rf
  have hK := hC.K
  have hts := hC.ts [.ref (r 0)].toArray
  have hl := lv_entry ([.ref (r 0)]) (n := 1) (Nat.le_of_ble_eq_true rfl)
  rw [lg_entry_eq]
  generalize (lg_sl ([.ref (r 0)]) ++ List.replicate (1 - (lg_sl ([.ref (r 0)])).length) Slot.unset).toArray = ls at hl ⊢
  have hl : lv_has ls 1 [(0, .ref (r 0))] := hl
  refine lv_aload_n hx hb kd_R_calls_0 rfl (lv_at hl 0 rfl) ?_
  refine lv_iconst (v := 0) hx hb kd_R_calls_1 (by decide) ?_
  refine va_put (D := D) (ci := 7) (v := .int 0) (ty := .int) (C := "HostBridgeModel") (T := ct_R) (N := 23) hx hb hts cw_R cy_R cp_R cn_R hown hK hP hD hS 0 rfl rfl 0 (by decide) (hts _ km_621) (fun _ h9 => h9) rfl (by decide +kernel) rfl rfl (Nat.le_of_ble_eq_true rfl) kd_R_calls_2 (fun H locs hP hD hS => ?_)
  have hP : va_P D cl_all [((r 0), .inr (7, [.int 0, .int (nI rc), .ref (r 1), .int (nI ro), .ref (r 2), .int (nI rm), .ref (r 3), .ref (r 4), .ref (r 5), .ref (r 6), .int (nI ra), .ref (r 7), .ref (r 8), .ref (r 9), .ref (r 10), .int (nI rl), .ref (r 11), .ref (r 12), .ref (r 13), .ref (r 14), .int (nI rw), .ref (r 15), .long gv])), ((r 1), .inl (cI, 16, .inl rp)), ((r 2), .inl (cI, 64, .inl rk)), ((r 3), .inl (cI, 64, .inl ow)), ((r 4), .inl (cI, 64, .inl rn)), ((r 5), .inl (cI, 64, .inl ct)), ((r 6), .inl (cI, 256, .inl rt)), ((r 7), .inl (cI, 4, .inl ki)), ((r 8), .inl (cL, 4, .inr (.inl rb))), ((r 9), .inl (cI, 4, .inl aq)), ((r 10), .inl (cZ, 64, .inl cd)), ((r 11), .inl (cI, 64, .inl g1)), ((r 12), .inl (cI, 64, .inl g2)), ((r 13), .inl (cI, 64, .inl g3)), ((r 14), .inl (cL, 256, .inr (.inl gw))), ((r 15), .inl (cL, 64, .inr (.inl an)))] H := hP
  have hD : va_D A [((r 0), .inr (7, [.int 0, .int (nI rc), .ref (r 1), .int (nI ro), .ref (r 2), .int (nI rm), .ref (r 3), .ref (r 4), .ref (r 5), .ref (r 6), .int (nI ra), .ref (r 7), .ref (r 8), .ref (r 9), .ref (r 10), .int (nI rl), .ref (r 11), .ref (r 12), .ref (r 13), .ref (r 14), .int (nI rw), .ref (r 15), .long gv])), ((r 1), .inl (cI, 16, .inl rp)), ((r 2), .inl (cI, 64, .inl rk)), ((r 3), .inl (cI, 64, .inl ow)), ((r 4), .inl (cI, 64, .inl rn)), ((r 5), .inl (cI, 64, .inl ct)), ((r 6), .inl (cI, 256, .inl rt)), ((r 7), .inl (cI, 4, .inl ki)), ((r 8), .inl (cL, 4, .inr (.inl rb))), ((r 9), .inl (cI, 4, .inl aq)), ((r 10), .inl (cZ, 64, .inl cd)), ((r 11), .inl (cI, 64, .inl g1)), ((r 12), .inl (cI, 64, .inl g2)), ((r 13), .inl (cI, 64, .inl g3)), ((r 14), .inl (cL, 256, .inr (.inl gw))), ((r 15), .inl (cL, 64, .inr (.inl an)))] := hD
  refine lv_aload_n hx hb kd_R_calls_5 rfl (lv_at hl 0 rfl) ?_
  refine va_get (D := D) (ci := 7) (v := .int (nI rl)) (C := "HostBridgeModel") (T := ct_R) (N := 23) hx hb hts cw_R hown hK hP 0 rfl rfl 15 (by decide) (hts _ km_636) (fun _ h9 => h9) rfl kd_R_calls_6 ?_
  exact hx_iretW hx hb hr hlocks (rfl) (hP) hS kd_R_calls_9

def go_ (rl : Nat) (k : Int32) : Bool := (if k < 0 then true else (if (nI rl) ≤ k then true else (if (nI rl) ≤ (k + 64) then false else true)))
set_option maxHeartbeats 4000000 in
set_option maxRecDepth 100000 in
theorem mr_isGone {l : Launch} {D : va_G} {cI cL cZ : ClassId} {tb : Nat} (r : Nat → Nat) (rc ro rm ra rl rw : Nat) (th : Int32) (gv : Int64) (rp rk ow rn ct rt ki aq cd g1 g2 g3 : Nat → Int32) (rb gw an : Nat → Int64) (k : Int32) : Met l ky_R_isGone kw_R_isGone { frames := 0, cells := 0, slots := 0, locals := 0 } (pr_P D cI cL cZ tb [((r 0), .inr (7, [.int th, .int (nI rc), .ref (r 1), .int (nI ro), .ref (r 2), .int (nI rm), .ref (r 3), .ref (r 4), .ref (r 5), .ref (r 6), .int (nI ra), .ref (r 7), .ref (r 8), .ref (r 9), .ref (r 10), .int (nI rl), .ref (r 11), .ref (r 12), .ref (r 13), .ref (r 14), .int (nI rw), .ref (r 15), .long gv]))] [.ref (r 0), .int k]) (hx_QR (some (.int (b2_ (go_ rl k))))) 0 0 (fun _ => False) := by
  refine Met.ofW (cc := kc_R_isGone) (maxL := 2) (ret := (some .boolean)) (by decide) rfl ?_
  intro p e s m args below meth c s₁ B hml hv
  obtain ⟨rfl, hC, hP⟩ := hv
  have hx := B.exec
  have hb := B.bytes
  have hr := B.returns
  have hlocks := B.notSynchronized
  have hown : s.vm.findClass "HostBridgeModel" = some m.cls := findClass_of_methodNamed B.named
  have hS : va_S (fun _ => False) s.heap s.heap [] := va_S.rf
  have hK := hC.K
  have hts := hC.ts [.ref (r 0), .int k].toArray
  have hl := lv_entry ([.ref (r 0), .int k]) (n := 2) (Nat.le_of_ble_eq_true rfl)
  rw [lg_entry_eq]
  generalize (lg_sl ([.ref (r 0), .int k]) ++ List.replicate (2 - (lg_sl ([.ref (r 0), .int k])).length) Slot.unset).toArray = ls at hl ⊢
  have hl : lv_has ls 2 [(0, .ref (r 0)), (1, .int k)] := hl
  refine lv_iload_n hx hb kd_R_isGone_0 rfl (lv_at hl 1 rfl) ?_
  refine lv_if_lt (tgt := 23) hx hb kd_R_isGone_1 (by decide) (fun c_1 => ?_) (fun c_1 => ?_)
  · skip
    refine lv_iconst (v := 1) hx hb kd_R_isGone_23 (by decide) ?_
    refine lv_goto (tgt := 28) hx hb kd_R_isGone_24 (by decide) ?_
    exact hx_zretR hx hb hr hlocks (by unfold go_; rw [if_pos c_1]; try rfl) kd_R_isGone_28
  · skip
    refine lv_iload_n hx hb kd_R_isGone_4 rfl (lv_at hl 1 rfl) ?_
    refine lv_aload_n hx hb kd_R_isGone_5 rfl (lv_at hl 0 rfl) ?_
    refine va_get (D := D) (ci := 7) (v := .int (nI rl)) (C := "HostBridgeModel") (T := ct_R) (N := 23) hx hb hts cw_R hown hK hP 0 rfl rfl 15 (by decide) (hts _ km_636) (fun _ h9 => h9) rfl kd_R_isGone_6 ?_
    refine lv_icmp_ge (tgt := 23) hx hb kd_R_isGone_9 (by decide) (fun c_9 => ?_) (fun c_9 => ?_)
    · skip
      refine lv_iconst (v := 1) hx hb kd_R_isGone_23 (by decide) ?_
      refine lv_goto (tgt := 28) hx hb kd_R_isGone_24 (by decide) ?_
      exact hx_zretR hx hb hr hlocks (by unfold go_; rw [if_neg c_1, if_pos c_9]; try rfl) kd_R_isGone_28
    · skip
      refine lv_iload_n hx hb kd_R_isGone_12 rfl (lv_at hl 1 rfl) ?_
      refine lv_bipush (v := 64) hx hb kd_R_isGone_13 (by decide) ?_
      refine lv_iadd hx hb kd_R_isGone_15 ?_
      refine lv_aload_n hx hb kd_R_isGone_16 rfl (lv_at hl 0 rfl) ?_
      refine va_get (D := D) (ci := 7) (v := .int (nI rl)) (C := "HostBridgeModel") (T := ct_R) (N := 23) hx hb hts cw_R hown hK hP 0 rfl rfl 15 (by decide) (hts _ km_636) (fun _ h9 => h9) rfl kd_R_isGone_17 ?_
      refine lv_icmp_ge (tgt := 27) hx hb kd_R_isGone_20 (by decide) (fun c_20 => ?_) (fun c_20 => ?_)
      · skip
        refine lv_iconst (v := 0) hx hb kd_R_isGone_27 (by decide) ?_
        exact hx_zretR hx hb hr hlocks (by unfold go_; rw [if_neg c_1, if_neg c_9, if_pos c_20]; try rfl) kd_R_isGone_28
      · skip
        refine lv_iconst (v := 1) hx hb kd_R_isGone_23 (by decide) ?_
        refine lv_goto (tgt := 28) hx hb kd_R_isGone_24 (by decide) ?_
        exact hx_zretR hx hb hr hlocks (by unfold go_; rw [if_neg c_1, if_neg c_9, if_neg c_20]; try rfl) kd_R_isGone_28

set_option maxHeartbeats 4000000 in
set_option maxRecDepth 100000 in
theorem mr_look00 {l : Launch} {D : va_G} {cI cL cZ : ClassId} {tb : Nat} (r : Nat → Nat) (rc ro rm ra rl rw : Nat) (th : Int32) (gv : Int64) (rp rk ow rn ct rt ki aq cd g1 g2 g3 : Nat → Int32) (rb gw an : Nat → Int64) (kq : Nat) (hq : kq < 2 ^ 31) (hg : go_ rl (nI kq) = false) (sz : Nat) : Met l ky_R_look kw_R_look { frames := 1, cells := 0, slots := 0, locals := 23 } (pw_P D cI cL cZ tb [((r 0), .inr (7, [.int th, .int (nI rc), .ref (r 1), .int (nI ro), .ref (r 2), .int (nI rm), .ref (r 3), .ref (r 4), .ref (r 5), .ref (r 6), .int (nI ra), .ref (r 7), .ref (r 8), .ref (r 9), .ref (r 10), .int (nI rl), .ref (r 11), .ref (r 12), .ref (r 13), .ref (r 14), .int (nI rw), .ref (r 15), .long gv])), ((r 1), .inl (cI, 16, .inl rp)), ((r 2), .inl (cI, 64, .inl rk)), ((r 3), .inl (cI, 64, .inl ow)), ((r 4), .inl (cI, 64, .inl rn)), ((r 5), .inl (cI, 64, .inl ct)), ((r 6), .inl (cI, 256, .inl rt)), ((r 7), .inl (cI, 4, .inl ki)), ((r 8), .inl (cL, 4, .inr (.inl rb))), ((r 9), .inl (cI, 4, .inl aq)), ((r 10), .inl (cZ, 64, .inl cd)), ((r 11), .inl (cI, 64, .inl g1)), ((r 12), .inl (cI, 64, .inl g2)), ((r 13), .inl (cI, 64, .inl g3)), ((r 14), .inl (cL, 256, .inr (.inl gw))), ((r 15), .inl (cL, 64, .inr (.inl an)))] sz [.ref (r 0), .int (nI kq), .int 0]) (hx_QW D (some (.int (g1 (kq % 64)))) [((r 0), .inr (7, [.int 0, .int (nI rc), .ref (r 1), .int (nI ro), .ref (r 2), .int (nI rm), .ref (r 3), .ref (r 4), .ref (r 5), .ref (r 6), .int (nI ra), .ref (r 7), .ref (r 8), .ref (r 9), .ref (r 10), .int (nI rl), .ref (r 11), .ref (r 12), .ref (r 13), .ref (r 14), .int (nI rw), .ref (r 15), .long gv])), ((r 1), .inl (cI, 16, .inl rp)), ((r 2), .inl (cI, 64, .inl rk)), ((r 3), .inl (cI, 64, .inl ow)), ((r 4), .inl (cI, 64, .inl rn)), ((r 5), .inl (cI, 64, .inl ct)), ((r 6), .inl (cI, 256, .inl rt)), ((r 7), .inl (cI, 4, .inl ki)), ((r 8), .inl (cL, 4, .inr (.inl rb))), ((r 9), .inl (cI, 4, .inl aq)), ((r 10), .inl (cZ, 64, .inl cd)), ((r 11), .inl (cI, 64, .inl g1)), ((r 12), .inl (cI, 64, .inl g2)), ((r 13), .inl (cI, 64, .inl g3)), ((r 14), .inl (cL, 256, .inr (.inl gw))), ((r 15), .inl (cL, 64, .inr (.inl an)))] (va_A [((r 0), .inr (7, [.int th, .int (nI rc), .ref (r 1), .int (nI ro), .ref (r 2), .int (nI rm), .ref (r 3), .ref (r 4), .ref (r 5), .ref (r 6), .int (nI ra), .ref (r 7), .ref (r 8), .ref (r 9), .ref (r 10), .int (nI rl), .ref (r 11), .ref (r 12), .ref (r 13), .ref (r 14), .int (nI rw), .ref (r 15), .long gv])), ((r 1), .inl (cI, 16, .inl rp)), ((r 2), .inl (cI, 64, .inl rk)), ((r 3), .inl (cI, 64, .inl ow)), ((r 4), .inl (cI, 64, .inl rn)), ((r 5), .inl (cI, 64, .inl ct)), ((r 6), .inl (cI, 256, .inl rt)), ((r 7), .inl (cI, 4, .inl ki)), ((r 8), .inl (cL, 4, .inr (.inl rb))), ((r 9), .inl (cI, 4, .inl aq)), ((r 10), .inl (cZ, 64, .inl cd)), ((r 11), .inl (cI, 64, .inl g1)), ((r 12), .inl (cI, 64, .inl g2)), ((r 13), .inl (cI, 64, .inl g3)), ((r 14), .inl (cL, 256, .inr (.inl gw))), ((r 15), .inl (cL, 64, .inr (.inl an)))] sz)) 0 0 (va_A [((r 0), .inr (7, [.int th, .int (nI rc), .ref (r 1), .int (nI ro), .ref (r 2), .int (nI rm), .ref (r 3), .ref (r 4), .ref (r 5), .ref (r 6), .int (nI ra), .ref (r 7), .ref (r 8), .ref (r 9), .ref (r 10), .int (nI rl), .ref (r 11), .ref (r 12), .ref (r 13), .ref (r 14), .int (nI rw), .ref (r 15), .long gv])), ((r 1), .inl (cI, 16, .inl rp)), ((r 2), .inl (cI, 64, .inl rk)), ((r 3), .inl (cI, 64, .inl ow)), ((r 4), .inl (cI, 64, .inl rn)), ((r 5), .inl (cI, 64, .inl ct)), ((r 6), .inl (cI, 256, .inl rt)), ((r 7), .inl (cI, 4, .inl ki)), ((r 8), .inl (cL, 4, .inr (.inl rb))), ((r 9), .inl (cI, 4, .inl aq)), ((r 10), .inl (cZ, 64, .inl cd)), ((r 11), .inl (cI, 64, .inl g1)), ((r 12), .inl (cI, 64, .inl g2)), ((r 13), .inl (cI, 64, .inl g3)), ((r 14), .inl (cL, 256, .inr (.inl gw))), ((r 15), .inl (cL, 64, .inr (.inl an)))] sz) := by
  refine Met.ofW (cc := kc_R_look) (maxL := 4) (ret := (some .int)) (by decide) rfl ?_
  intro p e s m args below meth c s₁ B hml hv
  obtain ⟨rfl, hsz, hC, hP, hD0⟩ := hv
  have hx := B.exec
  have hb := B.bytes
  have hr := B.returns
  have hlocks := B.notSynchronized
  have hown : s.vm.findClass "HostBridgeModel" = some m.cls := findClass_of_methodNamed B.named
  subst hsz
  have hD := hD0.self (sz := s.heap.size)
  generalize hAe : va_A [((r 0), .inr (7, [.int th, .int (nI rc), .ref (r 1), .int (nI ro), .ref (r 2), .int (nI rm), .ref (r 3), .ref (r 4), .ref (r 5), .ref (r 6), .int (nI ra), .ref (r 7), .ref (r 8), .ref (r 9), .ref (r 10), .int (nI rl), .ref (r 11), .ref (r 12), .ref (r 13), .ref (r 14), .int (nI rw), .ref (r 15), .long gv])), ((r 1), .inl (cI, 16, .inl rp)), ((r 2), .inl (cI, 64, .inl rk)), ((r 3), .inl (cI, 64, .inl ow)), ((r 4), .inl (cI, 64, .inl rn)), ((r 5), .inl (cI, 64, .inl ct)), ((r 6), .inl (cI, 256, .inl rt)), ((r 7), .inl (cI, 4, .inl ki)), ((r 8), .inl (cL, 4, .inr (.inl rb))), ((r 9), .inl (cI, 4, .inl aq)), ((r 10), .inl (cZ, 64, .inl cd)), ((r 11), .inl (cI, 64, .inl g1)), ((r 12), .inl (cI, 64, .inl g2)), ((r 13), .inl (cI, 64, .inl g3)), ((r 14), .inl (cL, 256, .inr (.inl gw))), ((r 15), .inl (cL, 64, .inr (.inl an)))] s.heap.size = A at hD hC ⊢
  have hA : ∀ q : Nat, s.heap.size ≤ q → A q := fun q h => by rw [← hAe]; exact Or.inr h
  have hS : va_S A s.heap s.heap [] := va_S.rf
  have hK := hC.K
  have hts := hC.ts [.ref (r 0), .int (nI kq), .int 0].toArray
  have hl := lv_entry ([.ref (r 0), .int (nI kq), .int 0]) (n := 4) (Nat.le_of_ble_eq_true rfl)
  rw [lg_entry_eq]
  generalize (lg_sl ([.ref (r 0), .int (nI kq), .int 0]) ++ List.replicate (4 - (lg_sl ([.ref (r 0), .int (nI kq), .int 0])).length) Slot.unset).toArray = ls at hl ⊢
  have hl : lv_has ls 4 [(0, .ref (r 0)), (1, .int (nI kq)), (2, .int 0)] := hl
  refine lv_iload_n hx hb kd_R_look_0 rfl (lv_at hl 2 rfl) ?_
  refine lv_iconst (v := 3) hx hb kd_R_look_1 (by decide) ?_
  refine hx_topi (y := nI 3) (by decide) ?_
  refine hx_callRi (va_runS (As := [.int 0, .int (nI 3)]) (rest := []) ⟨hx, hb, hml, hown, hts⟩ (mr_isNo 0 3) (va_cwS 2 hts (goodIn_sub (hx_m4 km_700 km_701 km_8 km_702) (by decide +kernel)) rfl rfl rfl (by decide +kernel) ⟨Nat.le_of_ble_eq_true rfl, Nat.le_of_ble_eq_true rfl⟩) (pr_S (hC.S hS) hP [] rfl) rfl rfl hl.1 rfl (lv_room (Nat.le_of_ble_eq_true rfl)) kd_R_look_2 ⟨Nat.le_of_ble_eq_true rfl, Nat.le_of_ble_eq_true rfl⟩) ?_
  refine hx_topi (y := 0) (by decide) ?_
  refine lv_istore_n (lv' := [(3, .int 0), (0, .ref (r 0)), (1, .int (nI kq)), (2, .int 0)]) hx hb kd_R_look_5 rfl hl (by decide) rfl (fun ls hl => ?_)
  refine lv_aload_n hx hb kd_R_look_6 rfl (lv_at hl 1 rfl) ?_
  refine lv_iload_n hx hb kd_R_look_7 rfl (lv_at hl 0 rfl) ?_
  refine lv_iload_n hx hb kd_R_look_8 rfl (lv_at hl 0 rfl) ?_
  refine lv_if_ne (tgt := 24) hx hb kd_R_look_9 (by decide) (fun c_9 => ?_) (fun c_9 => ?_)
  · exact absurd c_9 (not_not_intro rfl)
  · skip
    refine lv_aload_n hx hb kd_R_look_12 rfl (lv_at hl 1 rfl) ?_
    refine lv_iload_n hx hb kd_R_look_13 rfl (lv_at hl 2 rfl) ?_
    refine hx_callRi (va_runV (As := [.int (nI kq)]) (rest := [.int 0, .ref (r 0)]) ⟨hx, hb, hml, hown, hts⟩ (mr_isGone r rc ro rm ra rl rw th gv rp rk ow rn ct rt ki aq cd g1 g2 g3 rb gw an (nI kq)) (cwV 1 hts (goodIn_sub (hx_m5 km_807 km_809 kv_R_isGone km_8 km_810) (by decide +kernel)) rfl rfl rfl (by decide +kernel) ⟨Nat.le_of_ble_eq_true rfl, Nat.le_of_ble_eq_true rfl⟩) (pr_V (hC.S hS) hP [0] rfl (ci := 7) rfl (q0 := 0) rfl) rfl rfl hl.1 rfl (lv_room (Nat.le_of_ble_eq_true rfl)) kd_R_look_14 ⟨Nat.le_of_ble_eq_true rfl, Nat.le_of_ble_eq_true rfl⟩) ?_
    refine hx_topi (y := 0) (by rw [hg]; rfl) ?_
    refine lv_if_eq (tgt := 24) hx hb kd_R_look_17 (by decide) (fun c_17 => ?_) (fun c_17 => ?_)
    · skip
      refine lv_iconst (v := 0) hx hb kd_R_look_24 (by decide) ?_
      refine lv_iconst (v := 0) hx hb kd_R_look_25 (by decide) ?_
      refine hx_callWi (va_runV (As := [.int 0, .int 0, .int 0]) (rest := []) ⟨hx, hb, hml, hown, hts⟩ (mr_throwing0 r rc ro rm ra rl rw th gv rp rk ow rn ct rt ki aq cd g1 g2 g3 rb gw an _) (cwV 3 hts (goodIn_sub (hx_m5 km_703 km_705 kv_R_throwing km_8 km_706) (by decide +kernel)) rfl rfl rfl (by decide +kernel) ⟨Nat.le_of_ble_eq_true rfl, Nat.le_of_ble_eq_true rfl⟩) (pw_V (hC.S hS) hP hD hS hA [0] (by decide) rfl (ci := 7) rfl (q0 := 0) rfl) rfl rfl hl.1 rfl (lv_room (Nat.le_of_ble_eq_true rfl)) kd_R_look_26 ⟨Nat.le_of_ble_eq_true rfl, Nat.le_of_ble_eq_true rfl⟩) hP hD hS hA [0] rfl rfl (fun H locs hP hD hS hF => ?_)
      have hP : va_P D cl_all [((r 0), .inr (7, [.int 0, .int (nI rc), .ref (r 1), .int (nI ro), .ref (r 2), .int (nI rm), .ref (r 3), .ref (r 4), .ref (r 5), .ref (r 6), .int (nI ra), .ref (r 7), .ref (r 8), .ref (r 9), .ref (r 10), .int (nI rl), .ref (r 11), .ref (r 12), .ref (r 13), .ref (r 14), .int (nI rw), .ref (r 15), .long gv])), ((r 1), .inl (cI, 16, .inl rp)), ((r 2), .inl (cI, 64, .inl rk)), ((r 3), .inl (cI, 64, .inl ow)), ((r 4), .inl (cI, 64, .inl rn)), ((r 5), .inl (cI, 64, .inl ct)), ((r 6), .inl (cI, 256, .inl rt)), ((r 7), .inl (cI, 4, .inl ki)), ((r 8), .inl (cL, 4, .inr (.inl rb))), ((r 9), .inl (cI, 4, .inl aq)), ((r 10), .inl (cZ, 64, .inl cd)), ((r 11), .inl (cI, 64, .inl g1)), ((r 12), .inl (cI, 64, .inl g2)), ((r 13), .inl (cI, 64, .inl g3)), ((r 14), .inl (cL, 256, .inr (.inl gw))), ((r 15), .inl (cL, 64, .inr (.inl an)))] H := hP
      have hD : va_D A [((r 0), .inr (7, [.int 0, .int (nI rc), .ref (r 1), .int (nI ro), .ref (r 2), .int (nI rm), .ref (r 3), .ref (r 4), .ref (r 5), .ref (r 6), .int (nI ra), .ref (r 7), .ref (r 8), .ref (r 9), .ref (r 10), .int (nI rl), .ref (r 11), .ref (r 12), .ref (r 13), .ref (r 14), .int (nI rw), .ref (r 15), .long gv])), ((r 1), .inl (cI, 16, .inl rp)), ((r 2), .inl (cI, 64, .inl rk)), ((r 3), .inl (cI, 64, .inl ow)), ((r 4), .inl (cI, 64, .inl rn)), ((r 5), .inl (cI, 64, .inl ct)), ((r 6), .inl (cI, 256, .inl rt)), ((r 7), .inl (cI, 4, .inl ki)), ((r 8), .inl (cL, 4, .inr (.inl rb))), ((r 9), .inl (cI, 4, .inl aq)), ((r 10), .inl (cZ, 64, .inl cd)), ((r 11), .inl (cI, 64, .inl g1)), ((r 12), .inl (cI, 64, .inl g2)), ((r 13), .inl (cI, 64, .inl g3)), ((r 14), .inl (cL, 256, .inr (.inl gw))), ((r 15), .inl (cL, 64, .inr (.inl an)))] := hD
      refine hx_topi (y := 0) (rfl) ?_
      refine lv_if_eq (tgt := 34) hx hb kd_R_look_29 (by decide) (fun c_29 => ?_) (fun c_29 => ?_)
      · skip
        refine lv_iload_n hx hb kd_R_look_34 rfl (lv_at hl 3 rfl) ?_
        refine lv_if_ne (tgt := 50) hx hb kd_R_look_35 (by decide) (fun c_35 => ?_) (fun c_35 => ?_)
        · exact absurd c_35 (not_not_intro rfl)
        · skip
          refine lv_aload_n hx hb kd_R_look_38 rfl (lv_at hl 1 rfl) ?_
          refine va_get (D := D) (ci := 7) (v := .ref (r 11)) (C := "HostBridgeModel") (T := ct_R) (N := 23) hx hb hts cw_R hown hK hP 0 rfl rfl 16 (by decide) (hts _ km_637) (fun _ h9 => h9) rfl kd_R_look_39 ?_
          refine lv_iload_n hx hb kd_R_look_42 rfl (lv_at hl 2 rfl) ?_
          refine lv_bipush (v := 64) hx hb kd_R_look_43 (by decide) ?_
          refine lv_irem hx hb kd_R_look_45 (by decide) ?_
          refine hx_topi (y := nI (kq % 64)) (rm_64 hq) ?_
          refine hx_iald (j := kq % 64) hx hb hK hP 11 rfl (rfl) (Nat.mod_lt _ (by decide)) (by decide) kd_R_look_46 ?_
          refine lv_goto (tgt := 76) hx hb kd_R_look_47 (by decide) ?_
          exact hx_iretW hx hb hr hlocks (rfl) (hP) hS kd_R_look_76
      · exact absurd c_29 (not_not_intro rfl)
    · exact absurd c_17 (not_not_intro rfl)

set_option maxHeartbeats 4000000 in
set_option maxRecDepth 100000 in
theorem mr_look01 {l : Launch} {D : va_G} {cI cL cZ : ClassId} {tb : Nat} (r : Nat → Nat) (rc ro rm ra rl rw : Nat) (th : Int32) (gv : Int64) (rp rk ow rn ct rt ki aq cd g1 g2 g3 : Nat → Int32) (rb gw an : Nat → Int64) (kq : Nat) (hq : kq < 2 ^ 31) (hg : go_ rl (nI kq) = false) (sz : Nat) : Met l ky_R_look kw_R_look { frames := 1, cells := 0, slots := 0, locals := 23 } (pw_P D cI cL cZ tb [((r 0), .inr (7, [.int th, .int (nI rc), .ref (r 1), .int (nI ro), .ref (r 2), .int (nI rm), .ref (r 3), .ref (r 4), .ref (r 5), .ref (r 6), .int (nI ra), .ref (r 7), .ref (r 8), .ref (r 9), .ref (r 10), .int (nI rl), .ref (r 11), .ref (r 12), .ref (r 13), .ref (r 14), .int (nI rw), .ref (r 15), .long gv])), ((r 1), .inl (cI, 16, .inl rp)), ((r 2), .inl (cI, 64, .inl rk)), ((r 3), .inl (cI, 64, .inl ow)), ((r 4), .inl (cI, 64, .inl rn)), ((r 5), .inl (cI, 64, .inl ct)), ((r 6), .inl (cI, 256, .inl rt)), ((r 7), .inl (cI, 4, .inl ki)), ((r 8), .inl (cL, 4, .inr (.inl rb))), ((r 9), .inl (cI, 4, .inl aq)), ((r 10), .inl (cZ, 64, .inl cd)), ((r 11), .inl (cI, 64, .inl g1)), ((r 12), .inl (cI, 64, .inl g2)), ((r 13), .inl (cI, 64, .inl g3)), ((r 14), .inl (cL, 256, .inr (.inl gw))), ((r 15), .inl (cL, 64, .inr (.inl an)))] sz [.ref (r 0), .int (nI kq), .int 1]) (hx_QW D (some (.int (g2 (kq % 64)))) [((r 0), .inr (7, [.int 0, .int (nI rc), .ref (r 1), .int (nI ro), .ref (r 2), .int (nI rm), .ref (r 3), .ref (r 4), .ref (r 5), .ref (r 6), .int (nI ra), .ref (r 7), .ref (r 8), .ref (r 9), .ref (r 10), .int (nI rl), .ref (r 11), .ref (r 12), .ref (r 13), .ref (r 14), .int (nI rw), .ref (r 15), .long gv])), ((r 1), .inl (cI, 16, .inl rp)), ((r 2), .inl (cI, 64, .inl rk)), ((r 3), .inl (cI, 64, .inl ow)), ((r 4), .inl (cI, 64, .inl rn)), ((r 5), .inl (cI, 64, .inl ct)), ((r 6), .inl (cI, 256, .inl rt)), ((r 7), .inl (cI, 4, .inl ki)), ((r 8), .inl (cL, 4, .inr (.inl rb))), ((r 9), .inl (cI, 4, .inl aq)), ((r 10), .inl (cZ, 64, .inl cd)), ((r 11), .inl (cI, 64, .inl g1)), ((r 12), .inl (cI, 64, .inl g2)), ((r 13), .inl (cI, 64, .inl g3)), ((r 14), .inl (cL, 256, .inr (.inl gw))), ((r 15), .inl (cL, 64, .inr (.inl an)))] (va_A [((r 0), .inr (7, [.int th, .int (nI rc), .ref (r 1), .int (nI ro), .ref (r 2), .int (nI rm), .ref (r 3), .ref (r 4), .ref (r 5), .ref (r 6), .int (nI ra), .ref (r 7), .ref (r 8), .ref (r 9), .ref (r 10), .int (nI rl), .ref (r 11), .ref (r 12), .ref (r 13), .ref (r 14), .int (nI rw), .ref (r 15), .long gv])), ((r 1), .inl (cI, 16, .inl rp)), ((r 2), .inl (cI, 64, .inl rk)), ((r 3), .inl (cI, 64, .inl ow)), ((r 4), .inl (cI, 64, .inl rn)), ((r 5), .inl (cI, 64, .inl ct)), ((r 6), .inl (cI, 256, .inl rt)), ((r 7), .inl (cI, 4, .inl ki)), ((r 8), .inl (cL, 4, .inr (.inl rb))), ((r 9), .inl (cI, 4, .inl aq)), ((r 10), .inl (cZ, 64, .inl cd)), ((r 11), .inl (cI, 64, .inl g1)), ((r 12), .inl (cI, 64, .inl g2)), ((r 13), .inl (cI, 64, .inl g3)), ((r 14), .inl (cL, 256, .inr (.inl gw))), ((r 15), .inl (cL, 64, .inr (.inl an)))] sz)) 0 0 (va_A [((r 0), .inr (7, [.int th, .int (nI rc), .ref (r 1), .int (nI ro), .ref (r 2), .int (nI rm), .ref (r 3), .ref (r 4), .ref (r 5), .ref (r 6), .int (nI ra), .ref (r 7), .ref (r 8), .ref (r 9), .ref (r 10), .int (nI rl), .ref (r 11), .ref (r 12), .ref (r 13), .ref (r 14), .int (nI rw), .ref (r 15), .long gv])), ((r 1), .inl (cI, 16, .inl rp)), ((r 2), .inl (cI, 64, .inl rk)), ((r 3), .inl (cI, 64, .inl ow)), ((r 4), .inl (cI, 64, .inl rn)), ((r 5), .inl (cI, 64, .inl ct)), ((r 6), .inl (cI, 256, .inl rt)), ((r 7), .inl (cI, 4, .inl ki)), ((r 8), .inl (cL, 4, .inr (.inl rb))), ((r 9), .inl (cI, 4, .inl aq)), ((r 10), .inl (cZ, 64, .inl cd)), ((r 11), .inl (cI, 64, .inl g1)), ((r 12), .inl (cI, 64, .inl g2)), ((r 13), .inl (cI, 64, .inl g3)), ((r 14), .inl (cL, 256, .inr (.inl gw))), ((r 15), .inl (cL, 64, .inr (.inl an)))] sz) := by
  refine Met.ofW (cc := kc_R_look) (maxL := 4) (ret := (some .int)) (by decide) rfl ?_
  intro p e s m args below meth c s₁ B hml hv
  obtain ⟨rfl, hsz, hC, hP, hD0⟩ := hv
  have hx := B.exec
  have hb := B.bytes
  have hr := B.returns
  have hlocks := B.notSynchronized
  have hown : s.vm.findClass "HostBridgeModel" = some m.cls := findClass_of_methodNamed B.named
  subst hsz
  have hD := hD0.self (sz := s.heap.size)
  generalize hAe : va_A [((r 0), .inr (7, [.int th, .int (nI rc), .ref (r 1), .int (nI ro), .ref (r 2), .int (nI rm), .ref (r 3), .ref (r 4), .ref (r 5), .ref (r 6), .int (nI ra), .ref (r 7), .ref (r 8), .ref (r 9), .ref (r 10), .int (nI rl), .ref (r 11), .ref (r 12), .ref (r 13), .ref (r 14), .int (nI rw), .ref (r 15), .long gv])), ((r 1), .inl (cI, 16, .inl rp)), ((r 2), .inl (cI, 64, .inl rk)), ((r 3), .inl (cI, 64, .inl ow)), ((r 4), .inl (cI, 64, .inl rn)), ((r 5), .inl (cI, 64, .inl ct)), ((r 6), .inl (cI, 256, .inl rt)), ((r 7), .inl (cI, 4, .inl ki)), ((r 8), .inl (cL, 4, .inr (.inl rb))), ((r 9), .inl (cI, 4, .inl aq)), ((r 10), .inl (cZ, 64, .inl cd)), ((r 11), .inl (cI, 64, .inl g1)), ((r 12), .inl (cI, 64, .inl g2)), ((r 13), .inl (cI, 64, .inl g3)), ((r 14), .inl (cL, 256, .inr (.inl gw))), ((r 15), .inl (cL, 64, .inr (.inl an)))] s.heap.size = A at hD hC ⊢
  have hA : ∀ q : Nat, s.heap.size ≤ q → A q := fun q h => by rw [← hAe]; exact Or.inr h
  have hS : va_S A s.heap s.heap [] := va_S.rf
  have hK := hC.K
  have hts := hC.ts [.ref (r 0), .int (nI kq), .int 1].toArray
  have hl := lv_entry ([.ref (r 0), .int (nI kq), .int 1]) (n := 4) (Nat.le_of_ble_eq_true rfl)
  rw [lg_entry_eq]
  generalize (lg_sl ([.ref (r 0), .int (nI kq), .int 1]) ++ List.replicate (4 - (lg_sl ([.ref (r 0), .int (nI kq), .int 1])).length) Slot.unset).toArray = ls at hl ⊢
  have hl : lv_has ls 4 [(0, .ref (r 0)), (1, .int (nI kq)), (2, .int 1)] := hl
  refine lv_iload_n hx hb kd_R_look_0 rfl (lv_at hl 2 rfl) ?_
  refine lv_iconst (v := 3) hx hb kd_R_look_1 (by decide) ?_
  refine hx_topi (y := nI 3) (by decide) ?_
  refine hx_callRi (va_runS (As := [.int 1, .int (nI 3)]) (rest := []) ⟨hx, hb, hml, hown, hts⟩ (mr_isNo 1 3) (va_cwS 2 hts (goodIn_sub (hx_m4 km_700 km_701 km_8 km_702) (by decide +kernel)) rfl rfl rfl (by decide +kernel) ⟨Nat.le_of_ble_eq_true rfl, Nat.le_of_ble_eq_true rfl⟩) (pr_S (hC.S hS) hP [] rfl) rfl rfl hl.1 rfl (lv_room (Nat.le_of_ble_eq_true rfl)) kd_R_look_2 ⟨Nat.le_of_ble_eq_true rfl, Nat.le_of_ble_eq_true rfl⟩) ?_
  refine hx_topi (y := 0) (by decide) ?_
  refine lv_istore_n (lv' := [(3, .int 0), (0, .ref (r 0)), (1, .int (nI kq)), (2, .int 1)]) hx hb kd_R_look_5 rfl hl (by decide) rfl (fun ls hl => ?_)
  refine lv_aload_n hx hb kd_R_look_6 rfl (lv_at hl 1 rfl) ?_
  refine lv_iload_n hx hb kd_R_look_7 rfl (lv_at hl 0 rfl) ?_
  refine lv_iload_n hx hb kd_R_look_8 rfl (lv_at hl 0 rfl) ?_
  refine lv_if_ne (tgt := 24) hx hb kd_R_look_9 (by decide) (fun c_9 => ?_) (fun c_9 => ?_)
  · exact absurd c_9 (not_not_intro rfl)
  · skip
    refine lv_aload_n hx hb kd_R_look_12 rfl (lv_at hl 1 rfl) ?_
    refine lv_iload_n hx hb kd_R_look_13 rfl (lv_at hl 2 rfl) ?_
    refine hx_callRi (va_runV (As := [.int (nI kq)]) (rest := [.int 0, .ref (r 0)]) ⟨hx, hb, hml, hown, hts⟩ (mr_isGone r rc ro rm ra rl rw th gv rp rk ow rn ct rt ki aq cd g1 g2 g3 rb gw an (nI kq)) (cwV 1 hts (goodIn_sub (hx_m5 km_807 km_809 kv_R_isGone km_8 km_810) (by decide +kernel)) rfl rfl rfl (by decide +kernel) ⟨Nat.le_of_ble_eq_true rfl, Nat.le_of_ble_eq_true rfl⟩) (pr_V (hC.S hS) hP [0] rfl (ci := 7) rfl (q0 := 0) rfl) rfl rfl hl.1 rfl (lv_room (Nat.le_of_ble_eq_true rfl)) kd_R_look_14 ⟨Nat.le_of_ble_eq_true rfl, Nat.le_of_ble_eq_true rfl⟩) ?_
    refine hx_topi (y := 0) (by rw [hg]; rfl) ?_
    refine lv_if_eq (tgt := 24) hx hb kd_R_look_17 (by decide) (fun c_17 => ?_) (fun c_17 => ?_)
    · skip
      refine lv_iconst (v := 0) hx hb kd_R_look_24 (by decide) ?_
      refine lv_iconst (v := 0) hx hb kd_R_look_25 (by decide) ?_
      refine hx_callWi (va_runV (As := [.int 0, .int 0, .int 0]) (rest := []) ⟨hx, hb, hml, hown, hts⟩ (mr_throwing0 r rc ro rm ra rl rw th gv rp rk ow rn ct rt ki aq cd g1 g2 g3 rb gw an _) (cwV 3 hts (goodIn_sub (hx_m5 km_703 km_705 kv_R_throwing km_8 km_706) (by decide +kernel)) rfl rfl rfl (by decide +kernel) ⟨Nat.le_of_ble_eq_true rfl, Nat.le_of_ble_eq_true rfl⟩) (pw_V (hC.S hS) hP hD hS hA [0] (by decide) rfl (ci := 7) rfl (q0 := 0) rfl) rfl rfl hl.1 rfl (lv_room (Nat.le_of_ble_eq_true rfl)) kd_R_look_26 ⟨Nat.le_of_ble_eq_true rfl, Nat.le_of_ble_eq_true rfl⟩) hP hD hS hA [0] rfl rfl (fun H locs hP hD hS hF => ?_)
      have hP : va_P D cl_all [((r 0), .inr (7, [.int 0, .int (nI rc), .ref (r 1), .int (nI ro), .ref (r 2), .int (nI rm), .ref (r 3), .ref (r 4), .ref (r 5), .ref (r 6), .int (nI ra), .ref (r 7), .ref (r 8), .ref (r 9), .ref (r 10), .int (nI rl), .ref (r 11), .ref (r 12), .ref (r 13), .ref (r 14), .int (nI rw), .ref (r 15), .long gv])), ((r 1), .inl (cI, 16, .inl rp)), ((r 2), .inl (cI, 64, .inl rk)), ((r 3), .inl (cI, 64, .inl ow)), ((r 4), .inl (cI, 64, .inl rn)), ((r 5), .inl (cI, 64, .inl ct)), ((r 6), .inl (cI, 256, .inl rt)), ((r 7), .inl (cI, 4, .inl ki)), ((r 8), .inl (cL, 4, .inr (.inl rb))), ((r 9), .inl (cI, 4, .inl aq)), ((r 10), .inl (cZ, 64, .inl cd)), ((r 11), .inl (cI, 64, .inl g1)), ((r 12), .inl (cI, 64, .inl g2)), ((r 13), .inl (cI, 64, .inl g3)), ((r 14), .inl (cL, 256, .inr (.inl gw))), ((r 15), .inl (cL, 64, .inr (.inl an)))] H := hP
      have hD : va_D A [((r 0), .inr (7, [.int 0, .int (nI rc), .ref (r 1), .int (nI ro), .ref (r 2), .int (nI rm), .ref (r 3), .ref (r 4), .ref (r 5), .ref (r 6), .int (nI ra), .ref (r 7), .ref (r 8), .ref (r 9), .ref (r 10), .int (nI rl), .ref (r 11), .ref (r 12), .ref (r 13), .ref (r 14), .int (nI rw), .ref (r 15), .long gv])), ((r 1), .inl (cI, 16, .inl rp)), ((r 2), .inl (cI, 64, .inl rk)), ((r 3), .inl (cI, 64, .inl ow)), ((r 4), .inl (cI, 64, .inl rn)), ((r 5), .inl (cI, 64, .inl ct)), ((r 6), .inl (cI, 256, .inl rt)), ((r 7), .inl (cI, 4, .inl ki)), ((r 8), .inl (cL, 4, .inr (.inl rb))), ((r 9), .inl (cI, 4, .inl aq)), ((r 10), .inl (cZ, 64, .inl cd)), ((r 11), .inl (cI, 64, .inl g1)), ((r 12), .inl (cI, 64, .inl g2)), ((r 13), .inl (cI, 64, .inl g3)), ((r 14), .inl (cL, 256, .inr (.inl gw))), ((r 15), .inl (cL, 64, .inr (.inl an)))] := hD
      refine hx_topi (y := 0) (rfl) ?_
      refine lv_if_eq (tgt := 34) hx hb kd_R_look_29 (by decide) (fun c_29 => ?_) (fun c_29 => ?_)
      · skip
        refine lv_iload_n hx hb kd_R_look_34 rfl (lv_at hl 3 rfl) ?_
        refine lv_if_ne (tgt := 50) hx hb kd_R_look_35 (by decide) (fun c_35 => ?_) (fun c_35 => ?_)
        · skip
          refine lv_iload_n hx hb kd_R_look_50 rfl (lv_at hl 3 rfl) ?_
          refine lv_iconst (v := 1) hx hb kd_R_look_51 (by decide) ?_
          refine lv_icmp_ne (tgt := 67) hx hb kd_R_look_52 (by decide) (fun c_52 => ?_) (fun c_52 => ?_)
          · exact absurd c_52 (not_not_intro rfl)
          · skip
            refine lv_aload_n hx hb kd_R_look_55 rfl (lv_at hl 1 rfl) ?_
            refine va_get (D := D) (ci := 7) (v := .ref (r 12)) (C := "HostBridgeModel") (T := ct_R) (N := 23) hx hb hts cw_R hown hK hP 0 rfl rfl 17 (by decide) (hts _ km_638) (fun _ h9 => h9) rfl kd_R_look_56 ?_
            refine lv_iload_n hx hb kd_R_look_59 rfl (lv_at hl 2 rfl) ?_
            refine lv_bipush (v := 64) hx hb kd_R_look_60 (by decide) ?_
            refine lv_irem hx hb kd_R_look_62 (by decide) ?_
            refine hx_topi (y := nI (kq % 64)) (rm_64 hq) ?_
            refine hx_iald (j := kq % 64) hx hb hK hP 12 rfl (rfl) (Nat.mod_lt _ (by decide)) (by decide) kd_R_look_63 ?_
            refine lv_goto (tgt := 76) hx hb kd_R_look_64 (by decide) ?_
            exact hx_iretW hx hb hr hlocks (rfl) (hP) hS kd_R_look_76
        · exact absurd c_35 (by decide)
      · exact absurd c_29 (not_not_intro rfl)
    · exact absurd c_17 (not_not_intro rfl)

set_option maxHeartbeats 4000000 in
set_option maxRecDepth 100000 in
theorem mr_look02 {l : Launch} {D : va_G} {cI cL cZ : ClassId} {tb : Nat} (r : Nat → Nat) (rc ro rm ra rl rw : Nat) (th : Int32) (gv : Int64) (rp rk ow rn ct rt ki aq cd g1 g2 g3 : Nat → Int32) (rb gw an : Nat → Int64) (kq : Nat) (hq : kq < 2 ^ 31) (hg : go_ rl (nI kq) = false) (sz : Nat) : Met l ky_R_look kw_R_look { frames := 1, cells := 0, slots := 0, locals := 23 } (pw_P D cI cL cZ tb [((r 0), .inr (7, [.int th, .int (nI rc), .ref (r 1), .int (nI ro), .ref (r 2), .int (nI rm), .ref (r 3), .ref (r 4), .ref (r 5), .ref (r 6), .int (nI ra), .ref (r 7), .ref (r 8), .ref (r 9), .ref (r 10), .int (nI rl), .ref (r 11), .ref (r 12), .ref (r 13), .ref (r 14), .int (nI rw), .ref (r 15), .long gv])), ((r 1), .inl (cI, 16, .inl rp)), ((r 2), .inl (cI, 64, .inl rk)), ((r 3), .inl (cI, 64, .inl ow)), ((r 4), .inl (cI, 64, .inl rn)), ((r 5), .inl (cI, 64, .inl ct)), ((r 6), .inl (cI, 256, .inl rt)), ((r 7), .inl (cI, 4, .inl ki)), ((r 8), .inl (cL, 4, .inr (.inl rb))), ((r 9), .inl (cI, 4, .inl aq)), ((r 10), .inl (cZ, 64, .inl cd)), ((r 11), .inl (cI, 64, .inl g1)), ((r 12), .inl (cI, 64, .inl g2)), ((r 13), .inl (cI, 64, .inl g3)), ((r 14), .inl (cL, 256, .inr (.inl gw))), ((r 15), .inl (cL, 64, .inr (.inl an)))] sz [.ref (r 0), .int (nI kq), .int 2]) (hx_QW D (some (.int (g3 (kq % 64)))) [((r 0), .inr (7, [.int 0, .int (nI rc), .ref (r 1), .int (nI ro), .ref (r 2), .int (nI rm), .ref (r 3), .ref (r 4), .ref (r 5), .ref (r 6), .int (nI ra), .ref (r 7), .ref (r 8), .ref (r 9), .ref (r 10), .int (nI rl), .ref (r 11), .ref (r 12), .ref (r 13), .ref (r 14), .int (nI rw), .ref (r 15), .long gv])), ((r 1), .inl (cI, 16, .inl rp)), ((r 2), .inl (cI, 64, .inl rk)), ((r 3), .inl (cI, 64, .inl ow)), ((r 4), .inl (cI, 64, .inl rn)), ((r 5), .inl (cI, 64, .inl ct)), ((r 6), .inl (cI, 256, .inl rt)), ((r 7), .inl (cI, 4, .inl ki)), ((r 8), .inl (cL, 4, .inr (.inl rb))), ((r 9), .inl (cI, 4, .inl aq)), ((r 10), .inl (cZ, 64, .inl cd)), ((r 11), .inl (cI, 64, .inl g1)), ((r 12), .inl (cI, 64, .inl g2)), ((r 13), .inl (cI, 64, .inl g3)), ((r 14), .inl (cL, 256, .inr (.inl gw))), ((r 15), .inl (cL, 64, .inr (.inl an)))] (va_A [((r 0), .inr (7, [.int th, .int (nI rc), .ref (r 1), .int (nI ro), .ref (r 2), .int (nI rm), .ref (r 3), .ref (r 4), .ref (r 5), .ref (r 6), .int (nI ra), .ref (r 7), .ref (r 8), .ref (r 9), .ref (r 10), .int (nI rl), .ref (r 11), .ref (r 12), .ref (r 13), .ref (r 14), .int (nI rw), .ref (r 15), .long gv])), ((r 1), .inl (cI, 16, .inl rp)), ((r 2), .inl (cI, 64, .inl rk)), ((r 3), .inl (cI, 64, .inl ow)), ((r 4), .inl (cI, 64, .inl rn)), ((r 5), .inl (cI, 64, .inl ct)), ((r 6), .inl (cI, 256, .inl rt)), ((r 7), .inl (cI, 4, .inl ki)), ((r 8), .inl (cL, 4, .inr (.inl rb))), ((r 9), .inl (cI, 4, .inl aq)), ((r 10), .inl (cZ, 64, .inl cd)), ((r 11), .inl (cI, 64, .inl g1)), ((r 12), .inl (cI, 64, .inl g2)), ((r 13), .inl (cI, 64, .inl g3)), ((r 14), .inl (cL, 256, .inr (.inl gw))), ((r 15), .inl (cL, 64, .inr (.inl an)))] sz)) 0 0 (va_A [((r 0), .inr (7, [.int th, .int (nI rc), .ref (r 1), .int (nI ro), .ref (r 2), .int (nI rm), .ref (r 3), .ref (r 4), .ref (r 5), .ref (r 6), .int (nI ra), .ref (r 7), .ref (r 8), .ref (r 9), .ref (r 10), .int (nI rl), .ref (r 11), .ref (r 12), .ref (r 13), .ref (r 14), .int (nI rw), .ref (r 15), .long gv])), ((r 1), .inl (cI, 16, .inl rp)), ((r 2), .inl (cI, 64, .inl rk)), ((r 3), .inl (cI, 64, .inl ow)), ((r 4), .inl (cI, 64, .inl rn)), ((r 5), .inl (cI, 64, .inl ct)), ((r 6), .inl (cI, 256, .inl rt)), ((r 7), .inl (cI, 4, .inl ki)), ((r 8), .inl (cL, 4, .inr (.inl rb))), ((r 9), .inl (cI, 4, .inl aq)), ((r 10), .inl (cZ, 64, .inl cd)), ((r 11), .inl (cI, 64, .inl g1)), ((r 12), .inl (cI, 64, .inl g2)), ((r 13), .inl (cI, 64, .inl g3)), ((r 14), .inl (cL, 256, .inr (.inl gw))), ((r 15), .inl (cL, 64, .inr (.inl an)))] sz) := by
  refine Met.ofW (cc := kc_R_look) (maxL := 4) (ret := (some .int)) (by decide) rfl ?_
  intro p e s m args below meth c s₁ B hml hv
  obtain ⟨rfl, hsz, hC, hP, hD0⟩ := hv
  have hx := B.exec
  have hb := B.bytes
  have hr := B.returns
  have hlocks := B.notSynchronized
  have hown : s.vm.findClass "HostBridgeModel" = some m.cls := findClass_of_methodNamed B.named
  subst hsz
  have hD := hD0.self (sz := s.heap.size)
  generalize hAe : va_A [((r 0), .inr (7, [.int th, .int (nI rc), .ref (r 1), .int (nI ro), .ref (r 2), .int (nI rm), .ref (r 3), .ref (r 4), .ref (r 5), .ref (r 6), .int (nI ra), .ref (r 7), .ref (r 8), .ref (r 9), .ref (r 10), .int (nI rl), .ref (r 11), .ref (r 12), .ref (r 13), .ref (r 14), .int (nI rw), .ref (r 15), .long gv])), ((r 1), .inl (cI, 16, .inl rp)), ((r 2), .inl (cI, 64, .inl rk)), ((r 3), .inl (cI, 64, .inl ow)), ((r 4), .inl (cI, 64, .inl rn)), ((r 5), .inl (cI, 64, .inl ct)), ((r 6), .inl (cI, 256, .inl rt)), ((r 7), .inl (cI, 4, .inl ki)), ((r 8), .inl (cL, 4, .inr (.inl rb))), ((r 9), .inl (cI, 4, .inl aq)), ((r 10), .inl (cZ, 64, .inl cd)), ((r 11), .inl (cI, 64, .inl g1)), ((r 12), .inl (cI, 64, .inl g2)), ((r 13), .inl (cI, 64, .inl g3)), ((r 14), .inl (cL, 256, .inr (.inl gw))), ((r 15), .inl (cL, 64, .inr (.inl an)))] s.heap.size = A at hD hC ⊢
  have hA : ∀ q : Nat, s.heap.size ≤ q → A q := fun q h => by rw [← hAe]; exact Or.inr h
  have hS : va_S A s.heap s.heap [] := va_S.rf
  have hK := hC.K
  have hts := hC.ts [.ref (r 0), .int (nI kq), .int 2].toArray
  have hl := lv_entry ([.ref (r 0), .int (nI kq), .int 2]) (n := 4) (Nat.le_of_ble_eq_true rfl)
  rw [lg_entry_eq]
  generalize (lg_sl ([.ref (r 0), .int (nI kq), .int 2]) ++ List.replicate (4 - (lg_sl ([.ref (r 0), .int (nI kq), .int 2])).length) Slot.unset).toArray = ls at hl ⊢
  have hl : lv_has ls 4 [(0, .ref (r 0)), (1, .int (nI kq)), (2, .int 2)] := hl
  refine lv_iload_n hx hb kd_R_look_0 rfl (lv_at hl 2 rfl) ?_
  refine lv_iconst (v := 3) hx hb kd_R_look_1 (by decide) ?_
  refine hx_topi (y := nI 3) (by decide) ?_
  refine hx_callRi (va_runS (As := [.int 2, .int (nI 3)]) (rest := []) ⟨hx, hb, hml, hown, hts⟩ (mr_isNo 2 3) (va_cwS 2 hts (goodIn_sub (hx_m4 km_700 km_701 km_8 km_702) (by decide +kernel)) rfl rfl rfl (by decide +kernel) ⟨Nat.le_of_ble_eq_true rfl, Nat.le_of_ble_eq_true rfl⟩) (pr_S (hC.S hS) hP [] rfl) rfl rfl hl.1 rfl (lv_room (Nat.le_of_ble_eq_true rfl)) kd_R_look_2 ⟨Nat.le_of_ble_eq_true rfl, Nat.le_of_ble_eq_true rfl⟩) ?_
  refine hx_topi (y := 0) (by decide) ?_
  refine lv_istore_n (lv' := [(3, .int 0), (0, .ref (r 0)), (1, .int (nI kq)), (2, .int 2)]) hx hb kd_R_look_5 rfl hl (by decide) rfl (fun ls hl => ?_)
  refine lv_aload_n hx hb kd_R_look_6 rfl (lv_at hl 1 rfl) ?_
  refine lv_iload_n hx hb kd_R_look_7 rfl (lv_at hl 0 rfl) ?_
  refine lv_iload_n hx hb kd_R_look_8 rfl (lv_at hl 0 rfl) ?_
  refine lv_if_ne (tgt := 24) hx hb kd_R_look_9 (by decide) (fun c_9 => ?_) (fun c_9 => ?_)
  · exact absurd c_9 (not_not_intro rfl)
  · skip
    refine lv_aload_n hx hb kd_R_look_12 rfl (lv_at hl 1 rfl) ?_
    refine lv_iload_n hx hb kd_R_look_13 rfl (lv_at hl 2 rfl) ?_
    refine hx_callRi (va_runV (As := [.int (nI kq)]) (rest := [.int 0, .ref (r 0)]) ⟨hx, hb, hml, hown, hts⟩ (mr_isGone r rc ro rm ra rl rw th gv rp rk ow rn ct rt ki aq cd g1 g2 g3 rb gw an (nI kq)) (cwV 1 hts (goodIn_sub (hx_m5 km_807 km_809 kv_R_isGone km_8 km_810) (by decide +kernel)) rfl rfl rfl (by decide +kernel) ⟨Nat.le_of_ble_eq_true rfl, Nat.le_of_ble_eq_true rfl⟩) (pr_V (hC.S hS) hP [0] rfl (ci := 7) rfl (q0 := 0) rfl) rfl rfl hl.1 rfl (lv_room (Nat.le_of_ble_eq_true rfl)) kd_R_look_14 ⟨Nat.le_of_ble_eq_true rfl, Nat.le_of_ble_eq_true rfl⟩) ?_
    refine hx_topi (y := 0) (by rw [hg]; rfl) ?_
    refine lv_if_eq (tgt := 24) hx hb kd_R_look_17 (by decide) (fun c_17 => ?_) (fun c_17 => ?_)
    · skip
      refine lv_iconst (v := 0) hx hb kd_R_look_24 (by decide) ?_
      refine lv_iconst (v := 0) hx hb kd_R_look_25 (by decide) ?_
      refine hx_callWi (va_runV (As := [.int 0, .int 0, .int 0]) (rest := []) ⟨hx, hb, hml, hown, hts⟩ (mr_throwing0 r rc ro rm ra rl rw th gv rp rk ow rn ct rt ki aq cd g1 g2 g3 rb gw an _) (cwV 3 hts (goodIn_sub (hx_m5 km_703 km_705 kv_R_throwing km_8 km_706) (by decide +kernel)) rfl rfl rfl (by decide +kernel) ⟨Nat.le_of_ble_eq_true rfl, Nat.le_of_ble_eq_true rfl⟩) (pw_V (hC.S hS) hP hD hS hA [0] (by decide) rfl (ci := 7) rfl (q0 := 0) rfl) rfl rfl hl.1 rfl (lv_room (Nat.le_of_ble_eq_true rfl)) kd_R_look_26 ⟨Nat.le_of_ble_eq_true rfl, Nat.le_of_ble_eq_true rfl⟩) hP hD hS hA [0] rfl rfl (fun H locs hP hD hS hF => ?_)
      have hP : va_P D cl_all [((r 0), .inr (7, [.int 0, .int (nI rc), .ref (r 1), .int (nI ro), .ref (r 2), .int (nI rm), .ref (r 3), .ref (r 4), .ref (r 5), .ref (r 6), .int (nI ra), .ref (r 7), .ref (r 8), .ref (r 9), .ref (r 10), .int (nI rl), .ref (r 11), .ref (r 12), .ref (r 13), .ref (r 14), .int (nI rw), .ref (r 15), .long gv])), ((r 1), .inl (cI, 16, .inl rp)), ((r 2), .inl (cI, 64, .inl rk)), ((r 3), .inl (cI, 64, .inl ow)), ((r 4), .inl (cI, 64, .inl rn)), ((r 5), .inl (cI, 64, .inl ct)), ((r 6), .inl (cI, 256, .inl rt)), ((r 7), .inl (cI, 4, .inl ki)), ((r 8), .inl (cL, 4, .inr (.inl rb))), ((r 9), .inl (cI, 4, .inl aq)), ((r 10), .inl (cZ, 64, .inl cd)), ((r 11), .inl (cI, 64, .inl g1)), ((r 12), .inl (cI, 64, .inl g2)), ((r 13), .inl (cI, 64, .inl g3)), ((r 14), .inl (cL, 256, .inr (.inl gw))), ((r 15), .inl (cL, 64, .inr (.inl an)))] H := hP
      have hD : va_D A [((r 0), .inr (7, [.int 0, .int (nI rc), .ref (r 1), .int (nI ro), .ref (r 2), .int (nI rm), .ref (r 3), .ref (r 4), .ref (r 5), .ref (r 6), .int (nI ra), .ref (r 7), .ref (r 8), .ref (r 9), .ref (r 10), .int (nI rl), .ref (r 11), .ref (r 12), .ref (r 13), .ref (r 14), .int (nI rw), .ref (r 15), .long gv])), ((r 1), .inl (cI, 16, .inl rp)), ((r 2), .inl (cI, 64, .inl rk)), ((r 3), .inl (cI, 64, .inl ow)), ((r 4), .inl (cI, 64, .inl rn)), ((r 5), .inl (cI, 64, .inl ct)), ((r 6), .inl (cI, 256, .inl rt)), ((r 7), .inl (cI, 4, .inl ki)), ((r 8), .inl (cL, 4, .inr (.inl rb))), ((r 9), .inl (cI, 4, .inl aq)), ((r 10), .inl (cZ, 64, .inl cd)), ((r 11), .inl (cI, 64, .inl g1)), ((r 12), .inl (cI, 64, .inl g2)), ((r 13), .inl (cI, 64, .inl g3)), ((r 14), .inl (cL, 256, .inr (.inl gw))), ((r 15), .inl (cL, 64, .inr (.inl an)))] := hD
      refine hx_topi (y := 0) (rfl) ?_
      refine lv_if_eq (tgt := 34) hx hb kd_R_look_29 (by decide) (fun c_29 => ?_) (fun c_29 => ?_)
      · skip
        refine lv_iload_n hx hb kd_R_look_34 rfl (lv_at hl 3 rfl) ?_
        refine lv_if_ne (tgt := 50) hx hb kd_R_look_35 (by decide) (fun c_35 => ?_) (fun c_35 => ?_)
        · skip
          refine lv_iload_n hx hb kd_R_look_50 rfl (lv_at hl 3 rfl) ?_
          refine lv_iconst (v := 1) hx hb kd_R_look_51 (by decide) ?_
          refine lv_icmp_ne (tgt := 67) hx hb kd_R_look_52 (by decide) (fun c_52 => ?_) (fun c_52 => ?_)
          · skip
            refine lv_aload_n hx hb kd_R_look_67 rfl (lv_at hl 1 rfl) ?_
            refine va_get (D := D) (ci := 7) (v := .ref (r 13)) (C := "HostBridgeModel") (T := ct_R) (N := 23) hx hb hts cw_R hown hK hP 0 rfl rfl 18 (by decide) (hts _ km_639) (fun _ h9 => h9) rfl kd_R_look_68 ?_
            refine lv_iload_n hx hb kd_R_look_71 rfl (lv_at hl 2 rfl) ?_
            refine lv_bipush (v := 64) hx hb kd_R_look_72 (by decide) ?_
            refine lv_irem hx hb kd_R_look_74 (by decide) ?_
            refine hx_topi (y := nI (kq % 64)) (rm_64 hq) ?_
            refine hx_iald (j := kq % 64) hx hb hK hP 13 rfl (rfl) (Nat.mod_lt _ (by decide)) (by decide) kd_R_look_75 ?_
            exact hx_iretW hx hb hr hlocks (rfl) (hP) hS kd_R_look_76
          · exact absurd c_52 (by decide)
        · exact absurd c_35 (by decide)
      · exact absurd c_29 (not_not_intro rfl)
    · exact absurd c_17 (not_not_intro rfl)

set_option maxHeartbeats 4000000 in
set_option maxRecDepth 100000 in
theorem mr_look1 {l : Launch} {D : va_G} {cI cL cZ : ClassId} {tb : Nat} (r : Nat → Nat) (rc ro rm ra rl rw : Nat) (th : Int32) (gv : Int64) (rp rk ow rn ct rt ki aq cd g1 g2 g3 : Nat → Int32) (rb gw an : Nat → Int64) (k w : Int32) (hf : fb_in w 3 = false) (sz : Nat) : Met l ky_R_look kw_R_look { frames := 1, cells := 0, slots := 0, locals := 23 } (pw_P D cI cL cZ tb [((r 0), .inr (7, [.int th, .int (nI rc), .ref (r 1), .int (nI ro), .ref (r 2), .int (nI rm), .ref (r 3), .ref (r 4), .ref (r 5), .ref (r 6), .int (nI ra), .ref (r 7), .ref (r 8), .ref (r 9), .ref (r 10), .int (nI rl), .ref (r 11), .ref (r 12), .ref (r 13), .ref (r 14), .int (nI rw), .ref (r 15), .long gv])), ((r 1), .inl (cI, 16, .inl rp)), ((r 2), .inl (cI, 64, .inl rk)), ((r 3), .inl (cI, 64, .inl ow)), ((r 4), .inl (cI, 64, .inl rn)), ((r 5), .inl (cI, 64, .inl ct)), ((r 6), .inl (cI, 256, .inl rt)), ((r 7), .inl (cI, 4, .inl ki)), ((r 8), .inl (cL, 4, .inr (.inl rb))), ((r 9), .inl (cI, 4, .inl aq)), ((r 10), .inl (cZ, 64, .inl cd)), ((r 11), .inl (cI, 64, .inl g1)), ((r 12), .inl (cI, 64, .inl g2)), ((r 13), .inl (cI, 64, .inl g3)), ((r 14), .inl (cL, 256, .inr (.inl gw))), ((r 15), .inl (cL, 64, .inr (.inl an)))] sz [.ref (r 0), .int k, .int w]) (hx_QW D (some (.int 0)) [((r 0), .inr (7, [.int 1, .int (nI rc), .ref (r 1), .int (nI ro), .ref (r 2), .int (nI rm), .ref (r 3), .ref (r 4), .ref (r 5), .ref (r 6), .int (nI ra), .ref (r 7), .ref (r 8), .ref (r 9), .ref (r 10), .int (nI rl), .ref (r 11), .ref (r 12), .ref (r 13), .ref (r 14), .int (nI rw), .ref (r 15), .long gv])), ((r 1), .inl (cI, 16, .inl rp)), ((r 2), .inl (cI, 64, .inl rk)), ((r 3), .inl (cI, 64, .inl ow)), ((r 4), .inl (cI, 64, .inl rn)), ((r 5), .inl (cI, 64, .inl ct)), ((r 6), .inl (cI, 256, .inl rt)), ((r 7), .inl (cI, 4, .inl ki)), ((r 8), .inl (cL, 4, .inr (.inl rb))), ((r 9), .inl (cI, 4, .inl aq)), ((r 10), .inl (cZ, 64, .inl cd)), ((r 11), .inl (cI, 64, .inl g1)), ((r 12), .inl (cI, 64, .inl g2)), ((r 13), .inl (cI, 64, .inl g3)), ((r 14), .inl (cL, 256, .inr (.inl gw))), ((r 15), .inl (cL, 64, .inr (.inl an)))] (va_A [((r 0), .inr (7, [.int th, .int (nI rc), .ref (r 1), .int (nI ro), .ref (r 2), .int (nI rm), .ref (r 3), .ref (r 4), .ref (r 5), .ref (r 6), .int (nI ra), .ref (r 7), .ref (r 8), .ref (r 9), .ref (r 10), .int (nI rl), .ref (r 11), .ref (r 12), .ref (r 13), .ref (r 14), .int (nI rw), .ref (r 15), .long gv])), ((r 1), .inl (cI, 16, .inl rp)), ((r 2), .inl (cI, 64, .inl rk)), ((r 3), .inl (cI, 64, .inl ow)), ((r 4), .inl (cI, 64, .inl rn)), ((r 5), .inl (cI, 64, .inl ct)), ((r 6), .inl (cI, 256, .inl rt)), ((r 7), .inl (cI, 4, .inl ki)), ((r 8), .inl (cL, 4, .inr (.inl rb))), ((r 9), .inl (cI, 4, .inl aq)), ((r 10), .inl (cZ, 64, .inl cd)), ((r 11), .inl (cI, 64, .inl g1)), ((r 12), .inl (cI, 64, .inl g2)), ((r 13), .inl (cI, 64, .inl g3)), ((r 14), .inl (cL, 256, .inr (.inl gw))), ((r 15), .inl (cL, 64, .inr (.inl an)))] sz)) 0 0 (va_A [((r 0), .inr (7, [.int th, .int (nI rc), .ref (r 1), .int (nI ro), .ref (r 2), .int (nI rm), .ref (r 3), .ref (r 4), .ref (r 5), .ref (r 6), .int (nI ra), .ref (r 7), .ref (r 8), .ref (r 9), .ref (r 10), .int (nI rl), .ref (r 11), .ref (r 12), .ref (r 13), .ref (r 14), .int (nI rw), .ref (r 15), .long gv])), ((r 1), .inl (cI, 16, .inl rp)), ((r 2), .inl (cI, 64, .inl rk)), ((r 3), .inl (cI, 64, .inl ow)), ((r 4), .inl (cI, 64, .inl rn)), ((r 5), .inl (cI, 64, .inl ct)), ((r 6), .inl (cI, 256, .inl rt)), ((r 7), .inl (cI, 4, .inl ki)), ((r 8), .inl (cL, 4, .inr (.inl rb))), ((r 9), .inl (cI, 4, .inl aq)), ((r 10), .inl (cZ, 64, .inl cd)), ((r 11), .inl (cI, 64, .inl g1)), ((r 12), .inl (cI, 64, .inl g2)), ((r 13), .inl (cI, 64, .inl g3)), ((r 14), .inl (cL, 256, .inr (.inl gw))), ((r 15), .inl (cL, 64, .inr (.inl an)))] sz) := by
  refine Met.ofW (cc := kc_R_look) (maxL := 4) (ret := (some .int)) (by decide) rfl ?_
  intro p e s m args below meth c s₁ B hml hv
  obtain ⟨rfl, hsz, hC, hP, hD0⟩ := hv
  have hx := B.exec
  have hb := B.bytes
  have hr := B.returns
  have hlocks := B.notSynchronized
  have hown : s.vm.findClass "HostBridgeModel" = some m.cls := findClass_of_methodNamed B.named
  subst hsz
  have hD := hD0.self (sz := s.heap.size)
  generalize hAe : va_A [((r 0), .inr (7, [.int th, .int (nI rc), .ref (r 1), .int (nI ro), .ref (r 2), .int (nI rm), .ref (r 3), .ref (r 4), .ref (r 5), .ref (r 6), .int (nI ra), .ref (r 7), .ref (r 8), .ref (r 9), .ref (r 10), .int (nI rl), .ref (r 11), .ref (r 12), .ref (r 13), .ref (r 14), .int (nI rw), .ref (r 15), .long gv])), ((r 1), .inl (cI, 16, .inl rp)), ((r 2), .inl (cI, 64, .inl rk)), ((r 3), .inl (cI, 64, .inl ow)), ((r 4), .inl (cI, 64, .inl rn)), ((r 5), .inl (cI, 64, .inl ct)), ((r 6), .inl (cI, 256, .inl rt)), ((r 7), .inl (cI, 4, .inl ki)), ((r 8), .inl (cL, 4, .inr (.inl rb))), ((r 9), .inl (cI, 4, .inl aq)), ((r 10), .inl (cZ, 64, .inl cd)), ((r 11), .inl (cI, 64, .inl g1)), ((r 12), .inl (cI, 64, .inl g2)), ((r 13), .inl (cI, 64, .inl g3)), ((r 14), .inl (cL, 256, .inr (.inl gw))), ((r 15), .inl (cL, 64, .inr (.inl an)))] s.heap.size = A at hD hC ⊢
  have hA : ∀ q : Nat, s.heap.size ≤ q → A q := fun q h => by rw [← hAe]; exact Or.inr h
  have hS : va_S A s.heap s.heap [] := va_S.rf
  have hK := hC.K
  have hts := hC.ts [.ref (r 0), .int k, .int w].toArray
  have hl := lv_entry ([.ref (r 0), .int k, .int w]) (n := 4) (Nat.le_of_ble_eq_true rfl)
  rw [lg_entry_eq]
  generalize (lg_sl ([.ref (r 0), .int k, .int w]) ++ List.replicate (4 - (lg_sl ([.ref (r 0), .int k, .int w])).length) Slot.unset).toArray = ls at hl ⊢
  have hl : lv_has ls 4 [(0, .ref (r 0)), (1, .int k), (2, .int w)] := hl
  refine lv_iload_n hx hb kd_R_look_0 rfl (lv_at hl 2 rfl) ?_
  refine lv_iconst (v := 3) hx hb kd_R_look_1 (by decide) ?_
  refine hx_topi (y := nI 3) (by decide) ?_
  refine hx_callRi (va_runS (As := [.int w, .int (nI 3)]) (rest := []) ⟨hx, hb, hml, hown, hts⟩ (mr_isNo w 3) (va_cwS 2 hts (goodIn_sub (hx_m4 km_700 km_701 km_8 km_702) (by decide +kernel)) rfl rfl rfl (by decide +kernel) ⟨Nat.le_of_ble_eq_true rfl, Nat.le_of_ble_eq_true rfl⟩) (pr_S (hC.S hS) hP [] rfl) rfl rfl hl.1 rfl (lv_room (Nat.le_of_ble_eq_true rfl)) kd_R_look_2 ⟨Nat.le_of_ble_eq_true rfl, Nat.le_of_ble_eq_true rfl⟩) ?_
  refine hx_topi (y := 1) (by rw [hf]; rfl) ?_
  refine lv_istore_n (lv' := [(3, .int 1), (0, .ref (r 0)), (1, .int k), (2, .int w)]) hx hb kd_R_look_5 rfl hl (by decide) rfl (fun ls hl => ?_)
  refine lv_aload_n hx hb kd_R_look_6 rfl (lv_at hl 1 rfl) ?_
  refine lv_iload_n hx hb kd_R_look_7 rfl (lv_at hl 0 rfl) ?_
  refine lv_iload_n hx hb kd_R_look_8 rfl (lv_at hl 0 rfl) ?_
  refine lv_if_ne (tgt := 24) hx hb kd_R_look_9 (by decide) (fun c_9 => ?_) (fun c_9 => ?_)
  · skip
    refine lv_iconst (v := 0) hx hb kd_R_look_24 (by decide) ?_
    refine lv_iconst (v := 0) hx hb kd_R_look_25 (by decide) ?_
    refine hx_callWi (va_runV (As := [.int 1, .int 0, .int 0]) (rest := []) ⟨hx, hb, hml, hown, hts⟩ (mr_throwing1 r rc ro rm ra rl rw th gv rp rk ow rn ct rt ki aq cd g1 g2 g3 rb gw an _) (cwV 3 hts (goodIn_sub (hx_m5 km_703 km_705 kv_R_throwing km_8 km_706) (by decide +kernel)) rfl rfl rfl (by decide +kernel) ⟨Nat.le_of_ble_eq_true rfl, Nat.le_of_ble_eq_true rfl⟩) (pw_V (hC.S hS) hP hD hS hA [0] (by decide) rfl (ci := 7) rfl (q0 := 0) rfl) rfl rfl hl.1 rfl (lv_room (Nat.le_of_ble_eq_true rfl)) kd_R_look_26 ⟨Nat.le_of_ble_eq_true rfl, Nat.le_of_ble_eq_true rfl⟩) hP hD hS hA [0] rfl rfl (fun H locs hP hD hS hF => ?_)
    have hP : va_P D cl_all [((r 0), .inr (7, [.int 1, .int (nI rc), .ref (r 1), .int (nI ro), .ref (r 2), .int (nI rm), .ref (r 3), .ref (r 4), .ref (r 5), .ref (r 6), .int (nI ra), .ref (r 7), .ref (r 8), .ref (r 9), .ref (r 10), .int (nI rl), .ref (r 11), .ref (r 12), .ref (r 13), .ref (r 14), .int (nI rw), .ref (r 15), .long gv])), ((r 1), .inl (cI, 16, .inl rp)), ((r 2), .inl (cI, 64, .inl rk)), ((r 3), .inl (cI, 64, .inl ow)), ((r 4), .inl (cI, 64, .inl rn)), ((r 5), .inl (cI, 64, .inl ct)), ((r 6), .inl (cI, 256, .inl rt)), ((r 7), .inl (cI, 4, .inl ki)), ((r 8), .inl (cL, 4, .inr (.inl rb))), ((r 9), .inl (cI, 4, .inl aq)), ((r 10), .inl (cZ, 64, .inl cd)), ((r 11), .inl (cI, 64, .inl g1)), ((r 12), .inl (cI, 64, .inl g2)), ((r 13), .inl (cI, 64, .inl g3)), ((r 14), .inl (cL, 256, .inr (.inl gw))), ((r 15), .inl (cL, 64, .inr (.inl an)))] H := hP
    have hD : va_D A [((r 0), .inr (7, [.int 1, .int (nI rc), .ref (r 1), .int (nI ro), .ref (r 2), .int (nI rm), .ref (r 3), .ref (r 4), .ref (r 5), .ref (r 6), .int (nI ra), .ref (r 7), .ref (r 8), .ref (r 9), .ref (r 10), .int (nI rl), .ref (r 11), .ref (r 12), .ref (r 13), .ref (r 14), .int (nI rw), .ref (r 15), .long gv])), ((r 1), .inl (cI, 16, .inl rp)), ((r 2), .inl (cI, 64, .inl rk)), ((r 3), .inl (cI, 64, .inl ow)), ((r 4), .inl (cI, 64, .inl rn)), ((r 5), .inl (cI, 64, .inl ct)), ((r 6), .inl (cI, 256, .inl rt)), ((r 7), .inl (cI, 4, .inl ki)), ((r 8), .inl (cL, 4, .inr (.inl rb))), ((r 9), .inl (cI, 4, .inl aq)), ((r 10), .inl (cZ, 64, .inl cd)), ((r 11), .inl (cI, 64, .inl g1)), ((r 12), .inl (cI, 64, .inl g2)), ((r 13), .inl (cI, 64, .inl g3)), ((r 14), .inl (cL, 256, .inr (.inl gw))), ((r 15), .inl (cL, 64, .inr (.inl an)))] := hD
    refine hx_topi (y := 1) (rfl) ?_
    refine lv_if_eq (tgt := 34) hx hb kd_R_look_29 (by decide) (fun c_29 => ?_) (fun c_29 => ?_)
    · exact absurd c_29 (by decide)
    · skip
      refine lv_iconst (v := 0) hx hb kd_R_look_32 (by decide) ?_
      exact hx_iretW hx hb hr hlocks (rfl) (hP) hS kd_R_look_33
  · exact absurd c_9 (by decide)

set_option maxHeartbeats 4000000 in
set_option maxRecDepth 100000 in
theorem mr_look2 {l : Launch} {D : va_G} {cI cL cZ : ClassId} {tb : Nat} (r : Nat → Nat) (rc ro rm ra rl rw : Nat) (th : Int32) (gv : Int64) (rp rk ow rn ct rt ki aq cd g1 g2 g3 : Nat → Int32) (rb gw an : Nat → Int64) (k w : Int32) (hw : fb_in w 3 = true) (hf : go_ rl k = true) (sz : Nat) : Met l ky_R_look kw_R_look { frames := 1, cells := 0, slots := 0, locals := 23 } (pw_P D cI cL cZ tb [((r 0), .inr (7, [.int th, .int (nI rc), .ref (r 1), .int (nI ro), .ref (r 2), .int (nI rm), .ref (r 3), .ref (r 4), .ref (r 5), .ref (r 6), .int (nI ra), .ref (r 7), .ref (r 8), .ref (r 9), .ref (r 10), .int (nI rl), .ref (r 11), .ref (r 12), .ref (r 13), .ref (r 14), .int (nI rw), .ref (r 15), .long gv])), ((r 1), .inl (cI, 16, .inl rp)), ((r 2), .inl (cI, 64, .inl rk)), ((r 3), .inl (cI, 64, .inl ow)), ((r 4), .inl (cI, 64, .inl rn)), ((r 5), .inl (cI, 64, .inl ct)), ((r 6), .inl (cI, 256, .inl rt)), ((r 7), .inl (cI, 4, .inl ki)), ((r 8), .inl (cL, 4, .inr (.inl rb))), ((r 9), .inl (cI, 4, .inl aq)), ((r 10), .inl (cZ, 64, .inl cd)), ((r 11), .inl (cI, 64, .inl g1)), ((r 12), .inl (cI, 64, .inl g2)), ((r 13), .inl (cI, 64, .inl g3)), ((r 14), .inl (cL, 256, .inr (.inl gw))), ((r 15), .inl (cL, 64, .inr (.inl an)))] sz [.ref (r 0), .int k, .int w]) (hx_QW D (some (.int 0)) [((r 0), .inr (7, [.int 2, .int (nI rc), .ref (r 1), .int (nI ro), .ref (r 2), .int (nI rm), .ref (r 3), .ref (r 4), .ref (r 5), .ref (r 6), .int (nI ra), .ref (r 7), .ref (r 8), .ref (r 9), .ref (r 10), .int (nI rl), .ref (r 11), .ref (r 12), .ref (r 13), .ref (r 14), .int (nI rw), .ref (r 15), .long gv])), ((r 1), .inl (cI, 16, .inl rp)), ((r 2), .inl (cI, 64, .inl rk)), ((r 3), .inl (cI, 64, .inl ow)), ((r 4), .inl (cI, 64, .inl rn)), ((r 5), .inl (cI, 64, .inl ct)), ((r 6), .inl (cI, 256, .inl rt)), ((r 7), .inl (cI, 4, .inl ki)), ((r 8), .inl (cL, 4, .inr (.inl rb))), ((r 9), .inl (cI, 4, .inl aq)), ((r 10), .inl (cZ, 64, .inl cd)), ((r 11), .inl (cI, 64, .inl g1)), ((r 12), .inl (cI, 64, .inl g2)), ((r 13), .inl (cI, 64, .inl g3)), ((r 14), .inl (cL, 256, .inr (.inl gw))), ((r 15), .inl (cL, 64, .inr (.inl an)))] (va_A [((r 0), .inr (7, [.int th, .int (nI rc), .ref (r 1), .int (nI ro), .ref (r 2), .int (nI rm), .ref (r 3), .ref (r 4), .ref (r 5), .ref (r 6), .int (nI ra), .ref (r 7), .ref (r 8), .ref (r 9), .ref (r 10), .int (nI rl), .ref (r 11), .ref (r 12), .ref (r 13), .ref (r 14), .int (nI rw), .ref (r 15), .long gv])), ((r 1), .inl (cI, 16, .inl rp)), ((r 2), .inl (cI, 64, .inl rk)), ((r 3), .inl (cI, 64, .inl ow)), ((r 4), .inl (cI, 64, .inl rn)), ((r 5), .inl (cI, 64, .inl ct)), ((r 6), .inl (cI, 256, .inl rt)), ((r 7), .inl (cI, 4, .inl ki)), ((r 8), .inl (cL, 4, .inr (.inl rb))), ((r 9), .inl (cI, 4, .inl aq)), ((r 10), .inl (cZ, 64, .inl cd)), ((r 11), .inl (cI, 64, .inl g1)), ((r 12), .inl (cI, 64, .inl g2)), ((r 13), .inl (cI, 64, .inl g3)), ((r 14), .inl (cL, 256, .inr (.inl gw))), ((r 15), .inl (cL, 64, .inr (.inl an)))] sz)) 0 0 (va_A [((r 0), .inr (7, [.int th, .int (nI rc), .ref (r 1), .int (nI ro), .ref (r 2), .int (nI rm), .ref (r 3), .ref (r 4), .ref (r 5), .ref (r 6), .int (nI ra), .ref (r 7), .ref (r 8), .ref (r 9), .ref (r 10), .int (nI rl), .ref (r 11), .ref (r 12), .ref (r 13), .ref (r 14), .int (nI rw), .ref (r 15), .long gv])), ((r 1), .inl (cI, 16, .inl rp)), ((r 2), .inl (cI, 64, .inl rk)), ((r 3), .inl (cI, 64, .inl ow)), ((r 4), .inl (cI, 64, .inl rn)), ((r 5), .inl (cI, 64, .inl ct)), ((r 6), .inl (cI, 256, .inl rt)), ((r 7), .inl (cI, 4, .inl ki)), ((r 8), .inl (cL, 4, .inr (.inl rb))), ((r 9), .inl (cI, 4, .inl aq)), ((r 10), .inl (cZ, 64, .inl cd)), ((r 11), .inl (cI, 64, .inl g1)), ((r 12), .inl (cI, 64, .inl g2)), ((r 13), .inl (cI, 64, .inl g3)), ((r 14), .inl (cL, 256, .inr (.inl gw))), ((r 15), .inl (cL, 64, .inr (.inl an)))] sz) := by
  refine Met.ofW (cc := kc_R_look) (maxL := 4) (ret := (some .int)) (by decide) rfl ?_
  intro p e s m args below meth c s₁ B hml hv
  obtain ⟨rfl, hsz, hC, hP, hD0⟩ := hv
  have hx := B.exec
  have hb := B.bytes
  have hr := B.returns
  have hlocks := B.notSynchronized
  have hown : s.vm.findClass "HostBridgeModel" = some m.cls := findClass_of_methodNamed B.named
  subst hsz
  have hD := hD0.self (sz := s.heap.size)
  generalize hAe : va_A [((r 0), .inr (7, [.int th, .int (nI rc), .ref (r 1), .int (nI ro), .ref (r 2), .int (nI rm), .ref (r 3), .ref (r 4), .ref (r 5), .ref (r 6), .int (nI ra), .ref (r 7), .ref (r 8), .ref (r 9), .ref (r 10), .int (nI rl), .ref (r 11), .ref (r 12), .ref (r 13), .ref (r 14), .int (nI rw), .ref (r 15), .long gv])), ((r 1), .inl (cI, 16, .inl rp)), ((r 2), .inl (cI, 64, .inl rk)), ((r 3), .inl (cI, 64, .inl ow)), ((r 4), .inl (cI, 64, .inl rn)), ((r 5), .inl (cI, 64, .inl ct)), ((r 6), .inl (cI, 256, .inl rt)), ((r 7), .inl (cI, 4, .inl ki)), ((r 8), .inl (cL, 4, .inr (.inl rb))), ((r 9), .inl (cI, 4, .inl aq)), ((r 10), .inl (cZ, 64, .inl cd)), ((r 11), .inl (cI, 64, .inl g1)), ((r 12), .inl (cI, 64, .inl g2)), ((r 13), .inl (cI, 64, .inl g3)), ((r 14), .inl (cL, 256, .inr (.inl gw))), ((r 15), .inl (cL, 64, .inr (.inl an)))] s.heap.size = A at hD hC ⊢
  have hA : ∀ q : Nat, s.heap.size ≤ q → A q := fun q h => by rw [← hAe]; exact Or.inr h
  have hS : va_S A s.heap s.heap [] := va_S.rf
  have hK := hC.K
  have hts := hC.ts [.ref (r 0), .int k, .int w].toArray
  have hl := lv_entry ([.ref (r 0), .int k, .int w]) (n := 4) (Nat.le_of_ble_eq_true rfl)
  rw [lg_entry_eq]
  generalize (lg_sl ([.ref (r 0), .int k, .int w]) ++ List.replicate (4 - (lg_sl ([.ref (r 0), .int k, .int w])).length) Slot.unset).toArray = ls at hl ⊢
  have hl : lv_has ls 4 [(0, .ref (r 0)), (1, .int k), (2, .int w)] := hl
  refine lv_iload_n hx hb kd_R_look_0 rfl (lv_at hl 2 rfl) ?_
  refine lv_iconst (v := 3) hx hb kd_R_look_1 (by decide) ?_
  refine hx_topi (y := nI 3) (by decide) ?_
  refine hx_callRi (va_runS (As := [.int w, .int (nI 3)]) (rest := []) ⟨hx, hb, hml, hown, hts⟩ (mr_isNo w 3) (va_cwS 2 hts (goodIn_sub (hx_m4 km_700 km_701 km_8 km_702) (by decide +kernel)) rfl rfl rfl (by decide +kernel) ⟨Nat.le_of_ble_eq_true rfl, Nat.le_of_ble_eq_true rfl⟩) (pr_S (hC.S hS) hP [] rfl) rfl rfl hl.1 rfl (lv_room (Nat.le_of_ble_eq_true rfl)) kd_R_look_2 ⟨Nat.le_of_ble_eq_true rfl, Nat.le_of_ble_eq_true rfl⟩) ?_
  refine hx_topi (y := 0) (by rw [hw]; rfl) ?_
  refine lv_istore_n (lv' := [(3, .int 0), (0, .ref (r 0)), (1, .int k), (2, .int w)]) hx hb kd_R_look_5 rfl hl (by decide) rfl (fun ls hl => ?_)
  refine lv_aload_n hx hb kd_R_look_6 rfl (lv_at hl 1 rfl) ?_
  refine lv_iload_n hx hb kd_R_look_7 rfl (lv_at hl 0 rfl) ?_
  refine lv_iload_n hx hb kd_R_look_8 rfl (lv_at hl 0 rfl) ?_
  refine lv_if_ne (tgt := 24) hx hb kd_R_look_9 (by decide) (fun c_9 => ?_) (fun c_9 => ?_)
  · exact absurd c_9 (not_not_intro rfl)
  · skip
    refine lv_aload_n hx hb kd_R_look_12 rfl (lv_at hl 1 rfl) ?_
    refine lv_iload_n hx hb kd_R_look_13 rfl (lv_at hl 2 rfl) ?_
    refine hx_callRi (va_runV (As := [.int k]) (rest := [.int 0, .ref (r 0)]) ⟨hx, hb, hml, hown, hts⟩ (mr_isGone r rc ro rm ra rl rw th gv rp rk ow rn ct rt ki aq cd g1 g2 g3 rb gw an k) (cwV 1 hts (goodIn_sub (hx_m5 km_807 km_809 kv_R_isGone km_8 km_810) (by decide +kernel)) rfl rfl rfl (by decide +kernel) ⟨Nat.le_of_ble_eq_true rfl, Nat.le_of_ble_eq_true rfl⟩) (pr_V (hC.S hS) hP [0] rfl (ci := 7) rfl (q0 := 0) rfl) rfl rfl hl.1 rfl (lv_room (Nat.le_of_ble_eq_true rfl)) kd_R_look_14 ⟨Nat.le_of_ble_eq_true rfl, Nat.le_of_ble_eq_true rfl⟩) ?_
    refine hx_topi (y := 1) (by rw [hf]; rfl) ?_
    refine lv_if_eq (tgt := 24) hx hb kd_R_look_17 (by decide) (fun c_17 => ?_) (fun c_17 => ?_)
    · exact absurd c_17 (by decide)
    · skip
      refine lv_iconst (v := 1) hx hb kd_R_look_20 (by decide) ?_
      refine lv_goto (tgt := 25) hx hb kd_R_look_21 (by decide) ?_
      refine lv_iconst (v := 0) hx hb kd_R_look_25 (by decide) ?_
      refine hx_callWi (va_runV (As := [.int 0, .int 1, .int 0]) (rest := []) ⟨hx, hb, hml, hown, hts⟩ (mr_throwing2 r rc ro rm ra rl rw th gv rp rk ow rn ct rt ki aq cd g1 g2 g3 rb gw an _) (cwV 3 hts (goodIn_sub (hx_m5 km_703 km_705 kv_R_throwing km_8 km_706) (by decide +kernel)) rfl rfl rfl (by decide +kernel) ⟨Nat.le_of_ble_eq_true rfl, Nat.le_of_ble_eq_true rfl⟩) (pw_V (hC.S hS) hP hD hS hA [0] (by decide) rfl (ci := 7) rfl (q0 := 0) rfl) rfl rfl hl.1 rfl (lv_room (Nat.le_of_ble_eq_true rfl)) kd_R_look_26 ⟨Nat.le_of_ble_eq_true rfl, Nat.le_of_ble_eq_true rfl⟩) hP hD hS hA [0] rfl rfl (fun H locs hP hD hS hF => ?_)
      have hP : va_P D cl_all [((r 0), .inr (7, [.int 2, .int (nI rc), .ref (r 1), .int (nI ro), .ref (r 2), .int (nI rm), .ref (r 3), .ref (r 4), .ref (r 5), .ref (r 6), .int (nI ra), .ref (r 7), .ref (r 8), .ref (r 9), .ref (r 10), .int (nI rl), .ref (r 11), .ref (r 12), .ref (r 13), .ref (r 14), .int (nI rw), .ref (r 15), .long gv])), ((r 1), .inl (cI, 16, .inl rp)), ((r 2), .inl (cI, 64, .inl rk)), ((r 3), .inl (cI, 64, .inl ow)), ((r 4), .inl (cI, 64, .inl rn)), ((r 5), .inl (cI, 64, .inl ct)), ((r 6), .inl (cI, 256, .inl rt)), ((r 7), .inl (cI, 4, .inl ki)), ((r 8), .inl (cL, 4, .inr (.inl rb))), ((r 9), .inl (cI, 4, .inl aq)), ((r 10), .inl (cZ, 64, .inl cd)), ((r 11), .inl (cI, 64, .inl g1)), ((r 12), .inl (cI, 64, .inl g2)), ((r 13), .inl (cI, 64, .inl g3)), ((r 14), .inl (cL, 256, .inr (.inl gw))), ((r 15), .inl (cL, 64, .inr (.inl an)))] H := hP
      have hD : va_D A [((r 0), .inr (7, [.int 2, .int (nI rc), .ref (r 1), .int (nI ro), .ref (r 2), .int (nI rm), .ref (r 3), .ref (r 4), .ref (r 5), .ref (r 6), .int (nI ra), .ref (r 7), .ref (r 8), .ref (r 9), .ref (r 10), .int (nI rl), .ref (r 11), .ref (r 12), .ref (r 13), .ref (r 14), .int (nI rw), .ref (r 15), .long gv])), ((r 1), .inl (cI, 16, .inl rp)), ((r 2), .inl (cI, 64, .inl rk)), ((r 3), .inl (cI, 64, .inl ow)), ((r 4), .inl (cI, 64, .inl rn)), ((r 5), .inl (cI, 64, .inl ct)), ((r 6), .inl (cI, 256, .inl rt)), ((r 7), .inl (cI, 4, .inl ki)), ((r 8), .inl (cL, 4, .inr (.inl rb))), ((r 9), .inl (cI, 4, .inl aq)), ((r 10), .inl (cZ, 64, .inl cd)), ((r 11), .inl (cI, 64, .inl g1)), ((r 12), .inl (cI, 64, .inl g2)), ((r 13), .inl (cI, 64, .inl g3)), ((r 14), .inl (cL, 256, .inr (.inl gw))), ((r 15), .inl (cL, 64, .inr (.inl an)))] := hD
      refine hx_topi (y := 1) (rfl) ?_
      refine lv_if_eq (tgt := 34) hx hb kd_R_look_29 (by decide) (fun c_29 => ?_) (fun c_29 => ?_)
      · exact absurd c_29 (by decide)
      · skip
        refine lv_iconst (v := 0) hx hb kd_R_look_32 (by decide) ?_
        exact hx_iretW hx hb hr hlocks (rfl) (hP) hS kd_R_look_33

set_option maxHeartbeats 4000000 in
set_option maxRecDepth 100000 in
theorem mr_converted0 {l : Launch} {D : va_G} {cI cL cZ : ClassId} {tb : Nat} (r : Nat → Nat) (rc ro rm ra rl rw : Nat) (th : Int32) (gv : Int64) (rp rk ow rn ct rt ki aq cd g1 g2 g3 : Nat → Int32) (rb gw an : Nat → Int64) (kq n i : Nat) (hq : kq < 2 ^ 31) (hg : go_ rl (nI kq) = false) (hn : g3 (kq % 64) = nI n) (hn4 : n ≤ 4) (hi : i < n) (sz : Nat) : Met l ky_R_converted kw_R_converted { frames := 1, cells := 0, slots := 0, locals := 23 } (pw_P D cI cL cZ tb [((r 0), .inr (7, [.int th, .int (nI rc), .ref (r 1), .int (nI ro), .ref (r 2), .int (nI rm), .ref (r 3), .ref (r 4), .ref (r 5), .ref (r 6), .int (nI ra), .ref (r 7), .ref (r 8), .ref (r 9), .ref (r 10), .int (nI rl), .ref (r 11), .ref (r 12), .ref (r 13), .ref (r 14), .int (nI rw), .ref (r 15), .long gv])), ((r 1), .inl (cI, 16, .inl rp)), ((r 2), .inl (cI, 64, .inl rk)), ((r 3), .inl (cI, 64, .inl ow)), ((r 4), .inl (cI, 64, .inl rn)), ((r 5), .inl (cI, 64, .inl ct)), ((r 6), .inl (cI, 256, .inl rt)), ((r 7), .inl (cI, 4, .inl ki)), ((r 8), .inl (cL, 4, .inr (.inl rb))), ((r 9), .inl (cI, 4, .inl aq)), ((r 10), .inl (cZ, 64, .inl cd)), ((r 11), .inl (cI, 64, .inl g1)), ((r 12), .inl (cI, 64, .inl g2)), ((r 13), .inl (cI, 64, .inl g3)), ((r 14), .inl (cL, 256, .inr (.inl gw))), ((r 15), .inl (cL, 64, .inr (.inl an)))] sz [.ref (r 0), .int (nI kq), .int (nI i)]) (hx_QW D (some (.long (gw (4 * (kq % 64) + i)))) [((r 0), .inr (7, [.int 0, .int (nI rc), .ref (r 1), .int (nI ro), .ref (r 2), .int (nI rm), .ref (r 3), .ref (r 4), .ref (r 5), .ref (r 6), .int (nI ra), .ref (r 7), .ref (r 8), .ref (r 9), .ref (r 10), .int (nI rl), .ref (r 11), .ref (r 12), .ref (r 13), .ref (r 14), .int (nI rw), .ref (r 15), .long gv])), ((r 1), .inl (cI, 16, .inl rp)), ((r 2), .inl (cI, 64, .inl rk)), ((r 3), .inl (cI, 64, .inl ow)), ((r 4), .inl (cI, 64, .inl rn)), ((r 5), .inl (cI, 64, .inl ct)), ((r 6), .inl (cI, 256, .inl rt)), ((r 7), .inl (cI, 4, .inl ki)), ((r 8), .inl (cL, 4, .inr (.inl rb))), ((r 9), .inl (cI, 4, .inl aq)), ((r 10), .inl (cZ, 64, .inl cd)), ((r 11), .inl (cI, 64, .inl g1)), ((r 12), .inl (cI, 64, .inl g2)), ((r 13), .inl (cI, 64, .inl g3)), ((r 14), .inl (cL, 256, .inr (.inl gw))), ((r 15), .inl (cL, 64, .inr (.inl an)))] (va_A [((r 0), .inr (7, [.int th, .int (nI rc), .ref (r 1), .int (nI ro), .ref (r 2), .int (nI rm), .ref (r 3), .ref (r 4), .ref (r 5), .ref (r 6), .int (nI ra), .ref (r 7), .ref (r 8), .ref (r 9), .ref (r 10), .int (nI rl), .ref (r 11), .ref (r 12), .ref (r 13), .ref (r 14), .int (nI rw), .ref (r 15), .long gv])), ((r 1), .inl (cI, 16, .inl rp)), ((r 2), .inl (cI, 64, .inl rk)), ((r 3), .inl (cI, 64, .inl ow)), ((r 4), .inl (cI, 64, .inl rn)), ((r 5), .inl (cI, 64, .inl ct)), ((r 6), .inl (cI, 256, .inl rt)), ((r 7), .inl (cI, 4, .inl ki)), ((r 8), .inl (cL, 4, .inr (.inl rb))), ((r 9), .inl (cI, 4, .inl aq)), ((r 10), .inl (cZ, 64, .inl cd)), ((r 11), .inl (cI, 64, .inl g1)), ((r 12), .inl (cI, 64, .inl g2)), ((r 13), .inl (cI, 64, .inl g3)), ((r 14), .inl (cL, 256, .inr (.inl gw))), ((r 15), .inl (cL, 64, .inr (.inl an)))] sz)) 0 0 (va_A [((r 0), .inr (7, [.int th, .int (nI rc), .ref (r 1), .int (nI ro), .ref (r 2), .int (nI rm), .ref (r 3), .ref (r 4), .ref (r 5), .ref (r 6), .int (nI ra), .ref (r 7), .ref (r 8), .ref (r 9), .ref (r 10), .int (nI rl), .ref (r 11), .ref (r 12), .ref (r 13), .ref (r 14), .int (nI rw), .ref (r 15), .long gv])), ((r 1), .inl (cI, 16, .inl rp)), ((r 2), .inl (cI, 64, .inl rk)), ((r 3), .inl (cI, 64, .inl ow)), ((r 4), .inl (cI, 64, .inl rn)), ((r 5), .inl (cI, 64, .inl ct)), ((r 6), .inl (cI, 256, .inl rt)), ((r 7), .inl (cI, 4, .inl ki)), ((r 8), .inl (cL, 4, .inr (.inl rb))), ((r 9), .inl (cI, 4, .inl aq)), ((r 10), .inl (cZ, 64, .inl cd)), ((r 11), .inl (cI, 64, .inl g1)), ((r 12), .inl (cI, 64, .inl g2)), ((r 13), .inl (cI, 64, .inl g3)), ((r 14), .inl (cL, 256, .inr (.inl gw))), ((r 15), .inl (cL, 64, .inr (.inl an)))] sz) := by
  refine Met.ofW (cc := kc_R_converted) (maxL := 3) (ret := (some .long)) (by decide) rfl ?_
  intro p e s m args below meth c s₁ B hml hv
  obtain ⟨rfl, hsz, hC, hP, hD0⟩ := hv
  have hx := B.exec
  have hb := B.bytes
  have hr := B.returns
  have hlocks := B.notSynchronized
  have hown : s.vm.findClass "HostBridgeModel" = some m.cls := findClass_of_methodNamed B.named
  subst hsz
  have hD := hD0.self (sz := s.heap.size)
  generalize hAe : va_A [((r 0), .inr (7, [.int th, .int (nI rc), .ref (r 1), .int (nI ro), .ref (r 2), .int (nI rm), .ref (r 3), .ref (r 4), .ref (r 5), .ref (r 6), .int (nI ra), .ref (r 7), .ref (r 8), .ref (r 9), .ref (r 10), .int (nI rl), .ref (r 11), .ref (r 12), .ref (r 13), .ref (r 14), .int (nI rw), .ref (r 15), .long gv])), ((r 1), .inl (cI, 16, .inl rp)), ((r 2), .inl (cI, 64, .inl rk)), ((r 3), .inl (cI, 64, .inl ow)), ((r 4), .inl (cI, 64, .inl rn)), ((r 5), .inl (cI, 64, .inl ct)), ((r 6), .inl (cI, 256, .inl rt)), ((r 7), .inl (cI, 4, .inl ki)), ((r 8), .inl (cL, 4, .inr (.inl rb))), ((r 9), .inl (cI, 4, .inl aq)), ((r 10), .inl (cZ, 64, .inl cd)), ((r 11), .inl (cI, 64, .inl g1)), ((r 12), .inl (cI, 64, .inl g2)), ((r 13), .inl (cI, 64, .inl g3)), ((r 14), .inl (cL, 256, .inr (.inl gw))), ((r 15), .inl (cL, 64, .inr (.inl an)))] s.heap.size = A at hD hC ⊢
  have hA : ∀ q : Nat, s.heap.size ≤ q → A q := fun q h => by rw [← hAe]; exact Or.inr h
  have hS : va_S A s.heap s.heap [] := va_S.rf
  have hK := hC.K
  have hts := hC.ts [.ref (r 0), .int (nI kq), .int (nI i)].toArray
  have hl := lv_entry ([.ref (r 0), .int (nI kq), .int (nI i)]) (n := 3) (Nat.le_of_ble_eq_true rfl)
  rw [lg_entry_eq]
  generalize (lg_sl ([.ref (r 0), .int (nI kq), .int (nI i)]) ++ List.replicate (3 - (lg_sl ([.ref (r 0), .int (nI kq), .int (nI i)])).length) Slot.unset).toArray = ls at hl ⊢
  have hl : lv_has ls 3 [(0, .ref (r 0)), (1, .int (nI kq)), (2, .int (nI i))] := hl
  refine lv_aload_n hx hb kd_R_converted_0 rfl (lv_at hl 0 rfl) ?_
  refine lv_aload_n hx hb kd_R_converted_1 rfl (lv_at hl 0 rfl) ?_
  refine lv_iload_n hx hb kd_R_converted_2 rfl (lv_at hl 1 rfl) ?_
  refine hx_callRi (va_runV (As := [.int (nI kq)]) (rest := [.ref (r 0)]) ⟨hx, hb, hml, hown, hts⟩ (mr_isGone r rc ro rm ra rl rw th gv rp rk ow rn ct rt ki aq cd g1 g2 g3 rb gw an (nI kq)) (cwV 1 hts (goodIn_sub (hx_m5 km_807 km_809 kv_R_isGone km_8 km_810) (by decide +kernel)) rfl rfl rfl (by decide +kernel) ⟨Nat.le_of_ble_eq_true rfl, Nat.le_of_ble_eq_true rfl⟩) (pr_V (hC.S hS) hP [0] rfl (ci := 7) rfl (q0 := 0) rfl) rfl rfl hl.1 rfl (lv_room (Nat.le_of_ble_eq_true rfl)) kd_R_converted_3 ⟨Nat.le_of_ble_eq_true rfl, Nat.le_of_ble_eq_true rfl⟩) ?_
  refine hx_topi (y := 0) (by rw [hg]; rfl) ?_
  refine lv_if_ne (tgt := 25) hx hb kd_R_converted_6 (by decide) (fun c_6 => ?_) (fun c_6 => ?_)
  · exact absurd c_6 (not_not_intro rfl)
  · skip
    refine lv_iload_n hx hb kd_R_converted_9 rfl (lv_at hl 2 rfl) ?_
    refine lv_aload_n hx hb kd_R_converted_10 rfl (lv_at hl 0 rfl) ?_
    refine va_get (D := D) (ci := 7) (v := .ref (r 13)) (C := "HostBridgeModel") (T := ct_R) (N := 23) hx hb hts cw_R hown hK hP 0 rfl rfl 18 (by decide) (hts _ km_639) (fun _ h9 => h9) rfl kd_R_converted_11 ?_
    refine lv_iload_n hx hb kd_R_converted_14 rfl (lv_at hl 1 rfl) ?_
    refine lv_bipush (v := 64) hx hb kd_R_converted_15 (by decide) ?_
    refine lv_irem hx hb kd_R_converted_17 (by decide) ?_
    refine hx_topi (y := nI (kq % 64)) (rm_64 hq) ?_
    refine hx_iald (j := kq % 64) hx hb hK hP 13 rfl (rfl) (Nat.mod_lt _ (by decide)) (by decide) kd_R_converted_18 ?_
    refine hx_topi (y := nI n) (hn) ?_
    refine hx_callRi (va_runS (As := [.int (nI i), .int (nI n)]) (rest := [.ref (r 0)]) ⟨hx, hb, hml, hown, hts⟩ (mr_isNo (nI i) n) (va_cwS 2 hts (goodIn_sub (hx_m4 km_700 km_701 km_8 km_702) (by decide +kernel)) rfl rfl rfl (by decide +kernel) ⟨Nat.le_of_ble_eq_true rfl, Nat.le_of_ble_eq_true rfl⟩) (pr_S (hC.S hS) hP [] rfl) rfl rfl hl.1 rfl (lv_room (Nat.le_of_ble_eq_true rfl)) kd_R_converted_19 ⟨Nat.le_of_ble_eq_true rfl, Nat.le_of_ble_eq_true rfl⟩) ?_
    refine hx_topi (y := 0) (by rw [(fb_in_iff (by omega)).mpr ⟨i, hi, rfl⟩]; rfl) ?_
    refine lv_if_eq (tgt := 29) hx hb kd_R_converted_22 (by decide) (fun c_22 => ?_) (fun c_22 => ?_)
    · skip
      refine lv_iconst (v := 0) hx hb kd_R_converted_29 (by decide) ?_
      refine lv_iconst (v := 0) hx hb kd_R_converted_30 (by decide) ?_
      refine lv_iconst (v := 0) hx hb kd_R_converted_31 (by decide) ?_
      refine hx_callWi (va_runV (As := [.int 0, .int 0, .int 0]) (rest := []) ⟨hx, hb, hml, hown, hts⟩ (mr_throwing0 r rc ro rm ra rl rw th gv rp rk ow rn ct rt ki aq cd g1 g2 g3 rb gw an _) (cwV 3 hts (goodIn_sub (hx_m5 km_703 km_705 kv_R_throwing km_8 km_706) (by decide +kernel)) rfl rfl rfl (by decide +kernel) ⟨Nat.le_of_ble_eq_true rfl, Nat.le_of_ble_eq_true rfl⟩) (pw_V (hC.S hS) hP hD hS hA [0] (by decide) rfl (ci := 7) rfl (q0 := 0) rfl) rfl rfl hl.1 rfl (lv_room (Nat.le_of_ble_eq_true rfl)) kd_R_converted_32 ⟨Nat.le_of_ble_eq_true rfl, Nat.le_of_ble_eq_true rfl⟩) hP hD hS hA [0] rfl rfl (fun H locs hP hD hS hF => ?_)
      have hP : va_P D cl_all [((r 0), .inr (7, [.int 0, .int (nI rc), .ref (r 1), .int (nI ro), .ref (r 2), .int (nI rm), .ref (r 3), .ref (r 4), .ref (r 5), .ref (r 6), .int (nI ra), .ref (r 7), .ref (r 8), .ref (r 9), .ref (r 10), .int (nI rl), .ref (r 11), .ref (r 12), .ref (r 13), .ref (r 14), .int (nI rw), .ref (r 15), .long gv])), ((r 1), .inl (cI, 16, .inl rp)), ((r 2), .inl (cI, 64, .inl rk)), ((r 3), .inl (cI, 64, .inl ow)), ((r 4), .inl (cI, 64, .inl rn)), ((r 5), .inl (cI, 64, .inl ct)), ((r 6), .inl (cI, 256, .inl rt)), ((r 7), .inl (cI, 4, .inl ki)), ((r 8), .inl (cL, 4, .inr (.inl rb))), ((r 9), .inl (cI, 4, .inl aq)), ((r 10), .inl (cZ, 64, .inl cd)), ((r 11), .inl (cI, 64, .inl g1)), ((r 12), .inl (cI, 64, .inl g2)), ((r 13), .inl (cI, 64, .inl g3)), ((r 14), .inl (cL, 256, .inr (.inl gw))), ((r 15), .inl (cL, 64, .inr (.inl an)))] H := hP
      have hD : va_D A [((r 0), .inr (7, [.int 0, .int (nI rc), .ref (r 1), .int (nI ro), .ref (r 2), .int (nI rm), .ref (r 3), .ref (r 4), .ref (r 5), .ref (r 6), .int (nI ra), .ref (r 7), .ref (r 8), .ref (r 9), .ref (r 10), .int (nI rl), .ref (r 11), .ref (r 12), .ref (r 13), .ref (r 14), .int (nI rw), .ref (r 15), .long gv])), ((r 1), .inl (cI, 16, .inl rp)), ((r 2), .inl (cI, 64, .inl rk)), ((r 3), .inl (cI, 64, .inl ow)), ((r 4), .inl (cI, 64, .inl rn)), ((r 5), .inl (cI, 64, .inl ct)), ((r 6), .inl (cI, 256, .inl rt)), ((r 7), .inl (cI, 4, .inl ki)), ((r 8), .inl (cL, 4, .inr (.inl rb))), ((r 9), .inl (cI, 4, .inl aq)), ((r 10), .inl (cZ, 64, .inl cd)), ((r 11), .inl (cI, 64, .inl g1)), ((r 12), .inl (cI, 64, .inl g2)), ((r 13), .inl (cI, 64, .inl g3)), ((r 14), .inl (cL, 256, .inr (.inl gw))), ((r 15), .inl (cL, 64, .inr (.inl an)))] := hD
      refine hx_topi (y := 0) (rfl) ?_
      refine lv_if_eq (tgt := 42) hx hb kd_R_converted_35 (by decide) (fun c_35 => ?_) (fun c_35 => ?_)
      · skip
        refine lv_aload_n hx hb kd_R_converted_42 rfl (lv_at hl 0 rfl) ?_
        refine va_get (D := D) (ci := 7) (v := .ref (r 14)) (C := "HostBridgeModel") (T := ct_R) (N := 23) hx hb hts cw_R hown hK hP 0 rfl rfl 19 (by decide) (hts _ km_640) (fun _ h9 => h9) rfl kd_R_converted_43 ?_
        refine lv_iconst (v := 4) hx hb kd_R_converted_46 (by decide) ?_
        refine hx_topi (y := nI 4) (by decide) ?_
        refine lv_iload_n hx hb kd_R_converted_47 rfl (lv_at hl 1 rfl) ?_
        refine lv_bipush (v := 64) hx hb kd_R_converted_48 (by decide) ?_
        refine lv_irem hx hb kd_R_converted_50 (by decide) ?_
        refine hx_topi (y := nI (kq % 64)) (rm_64 hq) ?_
        refine lv_imul hx hb kd_R_converted_51 ?_
        refine hx_topi (y := nI (4 * (kq % 64))) (pk_mul _ _) ?_
        refine lv_iload_n hx hb kd_R_converted_52 rfl (lv_at hl 2 rfl) ?_
        refine lv_iadd hx hb kd_R_converted_53 ?_
        refine hx_topi (y := nI (4 * (kq % 64) + i)) (nI_add _ _) ?_
        refine hx_lald (j := 4 * (kq % 64) + i) hx hb hK hP 14 rfl (rfl) (by have : kq % 64 < 64 := Nat.mod_lt _ (by decide); omega) (by decide) kd_R_converted_54 ?_
        exact hx_lretW hx hb hr hlocks (rfl) (hP) hS kd_R_converted_55
      · exact absurd c_35 (not_not_intro rfl)
    · exact absurd c_22 (not_not_intro rfl)

set_option maxHeartbeats 4000000 in
set_option maxRecDepth 100000 in
theorem mr_converted1 {l : Launch} {D : va_G} {cI cL cZ : ClassId} {tb : Nat} (r : Nat → Nat) (rc ro rm ra rl rw : Nat) (th : Int32) (gv : Int64) (rp rk ow rn ct rt ki aq cd g1 g2 g3 : Nat → Int32) (rb gw an : Nat → Int64) (k i : Int32) (hf : go_ rl k = true) (sz : Nat) : Met l ky_R_converted kw_R_converted { frames := 1, cells := 0, slots := 0, locals := 23 } (pw_P D cI cL cZ tb [((r 0), .inr (7, [.int th, .int (nI rc), .ref (r 1), .int (nI ro), .ref (r 2), .int (nI rm), .ref (r 3), .ref (r 4), .ref (r 5), .ref (r 6), .int (nI ra), .ref (r 7), .ref (r 8), .ref (r 9), .ref (r 10), .int (nI rl), .ref (r 11), .ref (r 12), .ref (r 13), .ref (r 14), .int (nI rw), .ref (r 15), .long gv])), ((r 1), .inl (cI, 16, .inl rp)), ((r 2), .inl (cI, 64, .inl rk)), ((r 3), .inl (cI, 64, .inl ow)), ((r 4), .inl (cI, 64, .inl rn)), ((r 5), .inl (cI, 64, .inl ct)), ((r 6), .inl (cI, 256, .inl rt)), ((r 7), .inl (cI, 4, .inl ki)), ((r 8), .inl (cL, 4, .inr (.inl rb))), ((r 9), .inl (cI, 4, .inl aq)), ((r 10), .inl (cZ, 64, .inl cd)), ((r 11), .inl (cI, 64, .inl g1)), ((r 12), .inl (cI, 64, .inl g2)), ((r 13), .inl (cI, 64, .inl g3)), ((r 14), .inl (cL, 256, .inr (.inl gw))), ((r 15), .inl (cL, 64, .inr (.inl an)))] sz [.ref (r 0), .int k, .int i]) (hx_QW D (some (.long 0)) [((r 0), .inr (7, [.int 1, .int (nI rc), .ref (r 1), .int (nI ro), .ref (r 2), .int (nI rm), .ref (r 3), .ref (r 4), .ref (r 5), .ref (r 6), .int (nI ra), .ref (r 7), .ref (r 8), .ref (r 9), .ref (r 10), .int (nI rl), .ref (r 11), .ref (r 12), .ref (r 13), .ref (r 14), .int (nI rw), .ref (r 15), .long gv])), ((r 1), .inl (cI, 16, .inl rp)), ((r 2), .inl (cI, 64, .inl rk)), ((r 3), .inl (cI, 64, .inl ow)), ((r 4), .inl (cI, 64, .inl rn)), ((r 5), .inl (cI, 64, .inl ct)), ((r 6), .inl (cI, 256, .inl rt)), ((r 7), .inl (cI, 4, .inl ki)), ((r 8), .inl (cL, 4, .inr (.inl rb))), ((r 9), .inl (cI, 4, .inl aq)), ((r 10), .inl (cZ, 64, .inl cd)), ((r 11), .inl (cI, 64, .inl g1)), ((r 12), .inl (cI, 64, .inl g2)), ((r 13), .inl (cI, 64, .inl g3)), ((r 14), .inl (cL, 256, .inr (.inl gw))), ((r 15), .inl (cL, 64, .inr (.inl an)))] (va_A [((r 0), .inr (7, [.int th, .int (nI rc), .ref (r 1), .int (nI ro), .ref (r 2), .int (nI rm), .ref (r 3), .ref (r 4), .ref (r 5), .ref (r 6), .int (nI ra), .ref (r 7), .ref (r 8), .ref (r 9), .ref (r 10), .int (nI rl), .ref (r 11), .ref (r 12), .ref (r 13), .ref (r 14), .int (nI rw), .ref (r 15), .long gv])), ((r 1), .inl (cI, 16, .inl rp)), ((r 2), .inl (cI, 64, .inl rk)), ((r 3), .inl (cI, 64, .inl ow)), ((r 4), .inl (cI, 64, .inl rn)), ((r 5), .inl (cI, 64, .inl ct)), ((r 6), .inl (cI, 256, .inl rt)), ((r 7), .inl (cI, 4, .inl ki)), ((r 8), .inl (cL, 4, .inr (.inl rb))), ((r 9), .inl (cI, 4, .inl aq)), ((r 10), .inl (cZ, 64, .inl cd)), ((r 11), .inl (cI, 64, .inl g1)), ((r 12), .inl (cI, 64, .inl g2)), ((r 13), .inl (cI, 64, .inl g3)), ((r 14), .inl (cL, 256, .inr (.inl gw))), ((r 15), .inl (cL, 64, .inr (.inl an)))] sz)) 0 0 (va_A [((r 0), .inr (7, [.int th, .int (nI rc), .ref (r 1), .int (nI ro), .ref (r 2), .int (nI rm), .ref (r 3), .ref (r 4), .ref (r 5), .ref (r 6), .int (nI ra), .ref (r 7), .ref (r 8), .ref (r 9), .ref (r 10), .int (nI rl), .ref (r 11), .ref (r 12), .ref (r 13), .ref (r 14), .int (nI rw), .ref (r 15), .long gv])), ((r 1), .inl (cI, 16, .inl rp)), ((r 2), .inl (cI, 64, .inl rk)), ((r 3), .inl (cI, 64, .inl ow)), ((r 4), .inl (cI, 64, .inl rn)), ((r 5), .inl (cI, 64, .inl ct)), ((r 6), .inl (cI, 256, .inl rt)), ((r 7), .inl (cI, 4, .inl ki)), ((r 8), .inl (cL, 4, .inr (.inl rb))), ((r 9), .inl (cI, 4, .inl aq)), ((r 10), .inl (cZ, 64, .inl cd)), ((r 11), .inl (cI, 64, .inl g1)), ((r 12), .inl (cI, 64, .inl g2)), ((r 13), .inl (cI, 64, .inl g3)), ((r 14), .inl (cL, 256, .inr (.inl gw))), ((r 15), .inl (cL, 64, .inr (.inl an)))] sz) := by
  refine Met.ofW (cc := kc_R_converted) (maxL := 3) (ret := (some .long)) (by decide) rfl ?_
  intro p e s m args below meth c s₁ B hml hv
  obtain ⟨rfl, hsz, hC, hP, hD0⟩ := hv
  have hx := B.exec
  have hb := B.bytes
  have hr := B.returns
  have hlocks := B.notSynchronized
  have hown : s.vm.findClass "HostBridgeModel" = some m.cls := findClass_of_methodNamed B.named
  subst hsz
  have hD := hD0.self (sz := s.heap.size)
  generalize hAe : va_A [((r 0), .inr (7, [.int th, .int (nI rc), .ref (r 1), .int (nI ro), .ref (r 2), .int (nI rm), .ref (r 3), .ref (r 4), .ref (r 5), .ref (r 6), .int (nI ra), .ref (r 7), .ref (r 8), .ref (r 9), .ref (r 10), .int (nI rl), .ref (r 11), .ref (r 12), .ref (r 13), .ref (r 14), .int (nI rw), .ref (r 15), .long gv])), ((r 1), .inl (cI, 16, .inl rp)), ((r 2), .inl (cI, 64, .inl rk)), ((r 3), .inl (cI, 64, .inl ow)), ((r 4), .inl (cI, 64, .inl rn)), ((r 5), .inl (cI, 64, .inl ct)), ((r 6), .inl (cI, 256, .inl rt)), ((r 7), .inl (cI, 4, .inl ki)), ((r 8), .inl (cL, 4, .inr (.inl rb))), ((r 9), .inl (cI, 4, .inl aq)), ((r 10), .inl (cZ, 64, .inl cd)), ((r 11), .inl (cI, 64, .inl g1)), ((r 12), .inl (cI, 64, .inl g2)), ((r 13), .inl (cI, 64, .inl g3)), ((r 14), .inl (cL, 256, .inr (.inl gw))), ((r 15), .inl (cL, 64, .inr (.inl an)))] s.heap.size = A at hD hC ⊢
  have hA : ∀ q : Nat, s.heap.size ≤ q → A q := fun q h => by rw [← hAe]; exact Or.inr h
  have hS : va_S A s.heap s.heap [] := va_S.rf
  have hK := hC.K
  have hts := hC.ts [.ref (r 0), .int k, .int i].toArray
  have hl := lv_entry ([.ref (r 0), .int k, .int i]) (n := 3) (Nat.le_of_ble_eq_true rfl)
  rw [lg_entry_eq]
  generalize (lg_sl ([.ref (r 0), .int k, .int i]) ++ List.replicate (3 - (lg_sl ([.ref (r 0), .int k, .int i])).length) Slot.unset).toArray = ls at hl ⊢
  have hl : lv_has ls 3 [(0, .ref (r 0)), (1, .int k), (2, .int i)] := hl
  refine lv_aload_n hx hb kd_R_converted_0 rfl (lv_at hl 0 rfl) ?_
  refine lv_aload_n hx hb kd_R_converted_1 rfl (lv_at hl 0 rfl) ?_
  refine lv_iload_n hx hb kd_R_converted_2 rfl (lv_at hl 1 rfl) ?_
  refine hx_callRi (va_runV (As := [.int k]) (rest := [.ref (r 0)]) ⟨hx, hb, hml, hown, hts⟩ (mr_isGone r rc ro rm ra rl rw th gv rp rk ow rn ct rt ki aq cd g1 g2 g3 rb gw an k) (cwV 1 hts (goodIn_sub (hx_m5 km_807 km_809 kv_R_isGone km_8 km_810) (by decide +kernel)) rfl rfl rfl (by decide +kernel) ⟨Nat.le_of_ble_eq_true rfl, Nat.le_of_ble_eq_true rfl⟩) (pr_V (hC.S hS) hP [0] rfl (ci := 7) rfl (q0 := 0) rfl) rfl rfl hl.1 rfl (lv_room (Nat.le_of_ble_eq_true rfl)) kd_R_converted_3 ⟨Nat.le_of_ble_eq_true rfl, Nat.le_of_ble_eq_true rfl⟩) ?_
  refine hx_topi (y := 1) (by rw [hf]; rfl) ?_
  refine lv_if_ne (tgt := 25) hx hb kd_R_converted_6 (by decide) (fun c_6 => ?_) (fun c_6 => ?_)
  · skip
    refine lv_iconst (v := 1) hx hb kd_R_converted_25 (by decide) ?_
    refine lv_goto (tgt := 30) hx hb kd_R_converted_26 (by decide) ?_
    refine lv_iconst (v := 0) hx hb kd_R_converted_30 (by decide) ?_
    refine lv_iconst (v := 0) hx hb kd_R_converted_31 (by decide) ?_
    refine hx_callWi (va_runV (As := [.int 1, .int 0, .int 0]) (rest := []) ⟨hx, hb, hml, hown, hts⟩ (mr_throwing1 r rc ro rm ra rl rw th gv rp rk ow rn ct rt ki aq cd g1 g2 g3 rb gw an _) (cwV 3 hts (goodIn_sub (hx_m5 km_703 km_705 kv_R_throwing km_8 km_706) (by decide +kernel)) rfl rfl rfl (by decide +kernel) ⟨Nat.le_of_ble_eq_true rfl, Nat.le_of_ble_eq_true rfl⟩) (pw_V (hC.S hS) hP hD hS hA [0] (by decide) rfl (ci := 7) rfl (q0 := 0) rfl) rfl rfl hl.1 rfl (lv_room (Nat.le_of_ble_eq_true rfl)) kd_R_converted_32 ⟨Nat.le_of_ble_eq_true rfl, Nat.le_of_ble_eq_true rfl⟩) hP hD hS hA [0] rfl rfl (fun H locs hP hD hS hF => ?_)
    have hP : va_P D cl_all [((r 0), .inr (7, [.int 1, .int (nI rc), .ref (r 1), .int (nI ro), .ref (r 2), .int (nI rm), .ref (r 3), .ref (r 4), .ref (r 5), .ref (r 6), .int (nI ra), .ref (r 7), .ref (r 8), .ref (r 9), .ref (r 10), .int (nI rl), .ref (r 11), .ref (r 12), .ref (r 13), .ref (r 14), .int (nI rw), .ref (r 15), .long gv])), ((r 1), .inl (cI, 16, .inl rp)), ((r 2), .inl (cI, 64, .inl rk)), ((r 3), .inl (cI, 64, .inl ow)), ((r 4), .inl (cI, 64, .inl rn)), ((r 5), .inl (cI, 64, .inl ct)), ((r 6), .inl (cI, 256, .inl rt)), ((r 7), .inl (cI, 4, .inl ki)), ((r 8), .inl (cL, 4, .inr (.inl rb))), ((r 9), .inl (cI, 4, .inl aq)), ((r 10), .inl (cZ, 64, .inl cd)), ((r 11), .inl (cI, 64, .inl g1)), ((r 12), .inl (cI, 64, .inl g2)), ((r 13), .inl (cI, 64, .inl g3)), ((r 14), .inl (cL, 256, .inr (.inl gw))), ((r 15), .inl (cL, 64, .inr (.inl an)))] H := hP
    have hD : va_D A [((r 0), .inr (7, [.int 1, .int (nI rc), .ref (r 1), .int (nI ro), .ref (r 2), .int (nI rm), .ref (r 3), .ref (r 4), .ref (r 5), .ref (r 6), .int (nI ra), .ref (r 7), .ref (r 8), .ref (r 9), .ref (r 10), .int (nI rl), .ref (r 11), .ref (r 12), .ref (r 13), .ref (r 14), .int (nI rw), .ref (r 15), .long gv])), ((r 1), .inl (cI, 16, .inl rp)), ((r 2), .inl (cI, 64, .inl rk)), ((r 3), .inl (cI, 64, .inl ow)), ((r 4), .inl (cI, 64, .inl rn)), ((r 5), .inl (cI, 64, .inl ct)), ((r 6), .inl (cI, 256, .inl rt)), ((r 7), .inl (cI, 4, .inl ki)), ((r 8), .inl (cL, 4, .inr (.inl rb))), ((r 9), .inl (cI, 4, .inl aq)), ((r 10), .inl (cZ, 64, .inl cd)), ((r 11), .inl (cI, 64, .inl g1)), ((r 12), .inl (cI, 64, .inl g2)), ((r 13), .inl (cI, 64, .inl g3)), ((r 14), .inl (cL, 256, .inr (.inl gw))), ((r 15), .inl (cL, 64, .inr (.inl an)))] := hD
    refine hx_topi (y := 1) (rfl) ?_
    refine lv_if_eq (tgt := 42) hx hb kd_R_converted_35 (by decide) (fun c_35 => ?_) (fun c_35 => ?_)
    · exact absurd c_35 (by decide)
    · skip
      refine lv_lconst (v := 0) hx hb kd_R_converted_38 (by decide) ?_
      refine lv_goto (tgt := 55) hx hb kd_R_converted_39 (by decide) ?_
      exact hx_lretW hx hb hr hlocks (rfl) (hP) hS kd_R_converted_55
  · exact absurd c_6 (by decide)

set_option maxHeartbeats 4000000 in
set_option maxRecDepth 100000 in
theorem mr_converted2 {l : Launch} {D : va_G} {cI cL cZ : ClassId} {tb : Nat} (r : Nat → Nat) (rc ro rm ra rl rw : Nat) (th : Int32) (gv : Int64) (rp rk ow rn ct rt ki aq cd g1 g2 g3 : Nat → Int32) (rb gw an : Nat → Int64) (kq n : Nat) (i : Int32) (hq : kq < 2 ^ 31) (hg : go_ rl (nI kq) = false) (hn : g3 (kq % 64) = nI n) (hf : fb_in i n = false) (sz : Nat) : Met l ky_R_converted kw_R_converted { frames := 1, cells := 0, slots := 0, locals := 23 } (pw_P D cI cL cZ tb [((r 0), .inr (7, [.int th, .int (nI rc), .ref (r 1), .int (nI ro), .ref (r 2), .int (nI rm), .ref (r 3), .ref (r 4), .ref (r 5), .ref (r 6), .int (nI ra), .ref (r 7), .ref (r 8), .ref (r 9), .ref (r 10), .int (nI rl), .ref (r 11), .ref (r 12), .ref (r 13), .ref (r 14), .int (nI rw), .ref (r 15), .long gv])), ((r 1), .inl (cI, 16, .inl rp)), ((r 2), .inl (cI, 64, .inl rk)), ((r 3), .inl (cI, 64, .inl ow)), ((r 4), .inl (cI, 64, .inl rn)), ((r 5), .inl (cI, 64, .inl ct)), ((r 6), .inl (cI, 256, .inl rt)), ((r 7), .inl (cI, 4, .inl ki)), ((r 8), .inl (cL, 4, .inr (.inl rb))), ((r 9), .inl (cI, 4, .inl aq)), ((r 10), .inl (cZ, 64, .inl cd)), ((r 11), .inl (cI, 64, .inl g1)), ((r 12), .inl (cI, 64, .inl g2)), ((r 13), .inl (cI, 64, .inl g3)), ((r 14), .inl (cL, 256, .inr (.inl gw))), ((r 15), .inl (cL, 64, .inr (.inl an)))] sz [.ref (r 0), .int (nI kq), .int i]) (hx_QW D (some (.long 0)) [((r 0), .inr (7, [.int 1, .int (nI rc), .ref (r 1), .int (nI ro), .ref (r 2), .int (nI rm), .ref (r 3), .ref (r 4), .ref (r 5), .ref (r 6), .int (nI ra), .ref (r 7), .ref (r 8), .ref (r 9), .ref (r 10), .int (nI rl), .ref (r 11), .ref (r 12), .ref (r 13), .ref (r 14), .int (nI rw), .ref (r 15), .long gv])), ((r 1), .inl (cI, 16, .inl rp)), ((r 2), .inl (cI, 64, .inl rk)), ((r 3), .inl (cI, 64, .inl ow)), ((r 4), .inl (cI, 64, .inl rn)), ((r 5), .inl (cI, 64, .inl ct)), ((r 6), .inl (cI, 256, .inl rt)), ((r 7), .inl (cI, 4, .inl ki)), ((r 8), .inl (cL, 4, .inr (.inl rb))), ((r 9), .inl (cI, 4, .inl aq)), ((r 10), .inl (cZ, 64, .inl cd)), ((r 11), .inl (cI, 64, .inl g1)), ((r 12), .inl (cI, 64, .inl g2)), ((r 13), .inl (cI, 64, .inl g3)), ((r 14), .inl (cL, 256, .inr (.inl gw))), ((r 15), .inl (cL, 64, .inr (.inl an)))] (va_A [((r 0), .inr (7, [.int th, .int (nI rc), .ref (r 1), .int (nI ro), .ref (r 2), .int (nI rm), .ref (r 3), .ref (r 4), .ref (r 5), .ref (r 6), .int (nI ra), .ref (r 7), .ref (r 8), .ref (r 9), .ref (r 10), .int (nI rl), .ref (r 11), .ref (r 12), .ref (r 13), .ref (r 14), .int (nI rw), .ref (r 15), .long gv])), ((r 1), .inl (cI, 16, .inl rp)), ((r 2), .inl (cI, 64, .inl rk)), ((r 3), .inl (cI, 64, .inl ow)), ((r 4), .inl (cI, 64, .inl rn)), ((r 5), .inl (cI, 64, .inl ct)), ((r 6), .inl (cI, 256, .inl rt)), ((r 7), .inl (cI, 4, .inl ki)), ((r 8), .inl (cL, 4, .inr (.inl rb))), ((r 9), .inl (cI, 4, .inl aq)), ((r 10), .inl (cZ, 64, .inl cd)), ((r 11), .inl (cI, 64, .inl g1)), ((r 12), .inl (cI, 64, .inl g2)), ((r 13), .inl (cI, 64, .inl g3)), ((r 14), .inl (cL, 256, .inr (.inl gw))), ((r 15), .inl (cL, 64, .inr (.inl an)))] sz)) 0 0 (va_A [((r 0), .inr (7, [.int th, .int (nI rc), .ref (r 1), .int (nI ro), .ref (r 2), .int (nI rm), .ref (r 3), .ref (r 4), .ref (r 5), .ref (r 6), .int (nI ra), .ref (r 7), .ref (r 8), .ref (r 9), .ref (r 10), .int (nI rl), .ref (r 11), .ref (r 12), .ref (r 13), .ref (r 14), .int (nI rw), .ref (r 15), .long gv])), ((r 1), .inl (cI, 16, .inl rp)), ((r 2), .inl (cI, 64, .inl rk)), ((r 3), .inl (cI, 64, .inl ow)), ((r 4), .inl (cI, 64, .inl rn)), ((r 5), .inl (cI, 64, .inl ct)), ((r 6), .inl (cI, 256, .inl rt)), ((r 7), .inl (cI, 4, .inl ki)), ((r 8), .inl (cL, 4, .inr (.inl rb))), ((r 9), .inl (cI, 4, .inl aq)), ((r 10), .inl (cZ, 64, .inl cd)), ((r 11), .inl (cI, 64, .inl g1)), ((r 12), .inl (cI, 64, .inl g2)), ((r 13), .inl (cI, 64, .inl g3)), ((r 14), .inl (cL, 256, .inr (.inl gw))), ((r 15), .inl (cL, 64, .inr (.inl an)))] sz) := by
  refine Met.ofW (cc := kc_R_converted) (maxL := 3) (ret := (some .long)) (by decide) rfl ?_
  intro p e s m args below meth c s₁ B hml hv
  obtain ⟨rfl, hsz, hC, hP, hD0⟩ := hv
  have hx := B.exec
  have hb := B.bytes
  have hr := B.returns
  have hlocks := B.notSynchronized
  have hown : s.vm.findClass "HostBridgeModel" = some m.cls := findClass_of_methodNamed B.named
  subst hsz
  have hD := hD0.self (sz := s.heap.size)
  generalize hAe : va_A [((r 0), .inr (7, [.int th, .int (nI rc), .ref (r 1), .int (nI ro), .ref (r 2), .int (nI rm), .ref (r 3), .ref (r 4), .ref (r 5), .ref (r 6), .int (nI ra), .ref (r 7), .ref (r 8), .ref (r 9), .ref (r 10), .int (nI rl), .ref (r 11), .ref (r 12), .ref (r 13), .ref (r 14), .int (nI rw), .ref (r 15), .long gv])), ((r 1), .inl (cI, 16, .inl rp)), ((r 2), .inl (cI, 64, .inl rk)), ((r 3), .inl (cI, 64, .inl ow)), ((r 4), .inl (cI, 64, .inl rn)), ((r 5), .inl (cI, 64, .inl ct)), ((r 6), .inl (cI, 256, .inl rt)), ((r 7), .inl (cI, 4, .inl ki)), ((r 8), .inl (cL, 4, .inr (.inl rb))), ((r 9), .inl (cI, 4, .inl aq)), ((r 10), .inl (cZ, 64, .inl cd)), ((r 11), .inl (cI, 64, .inl g1)), ((r 12), .inl (cI, 64, .inl g2)), ((r 13), .inl (cI, 64, .inl g3)), ((r 14), .inl (cL, 256, .inr (.inl gw))), ((r 15), .inl (cL, 64, .inr (.inl an)))] s.heap.size = A at hD hC ⊢
  have hA : ∀ q : Nat, s.heap.size ≤ q → A q := fun q h => by rw [← hAe]; exact Or.inr h
  have hS : va_S A s.heap s.heap [] := va_S.rf
  have hK := hC.K
  have hts := hC.ts [.ref (r 0), .int (nI kq), .int i].toArray
  have hl := lv_entry ([.ref (r 0), .int (nI kq), .int i]) (n := 3) (Nat.le_of_ble_eq_true rfl)
  rw [lg_entry_eq]
  generalize (lg_sl ([.ref (r 0), .int (nI kq), .int i]) ++ List.replicate (3 - (lg_sl ([.ref (r 0), .int (nI kq), .int i])).length) Slot.unset).toArray = ls at hl ⊢
  have hl : lv_has ls 3 [(0, .ref (r 0)), (1, .int (nI kq)), (2, .int i)] := hl
  refine lv_aload_n hx hb kd_R_converted_0 rfl (lv_at hl 0 rfl) ?_
  refine lv_aload_n hx hb kd_R_converted_1 rfl (lv_at hl 0 rfl) ?_
  refine lv_iload_n hx hb kd_R_converted_2 rfl (lv_at hl 1 rfl) ?_
  refine hx_callRi (va_runV (As := [.int (nI kq)]) (rest := [.ref (r 0)]) ⟨hx, hb, hml, hown, hts⟩ (mr_isGone r rc ro rm ra rl rw th gv rp rk ow rn ct rt ki aq cd g1 g2 g3 rb gw an (nI kq)) (cwV 1 hts (goodIn_sub (hx_m5 km_807 km_809 kv_R_isGone km_8 km_810) (by decide +kernel)) rfl rfl rfl (by decide +kernel) ⟨Nat.le_of_ble_eq_true rfl, Nat.le_of_ble_eq_true rfl⟩) (pr_V (hC.S hS) hP [0] rfl (ci := 7) rfl (q0 := 0) rfl) rfl rfl hl.1 rfl (lv_room (Nat.le_of_ble_eq_true rfl)) kd_R_converted_3 ⟨Nat.le_of_ble_eq_true rfl, Nat.le_of_ble_eq_true rfl⟩) ?_
  refine hx_topi (y := 0) (by rw [hg]; rfl) ?_
  refine lv_if_ne (tgt := 25) hx hb kd_R_converted_6 (by decide) (fun c_6 => ?_) (fun c_6 => ?_)
  · exact absurd c_6 (not_not_intro rfl)
  · skip
    refine lv_iload_n hx hb kd_R_converted_9 rfl (lv_at hl 2 rfl) ?_
    refine lv_aload_n hx hb kd_R_converted_10 rfl (lv_at hl 0 rfl) ?_
    refine va_get (D := D) (ci := 7) (v := .ref (r 13)) (C := "HostBridgeModel") (T := ct_R) (N := 23) hx hb hts cw_R hown hK hP 0 rfl rfl 18 (by decide) (hts _ km_639) (fun _ h9 => h9) rfl kd_R_converted_11 ?_
    refine lv_iload_n hx hb kd_R_converted_14 rfl (lv_at hl 1 rfl) ?_
    refine lv_bipush (v := 64) hx hb kd_R_converted_15 (by decide) ?_
    refine lv_irem hx hb kd_R_converted_17 (by decide) ?_
    refine hx_topi (y := nI (kq % 64)) (rm_64 hq) ?_
    refine hx_iald (j := kq % 64) hx hb hK hP 13 rfl (rfl) (Nat.mod_lt _ (by decide)) (by decide) kd_R_converted_18 ?_
    refine hx_topi (y := nI n) (hn) ?_
    refine hx_callRi (va_runS (As := [.int i, .int (nI n)]) (rest := [.ref (r 0)]) ⟨hx, hb, hml, hown, hts⟩ (mr_isNo i n) (va_cwS 2 hts (goodIn_sub (hx_m4 km_700 km_701 km_8 km_702) (by decide +kernel)) rfl rfl rfl (by decide +kernel) ⟨Nat.le_of_ble_eq_true rfl, Nat.le_of_ble_eq_true rfl⟩) (pr_S (hC.S hS) hP [] rfl) rfl rfl hl.1 rfl (lv_room (Nat.le_of_ble_eq_true rfl)) kd_R_converted_19 ⟨Nat.le_of_ble_eq_true rfl, Nat.le_of_ble_eq_true rfl⟩) ?_
    refine hx_topi (y := 1) (by rw [hf]; rfl) ?_
    refine lv_if_eq (tgt := 29) hx hb kd_R_converted_22 (by decide) (fun c_22 => ?_) (fun c_22 => ?_)
    · exact absurd c_22 (by decide)
    · skip
      refine lv_iconst (v := 1) hx hb kd_R_converted_25 (by decide) ?_
      refine lv_goto (tgt := 30) hx hb kd_R_converted_26 (by decide) ?_
      refine lv_iconst (v := 0) hx hb kd_R_converted_30 (by decide) ?_
      refine lv_iconst (v := 0) hx hb kd_R_converted_31 (by decide) ?_
      refine hx_callWi (va_runV (As := [.int 1, .int 0, .int 0]) (rest := []) ⟨hx, hb, hml, hown, hts⟩ (mr_throwing1 r rc ro rm ra rl rw th gv rp rk ow rn ct rt ki aq cd g1 g2 g3 rb gw an _) (cwV 3 hts (goodIn_sub (hx_m5 km_703 km_705 kv_R_throwing km_8 km_706) (by decide +kernel)) rfl rfl rfl (by decide +kernel) ⟨Nat.le_of_ble_eq_true rfl, Nat.le_of_ble_eq_true rfl⟩) (pw_V (hC.S hS) hP hD hS hA [0] (by decide) rfl (ci := 7) rfl (q0 := 0) rfl) rfl rfl hl.1 rfl (lv_room (Nat.le_of_ble_eq_true rfl)) kd_R_converted_32 ⟨Nat.le_of_ble_eq_true rfl, Nat.le_of_ble_eq_true rfl⟩) hP hD hS hA [0] rfl rfl (fun H locs hP hD hS hF => ?_)
      have hP : va_P D cl_all [((r 0), .inr (7, [.int 1, .int (nI rc), .ref (r 1), .int (nI ro), .ref (r 2), .int (nI rm), .ref (r 3), .ref (r 4), .ref (r 5), .ref (r 6), .int (nI ra), .ref (r 7), .ref (r 8), .ref (r 9), .ref (r 10), .int (nI rl), .ref (r 11), .ref (r 12), .ref (r 13), .ref (r 14), .int (nI rw), .ref (r 15), .long gv])), ((r 1), .inl (cI, 16, .inl rp)), ((r 2), .inl (cI, 64, .inl rk)), ((r 3), .inl (cI, 64, .inl ow)), ((r 4), .inl (cI, 64, .inl rn)), ((r 5), .inl (cI, 64, .inl ct)), ((r 6), .inl (cI, 256, .inl rt)), ((r 7), .inl (cI, 4, .inl ki)), ((r 8), .inl (cL, 4, .inr (.inl rb))), ((r 9), .inl (cI, 4, .inl aq)), ((r 10), .inl (cZ, 64, .inl cd)), ((r 11), .inl (cI, 64, .inl g1)), ((r 12), .inl (cI, 64, .inl g2)), ((r 13), .inl (cI, 64, .inl g3)), ((r 14), .inl (cL, 256, .inr (.inl gw))), ((r 15), .inl (cL, 64, .inr (.inl an)))] H := hP
      have hD : va_D A [((r 0), .inr (7, [.int 1, .int (nI rc), .ref (r 1), .int (nI ro), .ref (r 2), .int (nI rm), .ref (r 3), .ref (r 4), .ref (r 5), .ref (r 6), .int (nI ra), .ref (r 7), .ref (r 8), .ref (r 9), .ref (r 10), .int (nI rl), .ref (r 11), .ref (r 12), .ref (r 13), .ref (r 14), .int (nI rw), .ref (r 15), .long gv])), ((r 1), .inl (cI, 16, .inl rp)), ((r 2), .inl (cI, 64, .inl rk)), ((r 3), .inl (cI, 64, .inl ow)), ((r 4), .inl (cI, 64, .inl rn)), ((r 5), .inl (cI, 64, .inl ct)), ((r 6), .inl (cI, 256, .inl rt)), ((r 7), .inl (cI, 4, .inl ki)), ((r 8), .inl (cL, 4, .inr (.inl rb))), ((r 9), .inl (cI, 4, .inl aq)), ((r 10), .inl (cZ, 64, .inl cd)), ((r 11), .inl (cI, 64, .inl g1)), ((r 12), .inl (cI, 64, .inl g2)), ((r 13), .inl (cI, 64, .inl g3)), ((r 14), .inl (cL, 256, .inr (.inl gw))), ((r 15), .inl (cL, 64, .inr (.inl an)))] := hD
      refine hx_topi (y := 1) (rfl) ?_
      refine lv_if_eq (tgt := 42) hx hb kd_R_converted_35 (by decide) (fun c_35 => ?_) (fun c_35 => ?_)
      · exact absurd c_35 (by decide)
      · skip
        refine lv_lconst (v := 0) hx hb kd_R_converted_38 (by decide) ?_
        refine lv_goto (tgt := 55) hx hb kd_R_converted_39 (by decide) ?_
        exact hx_lretW hx hb hr hlocks (rfl) (hP) hS kd_R_converted_55
