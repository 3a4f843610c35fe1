/-! WHAT IS WRITTEN DOWN, AND THE HOST'S ANSWERS (HostBridge$Diary, HostBridge$Answers) -/
theorem xr_N (a b : Nat) : nI a ^^^ nI b = nI (a ^^^ b) := by
  apply Int32.toBitVec_inj.mp
  show BitVec.ofNat 32 a ^^^ BitVec.ofNat 32 b = BitVec.ofNat 32 (a ^^^ b)
  apply BitVec.eq_of_getLsbD_eq
  intro i hi
  simp [BitVec.getLsbD_ofNat, Nat.testBit_xor, hi]
theorem xr_64 {k : Nat} (h : k < 2 ^ 31) : 0 ≤ nI k ^^^ 64 := by
  rw [show (64 : Int32) = nI 64 from rfl, xr_N]
  exact nI_pos' (Nat.xor_lt_two_pow h (by decide))
theorem rm_64 {k : Nat} (h : k < 2 ^ 31) : nI k - nI k / 64 * 64 = nI (k % 64) := pk_rem (d := 64) h (by decide) (by decide)

set_option maxHeartbeats 4000000 in
set_option maxRecDepth 100000 in
theorem mc_J_floorMod {l : Launch} {D : va_G} {cI cL cZ : ClassId} {tb : Nat} (q : Nat) (hq : q < 2 ^ 31) : Met l ky_J_floorMod kw_J_floorMod { frames := 0, cells := 0, slots := 0, locals := 0 } (pr_P D cI cL cZ tb [] [.int (nI q), .int 64]) (hx_QR (some (.int (nI (q % 64))))) 0 0 (fun _ => False) := by
  refine va_MetF (cc := kc_J_floorMod) (maxL := 3) (ret := (some .int)) (by decide +kernel) rfl ?_
  intro p e s m args below meth c s₁ B hml hv
  obtain ⟨rfl, hC, hP⟩ := hv
  have hx := B.exec
  have hb := B.bytes
  have hr := B.returns
  have hlocks := B.notSynchronized
  have hown : s.vm.findClass "java/lang/Math" = some m.cls := findClass_of_methodNamed B.named
  have hS : va_S (fun _ => False) s.heap s.heap [] := va_S.rf
  have hK := hC.K
  have hts := hC.ts [.int (nI q), .int 64].toArray
  have hl := lv_entry ([.int (nI q), .int 64]) (n := 3) (Nat.le_of_ble_eq_true rfl)
  rw [lg_entry_eq]
  generalize (lg_sl ([.int (nI q), .int 64]) ++ List.replicate (3 - (lg_sl ([.int (nI q), .int 64])).length) Slot.unset).toArray = ls at hl ⊢
  have hl : lv_has ls 3 [(0, .int (nI q)), (1, .int 64)] := hl
  refine lv_iload_n hx hb kd_J_floorMod_0 rfl (lv_at hl 0 rfl) ?_
  refine lv_iload_n hx hb kd_J_floorMod_1 rfl (lv_at hl 1 rfl) ?_
  refine lv_irem hx hb kd_J_floorMod_2 (by decide) ?_
  refine hx_topi (y := nI (q % 64)) (rm_64 hq) ?_
  refine lv_istore_n (lv' := [(2, .int (nI (q % 64))), (0, .int (nI q)), (1, .int 64)]) hx hb kd_J_floorMod_3 rfl hl (by decide) rfl (fun ls hl => ?_)
  refine lv_iload_n hx hb kd_J_floorMod_4 rfl (lv_at hl 1 rfl) ?_
  refine lv_iload_n hx hb kd_J_floorMod_5 rfl (lv_at hl 2 rfl) ?_
  refine lv_ixor hx hb kd_J_floorMod_6 ?_
  refine lv_if_ge (tgt := 18) hx hb kd_J_floorMod_7 (by decide) (fun c_7 => ?_) (fun c_7 => ?_)
  · skip
    refine lv_iload_n hx hb kd_J_floorMod_18 rfl (lv_at hl 0 rfl) ?_
    exact hx_iretR hx hb hr hlocks (by simp [c_7]) kd_J_floorMod_19
  · exact absurd c_7 (not_not_intro (xr_64 hq))

set_option maxHeartbeats 4000000 in
set_option maxRecDepth 100000 in
theorem mc_D_rowOf {l : Launch} {D : va_G} {cI cL cZ : ClassId} {tb : Nat} (q : Nat) (hq : q < 2 ^ 31) : Met l ky_D_rowOf kw_D_rowOf { frames := 1, cells := 0, slots := 0, locals := 22 } (pr_P D cI cL cZ tb [] [.int (nI q)]) (hx_QR (some (.int (nI (q % 64))))) 0 0 (fun _ => False) := by
  refine Met.ofW (cc := kc_D_rowOf) (maxL := 1) (ret := (some .int)) (by decide) rfl ?_
  intro p e s m args below meth c s₁ B hml hv
  obtain ⟨rfl, hC, hP⟩ := hv
  have hx := B.exec
  have hb := B.bytes
  have hr := B.returns
  have hlocks := B.notSynchronized
  have hown : s.vm.findClass "HostBridge$Diary" = some m.cls := findClass_of_methodNamed B.named
  have hS : va_S (fun _ => False) s.heap s.heap [] := va_S.rf
  have hK := hC.K
  have hts := hC.ts [.int (nI q)].toArray
  have hl := lv_entry ([.int (nI q)]) (n := 1) (Nat.le_of_ble_eq_true rfl)
  rw [lg_entry_eq]
  generalize (lg_sl ([.int (nI q)]) ++ List.replicate (1 - (lg_sl ([.int (nI q)])).length) Slot.unset).toArray = ls at hl ⊢
  have hl : lv_has ls 1 [(0, .int (nI q))] := hl
  refine lv_iload_n hx hb kd_D_rowOf_0 rfl (lv_at hl 0 rfl) ?_
  refine lv_bipush (v := 64) hx hb kd_D_rowOf_1 (by decide) ?_
  refine hx_callRi (va_runS (As := [.int (nI q), .int 64]) (rest := []) ⟨hx, hb, hml, hown, hts⟩ (mc_J_floorMod q hq) (va_cwS 2 hts (goodIn_sub (hx_m4 km_499 km_500 km_16 km_501) (by decide +kernel)) rfl rfl rfl (by decide +kernel) ⟨Nat.le_of_ble_eq_true rfl, Nat.le_of_ble_eq_true rfl⟩) (pr_S (hC.S hS) hP [] rfl) rfl rfl hl.1 rfl (lv_room (Nat.le_of_ble_eq_true rfl)) kd_D_rowOf_3 ⟨Nat.le_of_ble_eq_true rfl, Nat.le_of_ble_eq_true rfl⟩) ?_
  exact hx_iretR hx hb hr hlocks (by simp []) kd_D_rowOf_6

set_option maxHeartbeats 4000000 in
set_option maxRecDepth 100000 in
theorem mc_D_open {l : Launch} {D : va_G} {cI cL cZ : ClassId} {tb : Nat} (h0 d1 d2 d3 d4 nd : Nat) (lg : Int64) (fo fm fs : Nat → Int32) (fv : Nat → Int64) (ob me mn : Int32) (hnd : nd < 2 ^ 31) (sz : Nat) : Met l ky_D_open kw_D_open { frames := 2, cells := 0, slots := 0, locals := 42 } (pw_P D cI cL cZ tb [(h0, .inr (5, [.ref d1, .ref d2, .ref d3, .ref d4, .long lg, .int (nI nd)])), (d1, .inl (cI, 64, .inl fo)), (d2, .inl (cI, 64, .inl fm)), (d3, .inl (cI, 64, .inl fs))] sz [.ref h0, .int ob, .int me, .int mn]) (hx_QW D none [(h0, .inr (5, [.ref d1, .ref d2, .ref d3, .ref d4, .long lg, .int (nI nd)])), (d1, .inl (cI, 64, .inl (upd fo (nd % 64) ob))), (d2, .inl (cI, 64, .inl (upd fm (nd % 64) me))), (d3, .inl (cI, 64, .inl (upd fs (nd % 64) mn)))] (va_A [(h0, .inr (5, [.ref d1, .ref d2, .ref d3, .ref d4, .long lg, .int (nI nd)])), (d1, .inl (cI, 64, .inl fo)), (d2, .inl (cI, 64, .inl fm)), (d3, .inl (cI, 64, .inl fs))] sz)) 0 0 (va_A [(h0, .inr (5, [.ref d1, .ref d2, .ref d3, .ref d4, .long lg, .int (nI nd)])), (d1, .inl (cI, 64, .inl fo)), (d2, .inl (cI, 64, .inl fm)), (d3, .inl (cI, 64, .inl fs))] sz) := by
  refine Met.ofW (cc := kc_D_open) (maxL := 5) (ret := none) (by decide) rfl ?_
  intro p e s m args below meth c s₁ B hml hv
  obtain ⟨rfl, hsz, hC, hP, hD0⟩ := hv
  have hx := B.exec
  have hb := B.bytes
  have hr := B.returns
  have hlocks := B.notSynchronized
  have hown : s.vm.findClass "HostBridge$Diary" = some m.cls := findClass_of_methodNamed B.named
  subst hsz
  have hD := hD0.self (sz := s.heap.size)
  generalize hAe : va_A [(h0, .inr (5, [.ref d1, .ref d2, .ref d3, .ref d4, .long lg, .int (nI nd)])), (d1, .inl (cI, 64, .inl fo)), (d2, .inl (cI, 64, .inl fm)), (d3, .inl (cI, 64, .inl fs))] s.heap.size = A at hD hC ⊢
  have hA : ∀ q : Nat, s.heap.size ≤ q → A q := fun q h => by rw [← hAe]; exact Or.inr h
  have hS : va_S A s.heap s.heap [] := va_S.rf
  have hK := hC.K
  have hts := hC.ts [.ref h0, .int ob, .int me, .int mn].toArray
  have hl := lv_entry ([.ref h0, .int ob, .int me, .int mn]) (n := 5) (Nat.le_of_ble_eq_true rfl)
  rw [lg_entry_eq]
  generalize (lg_sl ([.ref h0, .int ob, .int me, .int mn]) ++ List.replicate (5 - (lg_sl ([.ref h0, .int ob, .int me, .int mn])).length) Slot.unset).toArray = ls at hl ⊢
  have hl : lv_has ls 5 [(0, .ref h0), (1, .int ob), (2, .int me), (3, .int mn)] := hl
  refine lv_aload_n hx hb kd_D_open_0 rfl (lv_at hl 0 rfl) ?_
  refine va_get (D := D) (ci := 5) (v := .int (nI nd)) (C := "HostBridge$Diary") (T := ct_D) (N := 6) hx hb hts cw_D hown hK hP 0 rfl rfl 5 (by decide) (hts _ km_140) (fun _ h9 => h9) rfl kd_D_open_1 ?_
  refine hx_callRi (va_runS (As := [.int (nI nd)]) (rest := []) ⟨hx, hb, hml, hown, hts⟩ (mc_D_rowOf nd hnd) (va_cwS 1 hts (goodIn_sub (hx_m4 km_496 km_497 km_6 km_498) (by decide +kernel)) rfl rfl rfl (by decide +kernel) ⟨Nat.le_of_ble_eq_true rfl, Nat.le_of_ble_eq_true rfl⟩) (pr_S (hC.S hS) hP [] rfl) rfl rfl hl.1 rfl (lv_room (Nat.le_of_ble_eq_true rfl)) kd_D_open_4 ⟨Nat.le_of_ble_eq_true rfl, Nat.le_of_ble_eq_true rfl⟩) ?_
  refine lv_istore (lv' := [(4, .int (nI (nd % 64))), (0, .ref h0), (1, .int ob), (2, .int me), (3, .int mn)]) hx hb kd_D_open_7 hl (by decide) rfl (fun ls hl => ?_)
  refine lv_aload_n hx hb kd_D_open_9 rfl (lv_at hl 1 rfl) ?_
  refine va_get (D := D) (ci := 5) (v := .ref d1) (C := "HostBridge$Diary") (T := ct_D) (N := 6) hx hb hts cw_D hown hK hP 0 rfl rfl 0 (by decide) (hts _ km_134) (fun _ h9 => h9) rfl kd_D_open_10 ?_
  refine lv_iload hx hb kd_D_open_13 (lv_at hl 0 rfl) ?_
  refine lv_iload_n hx hb kd_D_open_15 rfl (lv_at hl 2 rfl) ?_
  refine hx_iast (j := nd % 64) hx hb hK hP hD hS 1 rfl (rfl) (Nat.mod_lt _ (by decide)) (by decide) kd_D_open_16 (fun H locs hP hD hS => ?_)
  have hP : va_P D cl_all [(h0, .inr (5, [.ref d1, .ref d2, .ref d3, .ref d4, .long lg, .int (nI nd)])), (d1, .inl (cI, 64, .inl (upd fo (nd % 64) ob))), (d2, .inl (cI, 64, .inl fm)), (d3, .inl (cI, 64, .inl fs))] H := hP
  have hD : va_D A [(h0, .inr (5, [.ref d1, .ref d2, .ref d3, .ref d4, .long lg, .int (nI nd)])), (d1, .inl (cI, 64, .inl (upd fo (nd % 64) ob))), (d2, .inl (cI, 64, .inl fm)), (d3, .inl (cI, 64, .inl fs))] := hD
  refine lv_aload_n hx hb kd_D_open_17 rfl (lv_at hl 1 rfl) ?_
  refine va_get (D := D) (ci := 5) (v := .ref d2) (C := "HostBridge$Diary") (T := ct_D) (N := 6) hx hb hts cw_D hown hK hP 0 rfl rfl 1 (by decide) (hts _ km_135) (fun _ h9 => h9) rfl kd_D_open_18 ?_
  refine lv_iload hx hb kd_D_open_21 (lv_at hl 0 rfl) ?_
  refine lv_iload_n hx hb kd_D_open_23 rfl (lv_at hl 3 rfl) ?_
  refine hx_iast (j := nd % 64) hx hb hK hP hD hS 2 rfl (rfl) (Nat.mod_lt _ (by decide)) (by decide) kd_D_open_24 (fun H locs hP hD hS => ?_)
  have hP : va_P D cl_all [(h0, .inr (5, [.ref d1, .ref d2, .ref d3, .ref d4, .long lg, .int (nI nd)])), (d1, .inl (cI, 64, .inl (upd fo (nd % 64) ob))), (d2, .inl (cI, 64, .inl (upd fm (nd % 64) me))), (d3, .inl (cI, 64, .inl fs))] H := hP
  have hD : va_D A [(h0, .inr (5, [.ref d1, .ref d2, .ref d3, .ref d4, .long lg, .int (nI nd)])), (d1, .inl (cI, 64, .inl (upd fo (nd % 64) ob))), (d2, .inl (cI, 64, .inl (upd fm (nd % 64) me))), (d3, .inl (cI, 64, .inl fs))] := hD
  refine lv_aload_n hx hb kd_D_open_25 rfl (lv_at hl 1 rfl) ?_
  refine va_get (D := D) (ci := 5) (v := .ref d3) (C := "HostBridge$Diary") (T := ct_D) (N := 6) hx hb hts cw_D hown hK hP 0 rfl rfl 2 (by decide) (hts _ km_136) (fun _ h9 => h9) rfl kd_D_open_26 ?_
  refine lv_iload hx hb kd_D_open_29 (lv_at hl 0 rfl) ?_
  refine lv_iload_n hx hb kd_D_open_31 rfl (lv_at hl 4 rfl) ?_
  refine hx_iast (j := nd % 64) hx hb hK hP hD hS 3 rfl (rfl) (Nat.mod_lt _ (by decide)) (by decide) kd_D_open_32 (fun H locs hP hD hS => ?_)
  have hP : va_P D cl_all [(h0, .inr (5, [.ref d1, .ref d2, .ref d3, .ref d4, .long lg, .int (nI nd)])), (d1, .inl (cI, 64, .inl (upd fo (nd % 64) ob))), (d2, .inl (cI, 64, .inl (upd fm (nd % 64) me))), (d3, .inl (cI, 64, .inl (upd fs (nd % 64) mn)))] H := hP
  have hD : va_D A [(h0, .inr (5, [.ref d1, .ref d2, .ref d3, .ref d4, .long lg, .int (nI nd)])), (d1, .inl (cI, 64, .inl (upd fo (nd % 64) ob))), (d2, .inl (cI, 64, .inl (upd fm (nd % 64) me))), (d3, .inl (cI, 64, .inl (upd fs (nd % 64) mn)))] := hD
  exact hx_vretW hx hb hr hlocks (hP.sub [0, 1, 2, 3] rfl) hS kd_D_open_33

set_option maxHeartbeats 4000000 in
set_option maxRecDepth 100000 in
theorem mc_D_setValue {l : Launch} {D : va_G} {cI cL cZ : ClassId} {tb : Nat} (h0 d1 d2 d3 d4 nd : Nat) (lg : Int64) (fo fm fs : Nat → Int32) (fv : Nat → Int64) (i : Nat) (v : Int64) (hnd : nd < 2 ^ 31) (hi : i < 4) (sz : Nat) : Met l ky_D_setValue kw_D_setValue { frames := 2, cells := 0, slots := 0, locals := 42 } (pw_P D cI cL cZ tb [(h0, .inr (5, [.ref d1, .ref d2, .ref d3, .ref d4, .long lg, .int (nI nd)])), (d4, .inl (cL, 256, .inr (.inl fv)))] sz [.ref h0, .int (nI i), .long v]) (hx_QW D none [(h0, .inr (5, [.ref d1, .ref d2, .ref d3, .ref d4, .long lg, .int (nI nd)])), (d4, .inl (cL, 256, .inr (.inl (vp_updL fv (nd % 64 * 4 + i) v))))] (va_A [(h0, .inr (5, [.ref d1, .ref d2, .ref d3, .ref d4, .long lg, .int (nI nd)])), (d4, .inl (cL, 256, .inr (.inl fv)))] sz)) 0 0 (va_A [(h0, .inr (5, [.ref d1, .ref d2, .ref d3, .ref d4, .long lg, .int (nI nd)])), (d4, .inl (cL, 256, .inr (.inl fv)))] sz) := by
  refine Met.ofW (cc := kc_D_setValue) (maxL := 4) (ret := none) (by decide) rfl ?_
  intro p e s m args below meth c s₁ B hml hv
  obtain ⟨rfl, hsz, hC, hP, hD0⟩ := hv
  have hx := B.exec
  have hb := B.bytes
  have hr := B.returns
  have hlocks := B.notSynchronized
  have hown : s.vm.findClass "HostBridge$Diary" = some m.cls := findClass_of_methodNamed B.named
  subst hsz
  have hD := hD0.self (sz := s.heap.size)
  generalize hAe : va_A [(h0, .inr (5, [.ref d1, .ref d2, .ref d3, .ref d4, .long lg, .int (nI nd)])), (d4, .inl (cL, 256, .inr (.inl fv)))] s.heap.size = A at hD hC ⊢
  have hA : ∀ q : Nat, s.heap.size ≤ q → A q := fun q h => by rw [← hAe]; exact Or.inr h
  have hS : va_S A s.heap s.heap [] := va_S.rf
  have hK := hC.K
  have hts := hC.ts [.ref h0, .int (nI i), .long v].toArray
  have hl := lv_entry ([.ref h0, .int (nI i), .long v]) (n := 4) (Nat.le_of_ble_eq_true rfl)
  rw [lg_entry_eq]
  generalize (lg_sl ([.ref h0, .int (nI i), .long v]) ++ List.replicate (4 - (lg_sl ([.ref h0, .int (nI i), .long v])).length) Slot.unset).toArray = ls at hl ⊢
  have hl : lv_has ls 4 [(0, .ref h0), (1, .int (nI i)), (2, .long v)] := hl
  refine lv_aload_n hx hb kd_D_setValue_0 rfl (lv_at hl 0 rfl) ?_
  refine va_get (D := D) (ci := 5) (v := .ref d4) (C := "HostBridge$Diary") (T := ct_D) (N := 6) hx hb hts cw_D hown hK hP 0 rfl rfl 3 (by decide) (hts _ km_137) (fun _ h9 => h9) rfl kd_D_setValue_1 ?_
  refine lv_aload_n hx hb kd_D_setValue_4 rfl (lv_at hl 0 rfl) ?_
  refine va_get (D := D) (ci := 5) (v := .int (nI nd)) (C := "HostBridge$Diary") (T := ct_D) (N := 6) hx hb hts cw_D hown hK hP 0 rfl rfl 5 (by decide) (hts _ km_140) (fun _ h9 => h9) rfl kd_D_setValue_5 ?_
  refine hx_callRi (va_runS (As := [.int (nI nd)]) (rest := [.ref d4]) ⟨hx, hb, hml, hown, hts⟩ (mc_D_rowOf nd hnd) (va_cwS 1 hts (goodIn_sub (hx_m4 km_496 km_497 km_6 km_498) (by decide +kernel)) rfl rfl rfl (by decide +kernel) ⟨Nat.le_of_ble_eq_true rfl, Nat.le_of_ble_eq_true rfl⟩) (pr_S (hC.S hS) hP [] rfl) rfl rfl hl.1 rfl (lv_room (Nat.le_of_ble_eq_true rfl)) kd_D_setValue_8 ⟨Nat.le_of_ble_eq_true rfl, Nat.le_of_ble_eq_true rfl⟩) ?_
  refine lv_iconst (v := 4) hx hb kd_D_setValue_11 (by decide) ?_
  refine lv_imul hx hb kd_D_setValue_12 ?_
  refine hx_topi (y := nI (nd % 64 * 4)) (by rw [show (4 : Int32) = nI 4 from rfl, pk_mul]) ?_
  refine lv_iload_n hx hb kd_D_setValue_13 rfl (lv_at hl 1 rfl) ?_
  refine lv_iadd hx hb kd_D_setValue_14 ?_
  refine hx_topi (y := nI (nd % 64 * 4 + i)) (nI_add _ _) ?_
  refine lv_lload_n hx hb kd_D_setValue_15 rfl (lv_at hl 2 rfl) ?_
  refine hx_last (j := nd % 64 * 4 + i) hx hb hK hP hD hS 1 rfl (rfl) (by have : nd % 64 < 64 := Nat.mod_lt _ (by decide); omega) (by decide) kd_D_setValue_16 (fun H locs hP hD hS => ?_)
  have hP : va_P D cl_all [(h0, .inr (5, [.ref d1, .ref d2, .ref d3, .ref d4, .long lg, .int (nI nd)])), (d4, .inl (cL, 256, .inr (.inl (vp_updL fv (nd % 64 * 4 + i) v))))] H := hP
  have hD : va_D A [(h0, .inr (5, [.ref d1, .ref d2, .ref d3, .ref d4, .long lg, .int (nI nd)])), (d4, .inl (cL, 256, .inr (.inl (vp_updL fv (nd % 64 * 4 + i) v))))] := hD
  exact hx_vretW hx hb hr hlocks (hP.sub [0, 1] rfl) hS kd_D_setValue_17

set_option maxHeartbeats 4000000 in
set_option maxRecDepth 100000 in
theorem mc_D_close {l : Launch} {D : va_G} {cI cL cZ : ClassId} {tb : Nat} (h0 d1 d2 d3 d4 nd : Nat) (lg : Int64) (fo fm fs : Nat → Int32) (fv : Nat → Int64) (g : Int64) (sz : Nat) : Met l ky_D_close kw_D_close { frames := 0, cells := 0, slots := 0, locals := 0 } (pw_P D cI cL cZ tb [(h0, .inr (5, [.ref d1, .ref d2, .ref d3, .ref d4, .long lg, .int (nI nd)]))] sz [.ref h0, .long g]) (hx_QW D none [(h0, .inr (5, [.ref d1, .ref d2, .ref d3, .ref d4, .long g, .int (nI (nd + 1))]))] (va_A [(h0, .inr (5, [.ref d1, .ref d2, .ref d3, .ref d4, .long lg, .int (nI nd)]))] sz)) 0 0 (va_A [(h0, .inr (5, [.ref d1, .ref d2, .ref d3, .ref d4, .long lg, .int (nI nd)]))] sz) := by
  refine Met.ofW (cc := kc_D_close) (maxL := 3) (ret := none) (by decide) rfl ?_
  intro p e s m args below meth c s₁ B hml hv
  obtain ⟨rfl, hsz, hC, hP, hD0⟩ := hv
  have hx := B.exec
  have hb := B.bytes
  have hr := B.returns
  have hlocks := B.notSynchronized
  have hown : s.vm.findClass "HostBridge$Diary" = some m.cls := findClass_of_methodNamed B.named
  subst hsz
  have hD := hD0.self (sz := s.heap.size)
  generalize hAe : va_A [(h0, .inr (5, [.ref d1, .ref d2, .ref d3, .ref d4, .long lg, .int (nI nd)]))] s.heap.size = A at hD hC ⊢
  have hA : ∀ q : Nat, s.heap.size ≤ q → A q := fun q h => by rw [← hAe]; exact Or.inr h
  have hS : va_S A s.heap s.heap [] := va_S.rf
  have hK := hC.K
  have hts := hC.ts [.ref h0, .long g].toArray
  have hl := lv_entry ([.ref h0, .long g]) (n := 3) (Nat.le_of_ble_eq_true rfl)
  rw [lg_entry_eq]
  generalize (lg_sl ([.ref h0, .long g]) ++ List.replicate (3 - (lg_sl ([.ref h0, .long g])).length) Slot.unset).toArray = ls at hl ⊢
  have hl : lv_has ls 3 [(0, .ref h0), (1, .long g)] := hl
  refine lv_aload_n hx hb kd_D_close_0 rfl (lv_at hl 0 rfl) ?_
  refine lv_lload_n hx hb kd_D_close_1 rfl (lv_at hl 1 rfl) ?_
  refine va_put (D := D) (ci := 5) (v := .long g) (ty := .long) (C := "HostBridge$Diary") (T := ct_D) (N := 6) hx hb hts cw_D cy_D cp_D cn_D hown hK hP hD hS 0 rfl rfl 4 (by decide) (hts _ km_138) (fun _ h9 => h9) rfl (by decide +kernel) rfl rfl (Nat.le_of_ble_eq_true rfl) kd_D_close_2 (fun H locs hP hD hS => ?_)
  have hP : va_P D cl_all [(h0, .inr (5, [.ref d1, .ref d2, .ref d3, .ref d4, .long g, .int (nI nd)]))] H := hP
  have hD : va_D A [(h0, .inr (5, [.ref d1, .ref d2, .ref d3, .ref d4, .long g, .int (nI nd)]))] := hD
  refine lv_aload_n hx hb kd_D_close_5 rfl (lv_at hl 0 rfl) ?_
  refine lv_dup hx hb kd_D_close_6 rfl ?_
  refine va_get (D := D) (ci := 5) (v := .int (nI nd)) (C := "HostBridge$Diary") (T := ct_D) (N := 6) hx hb hts cw_D hown hK hP 0 rfl rfl 5 (by decide) (hts _ km_140) (fun _ h9 => h9) rfl kd_D_close_7 ?_
  refine lv_iconst (v := 1) hx hb kd_D_close_10 (by decide) ?_
  refine lv_iadd hx hb kd_D_close_11 ?_
  refine hx_topi (y := nI (nd + 1)) (nI_1 nd) ?_
  refine va_put (D := D) (ci := 5) (v := .int (nI (nd + 1))) (ty := .int) (C := "HostBridge$Diary") (T := ct_D) (N := 6) hx hb hts cw_D cy_D cp_D cn_D hown hK hP hD hS 0 rfl rfl 5 (by decide) (hts _ km_140) (fun _ h9 => h9) rfl (by decide +kernel) rfl rfl (Nat.le_of_ble_eq_true rfl) kd_D_close_12 (fun H locs hP hD hS => ?_)
  have hP : va_P D cl_all [(h0, .inr (5, [.ref d1, .ref d2, .ref d3, .ref d4, .long g, .int (nI (nd + 1))]))] H := hP
  have hD : va_D A [(h0, .inr (5, [.ref d1, .ref d2, .ref d3, .ref d4, .long g, .int (nI (nd + 1))]))] := hD
  exact hx_vretW hx hb hr hlocks (hP.sub [0] rfl) hS kd_D_close_15

def kp_ (nd : Nat) (k : Int32) : Bool := (if k < 0 then false else (if (nI nd) ≤ k then false else (if 64 < ((nI nd) - k) then false else true)))
set_option maxHeartbeats 4000000 in
set_option maxRecDepth 100000 in
theorem mc_D_keeps {l : Launch} {D : va_G} {cI cL cZ : ClassId} {tb : Nat} (h0 d1 d2 d3 d4 nd : Nat) (lg : Int64) (fo fm fs : Nat → Int32) (fv : Nat → Int64) (k : Int32) : Met l ky_D_keeps kw_D_keeps { frames := 0, cells := 0, slots := 0, locals := 0 } (pr_P D cI cL cZ tb [(h0, .inr (5, [.ref d1, .ref d2, .ref d3, .ref d4, .long lg, .int (nI nd)]))] [.ref h0, .int k]) (hx_QR (some (.int (b2_ (kp_ nd k))))) 0 0 (fun _ => False) := by
  refine Met.ofW (cc := kc_D_keeps) (maxL := 2) (ret := (some .boolean)) (by decide) rfl ?_
  intro p e s m args below meth c s₁ B hml hv
  obtain ⟨rfl, hC, hP⟩ := hv
  have hx := B.exec
  have hb := B.bytes
  have hr := B.returns
  have hlocks := B.notSynchronized
  have hown : s.vm.findClass "HostBridge$Diary" = some m.cls := findClass_of_methodNamed B.named
  have hS : va_S (fun _ => False) s.heap s.heap [] := va_S.rf
  have hK := hC.K
  have hts := hC.ts [.ref h0, .int k].toArray
  have hl := lv_entry ([.ref h0, .int k]) (n := 2) (Nat.le_of_ble_eq_true rfl)
  rw [lg_entry_eq]
  generalize (lg_sl ([.ref h0, .int k]) ++ List.replicate (2 - (lg_sl ([.ref h0, .int k])).length) Slot.unset).toArray = ls at hl ⊢
  have hl : lv_has ls 2 [(0, .ref h0), (1, .int k)] := hl
  refine lv_iload_n hx hb kd_D_keeps_0 rfl (lv_at hl 1 rfl) ?_
  refine lv_if_lt (tgt := 27) hx hb kd_D_keeps_1 (by decide) (fun c_1 => ?_) (fun c_1 => ?_)
  · skip
    refine lv_iconst (v := 0) hx hb kd_D_keeps_27 (by decide) ?_
    exact hx_zretR hx hb hr hlocks (by unfold kp_; rw [if_pos c_1]; try rfl) kd_D_keeps_28
  · skip
    refine lv_iload_n hx hb kd_D_keeps_4 rfl (lv_at hl 1 rfl) ?_
    refine lv_aload_n hx hb kd_D_keeps_5 rfl (lv_at hl 0 rfl) ?_
    refine va_get (D := D) (ci := 5) (v := .int (nI nd)) (C := "HostBridge$Diary") (T := ct_D) (N := 6) hx hb hts cw_D hown hK hP 0 rfl rfl 5 (by decide) (hts _ km_140) (fun _ h9 => h9) rfl kd_D_keeps_6 ?_
    refine lv_icmp_ge (tgt := 27) hx hb kd_D_keeps_9 (by decide) (fun c_9 => ?_) (fun c_9 => ?_)
    · skip
      refine lv_iconst (v := 0) hx hb kd_D_keeps_27 (by decide) ?_
      exact hx_zretR hx hb hr hlocks (by unfold kp_; rw [if_neg c_1, if_pos c_9]; try rfl) kd_D_keeps_28
    · skip
      refine lv_aload_n hx hb kd_D_keeps_12 rfl (lv_at hl 0 rfl) ?_
      refine va_get (D := D) (ci := 5) (v := .int (nI nd)) (C := "HostBridge$Diary") (T := ct_D) (N := 6) hx hb hts cw_D hown hK hP 0 rfl rfl 5 (by decide) (hts _ km_140) (fun _ h9 => h9) rfl kd_D_keeps_13 ?_
      refine lv_iload_n hx hb kd_D_keeps_16 rfl (lv_at hl 1 rfl) ?_
      refine lv_isub hx hb kd_D_keeps_17 ?_
      refine lv_bipush (v := 64) hx hb kd_D_keeps_18 (by decide) ?_
      refine lv_icmp_gt (tgt := 27) hx hb kd_D_keeps_20 (by decide) (fun c_20 => ?_) (fun c_20 => ?_)
      · skip
        refine lv_iconst (v := 0) hx hb kd_D_keeps_27 (by decide) ?_
        exact hx_zretR hx hb hr hlocks (by unfold kp_; rw [if_neg c_1, if_neg c_9, if_pos c_20]; try rfl) kd_D_keeps_28
      · skip
        refine lv_iconst (v := 1) hx hb kd_D_keeps_23 (by decide) ?_
        refine lv_goto (tgt := 28) hx hb kd_D_keeps_24 (by decide) ?_
        exact hx_zretR hx hb hr hlocks (by unfold kp_; rw [if_neg c_1, if_neg c_9, if_neg c_20]; try rfl) kd_D_keeps_28

set_option maxHeartbeats 4000000 in
set_option maxRecDepth 100000 in
theorem mc_D_objectOf {l : Launch} {D : va_G} {cI cL cZ : ClassId} {tb : Nat} (h0 d1 d2 d3 d4 nd : Nat) (lg : Int64) (fo fm fs : Nat → Int32) (fv : Nat → Int64) (q : Nat) (hq : q < 2 ^ 31) : Met l ky_D_objectOf kw_D_objectOf { frames := 2, cells := 0, slots := 0, locals := 42 } (pr_P D cI cL cZ tb [(h0, .inr (5, [.ref d1, .ref d2, .ref d3, .ref d4, .long lg, .int (nI nd)])), (d1, .inl (cI, 64, .inl fo))] [.ref h0, .int (nI q)]) (hx_QR (some (.int (fo (q % 64))))) 0 0 (fun _ => False) := by
  refine Met.ofW (cc := kc_D_objectOf) (maxL := 2) (ret := (some .int)) (by decide) rfl ?_
  intro p e s m args below meth c s₁ B hml hv
  obtain ⟨rfl, hC, hP⟩ := hv
  have hx := B.exec
  have hb := B.bytes
  have hr := B.returns
  have hlocks := B.notSynchronized
  have hown : s.vm.findClass "HostBridge$Diary" = some m.cls := findClass_of_methodNamed B.named
  have hS : va_S (fun _ => False) s.heap s.heap [] := va_S.rf
  have hK := hC.K
  have hts := hC.ts [.ref h0, .int (nI q)].toArray
  have hl := lv_entry ([.ref h0, .int (nI q)]) (n := 2) (Nat.le_of_ble_eq_true rfl)
  rw [lg_entry_eq]
  generalize (lg_sl ([.ref h0, .int (nI q)]) ++ List.replicate (2 - (lg_sl ([.ref h0, .int (nI q)])).length) Slot.unset).toArray = ls at hl ⊢
  have hl : lv_has ls 2 [(0, .ref h0), (1, .int (nI q))] := hl
  refine lv_aload_n hx hb kd_D_objectOf_0 rfl (lv_at hl 0 rfl) ?_
  refine va_get (D := D) (ci := 5) (v := .ref d1) (C := "HostBridge$Diary") (T := ct_D) (N := 6) hx hb hts cw_D hown hK hP 0 rfl rfl 0 (by decide) (hts _ km_134) (fun _ h9 => h9) rfl kd_D_objectOf_1 ?_
  refine lv_iload_n hx hb kd_D_objectOf_4 rfl (lv_at hl 1 rfl) ?_
  refine hx_callRi (va_runS (As := [.int (nI q)]) (rest := [.ref d1]) ⟨hx, hb, hml, hown, hts⟩ (mc_D_rowOf q hq) (va_cwS 1 hts (goodIn_sub (hx_m4 km_496 km_497 km_6 km_498) (by decide +kernel)) rfl rfl rfl (by decide +kernel) ⟨Nat.le_of_ble_eq_true rfl, Nat.le_of_ble_eq_true rfl⟩) (pr_S (hC.S hS) hP [] rfl) rfl rfl hl.1 rfl (lv_room (Nat.le_of_ble_eq_true rfl)) kd_D_objectOf_5 ⟨Nat.le_of_ble_eq_true rfl, Nat.le_of_ble_eq_true rfl⟩) ?_
  refine hx_iald (j := q % 64) hx hb hK hP 1 rfl (rfl) (Nat.mod_lt _ (by decide)) (by decide) kd_D_objectOf_8 ?_
  exact hx_iretR hx hb hr hlocks (by simp []) kd_D_objectOf_9

set_option maxHeartbeats 4000000 in
set_option maxRecDepth 100000 in
theorem mc_D_methodOf {l : Launch} {D : va_G} {cI cL cZ : ClassId} {tb : Nat} (h0 d1 d2 d3 d4 nd : Nat) (lg : Int64) (fo fm fs : Nat → Int32) (fv : Nat → Int64) (q : Nat) (hq : q < 2 ^ 31) : Met l ky_D_methodOf kw_D_methodOf { frames := 2, cells := 0, slots := 0, locals := 42 } (pr_P D cI cL cZ tb [(h0, .inr (5, [.ref d1, .ref d2, .ref d3, .ref d4, .long lg, .int (nI nd)])), (d2, .inl (cI, 64, .inl fm))] [.ref h0, .int (nI q)]) (hx_QR (some (.int (fm (q % 64))))) 0 0 (fun _ => False) := by
  refine Met.ofW (cc := kc_D_methodOf) (maxL := 2) (ret := (some .int)) (by decide) rfl ?_
  intro p e s m args below meth c s₁ B hml hv
  obtain ⟨rfl, hC, hP⟩ := hv
  have hx := B.exec
  have hb := B.bytes
  have hr := B.returns
  have hlocks := B.notSynchronized
  have hown : s.vm.findClass "HostBridge$Diary" = some m.cls := findClass_of_methodNamed B.named
  have hS : va_S (fun _ => False) s.heap s.heap [] := va_S.rf
  have hK := hC.K
  have hts := hC.ts [.ref h0, .int (nI q)].toArray
  have hl := lv_entry ([.ref h0, .int (nI q)]) (n := 2) (Nat.le_of_ble_eq_true rfl)
  rw [lg_entry_eq]
  generalize (lg_sl ([.ref h0, .int (nI q)]) ++ List.replicate (2 - (lg_sl ([.ref h0, .int (nI q)])).length) Slot.unset).toArray = ls at hl ⊢
  have hl : lv_has ls 2 [(0, .ref h0), (1, .int (nI q))] := hl
  refine lv_aload_n hx hb kd_D_methodOf_0 rfl (lv_at hl 0 rfl) ?_
  refine va_get (D := D) (ci := 5) (v := .ref d2) (C := "HostBridge$Diary") (T := ct_D) (N := 6) hx hb hts cw_D hown hK hP 0 rfl rfl 1 (by decide) (hts _ km_135) (fun _ h9 => h9) rfl kd_D_methodOf_1 ?_
  refine lv_iload_n hx hb kd_D_methodOf_4 rfl (lv_at hl 1 rfl) ?_
  refine hx_callRi (va_runS (As := [.int (nI q)]) (rest := [.ref d2]) ⟨hx, hb, hml, hown, hts⟩ (mc_D_rowOf q hq) (va_cwS 1 hts (goodIn_sub (hx_m4 km_496 km_497 km_6 km_498) (by decide +kernel)) rfl rfl rfl (by decide +kernel) ⟨Nat.le_of_ble_eq_true rfl, Nat.le_of_ble_eq_true rfl⟩) (pr_S (hC.S hS) hP [] rfl) rfl rfl hl.1 rfl (lv_room (Nat.le_of_ble_eq_true rfl)) kd_D_methodOf_5 ⟨Nat.le_of_ble_eq_true rfl, Nat.le_of_ble_eq_true rfl⟩) ?_
  refine hx_iald (j := q % 64) hx hb hK hP 1 rfl (rfl) (Nat.mod_lt _ (by decide)) (by decide) kd_D_methodOf_8 ?_
  exact hx_iretR hx hb hr hlocks (by simp []) kd_D_methodOf_9

set_option maxHeartbeats 4000000 in
set_option maxRecDepth 100000 in
theorem mc_D_argumentsOf {l : Launch} {D : va_G} {cI cL cZ : ClassId} {tb : Nat} (h0 d1 d2 d3 d4 nd : Nat) (lg : Int64) (fo fm fs : Nat → Int32) (fv : Nat → Int64) (q : Nat) (hq : q < 2 ^ 31) : Met l ky_D_argumentsOf kw_D_argumentsOf { frames := 2, cells := 0, slots := 0, locals := 42 } (pr_P D cI cL cZ tb [(h0, .inr (5, [.ref d1, .ref d2, .ref d3, .ref d4, .long lg, .int (nI nd)])), (d3, .inl (cI, 64, .inl fs))] [.ref h0, .int (nI q)]) (hx_QR (some (.int (fs (q % 64))))) 0 0 (fun _ => False) := by
  refine Met.ofW (cc := kc_D_argumentsOf) (maxL := 2) (ret := (some .int)) (by decide) rfl ?_
  intro p e s m args below meth c s₁ B hml hv
  obtain ⟨rfl, hC, hP⟩ := hv
  have hx := B.exec
  have hb := B.bytes
  have hr := B.returns
  have hlocks := B.notSynchronized
  have hown : s.vm.findClass "HostBridge$Diary" = some m.cls := findClass_of_methodNamed B.named
  have hS : va_S (fun _ => False) s.heap s.heap [] := va_S.rf
  have hK := hC.K
  have hts := hC.ts [.ref h0, .int (nI q)].toArray
  have hl := lv_entry ([.ref h0, .int (nI q)]) (n := 2) (Nat.le_of_ble_eq_true rfl)
  rw [lg_entry_eq]
  generalize (lg_sl ([.ref h0, .int (nI q)]) ++ List.replicate (2 - (lg_sl ([.ref h0, .int (nI q)])).length) Slot.unset).toArray = ls at hl ⊢
  have hl : lv_has ls 2 [(0, .ref h0), (1, .int (nI q))] := hl
  refine lv_aload_n hx hb kd_D_argumentsOf_0 rfl (lv_at hl 0 rfl) ?_
  refine va_get (D := D) (ci := 5) (v := .ref d3) (C := "HostBridge$Diary") (T := ct_D) (N := 6) hx hb hts cw_D hown hK hP 0 rfl rfl 2 (by decide) (hts _ km_136) (fun _ h9 => h9) rfl kd_D_argumentsOf_1 ?_
  refine lv_iload_n hx hb kd_D_argumentsOf_4 rfl (lv_at hl 1 rfl) ?_
  refine hx_callRi (va_runS (As := [.int (nI q)]) (rest := [.ref d3]) ⟨hx, hb, hml, hown, hts⟩ (mc_D_rowOf q hq) (va_cwS 1 hts (goodIn_sub (hx_m4 km_496 km_497 km_6 km_498) (by decide +kernel)) rfl rfl rfl (by decide +kernel) ⟨Nat.le_of_ble_eq_true rfl, Nat.le_of_ble_eq_true rfl⟩) (pr_S (hC.S hS) hP [] rfl) rfl rfl hl.1 rfl (lv_room (Nat.le_of_ble_eq_true rfl)) kd_D_argumentsOf_5 ⟨Nat.le_of_ble_eq_true rfl, Nat.le_of_ble_eq_true rfl⟩) ?_
  refine hx_iald (j := q % 64) hx hb hK hP 1 rfl (rfl) (Nat.mod_lt _ (by decide)) (by decide) kd_D_argumentsOf_8 ?_
  exact hx_iretR hx hb hr hlocks (by simp []) kd_D_argumentsOf_9

set_option maxHeartbeats 4000000 in
set_option maxRecDepth 100000 in
theorem mc_D_valueOf {l : Launch} {D : va_G} {cI cL cZ : ClassId} {tb : Nat} (h0 d1 d2 d3 d4 nd : Nat) (lg : Int64) (fo fm fs : Nat → Int32) (fv : Nat → Int64) (q i : Nat) (hq : q < 2 ^ 31) (hi : i < 4) : Met l ky_D_valueOf kw_D_valueOf { frames := 2, cells := 0, slots := 0, locals := 42 } (pr_P D cI cL cZ tb [(h0, .inr (5, [.ref d1, .ref d2, .ref d3, .ref d4, .long lg, .int (nI nd)])), (d4, .inl (cL, 256, .inr (.inl fv)))] [.ref h0, .int (nI q), .int (nI i)]) (hx_QR (some (.long (fv (q % 64 * 4 + i))))) 0 0 (fun _ => False) := by
  refine Met.ofW (cc := kc_D_valueOf) (maxL := 3) (ret := (some .long)) (by decide) rfl ?_
  intro p e s m args below meth c s₁ B hml hv
  obtain ⟨rfl, hC, hP⟩ := hv
  have hx := B.exec
  have hb := B.bytes
  have hr := B.returns
  have hlocks := B.notSynchronized
  have hown : s.vm.findClass "HostBridge$Diary" = some m.cls := findClass_of_methodNamed B.named
  have hS : va_S (fun _ => False) s.heap s.heap [] := va_S.rf
  have hK := hC.K
  have hts := hC.ts [.ref h0, .int (nI q), .int (nI i)].toArray
  have hl := lv_entry ([.ref h0, .int (nI q), .int (nI i)]) (n := 3) (Nat.le_of_ble_eq_true rfl)
  rw [lg_entry_eq]
  generalize (lg_sl ([.ref h0, .int (nI q), .int (nI i)]) ++ List.replicate (3 - (lg_sl ([.ref h0, .int (nI q), .int (nI i)])).length) Slot.unset).toArray = ls at hl ⊢
  have hl : lv_has ls 3 [(0, .ref h0), (1, .int (nI q)), (2, .int (nI i))] := hl
  refine lv_aload_n hx hb kd_D_valueOf_0 rfl (lv_at hl 0 rfl) ?_
  refine va_get (D := D) (ci := 5) (v := .ref d4) (C := "HostBridge$Diary") (T := ct_D) (N := 6) hx hb hts cw_D hown hK hP 0 rfl rfl 3 (by decide) (hts _ km_137) (fun _ h9 => h9) rfl kd_D_valueOf_1 ?_
  refine lv_iload_n hx hb kd_D_valueOf_4 rfl (lv_at hl 1 rfl) ?_
  refine hx_callRi (va_runS (As := [.int (nI q)]) (rest := [.ref d4]) ⟨hx, hb, hml, hown, hts⟩ (mc_D_rowOf q hq) (va_cwS 1 hts (goodIn_sub (hx_m4 km_496 km_497 km_6 km_498) (by decide +kernel)) rfl rfl rfl (by decide +kernel) ⟨Nat.le_of_ble_eq_true rfl, Nat.le_of_ble_eq_true rfl⟩) (pr_S (hC.S hS) hP [] rfl) rfl rfl hl.1 rfl (lv_room (Nat.le_of_ble_eq_true rfl)) kd_D_valueOf_5 ⟨Nat.le_of_ble_eq_true rfl, Nat.le_of_ble_eq_true rfl⟩) ?_
  refine lv_iconst (v := 4) hx hb kd_D_valueOf_8 (by decide) ?_
  refine lv_imul hx hb kd_D_valueOf_9 ?_
  refine hx_topi (y := nI (q % 64 * 4)) (by rw [show (4 : Int32) = nI 4 from rfl, pk_mul]) ?_
  refine lv_iload_n hx hb kd_D_valueOf_10 rfl (lv_at hl 2 rfl) ?_
  refine lv_iadd hx hb kd_D_valueOf_11 ?_
  refine hx_topi (y := nI (q % 64 * 4 + i)) (nI_add _ _) ?_
  refine hx_lald (j := q % 64 * 4 + i) hx hb hK hP 1 rfl (rfl) (by have : q % 64 < 64 := Nat.mod_lt _ (by decide); omega) (by decide) kd_D_valueOf_12 ?_
  exact hx_lretR hx hb hr hlocks (by simp []) kd_D_valueOf_13

set_option maxHeartbeats 4000000 in
set_option maxRecDepth 100000 in
theorem mc_S_add {l : Launch} {D : va_G} {cI cL cZ : ClassId} {tb : Nat} (h0 w1 sa nw : Nat) (wa : Nat → Int64) (v : Int64) (hs : sa < 64) (hn : nw < 64) (sz : Nat) : Met l ky_S_add kw_S_add { frames := 0, cells := 0, slots := 0, locals := 0 } (pw_P D cI cL cZ tb [(h0, .inr (6, [.ref w1, .int (nI sa), .int (nI nw)])), (w1, .inl (cL, 64, .inr (.inl wa)))] sz [.ref h0, .long v]) (hx_QW D none [(h0, .inr (6, [.ref w1, .int (nI sa), .int (nI (nw + 1))])), (w1, .inl (cL, 64, .inr (.inl (vp_updL wa ((sa + nw) % 64) v))))] (va_A [(h0, .inr (6, [.ref w1, .int (nI sa), .int (nI nw)])), (w1, .inl (cL, 64, .inr (.inl wa)))] sz)) 0 0 (va_A [(h0, .inr (6, [.ref w1, .int (nI sa), .int (nI nw)])), (w1, .inl (cL, 64, .inr (.inl wa)))] sz) := by
  refine Met.ofW (cc := kc_S_add) (maxL := 3) (ret := none) (by decide) rfl ?_
  intro p e s m args below meth c s₁ B hml hv
  obtain ⟨rfl, hsz, hC, hP, hD0⟩ := hv
  have hx := B.exec
  have hb := B.bytes
  have hr := B.returns
  have hlocks := B.notSynchronized
  have hown : s.vm.findClass "HostBridge$Answers" = some m.cls := findClass_of_methodNamed B.named
  subst hsz
  have hD := hD0.self (sz := s.heap.size)
  generalize hAe : va_A [(h0, .inr (6, [.ref w1, .int (nI sa), .int (nI nw)])), (w1, .inl (cL, 64, .inr (.inl wa)))] s.heap.size = A at hD hC ⊢
  have hA : ∀ q : Nat, s.heap.size ≤ q → A q := fun q h => by rw [← hAe]; exact Or.inr h
  have hS : va_S A s.heap s.heap [] := va_S.rf
  have hK := hC.K
  have hts := hC.ts [.ref h0, .long v].toArray
  have hl := lv_entry ([.ref h0, .long v]) (n := 3) (Nat.le_of_ble_eq_true rfl)
  rw [lg_entry_eq]
  generalize (lg_sl ([.ref h0, .long v]) ++ List.replicate (3 - (lg_sl ([.ref h0, .long v])).length) Slot.unset).toArray = ls at hl ⊢
  have hl : lv_has ls 3 [(0, .ref h0), (1, .long v)] := hl
  refine lv_aload_n hx hb kd_S_add_0 rfl (lv_at hl 0 rfl) ?_
  refine va_get (D := D) (ci := 6) (v := .ref w1) (C := "HostBridge$Answers") (T := ct_S) (N := 3) hx hb hts cw_S hown hK hP 0 rfl rfl 0 (by decide) (hts _ km_161) (fun _ h9 => h9) rfl kd_S_add_1 ?_
  refine lv_aload_n hx hb kd_S_add_4 rfl (lv_at hl 0 rfl) ?_
  refine va_get (D := D) (ci := 6) (v := .int (nI sa)) (C := "HostBridge$Answers") (T := ct_S) (N := 3) hx hb hts cw_S hown hK hP 0 rfl rfl 1 (by decide) (hts _ km_162) (fun _ h9 => h9) rfl kd_S_add_5 ?_
  refine lv_aload_n hx hb kd_S_add_8 rfl (lv_at hl 0 rfl) ?_
  refine va_get (D := D) (ci := 6) (v := .int (nI nw)) (C := "HostBridge$Answers") (T := ct_S) (N := 3) hx hb hts cw_S hown hK hP 0 rfl rfl 2 (by decide) (hts _ km_163) (fun _ h9 => h9) rfl kd_S_add_9 ?_
  refine lv_iadd hx hb kd_S_add_12 ?_
  refine hx_topi (y := nI (sa + nw)) (nI_add _ _) ?_
  refine lv_bipush (v := 64) hx hb kd_S_add_13 (by decide) ?_
  refine lv_irem hx hb kd_S_add_15 (by decide) ?_
  refine hx_topi (y := nI ((sa + nw) % 64)) (rm_64 (by omega)) ?_
  refine lv_lload_n hx hb kd_S_add_16 rfl (lv_at hl 1 rfl) ?_
  refine hx_last (j := (sa + nw) % 64) hx hb hK hP hD hS 1 rfl (rfl) (Nat.mod_lt _ (by decide)) (by decide) kd_S_add_17 (fun H locs hP hD hS => ?_)
  have hP : va_P D cl_all [(h0, .inr (6, [.ref w1, .int (nI sa), .int (nI nw)])), (w1, .inl (cL, 64, .inr (.inl (vp_updL wa ((sa + nw) % 64) v))))] H := hP
  have hD : va_D A [(h0, .inr (6, [.ref w1, .int (nI sa), .int (nI nw)])), (w1, .inl (cL, 64, .inr (.inl (vp_updL wa ((sa + nw) % 64) v))))] := hD
  refine lv_aload_n hx hb kd_S_add_18 rfl (lv_at hl 0 rfl) ?_
  refine lv_dup hx hb kd_S_add_19 rfl ?_
  refine va_get (D := D) (ci := 6) (v := .int (nI nw)) (C := "HostBridge$Answers") (T := ct_S) (N := 3) hx hb hts cw_S hown hK hP 0 rfl rfl 2 (by decide) (hts _ km_163) (fun _ h9 => h9) rfl kd_S_add_20 ?_
  refine lv_iconst (v := 1) hx hb kd_S_add_23 (by decide) ?_
  refine lv_iadd hx hb kd_S_add_24 ?_
  refine hx_topi (y := nI (nw + 1)) (nI_1 nw) ?_
  refine va_put (D := D) (ci := 6) (v := .int (nI (nw + 1))) (ty := .int) (C := "HostBridge$Answers") (T := ct_S) (N := 3) hx hb hts cw_S cy_S cp_S cn_S hown hK hP hD hS 0 rfl rfl 2 (by decide) (hts _ km_163) (fun _ h9 => h9) rfl (by decide +kernel) rfl rfl (Nat.le_of_ble_eq_true rfl) kd_S_add_25 (fun H locs hP hD hS => ?_)
  have hP : va_P D cl_all [(h0, .inr (6, [.ref w1, .int (nI sa), .int (nI (nw + 1))])), (w1, .inl (cL, 64, .inr (.inl (vp_updL wa ((sa + nw) % 64) v))))] H := hP
  have hD : va_D A [(h0, .inr (6, [.ref w1, .int (nI sa), .int (nI (nw + 1))])), (w1, .inl (cL, 64, .inr (.inl (vp_updL wa ((sa + nw) % 64) v))))] := hD
  exact hx_vretW hx hb hr hlocks (hP.sub [0, 1] rfl) hS kd_S_add_28

set_option maxHeartbeats 4000000 in
set_option maxRecDepth 100000 in
theorem mc_S_next0 {l : Launch} {D : va_G} {cI cL cZ : ClassId} {tb : Nat} (h0 w1 sa : Nat) (wa : Nat → Int64) (sz : Nat) : Met l ky_S_next kw_S_next { frames := 0, cells := 0, slots := 0, locals := 0 } (pw_P D cI cL cZ tb [(h0, .inr (6, [.ref w1, .int (nI sa), .int (nI 0)])), (w1, .inl (cL, 64, .inr (.inl wa)))] sz [.ref h0]) (hx_QW D (some (.long 0)) [(h0, .inr (6, [.ref w1, .int (nI sa), .int (nI 0)])), (w1, .inl (cL, 64, .inr (.inl wa)))] (va_A [(h0, .inr (6, [.ref w1, .int (nI sa), .int (nI 0)])), (w1, .inl (cL, 64, .inr (.inl wa)))] sz)) 0 0 (va_A [(h0, .inr (6, [.ref w1, .int (nI sa), .int (nI 0)])), (w1, .inl (cL, 64, .inr (.inl wa)))] sz) := by
  refine Met.ofW (cc := kc_S_next) (maxL := 3) (ret := (some .long)) (by decide) rfl ?_
  intro p e s m args below meth c s₁ B hml hv
  obtain ⟨rfl, hsz, hC, hP, hD0⟩ := hv
  have hx := B.exec
  have hb := B.bytes
  have hr := B.returns
  have hlocks := B.notSynchronized
  have hown : s.vm.findClass "HostBridge$Answers" = some m.cls := findClass_of_methodNamed B.named
  subst hsz
  have hD := hD0.self (sz := s.heap.size)
  generalize hAe : va_A [(h0, .inr (6, [.ref w1, .int (nI sa), .int (nI 0)])), (w1, .inl (cL, 64, .inr (.inl wa)))] s.heap.size = A at hD hC ⊢
  have hA : ∀ q : Nat, s.heap.size ≤ q → A q := fun q h => by rw [← hAe]; exact Or.inr h
  have hS : va_S A s.heap s.heap [] := va_S.rf
  have hK := hC.K
  have hts := hC.ts [.ref h0].toArray
  have hl := lv_entry ([.ref h0]) (n := 3) (Nat.le_of_ble_eq_true rfl)
  rw [lg_entry_eq]
  generalize (lg_sl ([.ref h0]) ++ List.replicate (3 - (lg_sl ([.ref h0])).length) Slot.unset).toArray = ls at hl ⊢
  have hl : lv_has ls 3 [(0, .ref h0)] := hl
  refine lv_aload_n hx hb kd_S_next_0 rfl (lv_at hl 0 rfl) ?_
  refine va_get (D := D) (ci := 6) (v := .int (nI 0)) (C := "HostBridge$Answers") (T := ct_S) (N := 3) hx hb hts cw_S hown hK hP 0 rfl rfl 2 (by decide) (hts _ km_163) (fun _ h9 => h9) rfl kd_S_next_1 ?_
  refine lv_if_ne (tgt := 9) hx hb kd_S_next_4 (by decide) (fun c_4 => ?_) (fun c_4 => ?_)
  · exact absurd c_4 (not_not_intro nI_0)
  · skip
    refine lv_lconst (v := 0) hx hb kd_S_next_7 (by decide) ?_
    exact hx_lretW hx hb hr hlocks (by simp [c_4]) (hP) hS kd_S_next_8

set_option maxHeartbeats 4000000 in
set_option maxRecDepth 100000 in
theorem mc_S_next1 {l : Launch} {D : va_G} {cI cL cZ : ClassId} {tb : Nat} (h0 w1 sa nw : Nat) (wa : Nat → Int64) (hs : sa < 64) (hn : nw < 64) (sz : Nat) : Met l ky_S_next kw_S_next { frames := 0, cells := 0, slots := 0, locals := 0 } (pw_P D cI cL cZ tb [(h0, .inr (6, [.ref w1, .int (nI sa), .int (nI (nw + 1))])), (w1, .inl (cL, 64, .inr (.inl wa)))] sz [.ref h0]) (hx_QW D (some (.long (wa sa))) [(h0, .inr (6, [.ref w1, .int (nI ((sa + 1) % 64)), .int (nI nw)])), (w1, .inl (cL, 64, .inr (.inl wa)))] (va_A [(h0, .inr (6, [.ref w1, .int (nI sa), .int (nI (nw + 1))])), (w1, .inl (cL, 64, .inr (.inl wa)))] sz)) 0 0 (va_A [(h0, .inr (6, [.ref w1, .int (nI sa), .int (nI (nw + 1))])), (w1, .inl (cL, 64, .inr (.inl wa)))] sz) := by
  refine Met.ofW (cc := kc_S_next) (maxL := 3) (ret := (some .long)) (by decide) rfl ?_
  intro p e s m args below meth c s₁ B hml hv
  obtain ⟨rfl, hsz, hC, hP, hD0⟩ := hv
  have hx := B.exec
  have hb := B.bytes
  have hr := B.returns
  have hlocks := B.notSynchronized
  have hown : s.vm.findClass "HostBridge$Answers" = some m.cls := findClass_of_methodNamed B.named
  subst hsz
  have hD := hD0.self (sz := s.heap.size)
  generalize hAe : va_A [(h0, .inr (6, [.ref w1, .int (nI sa), .int (nI (nw + 1))])), (w1, .inl (cL, 64, .inr (.inl wa)))] s.heap.size = A at hD hC ⊢
  have hA : ∀ q : Nat, s.heap.size ≤ q → A q := fun q h => by rw [← hAe]; exact Or.inr h
  have hS : va_S A s.heap s.heap [] := va_S.rf
  have hK := hC.K
  have hts := hC.ts [.ref h0].toArray
  have hl := lv_entry ([.ref h0]) (n := 3) (Nat.le_of_ble_eq_true rfl)
  rw [lg_entry_eq]
  generalize (lg_sl ([.ref h0]) ++ List.replicate (3 - (lg_sl ([.ref h0])).length) Slot.unset).toArray = ls at hl ⊢
  have hl : lv_has ls 3 [(0, .ref h0)] := hl
  refine lv_aload_n hx hb kd_S_next_0 rfl (lv_at hl 0 rfl) ?_
  refine va_get (D := D) (ci := 6) (v := .int (nI (nw + 1))) (C := "HostBridge$Answers") (T := ct_S) (N := 3) hx hb hts cw_S hown hK hP 0 rfl rfl 2 (by decide) (hts _ km_163) (fun _ h9 => h9) rfl kd_S_next_1 ?_
  refine lv_if_ne (tgt := 9) hx hb kd_S_next_4 (by decide) (fun c_4 => ?_) (fun c_4 => ?_)
  · skip
    refine lv_aload_n hx hb kd_S_next_9 rfl (lv_at hl 0 rfl) ?_
    refine va_get (D := D) (ci := 6) (v := .ref w1) (C := "HostBridge$Answers") (T := ct_S) (N := 3) hx hb hts cw_S hown hK hP 0 rfl rfl 0 (by decide) (hts _ km_161) (fun _ h9 => h9) rfl kd_S_next_10 ?_
    refine lv_aload_n hx hb kd_S_next_13 rfl (lv_at hl 0 rfl) ?_
    refine va_get (D := D) (ci := 6) (v := .int (nI sa)) (C := "HostBridge$Answers") (T := ct_S) (N := 3) hx hb hts cw_S hown hK hP 0 rfl rfl 1 (by decide) (hts _ km_162) (fun _ h9 => h9) rfl kd_S_next_14 ?_
    refine hx_lald (j := sa) hx hb hK hP 1 rfl (rfl) (hs) (by decide) kd_S_next_17 ?_
    refine lv_lstore_n (lv' := [(1, .long (wa sa)), (0, .ref h0)]) hx hb kd_S_next_18 rfl hl (by decide) rfl (fun ls hl => ?_)
    refine lv_aload_n hx hb kd_S_next_19 rfl (lv_at hl 1 rfl) ?_
    refine lv_aload_n hx hb kd_S_next_20 rfl (lv_at hl 1 rfl) ?_
    refine va_get (D := D) (ci := 6) (v := .int (nI sa)) (C := "HostBridge$Answers") (T := ct_S) (N := 3) hx hb hts cw_S hown hK hP 0 rfl rfl 1 (by decide) (hts _ km_162) (fun _ h9 => h9) rfl kd_S_next_21 ?_
    refine lv_iconst (v := 1) hx hb kd_S_next_24 (by decide) ?_
    refine lv_iadd hx hb kd_S_next_25 ?_
    refine hx_topi (y := nI (sa + 1)) (nI_1 sa) ?_
    refine lv_bipush (v := 64) hx hb kd_S_next_26 (by decide) ?_
    refine lv_irem hx hb kd_S_next_28 (by decide) ?_
    refine hx_topi (y := nI ((sa + 1) % 64)) (rm_64 (by omega)) ?_
    refine va_put (D := D) (ci := 6) (v := .int (nI ((sa + 1) % 64))) (ty := .int) (C := "HostBridge$Answers") (T := ct_S) (N := 3) hx hb hts cw_S cy_S cp_S cn_S hown hK hP hD hS 0 rfl rfl 1 (by decide) (hts _ km_162) (fun _ h9 => h9) rfl (by decide +kernel) rfl rfl (Nat.le_of_ble_eq_true rfl) kd_S_next_29 (fun H locs hP hD hS => ?_)
    have hP : va_P D cl_all [(h0, .inr (6, [.ref w1, .int (nI ((sa + 1) % 64)), .int (nI (nw + 1))])), (w1, .inl (cL, 64, .inr (.inl wa)))] H := hP
    have hD : va_D A [(h0, .inr (6, [.ref w1, .int (nI ((sa + 1) % 64)), .int (nI (nw + 1))])), (w1, .inl (cL, 64, .inr (.inl wa)))] := hD
    refine lv_aload_n hx hb kd_S_next_32 rfl (lv_at hl 1 rfl) ?_
    refine lv_dup hx hb kd_S_next_33 rfl ?_
    refine va_get (D := D) (ci := 6) (v := .int (nI (nw + 1))) (C := "HostBridge$Answers") (T := ct_S) (N := 3) hx hb hts cw_S hown hK hP 0 rfl rfl 2 (by decide) (hts _ km_163) (fun _ h9 => h9) rfl kd_S_next_34 ?_
    refine lv_iconst (v := 1) hx hb kd_S_next_37 (by decide) ?_
    refine lv_isub hx hb kd_S_next_38 ?_
    refine hx_topi (y := nI nw) (nI_pred nw) ?_
    refine va_put (D := D) (ci := 6) (v := .int (nI nw)) (ty := .int) (C := "HostBridge$Answers") (T := ct_S) (N := 3) hx hb hts cw_S cy_S cp_S cn_S hown hK hP hD hS 0 rfl rfl 2 (by decide) (hts _ km_163) (fun _ h9 => h9) rfl (by decide +kernel) rfl rfl (Nat.le_of_ble_eq_true rfl) kd_S_next_39 (fun H locs hP hD hS => ?_)
    have hP : va_P D cl_all [(h0, .inr (6, [.ref w1, .int (nI ((sa + 1) % 64)), .int (nI nw)])), (w1, .inl (cL, 64, .inr (.inl wa)))] H := hP
    have hD : va_D A [(h0, .inr (6, [.ref w1, .int (nI ((sa + 1) % 64)), .int (nI nw)])), (w1, .inl (cL, 64, .inr (.inl wa)))] := hD
    refine lv_lload_n hx hb kd_S_next_42 rfl (lv_at hl 0 rfl) ?_
    exact hx_lretW hx hb hr hlocks (by simp [c_4]) (hP) hS kd_S_next_43
  · exact absurd c_4 (nI_ne0 (by omega) (by omega))
