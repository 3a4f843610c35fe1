/-! THE LAW'S HELPERS: what each does, given what the class's method does -/
set_option maxHeartbeats 4000000 in
set_option maxRecDepth 100000 in
theorem ml_klass_0 {l : Launch} {D : va_G} {cI cL cZ : ClassId} {tb x0 qo : Nat} {w w1 : va_W} {fs : List Value} {ov : Nat → Int64} (k : Int32) {rr : Int32} {rm : Room} (h0 : w[0]? = some (x0, .inr (0, fs))) (hw : w1.map (fun q => q.1) = w.map (fun q => q.1)) (hrm : rm.frames ≤ 6 ∧ rm.locals ≤ 150 ∧ rm.cells = 0 ∧ rm.slots = 0) (hM : ∀ sz, Met l ky_B_klass kw_B_klass rm (pw_P D cI cL cZ tb w sz [.ref x0, .int k]) (hx_QW D (some (.int rr)) w1 (va_A w sz)) 0 0 (va_A w sz)) (sz : Nat) : Met l ky_L_klass kw_L_klass { frames := 7, cells := 1, slots := 6, locals := 200 } (lp_P D cI cL cZ tb ((qo, .inl (cL, 1, .inr (.inl ov))) :: w) sz [.ref x0, .int k, .ref qo]) (hx_QW D (some (.int 0)) ((qo, .inl (cL, 1, .inr (.inl (vp_updL ov 0 rr.toInt64)))) :: w1) (va_A ((qo, .inl (cL, 1, .inr (.inl ov))) :: w) sz)) 1 6 (va_A ((qo, .inl (cL, 1, .inr (.inl ov))) :: w) sz) := by
  refine va_MetW (cc := kc_L_klass) (maxL := 4) (ret := (some .int)) (by decide) rfl ?_
  intro p e s m args below meth c s₁ B hml hv
  obtain ⟨rfl, ⟨hsz, hC, hP, hD0⟩, hN⟩ := hv
  have hx := B.exec
  have hb := B.bytes
  have hr := B.returns
  have hlocks := B.notSynchronized
  have hown : s.vm.findClass "HostBridgeLaw" = some m.cls := findClass_of_methodNamed B.named
  subst hsz
  have hD := hD0.self (sz := s.heap.size)
  generalize hAe : va_A ((qo, .inl (cL, 1, .inr (.inl ov))) :: w) s.heap.size = A at hD hC ⊢
  have hA : ∀ q : Nat, s.heap.size ≤ q → A q := fun q h => by rw [← hAe]; exact Or.inr h
  have hS : va_S A s.heap s.heap [] := va_S.rf
  have hK := hC.K
  have hts := hC.ts [.ref x0, .int k, .ref qo].toArray
  have hl := lv_entry ([.ref x0, .int k, .ref qo]) (n := 4) (Nat.le_of_ble_eq_true rfl)
  rw [lg_entry_eq]
  generalize (lg_sl ([.ref x0, .int k, .ref qo]) ++ List.replicate (4 - (lg_sl ([.ref x0, .int k, .ref qo])).length) Slot.unset).toArray = ls at hl ⊢
  have hl : lv_has ls 4 [(0, .ref x0), (1, .int k), (2, .ref qo)] := hl
  obtain ⟨hDo, hDw, hap⟩ := sg_Dt hD
  obtain ⟨hPo, hPw⟩ := sg_cons.mp hP
  refine lv_aload_n hx hb kd_L_klass_0 rfl (lv_at hl 2 rfl) ?_
  refine lv_iconst (v := 0) hx hb kd_L_klass_1 (by decide) ?_
  refine lv_aload_n hx hb kd_L_klass_2 rfl (lv_at hl 0 rfl) ?_
  refine lv_iload_n hx hb kd_L_klass_3 rfl (lv_at hl 1 rfl) ?_
  refine sg_call (va_runV (As := [.int k]) (rest := [.int 0, .ref qo]) ⟨hx, hb, hml, hown, hts⟩ (hM _) (cwV 1 hts (goodIn_sub (hx_m5 km_200 km_201 km_202 km_1 km_203) (by decide +kernel)) rfl hrm.2.2.1 hrm.2.2.2 (by decide +kernel) ⟨show rm.frames + 1 ≤ 7 by omega, show 8 + (2 + 11) + rm.locals ≤ 200 by omega⟩) (sg_V (hC.S hS) hPw hDw hS hA (ci := 0) rfl h0) rfl rfl hl.1 rfl (lv_room (Nat.le_of_ble_eq_true rfl)) kd_L_klass_4 ⟨Nat.le_of_ble_eq_true rfl, Nat.le_of_ble_eq_true rfl⟩) hDw hS hA hw hap.symm hPo (fun H locs hPw hDw hPo hS => ?_)
  refine lv_i2l hx hb kd_L_klass_7 rfl ?_
  have hP := sg_cons.mpr ⟨hPo, hPw⟩
  have hD := sg_Dc hDo hDw (hap.new rfl hw)
  refine hx_last (j := 0) hx hb hK hP hD hS 0 rfl rfl (by decide) (by decide) kd_L_klass_8 (fun H locs hP hD hS => ?_)
  refine lv_goto (tgt := 18) hx hb kd_L_klass_9 (by decide) ?_
  refine lv_iconst (v := 0) hx hb kd_L_klass_18 (by decide) ?_
  refine W.widen (k := 1) (n := 6) (by decide) (by decide) ?_
  exact hx_iretW hx hb hr hlocks rfl hP hS kd_L_klass_19

set_option maxHeartbeats 4000000 in
set_option maxRecDepth 100000 in
theorem ml_klass_1 {l : Launch} {D : va_G} {cI cL cZ : ClassId} {tb x0 qo : Nat} {w w1 : va_W} {fs : List Value} {ov : Nat → Int64} (k : Int32)  {rm : Room} (h0 : w[0]? = some (x0, .inr (0, fs))) (hw : w1.map (fun q => q.1) = w.map (fun q => q.1)) (hrm : rm.frames ≤ 6 ∧ rm.locals ≤ 150 ∧ rm.cells = 1 ∧ rm.slots = 6) (hM : ∀ sz, xt_M l ky_B_klass kw_B_klass rm (pw_P D cI cL cZ tb w sz [.ref x0, .int k]) D "java/lang/IllegalArgumentException" w1 (va_A w sz)) (sz : Nat) : Met l ky_L_klass kw_L_klass { frames := 7, cells := 1, slots := 6, locals := 200 } (lp_P D cI cL cZ tb ((qo, .inl (cL, 1, .inr (.inl ov))) :: w) sz [.ref x0, .int k, .ref qo]) (hx_QW D (some (.int 1)) ((qo, .inl (cL, 1, .inr (.inl ov))) :: w1) (va_A ((qo, .inl (cL, 1, .inr (.inl ov))) :: w) sz)) 1 6 (va_A ((qo, .inl (cL, 1, .inr (.inl ov))) :: w) sz) := by
  refine va_MetW (cc := kc_L_klass) (maxL := 4) (ret := (some .int)) (by decide) rfl ?_
  intro p e s m args below meth c s₁ B hml hv
  obtain ⟨rfl, ⟨hsz, hC, hP, hD0⟩, hN⟩ := hv
  have hx := B.exec
  have hb := B.bytes
  have hr := B.returns
  have hlocks := B.notSynchronized
  have hown : s.vm.findClass "HostBridgeLaw" = some m.cls := findClass_of_methodNamed B.named
  subst hsz
  have hD := hD0.self (sz := s.heap.size)
  generalize hAe : va_A ((qo, .inl (cL, 1, .inr (.inl ov))) :: w) s.heap.size = A at hD hC ⊢
  have hA : ∀ q : Nat, s.heap.size ≤ q → A q := fun q h => by rw [← hAe]; exact Or.inr h
  have hS : va_S A s.heap s.heap [] := va_S.rf
  have hK := hC.K
  have hts := hC.ts [.ref x0, .int k, .ref qo].toArray
  have hl := lv_entry ([.ref x0, .int k, .ref qo]) (n := 4) (Nat.le_of_ble_eq_true rfl)
  rw [lg_entry_eq]
  generalize (lg_sl ([.ref x0, .int k, .ref qo]) ++ List.replicate (4 - (lg_sl ([.ref x0, .int k, .ref qo])).length) Slot.unset).toArray = ls at hl ⊢
  have hl : lv_has ls 4 [(0, .ref x0), (1, .int k), (2, .ref qo)] := hl
  obtain ⟨hDo, hDw, hap⟩ := sg_Dt hD
  obtain ⟨hPo, hPw⟩ := sg_cons.mp hP
  refine lv_aload_n hx hb kd_L_klass_0 rfl (lv_at hl 2 rfl) ?_
  refine lv_iconst (v := 0) hx hb kd_L_klass_1 (by decide) ?_
  refine lv_aload_n hx hb kd_L_klass_2 rfl (lv_at hl 0 rfl) ?_
  refine lv_iload_n hx hb kd_L_klass_3 rfl (lv_at hl 1 rfl) ?_
  refine sg_callX (vx_runV (As := [.int k]) (rest := [.int 0, .ref qo]) ⟨hx, hb, hml, hown, hts⟩ (hM _) (cwV 1 hts (goodIn_sub (hx_m5 km_200 km_201 km_202 km_1 km_203) (by decide +kernel)) rfl hrm.2.2.1 hrm.2.2.2 (by decide +kernel) ⟨show rm.frames + 1 ≤ 7 by omega, show 8 + (2 + 11) + rm.locals ≤ 200 by omega⟩) (sg_V (hC.S hS) hPw hDw hS hA (ci := 0) rfl h0) rfl rfl hl.1 rfl (lv_room (Nat.le_of_ble_eq_true rfl)) kd_L_klass_4 ⟨Nat.le_of_ble_eq_true rfl, Nat.le_of_ble_eq_true rfl⟩) hDw hS hA hw hap.symm hPo (fun q9 ce H locs hPw hDw hPo hS hce hcv hcl => ?_)
  have htab : c.exceptionTable.toList = tableOf [(0, 9, 12, 13), (0, 9, 15, 15)] := vx_table (x := ky_L_klass) B (atoms_spec (ws := kw_L_klass) B.pre _ List.mem_cons_self)
  refine vx_catch (own := "HostBridgeLaw") (name := "java/lang/IllegalArgumentException") hown [] ⟨0, 9, 12, 13⟩ [⟨0, 9, 15, 15⟩] (htab.trans rfl) (fun z hz => absurd hz List.not_mem_nil) rfl (by decide) (hts _ km_198) (hts _ km_210) hce hcv hcl ?_
  refine lv_astore_n (lv' := [(3, .ref q9), (0, .ref x0), (1, .int k), (2, .ref qo)]) hx hb kd_L_klass_12 rfl hl (by decide) rfl (fun ls hl => ?_)
  refine lv_iconst (v := 1) hx hb kd_L_klass_13 (by decide) ?_
  exact hx_iretW hx hb hr hlocks rfl (sg_cons.mpr ⟨hPo, hPw⟩) hS kd_L_klass_14

set_option maxHeartbeats 4000000 in
set_option maxRecDepth 100000 in
theorem ml_klass_2 {l : Launch} {D : va_G} {cI cL cZ : ClassId} {tb x0 qo : Nat} {w w1 : va_W} {fs : List Value} {ov : Nat → Int64} (k : Int32)  {rm : Room} (h0 : w[0]? = some (x0, .inr (0, fs))) (hw : w1.map (fun q => q.1) = w.map (fun q => q.1)) (hrm : rm.frames ≤ 6 ∧ rm.locals ≤ 150 ∧ rm.cells = 1 ∧ rm.slots = 6) (hM : ∀ sz, xt_M l ky_B_klass kw_B_klass rm (pw_P D cI cL cZ tb w sz [.ref x0, .int k]) D "java/lang/IllegalStateException" w1 (va_A w sz)) (sz : Nat) : Met l ky_L_klass kw_L_klass { frames := 7, cells := 1, slots := 6, locals := 200 } (lp_P D cI cL cZ tb ((qo, .inl (cL, 1, .inr (.inl ov))) :: w) sz [.ref x0, .int k, .ref qo]) (hx_QW D (some (.int 2)) ((qo, .inl (cL, 1, .inr (.inl ov))) :: w1) (va_A ((qo, .inl (cL, 1, .inr (.inl ov))) :: w) sz)) 1 6 (va_A ((qo, .inl (cL, 1, .inr (.inl ov))) :: w) sz) := by
  refine va_MetW (cc := kc_L_klass) (maxL := 4) (ret := (some .int)) (by decide) rfl ?_
  intro p e s m args below meth c s₁ B hml hv
  obtain ⟨rfl, ⟨hsz, hC, hP, hD0⟩, hN⟩ := hv
  have hx := B.exec
  have hb := B.bytes
  have hr := B.returns
  have hlocks := B.notSynchronized
  have hown : s.vm.findClass "HostBridgeLaw" = some m.cls := findClass_of_methodNamed B.named
  subst hsz
  have hD := hD0.self (sz := s.heap.size)
  generalize hAe : va_A ((qo, .inl (cL, 1, .inr (.inl ov))) :: w) s.heap.size = A at hD hC ⊢
  have hA : ∀ q : Nat, s.heap.size ≤ q → A q := fun q h => by rw [← hAe]; exact Or.inr h
  have hS : va_S A s.heap s.heap [] := va_S.rf
  have hK := hC.K
  have hts := hC.ts [.ref x0, .int k, .ref qo].toArray
  have hl := lv_entry ([.ref x0, .int k, .ref qo]) (n := 4) (Nat.le_of_ble_eq_true rfl)
  rw [lg_entry_eq]
  generalize (lg_sl ([.ref x0, .int k, .ref qo]) ++ List.replicate (4 - (lg_sl ([.ref x0, .int k, .ref qo])).length) Slot.unset).toArray = ls at hl ⊢
  have hl : lv_has ls 4 [(0, .ref x0), (1, .int k), (2, .ref qo)] := hl
  obtain ⟨hDo, hDw, hap⟩ := sg_Dt hD
  obtain ⟨hPo, hPw⟩ := sg_cons.mp hP
  refine lv_aload_n hx hb kd_L_klass_0 rfl (lv_at hl 2 rfl) ?_
  refine lv_iconst (v := 0) hx hb kd_L_klass_1 (by decide) ?_
  refine lv_aload_n hx hb kd_L_klass_2 rfl (lv_at hl 0 rfl) ?_
  refine lv_iload_n hx hb kd_L_klass_3 rfl (lv_at hl 1 rfl) ?_
  refine sg_callX (vx_runV (As := [.int k]) (rest := [.int 0, .ref qo]) ⟨hx, hb, hml, hown, hts⟩ (hM _) (cwV 1 hts (goodIn_sub (hx_m5 km_200 km_201 km_202 km_1 km_203) (by decide +kernel)) rfl hrm.2.2.1 hrm.2.2.2 (by decide +kernel) ⟨show rm.frames + 1 ≤ 7 by omega, show 8 + (2 + 11) + rm.locals ≤ 200 by omega⟩) (sg_V (hC.S hS) hPw hDw hS hA (ci := 0) rfl h0) rfl rfl hl.1 rfl (lv_room (Nat.le_of_ble_eq_true rfl)) kd_L_klass_4 ⟨Nat.le_of_ble_eq_true rfl, Nat.le_of_ble_eq_true rfl⟩) hDw hS hA hw hap.symm hPo (fun q9 ce H locs hPw hDw hPo hS hce hcv hcl => ?_)
  have htab : c.exceptionTable.toList = tableOf [(0, 9, 12, 13), (0, 9, 15, 15)] := vx_table (x := ky_L_klass) B (atoms_spec (ws := kw_L_klass) B.pre _ List.mem_cons_self)
  refine vx_catch (own := "HostBridgeLaw") (name := "java/lang/IllegalStateException") hown [⟨0, 9, 12, 13⟩] ⟨0, 9, 15, 15⟩ [] (htab.trans rfl) (fun z hz => by rw [List.mem_singleton.mp hz]; exact Or.inr ⟨by decide, "java/lang/IllegalArgumentException", hts _ km_198, hN.1⟩) rfl (by decide) (hts _ km_199) (hts _ km_279) hce hcv hcl ?_
  refine lv_astore_n (lv' := [(3, .ref q9), (0, .ref x0), (1, .int k), (2, .ref qo)]) hx hb kd_L_klass_15 rfl hl (by decide) rfl (fun ls hl => ?_)
  refine lv_iconst (v := 2) hx hb kd_L_klass_16 (by decide) ?_
  exact hx_iretW hx hb hr hlocks rfl (sg_cons.mpr ⟨hPo, hPw⟩) hS kd_L_klass_17

set_option maxHeartbeats 4000000 in
set_option maxRecDepth 100000 in
theorem ml_method_0 {l : Launch} {D : va_G} {cI cL cZ : ClassId} {tb x0 qo : Nat} {w w1 : va_W} {fs : List Value} {ov : Nat → Int64} (k : Int32) (n : Int32) (mn : Int32) (w0 : Int32) (rs : Int32) {rr : Int32} {rm : Room} (h0 : w[0]? = some (x0, .inr (0, fs))) (hw : w1.map (fun q => q.1) = w.map (fun q => q.1)) (hrm : rm.frames ≤ 6 ∧ rm.locals ≤ 150 ∧ rm.cells = 0 ∧ rm.slots = 0) (hM : ∀ sz, Met l ky_B_method kw_B_method rm (pw_P D cI cL cZ tb w sz [.ref x0, .int k, .int n, .int mn, .int w0, .int rs]) (hx_QW D (some (.int rr)) w1 (va_A w sz)) 0 0 (va_A w sz)) (sz : Nat) : Met l ky_L_method kw_L_method { frames := 7, cells := 1, slots := 6, locals := 200 } (lp_P D cI cL cZ tb ((qo, .inl (cL, 1, .inr (.inl ov))) :: w) sz [.ref x0, .int k, .int n, .int mn, .int w0, .int rs, .ref qo]) (hx_QW D (some (.int 0)) ((qo, .inl (cL, 1, .inr (.inl (vp_updL ov 0 rr.toInt64)))) :: w1) (va_A ((qo, .inl (cL, 1, .inr (.inl ov))) :: w) sz)) 1 6 (va_A ((qo, .inl (cL, 1, .inr (.inl ov))) :: w) sz) := by
  refine va_MetW (cc := kc_L_method) (maxL := 8) (ret := (some .int)) (by decide) rfl ?_
  intro p e s m args below meth c s₁ B hml hv
  obtain ⟨rfl, ⟨hsz, hC, hP, hD0⟩, hN⟩ := hv
  have hx := B.exec
  have hb := B.bytes
  have hr := B.returns
  have hlocks := B.notSynchronized
  have hown : s.vm.findClass "HostBridgeLaw" = some m.cls := findClass_of_methodNamed B.named
  subst hsz
  have hD := hD0.self (sz := s.heap.size)
  generalize hAe : va_A ((qo, .inl (cL, 1, .inr (.inl ov))) :: w) s.heap.size = A at hD hC ⊢
  have hA : ∀ q : Nat, s.heap.size ≤ q → A q := fun q h => by rw [← hAe]; exact Or.inr h
  have hS : va_S A s.heap s.heap [] := va_S.rf
  have hK := hC.K
  have hts := hC.ts [.ref x0, .int k, .int n, .int mn, .int w0, .int rs, .ref qo].toArray
  have hl := lv_entry ([.ref x0, .int k, .int n, .int mn, .int w0, .int rs, .ref qo]) (n := 8) (Nat.le_of_ble_eq_true rfl)
  rw [lg_entry_eq]
  generalize (lg_sl ([.ref x0, .int k, .int n, .int mn, .int w0, .int rs, .ref qo]) ++ List.replicate (8 - (lg_sl ([.ref x0, .int k, .int n, .int mn, .int w0, .int rs, .ref qo])).length) Slot.unset).toArray = ls at hl ⊢
  have hl : lv_has ls 8 [(0, .ref x0), (1, .int k), (2, .int n), (3, .int mn), (4, .int w0), (5, .int rs), (6, .ref qo)] := hl
  obtain ⟨hDo, hDw, hap⟩ := sg_Dt hD
  obtain ⟨hPo, hPw⟩ := sg_cons.mp hP
  refine lv_aload hx hb kd_L_method_0 (lv_at hl 6 rfl) ?_
  refine lv_iconst (v := 0) hx hb kd_L_method_2 (by decide) ?_
  refine lv_aload_n hx hb kd_L_method_3 rfl (lv_at hl 0 rfl) ?_
  refine lv_iload_n hx hb kd_L_method_4 rfl (lv_at hl 1 rfl) ?_
  refine lv_iload_n hx hb kd_L_method_5 rfl (lv_at hl 2 rfl) ?_
  refine lv_iload_n hx hb kd_L_method_6 rfl (lv_at hl 3 rfl) ?_
  refine lv_iload hx hb kd_L_method_7 (lv_at hl 4 rfl) ?_
  refine lv_iload hx hb kd_L_method_9 (lv_at hl 5 rfl) ?_
  refine sg_call (va_runV (As := [.int k, .int n, .int mn, .int w0, .int rs]) (rest := [.int 0, .ref qo]) ⟨hx, hb, hml, hown, hts⟩ (hM _) (cwV 5 hts (goodIn_sub (hx_m5 km_300 km_301 km_302 km_1 km_303) (by decide +kernel)) rfl hrm.2.2.1 hrm.2.2.2 (by decide +kernel) ⟨show rm.frames + 1 ≤ 7 by omega, show 8 + (6 + 11) + rm.locals ≤ 200 by omega⟩) (sg_V (hC.S hS) hPw hDw hS hA (ci := 0) rfl h0) rfl rfl hl.1 rfl (lv_room (Nat.le_of_ble_eq_true rfl)) kd_L_method_11 ⟨Nat.le_of_ble_eq_true rfl, Nat.le_of_ble_eq_true rfl⟩) hDw hS hA hw hap.symm hPo (fun H locs hPw hDw hPo hS => ?_)
  refine lv_i2l hx hb kd_L_method_14 rfl ?_
  have hP := sg_cons.mpr ⟨hPo, hPw⟩
  have hD := sg_Dc hDo hDw (hap.new rfl hw)
  refine hx_last (j := 0) hx hb hK hP hD hS 0 rfl rfl (by decide) (by decide) kd_L_method_15 (fun H locs hP hD hS => ?_)
  refine lv_goto (tgt := 27) hx hb kd_L_method_16 (by decide) ?_
  refine lv_iconst (v := 0) hx hb kd_L_method_27 (by decide) ?_
  refine W.widen (k := 1) (n := 6) (by decide) (by decide) ?_
  exact hx_iretW hx hb hr hlocks rfl hP hS kd_L_method_28

set_option maxHeartbeats 4000000 in
set_option maxRecDepth 100000 in
theorem ml_method_1 {l : Launch} {D : va_G} {cI cL cZ : ClassId} {tb x0 qo : Nat} {w w1 : va_W} {fs : List Value} {ov : Nat → Int64} (k : Int32) (n : Int32) (mn : Int32) (w0 : Int32) (rs : Int32)  {rm : Room} (h0 : w[0]? = some (x0, .inr (0, fs))) (hw : w1.map (fun q => q.1) = w.map (fun q => q.1)) (hrm : rm.frames ≤ 6 ∧ rm.locals ≤ 150 ∧ rm.cells = 1 ∧ rm.slots = 6) (hM : ∀ sz, xt_M l ky_B_method kw_B_method rm (pw_P D cI cL cZ tb w sz [.ref x0, .int k, .int n, .int mn, .int w0, .int rs]) D "java/lang/IllegalArgumentException" w1 (va_A w sz)) (sz : Nat) : Met l ky_L_method kw_L_method { frames := 7, cells := 1, slots := 6, locals := 200 } (lp_P D cI cL cZ tb ((qo, .inl (cL, 1, .inr (.inl ov))) :: w) sz [.ref x0, .int k, .int n, .int mn, .int w0, .int rs, .ref qo]) (hx_QW D (some (.int 1)) ((qo, .inl (cL, 1, .inr (.inl ov))) :: w1) (va_A ((qo, .inl (cL, 1, .inr (.inl ov))) :: w) sz)) 1 6 (va_A ((qo, .inl (cL, 1, .inr (.inl ov))) :: w) sz) := by
  refine va_MetW (cc := kc_L_method) (maxL := 8) (ret := (some .int)) (by decide) rfl ?_
  intro p e s m args below meth c s₁ B hml hv
  obtain ⟨rfl, ⟨hsz, hC, hP, hD0⟩, hN⟩ := hv
  have hx := B.exec
  have hb := B.bytes
  have hr := B.returns
  have hlocks := B.notSynchronized
  have hown : s.vm.findClass "HostBridgeLaw" = some m.cls := findClass_of_methodNamed B.named
  subst hsz
  have hD := hD0.self (sz := s.heap.size)
  generalize hAe : va_A ((qo, .inl (cL, 1, .inr (.inl ov))) :: w) s.heap.size = A at hD hC ⊢
  have hA : ∀ q : Nat, s.heap.size ≤ q → A q := fun q h => by rw [← hAe]; exact Or.inr h
  have hS : va_S A s.heap s.heap [] := va_S.rf
  have hK := hC.K
  have hts := hC.ts [.ref x0, .int k, .int n, .int mn, .int w0, .int rs, .ref qo].toArray
  have hl := lv_entry ([.ref x0, .int k, .int n, .int mn, .int w0, .int rs, .ref qo]) (n := 8) (Nat.le_of_ble_eq_true rfl)
  rw [lg_entry_eq]
  generalize (lg_sl ([.ref x0, .int k, .int n, .int mn, .int w0, .int rs, .ref qo]) ++ List.replicate (8 - (lg_sl ([.ref x0, .int k, .int n, .int mn, .int w0, .int rs, .ref qo])).length) Slot.unset).toArray = ls at hl ⊢
  have hl : lv_has ls 8 [(0, .ref x0), (1, .int k), (2, .int n), (3, .int mn), (4, .int w0), (5, .int rs), (6, .ref qo)] := hl
  obtain ⟨hDo, hDw, hap⟩ := sg_Dt hD
  obtain ⟨hPo, hPw⟩ := sg_cons.mp hP
  refine lv_aload hx hb kd_L_method_0 (lv_at hl 6 rfl) ?_
  refine lv_iconst (v := 0) hx hb kd_L_method_2 (by decide) ?_
  refine lv_aload_n hx hb kd_L_method_3 rfl (lv_at hl 0 rfl) ?_
  refine lv_iload_n hx hb kd_L_method_4 rfl (lv_at hl 1 rfl) ?_
  refine lv_iload_n hx hb kd_L_method_5 rfl (lv_at hl 2 rfl) ?_
  refine lv_iload_n hx hb kd_L_method_6 rfl (lv_at hl 3 rfl) ?_
  refine lv_iload hx hb kd_L_method_7 (lv_at hl 4 rfl) ?_
  refine lv_iload hx hb kd_L_method_9 (lv_at hl 5 rfl) ?_
  refine sg_callX (vx_runV (As := [.int k, .int n, .int mn, .int w0, .int rs]) (rest := [.int 0, .ref qo]) ⟨hx, hb, hml, hown, hts⟩ (hM _) (cwV 5 hts (goodIn_sub (hx_m5 km_300 km_301 km_302 km_1 km_303) (by decide +kernel)) rfl hrm.2.2.1 hrm.2.2.2 (by decide +kernel) ⟨show rm.frames + 1 ≤ 7 by omega, show 8 + (6 + 11) + rm.locals ≤ 200 by omega⟩) (sg_V (hC.S hS) hPw hDw hS hA (ci := 0) rfl h0) rfl rfl hl.1 rfl (lv_room (Nat.le_of_ble_eq_true rfl)) kd_L_method_11 ⟨Nat.le_of_ble_eq_true rfl, Nat.le_of_ble_eq_true rfl⟩) hDw hS hA hw hap.symm hPo (fun q9 ce H locs hPw hDw hPo hS hce hcv hcl => ?_)
  have htab : c.exceptionTable.toList = tableOf [(0, 16, 19, 13), (0, 16, 23, 15)] := vx_table (x := ky_L_method) B (atoms_spec (ws := kw_L_method) B.pre _ List.mem_cons_self)
  refine vx_catch (own := "HostBridgeLaw") (name := "java/lang/IllegalArgumentException") hown [] ⟨0, 16, 19, 13⟩ [⟨0, 16, 23, 15⟩] (htab.trans rfl) (fun z hz => absurd hz List.not_mem_nil) rfl (by decide) (hts _ km_198) (hts _ km_210) hce hcv hcl ?_
  refine lv_astore (lv' := [(7, .ref q9), (0, .ref x0), (1, .int k), (2, .int n), (3, .int mn), (4, .int w0), (5, .int rs), (6, .ref qo)]) hx hb kd_L_method_19 hl (by decide) rfl (fun ls hl => ?_)
  refine lv_iconst (v := 1) hx hb kd_L_method_21 (by decide) ?_
  exact hx_iretW hx hb hr hlocks rfl (sg_cons.mpr ⟨hPo, hPw⟩) hS kd_L_method_22

set_option maxHeartbeats 4000000 in
set_option maxRecDepth 100000 in
theorem ml_method_2 {l : Launch} {D : va_G} {cI cL cZ : ClassId} {tb x0 qo : Nat} {w w1 : va_W} {fs : List Value} {ov : Nat → Int64} (k : Int32) (n : Int32) (mn : Int32) (w0 : Int32) (rs : Int32)  {rm : Room} (h0 : w[0]? = some (x0, .inr (0, fs))) (hw : w1.map (fun q => q.1) = w.map (fun q => q.1)) (hrm : rm.frames ≤ 6 ∧ rm.locals ≤ 150 ∧ rm.cells = 1 ∧ rm.slots = 6) (hM : ∀ sz, xt_M l ky_B_method kw_B_method rm (pw_P D cI cL cZ tb w sz [.ref x0, .int k, .int n, .int mn, .int w0, .int rs]) D "java/lang/IllegalStateException" w1 (va_A w sz)) (sz : Nat) : Met l ky_L_method kw_L_method { frames := 7, cells := 1, slots := 6, locals := 200 } (lp_P D cI cL cZ tb ((qo, .inl (cL, 1, .inr (.inl ov))) :: w) sz [.ref x0, .int k, .int n, .int mn, .int w0, .int rs, .ref qo]) (hx_QW D (some (.int 2)) ((qo, .inl (cL, 1, .inr (.inl ov))) :: w1) (va_A ((qo, .inl (cL, 1, .inr (.inl ov))) :: w) sz)) 1 6 (va_A ((qo, .inl (cL, 1, .inr (.inl ov))) :: w) sz) := by
  refine va_MetW (cc := kc_L_method) (maxL := 8) (ret := (some .int)) (by decide) rfl ?_
  intro p e s m args below meth c s₁ B hml hv
  obtain ⟨rfl, ⟨hsz, hC, hP, hD0⟩, hN⟩ := hv
  have hx := B.exec
  have hb := B.bytes
  have hr := B.returns
  have hlocks := B.notSynchronized
  have hown : s.vm.findClass "HostBridgeLaw" = some m.cls := findClass_of_methodNamed B.named
  subst hsz
  have hD := hD0.self (sz := s.heap.size)
  generalize hAe : va_A ((qo, .inl (cL, 1, .inr (.inl ov))) :: w) s.heap.size = A at hD hC ⊢
  have hA : ∀ q : Nat, s.heap.size ≤ q → A q := fun q h => by rw [← hAe]; exact Or.inr h
  have hS : va_S A s.heap s.heap [] := va_S.rf
  have hK := hC.K
  have hts := hC.ts [.ref x0, .int k, .int n, .int mn, .int w0, .int rs, .ref qo].toArray
  have hl := lv_entry ([.ref x0, .int k, .int n, .int mn, .int w0, .int rs, .ref qo]) (n := 8) (Nat.le_of_ble_eq_true rfl)
  rw [lg_entry_eq]
  generalize (lg_sl ([.ref x0, .int k, .int n, .int mn, .int w0, .int rs, .ref qo]) ++ List.replicate (8 - (lg_sl ([.ref x0, .int k, .int n, .int mn, .int w0, .int rs, .ref qo])).length) Slot.unset).toArray = ls at hl ⊢
  have hl : lv_has ls 8 [(0, .ref x0), (1, .int k), (2, .int n), (3, .int mn), (4, .int w0), (5, .int rs), (6, .ref qo)] := hl
  obtain ⟨hDo, hDw, hap⟩ := sg_Dt hD
  obtain ⟨hPo, hPw⟩ := sg_cons.mp hP
  refine lv_aload hx hb kd_L_method_0 (lv_at hl 6 rfl) ?_
  refine lv_iconst (v := 0) hx hb kd_L_method_2 (by decide) ?_
  refine lv_aload_n hx hb kd_L_method_3 rfl (lv_at hl 0 rfl) ?_
  refine lv_iload_n hx hb kd_L_method_4 rfl (lv_at hl 1 rfl) ?_
  refine lv_iload_n hx hb kd_L_method_5 rfl (lv_at hl 2 rfl) ?_
  refine lv_iload_n hx hb kd_L_method_6 rfl (lv_at hl 3 rfl) ?_
  refine lv_iload hx hb kd_L_method_7 (lv_at hl 4 rfl) ?_
  refine lv_iload hx hb kd_L_method_9 (lv_at hl 5 rfl) ?_
  refine sg_callX (vx_runV (As := [.int k, .int n, .int mn, .int w0, .int rs]) (rest := [.int 0, .ref qo]) ⟨hx, hb, hml, hown, hts⟩ (hM _) (cwV 5 hts (goodIn_sub (hx_m5 km_300 km_301 km_302 km_1 km_303) (by decide +kernel)) rfl hrm.2.2.1 hrm.2.2.2 (by decide +kernel) ⟨show rm.frames + 1 ≤ 7 by omega, show 8 + (6 + 11) + rm.locals ≤ 200 by omega⟩) (sg_V (hC.S hS) hPw hDw hS hA (ci := 0) rfl h0) rfl rfl hl.1 rfl (lv_room (Nat.le_of_ble_eq_true rfl)) kd_L_method_11 ⟨Nat.le_of_ble_eq_true rfl, Nat.le_of_ble_eq_true rfl⟩) hDw hS hA hw hap.symm hPo (fun q9 ce H locs hPw hDw hPo hS hce hcv hcl => ?_)
  have htab : c.exceptionTable.toList = tableOf [(0, 16, 19, 13), (0, 16, 23, 15)] := vx_table (x := ky_L_method) B (atoms_spec (ws := kw_L_method) B.pre _ List.mem_cons_self)
  refine vx_catch (own := "HostBridgeLaw") (name := "java/lang/IllegalStateException") hown [⟨0, 16, 19, 13⟩] ⟨0, 16, 23, 15⟩ [] (htab.trans rfl) (fun z hz => by rw [List.mem_singleton.mp hz]; exact Or.inr ⟨by decide, "java/lang/IllegalArgumentException", hts _ km_198, hN.1⟩) rfl (by decide) (hts _ km_199) (hts _ km_279) hce hcv hcl ?_
  refine lv_astore (lv' := [(7, .ref q9), (0, .ref x0), (1, .int k), (2, .int n), (3, .int mn), (4, .int w0), (5, .int rs), (6, .ref qo)]) hx hb kd_L_method_23 hl (by decide) rfl (fun ls hl => ?_)
  refine lv_iconst (v := 2) hx hb kd_L_method_25 (by decide) ?_
  exact hx_iretW hx hb hr hlocks rfl (sg_cons.mpr ⟨hPo, hPw⟩) hS kd_L_method_26

set_option maxHeartbeats 4000000 in
set_option maxRecDepth 100000 in
theorem ml_object_0 {l : Launch} {D : va_G} {cI cL cZ : ClassId} {tb x0 qo : Nat} {w w1 : va_W} {fs : List Value} {ov : Nat → Int64} (k : Int32) {rr : Int32} {rm : Room} (h0 : w[0]? = some (x0, .inr (0, fs))) (hw : w1.map (fun q => q.1) = w.map (fun q => q.1)) (hrm : rm.frames ≤ 6 ∧ rm.locals ≤ 150 ∧ rm.cells = 0 ∧ rm.slots = 0) (hM : ∀ sz, Met l ky_B_object kw_B_object rm (pw_P D cI cL cZ tb w sz [.ref x0, .int k]) (hx_QW D (some (.int rr)) w1 (va_A w sz)) 0 0 (va_A w sz)) (sz : Nat) : Met l ky_L_object kw_L_object { frames := 7, cells := 1, slots := 6, locals := 200 } (lp_P D cI cL cZ tb ((qo, .inl (cL, 1, .inr (.inl ov))) :: w) sz [.ref x0, .int k, .ref qo]) (hx_QW D (some (.int 0)) ((qo, .inl (cL, 1, .inr (.inl (vp_updL ov 0 rr.toInt64)))) :: w1) (va_A ((qo, .inl (cL, 1, .inr (.inl ov))) :: w) sz)) 1 6 (va_A ((qo, .inl (cL, 1, .inr (.inl ov))) :: w) sz) := by
  refine va_MetW (cc := kc_L_object) (maxL := 4) (ret := (some .int)) (by decide) rfl ?_
  intro p e s m args below meth c s₁ B hml hv
  obtain ⟨rfl, ⟨hsz, hC, hP, hD0⟩, hN⟩ := hv
  have hx := B.exec
  have hb := B.bytes
  have hr := B.returns
  have hlocks := B.notSynchronized
  have hown : s.vm.findClass "HostBridgeLaw" = some m.cls := findClass_of_methodNamed B.named
  subst hsz
  have hD := hD0.self (sz := s.heap.size)
  generalize hAe : va_A ((qo, .inl (cL, 1, .inr (.inl ov))) :: w) s.heap.size = A at hD hC ⊢
  have hA : ∀ q : Nat, s.heap.size ≤ q → A q := fun q h => by rw [← hAe]; exact Or.inr h
  have hS : va_S A s.heap s.heap [] := va_S.rf
  have hK := hC.K
  have hts := hC.ts [.ref x0, .int k, .ref qo].toArray
  have hl := lv_entry ([.ref x0, .int k, .ref qo]) (n := 4) (Nat.le_of_ble_eq_true rfl)
  rw [lg_entry_eq]
  generalize (lg_sl ([.ref x0, .int k, .ref qo]) ++ List.replicate (4 - (lg_sl ([.ref x0, .int k, .ref qo])).length) Slot.unset).toArray = ls at hl ⊢
  have hl : lv_has ls 4 [(0, .ref x0), (1, .int k), (2, .ref qo)] := hl
  obtain ⟨hDo, hDw, hap⟩ := sg_Dt hD
  obtain ⟨hPo, hPw⟩ := sg_cons.mp hP
  refine lv_aload_n hx hb kd_L_object_0 rfl (lv_at hl 2 rfl) ?_
  refine lv_iconst (v := 0) hx hb kd_L_object_1 (by decide) ?_
  refine lv_aload_n hx hb kd_L_object_2 rfl (lv_at hl 0 rfl) ?_
  refine lv_iload_n hx hb kd_L_object_3 rfl (lv_at hl 1 rfl) ?_
  refine sg_call (va_runV (As := [.int k]) (rest := [.int 0, .ref qo]) ⟨hx, hb, hml, hown, hts⟩ (hM _) (cwV 1 hts (goodIn_sub (hx_m5 km_340 km_341 km_342 km_1 km_343) (by decide +kernel)) rfl hrm.2.2.1 hrm.2.2.2 (by decide +kernel) ⟨show rm.frames + 1 ≤ 7 by omega, show 8 + (2 + 11) + rm.locals ≤ 200 by omega⟩) (sg_V (hC.S hS) hPw hDw hS hA (ci := 0) rfl h0) rfl rfl hl.1 rfl (lv_room (Nat.le_of_ble_eq_true rfl)) kd_L_object_4 ⟨Nat.le_of_ble_eq_true rfl, Nat.le_of_ble_eq_true rfl⟩) hDw hS hA hw hap.symm hPo (fun H locs hPw hDw hPo hS => ?_)
  refine lv_i2l hx hb kd_L_object_7 rfl ?_
  have hP := sg_cons.mpr ⟨hPo, hPw⟩
  have hD := sg_Dc hDo hDw (hap.new rfl hw)
  refine hx_last (j := 0) hx hb hK hP hD hS 0 rfl rfl (by decide) (by decide) kd_L_object_8 (fun H locs hP hD hS => ?_)
  refine lv_goto (tgt := 18) hx hb kd_L_object_9 (by decide) ?_
  refine lv_iconst (v := 0) hx hb kd_L_object_18 (by decide) ?_
  refine W.widen (k := 1) (n := 6) (by decide) (by decide) ?_
  exact hx_iretW hx hb hr hlocks rfl hP hS kd_L_object_19

set_option maxHeartbeats 4000000 in
set_option maxRecDepth 100000 in
theorem ml_object_1 {l : Launch} {D : va_G} {cI cL cZ : ClassId} {tb x0 qo : Nat} {w w1 : va_W} {fs : List Value} {ov : Nat → Int64} (k : Int32)  {rm : Room} (h0 : w[0]? = some (x0, .inr (0, fs))) (hw : w1.map (fun q => q.1) = w.map (fun q => q.1)) (hrm : rm.frames ≤ 6 ∧ rm.locals ≤ 150 ∧ rm.cells = 1 ∧ rm.slots = 6) (hM : ∀ sz, xt_M l ky_B_object kw_B_object rm (pw_P D cI cL cZ tb w sz [.ref x0, .int k]) D "java/lang/IllegalArgumentException" w1 (va_A w sz)) (sz : Nat) : Met l ky_L_object kw_L_object { frames := 7, cells := 1, slots := 6, locals := 200 } (lp_P D cI cL cZ tb ((qo, .inl (cL, 1, .inr (.inl ov))) :: w) sz [.ref x0, .int k, .ref qo]) (hx_QW D (some (.int 1)) ((qo, .inl (cL, 1, .inr (.inl ov))) :: w1) (va_A ((qo, .inl (cL, 1, .inr (.inl ov))) :: w) sz)) 1 6 (va_A ((qo, .inl (cL, 1, .inr (.inl ov))) :: w) sz) := by
  refine va_MetW (cc := kc_L_object) (maxL := 4) (ret := (some .int)) (by decide) rfl ?_
  intro p e s m args below meth c s₁ B hml hv
  obtain ⟨rfl, ⟨hsz, hC, hP, hD0⟩, hN⟩ := hv
  have hx := B.exec
  have hb := B.bytes
  have hr := B.returns
  have hlocks := B.notSynchronized
  have hown : s.vm.findClass "HostBridgeLaw" = some m.cls := findClass_of_methodNamed B.named
  subst hsz
  have hD := hD0.self (sz := s.heap.size)
  generalize hAe : va_A ((qo, .inl (cL, 1, .inr (.inl ov))) :: w) s.heap.size = A at hD hC ⊢
  have hA : ∀ q : Nat, s.heap.size ≤ q → A q := fun q h => by rw [← hAe]; exact Or.inr h
  have hS : va_S A s.heap s.heap [] := va_S.rf
  have hK := hC.K
  have hts := hC.ts [.ref x0, .int k, .ref qo].toArray
  have hl := lv_entry ([.ref x0, .int k, .ref qo]) (n := 4) (Nat.le_of_ble_eq_true rfl)
  rw [lg_entry_eq]
  generalize (lg_sl ([.ref x0, .int k, .ref qo]) ++ List.replicate (4 - (lg_sl ([.ref x0, .int k, .ref qo])).length) Slot.unset).toArray = ls at hl ⊢
  have hl : lv_has ls 4 [(0, .ref x0), (1, .int k), (2, .ref qo)] := hl
  obtain ⟨hDo, hDw, hap⟩ := sg_Dt hD
  obtain ⟨hPo, hPw⟩ := sg_cons.mp hP
  refine lv_aload_n hx hb kd_L_object_0 rfl (lv_at hl 2 rfl) ?_
  refine lv_iconst (v := 0) hx hb kd_L_object_1 (by decide) ?_
  refine lv_aload_n hx hb kd_L_object_2 rfl (lv_at hl 0 rfl) ?_
  refine lv_iload_n hx hb kd_L_object_3 rfl (lv_at hl 1 rfl) ?_
  refine sg_callX (vx_runV (As := [.int k]) (rest := [.int 0, .ref qo]) ⟨hx, hb, hml, hown, hts⟩ (hM _) (cwV 1 hts (goodIn_sub (hx_m5 km_340 km_341 km_342 km_1 km_343) (by decide +kernel)) rfl hrm.2.2.1 hrm.2.2.2 (by decide +kernel) ⟨show rm.frames + 1 ≤ 7 by omega, show 8 + (2 + 11) + rm.locals ≤ 200 by omega⟩) (sg_V (hC.S hS) hPw hDw hS hA (ci := 0) rfl h0) rfl rfl hl.1 rfl (lv_room (Nat.le_of_ble_eq_true rfl)) kd_L_object_4 ⟨Nat.le_of_ble_eq_true rfl, Nat.le_of_ble_eq_true rfl⟩) hDw hS hA hw hap.symm hPo (fun q9 ce H locs hPw hDw hPo hS hce hcv hcl => ?_)
  have htab : c.exceptionTable.toList = tableOf [(0, 9, 12, 13), (0, 9, 15, 15)] := vx_table (x := ky_L_object) B (atoms_spec (ws := kw_L_object) B.pre _ List.mem_cons_self)
  refine vx_catch (own := "HostBridgeLaw") (name := "java/lang/IllegalArgumentException") hown [] ⟨0, 9, 12, 13⟩ [⟨0, 9, 15, 15⟩] (htab.trans rfl) (fun z hz => absurd hz List.not_mem_nil) rfl (by decide) (hts _ km_198) (hts _ km_210) hce hcv hcl ?_
  refine lv_astore_n (lv' := [(3, .ref q9), (0, .ref x0), (1, .int k), (2, .ref qo)]) hx hb kd_L_object_12 rfl hl (by decide) rfl (fun ls hl => ?_)
  refine lv_iconst (v := 1) hx hb kd_L_object_13 (by decide) ?_
  exact hx_iretW hx hb hr hlocks rfl (sg_cons.mpr ⟨hPo, hPw⟩) hS kd_L_object_14

set_option maxHeartbeats 4000000 in
set_option maxRecDepth 100000 in
theorem ml_object_2 {l : Launch} {D : va_G} {cI cL cZ : ClassId} {tb x0 qo : Nat} {w w1 : va_W} {fs : List Value} {ov : Nat → Int64} (k : Int32)  {rm : Room} (h0 : w[0]? = some (x0, .inr (0, fs))) (hw : w1.map (fun q => q.1) = w.map (fun q => q.1)) (hrm : rm.frames ≤ 6 ∧ rm.locals ≤ 150 ∧ rm.cells = 1 ∧ rm.slots = 6) (hM : ∀ sz, xt_M l ky_B_object kw_B_object rm (pw_P D cI cL cZ tb w sz [.ref x0, .int k]) D "java/lang/IllegalStateException" w1 (va_A w sz)) (sz : Nat) : Met l ky_L_object kw_L_object { frames := 7, cells := 1, slots := 6, locals := 200 } (lp_P D cI cL cZ tb ((qo, .inl (cL, 1, .inr (.inl ov))) :: w) sz [.ref x0, .int k, .ref qo]) (hx_QW D (some (.int 2)) ((qo, .inl (cL, 1, .inr (.inl ov))) :: w1) (va_A ((qo, .inl (cL, 1, .inr (.inl ov))) :: w) sz)) 1 6 (va_A ((qo, .inl (cL, 1, .inr (.inl ov))) :: w) sz) := by
  refine va_MetW (cc := kc_L_object) (maxL := 4) (ret := (some .int)) (by decide) rfl ?_
  intro p e s m args below meth c s₁ B hml hv
  obtain ⟨rfl, ⟨hsz, hC, hP, hD0⟩, hN⟩ := hv
  have hx := B.exec
  have hb := B.bytes
  have hr := B.returns
  have hlocks := B.notSynchronized
  have hown : s.vm.findClass "HostBridgeLaw" = some m.cls := findClass_of_methodNamed B.named
  subst hsz
  have hD := hD0.self (sz := s.heap.size)
  generalize hAe : va_A ((qo, .inl (cL, 1, .inr (.inl ov))) :: w) s.heap.size = A at hD hC ⊢
  have hA : ∀ q : Nat, s.heap.size ≤ q → A q := fun q h => by rw [← hAe]; exact Or.inr h
  have hS : va_S A s.heap s.heap [] := va_S.rf
  have hK := hC.K
  have hts := hC.ts [.ref x0, .int k, .ref qo].toArray
  have hl := lv_entry ([.ref x0, .int k, .ref qo]) (n := 4) (Nat.le_of_ble_eq_true rfl)
  rw [lg_entry_eq]
  generalize (lg_sl ([.ref x0, .int k, .ref qo]) ++ List.replicate (4 - (lg_sl ([.ref x0, .int k, .ref qo])).length) Slot.unset).toArray = ls at hl ⊢
  have hl : lv_has ls 4 [(0, .ref x0), (1, .int k), (2, .ref qo)] := hl
  obtain ⟨hDo, hDw, hap⟩ := sg_Dt hD
  obtain ⟨hPo, hPw⟩ := sg_cons.mp hP
  refine lv_aload_n hx hb kd_L_object_0 rfl (lv_at hl 2 rfl) ?_
  refine lv_iconst (v := 0) hx hb kd_L_object_1 (by decide) ?_
  refine lv_aload_n hx hb kd_L_object_2 rfl (lv_at hl 0 rfl) ?_
  refine lv_iload_n hx hb kd_L_object_3 rfl (lv_at hl 1 rfl) ?_
  refine sg_callX (vx_runV (As := [.int k]) (rest := [.int 0, .ref qo]) ⟨hx, hb, hml, hown, hts⟩ (hM _) (cwV 1 hts (goodIn_sub (hx_m5 km_340 km_341 km_342 km_1 km_343) (by decide +kernel)) rfl hrm.2.2.1 hrm.2.2.2 (by decide +kernel) ⟨show rm.frames + 1 ≤ 7 by omega, show 8 + (2 + 11) + rm.locals ≤ 200 by omega⟩) (sg_V (hC.S hS) hPw hDw hS hA (ci := 0) rfl h0) rfl rfl hl.1 rfl (lv_room (Nat.le_of_ble_eq_true rfl)) kd_L_object_4 ⟨Nat.le_of_ble_eq_true rfl, Nat.le_of_ble_eq_true rfl⟩) hDw hS hA hw hap.symm hPo (fun q9 ce H locs hPw hDw hPo hS hce hcv hcl => ?_)
  have htab : c.exceptionTable.toList = tableOf [(0, 9, 12, 13), (0, 9, 15, 15)] := vx_table (x := ky_L_object) B (atoms_spec (ws := kw_L_object) B.pre _ List.mem_cons_self)
  refine vx_catch (own := "HostBridgeLaw") (name := "java/lang/IllegalStateException") hown [⟨0, 9, 12, 13⟩] ⟨0, 9, 15, 15⟩ [] (htab.trans rfl) (fun z hz => by rw [List.mem_singleton.mp hz]; exact Or.inr ⟨by decide, "java/lang/IllegalArgumentException", hts _ km_198, hN.1⟩) rfl (by decide) (hts _ km_199) (hts _ km_279) hce hcv hcl ?_
  refine lv_astore_n (lv' := [(3, .ref q9), (0, .ref x0), (1, .int k), (2, .ref qo)]) hx hb kd_L_object_15 rfl hl (by decide) rfl (fun ls hl => ?_)
  refine lv_iconst (v := 2) hx hb kd_L_object_16 (by decide) ?_
  exact hx_iretW hx hb hr hlocks rfl (sg_cons.mpr ⟨hPo, hPw⟩) hS kd_L_object_17

set_option maxHeartbeats 4000000 in
set_option maxRecDepth 100000 in
theorem ml_argument_0 {l : Launch} {D : va_G} {cI cL cZ : ClassId} {tb x0 qo : Nat} {w w1 : va_W} {fs : List Value} {ov : Nat → Int64} (k : Int32) (b : Int64) {rr : Int32} {rm : Room} (h0 : w[0]? = some (x0, .inr (0, fs))) (hw : w1.map (fun q => q.1) = w.map (fun q => q.1)) (hrm : rm.frames ≤ 6 ∧ rm.locals ≤ 150 ∧ rm.cells = 0 ∧ rm.slots = 0) (hM : ∀ sz, Met l ky_B_argument kw_B_argument rm (pw_P D cI cL cZ tb w sz [.ref x0, .int k, .long b]) (hx_QW D (some (.int rr)) w1 (va_A w sz)) 0 0 (va_A w sz)) (sz : Nat) : Met l ky_L_argument kw_L_argument { frames := 7, cells := 1, slots := 6, locals := 200 } (lp_P D cI cL cZ tb ((qo, .inl (cL, 1, .inr (.inl ov))) :: w) sz [.ref x0, .int k, .long b, .ref qo]) (hx_QW D (some (.int 0)) ((qo, .inl (cL, 1, .inr (.inl (vp_updL ov 0 rr.toInt64)))) :: w1) (va_A ((qo, .inl (cL, 1, .inr (.inl ov))) :: w) sz)) 1 6 (va_A ((qo, .inl (cL, 1, .inr (.inl ov))) :: w) sz) := by
  refine va_MetW (cc := kc_L_argument) (maxL := 6) (ret := (some .int)) (by decide) rfl ?_
  intro p e s m args below meth c s₁ B hml hv
  obtain ⟨rfl, ⟨hsz, hC, hP, hD0⟩, hN⟩ := hv
  have hx := B.exec
  have hb := B.bytes
  have hr := B.returns
  have hlocks := B.notSynchronized
  have hown : s.vm.findClass "HostBridgeLaw" = some m.cls := findClass_of_methodNamed B.named
  subst hsz
  have hD := hD0.self (sz := s.heap.size)
  generalize hAe : va_A ((qo, .inl (cL, 1, .inr (.inl ov))) :: w) s.heap.size = A at hD hC ⊢
  have hA : ∀ q : Nat, s.heap.size ≤ q → A q := fun q h => by rw [← hAe]; exact Or.inr h
  have hS : va_S A s.heap s.heap [] := va_S.rf
  have hK := hC.K
  have hts := hC.ts [.ref x0, .int k, .long b, .ref qo].toArray
  have hl := lv_entry ([.ref x0, .int k, .long b, .ref qo]) (n := 6) (Nat.le_of_ble_eq_true rfl)
  rw [lg_entry_eq]
  generalize (lg_sl ([.ref x0, .int k, .long b, .ref qo]) ++ List.replicate (6 - (lg_sl ([.ref x0, .int k, .long b, .ref qo])).length) Slot.unset).toArray = ls at hl ⊢
  have hl : lv_has ls 6 [(0, .ref x0), (1, .int k), (2, .long b), (4, .ref qo)] := hl
  obtain ⟨hDo, hDw, hap⟩ := sg_Dt hD
  obtain ⟨hPo, hPw⟩ := sg_cons.mp hP
  refine lv_aload hx hb kd_L_argument_0 (lv_at hl 3 rfl) ?_
  refine lv_iconst (v := 0) hx hb kd_L_argument_2 (by decide) ?_
  refine lv_aload_n hx hb kd_L_argument_3 rfl (lv_at hl 0 rfl) ?_
  refine lv_iload_n hx hb kd_L_argument_4 rfl (lv_at hl 1 rfl) ?_
  refine lv_lload_n hx hb kd_L_argument_5 rfl (lv_at hl 2 rfl) ?_
  refine sg_call (va_runV (As := [.int k, .long b]) (rest := [.int 0, .ref qo]) ⟨hx, hb, hml, hown, hts⟩ (hM _) (cwV 2 hts (goodIn_sub (hx_m5 km_352 km_353 km_354 km_1 km_355) (by decide +kernel)) rfl hrm.2.2.1 hrm.2.2.2 (by decide +kernel) ⟨show rm.frames + 1 ≤ 7 by omega, show 8 + (4 + 11) + rm.locals ≤ 200 by omega⟩) (sg_V (hC.S hS) hPw hDw hS hA (ci := 0) rfl h0) rfl rfl hl.1 rfl (lv_room (Nat.le_of_ble_eq_true rfl)) kd_L_argument_6 ⟨Nat.le_of_ble_eq_true rfl, Nat.le_of_ble_eq_true rfl⟩) hDw hS hA hw hap.symm hPo (fun H locs hPw hDw hPo hS => ?_)
  refine lv_i2l hx hb kd_L_argument_9 rfl ?_
  have hP := sg_cons.mpr ⟨hPo, hPw⟩
  have hD := sg_Dc hDo hDw (hap.new rfl hw)
  refine hx_last (j := 0) hx hb hK hP hD hS 0 rfl rfl (by decide) (by decide) kd_L_argument_10 (fun H locs hP hD hS => ?_)
  refine lv_goto (tgt := 22) hx hb kd_L_argument_11 (by decide) ?_
  refine lv_iconst (v := 0) hx hb kd_L_argument_22 (by decide) ?_
  refine W.widen (k := 1) (n := 6) (by decide) (by decide) ?_
  exact hx_iretW hx hb hr hlocks rfl hP hS kd_L_argument_23

set_option maxHeartbeats 4000000 in
set_option maxRecDepth 100000 in
theorem ml_argument_1 {l : Launch} {D : va_G} {cI cL cZ : ClassId} {tb x0 qo : Nat} {w w1 : va_W} {fs : List Value} {ov : Nat → Int64} (k : Int32) (b : Int64)  {rm : Room} (h0 : w[0]? = some (x0, .inr (0, fs))) (hw : w1.map (fun q => q.1) = w.map (fun q => q.1)) (hrm : rm.frames ≤ 6 ∧ rm.locals ≤ 150 ∧ rm.cells = 1 ∧ rm.slots = 6) (hM : ∀ sz, xt_M l ky_B_argument kw_B_argument rm (pw_P D cI cL cZ tb w sz [.ref x0, .int k, .long b]) D "java/lang/IllegalArgumentException" w1 (va_A w sz)) (sz : Nat) : Met l ky_L_argument kw_L_argument { frames := 7, cells := 1, slots := 6, locals := 200 } (lp_P D cI cL cZ tb ((qo, .inl (cL, 1, .inr (.inl ov))) :: w) sz [.ref x0, .int k, .long b, .ref qo]) (hx_QW D (some (.int 1)) ((qo, .inl (cL, 1, .inr (.inl ov))) :: w1) (va_A ((qo, .inl (cL, 1, .inr (.inl ov))) :: w) sz)) 1 6 (va_A ((qo, .inl (cL, 1, .inr (.inl ov))) :: w) sz) := by
  refine va_MetW (cc := kc_L_argument) (maxL := 6) (ret := (some .int)) (by decide) rfl ?_
  intro p e s m args below meth c s₁ B hml hv
  obtain ⟨rfl, ⟨hsz, hC, hP, hD0⟩, hN⟩ := hv
  have hx := B.exec
  have hb := B.bytes
  have hr := B.returns
  have hlocks := B.notSynchronized
  have hown : s.vm.findClass "HostBridgeLaw" = some m.cls := findClass_of_methodNamed B.named
  subst hsz
  have hD := hD0.self (sz := s.heap.size)
  generalize hAe : va_A ((qo, .inl (cL, 1, .inr (.inl ov))) :: w) s.heap.size = A at hD hC ⊢
  have hA : ∀ q : Nat, s.heap.size ≤ q → A q := fun q h => by rw [← hAe]; exact Or.inr h
  have hS : va_S A s.heap s.heap [] := va_S.rf
  have hK := hC.K
  have hts := hC.ts [.ref x0, .int k, .long b, .ref qo].toArray
  have hl := lv_entry ([.ref x0, .int k, .long b, .ref qo]) (n := 6) (Nat.le_of_ble_eq_true rfl)
  rw [lg_entry_eq]
  generalize (lg_sl ([.ref x0, .int k, .long b, .ref qo]) ++ List.replicate (6 - (lg_sl ([.ref x0, .int k, .long b, .ref qo])).length) Slot.unset).toArray = ls at hl ⊢
  have hl : lv_has ls 6 [(0, .ref x0), (1, .int k), (2, .long b), (4, .ref qo)] := hl
  obtain ⟨hDo, hDw, hap⟩ := sg_Dt hD
  obtain ⟨hPo, hPw⟩ := sg_cons.mp hP
  refine lv_aload hx hb kd_L_argument_0 (lv_at hl 3 rfl) ?_
  refine lv_iconst (v := 0) hx hb kd_L_argument_2 (by decide) ?_
  refine lv_aload_n hx hb kd_L_argument_3 rfl (lv_at hl 0 rfl) ?_
  refine lv_iload_n hx hb kd_L_argument_4 rfl (lv_at hl 1 rfl) ?_
  refine lv_lload_n hx hb kd_L_argument_5 rfl (lv_at hl 2 rfl) ?_
  refine sg_callX (vx_runV (As := [.int k, .long b]) (rest := [.int 0, .ref qo]) ⟨hx, hb, hml, hown, hts⟩ (hM _) (cwV 2 hts (goodIn_sub (hx_m5 km_352 km_353 km_354 km_1 km_355) (by decide +kernel)) rfl hrm.2.2.1 hrm.2.2.2 (by decide +kernel) ⟨show rm.frames + 1 ≤ 7 by omega, show 8 + (4 + 11) + rm.locals ≤ 200 by omega⟩) (sg_V (hC.S hS) hPw hDw hS hA (ci := 0) rfl h0) rfl rfl hl.1 rfl (lv_room (Nat.le_of_ble_eq_true rfl)) kd_L_argument_6 ⟨Nat.le_of_ble_eq_true rfl, Nat.le_of_ble_eq_true rfl⟩) hDw hS hA hw hap.symm hPo (fun q9 ce H locs hPw hDw hPo hS hce hcv hcl => ?_)
  have htab : c.exceptionTable.toList = tableOf [(0, 11, 14, 13), (0, 11, 18, 15)] := vx_table (x := ky_L_argument) B (atoms_spec (ws := kw_L_argument) B.pre _ List.mem_cons_self)
  refine vx_catch (own := "HostBridgeLaw") (name := "java/lang/IllegalArgumentException") hown [] ⟨0, 11, 14, 13⟩ [⟨0, 11, 18, 15⟩] (htab.trans rfl) (fun z hz => absurd hz List.not_mem_nil) rfl (by decide) (hts _ km_198) (hts _ km_210) hce hcv hcl ?_
  refine lv_astore (lv' := [(5, .ref q9), (0, .ref x0), (1, .int k), (2, .long b), (4, .ref qo)]) hx hb kd_L_argument_14 hl (by decide) rfl (fun ls hl => ?_)
  refine lv_iconst (v := 1) hx hb kd_L_argument_16 (by decide) ?_
  exact hx_iretW hx hb hr hlocks rfl (sg_cons.mpr ⟨hPo, hPw⟩) hS kd_L_argument_17

set_option maxHeartbeats 4000000 in
set_option maxRecDepth 100000 in
theorem ml_argument_2 {l : Launch} {D : va_G} {cI cL cZ : ClassId} {tb x0 qo : Nat} {w w1 : va_W} {fs : List Value} {ov : Nat → Int64} (k : Int32) (b : Int64)  {rm : Room} (h0 : w[0]? = some (x0, .inr (0, fs))) (hw : w1.map (fun q => q.1) = w.map (fun q => q.1)) (hrm : rm.frames ≤ 6 ∧ rm.locals ≤ 150 ∧ rm.cells = 1 ∧ rm.slots = 6) (hM : ∀ sz, xt_M l ky_B_argument kw_B_argument rm (pw_P D cI cL cZ tb w sz [.ref x0, .int k, .long b]) D "java/lang/IllegalStateException" w1 (va_A w sz)) (sz : Nat) : Met l ky_L_argument kw_L_argument { frames := 7, cells := 1, slots := 6, locals := 200 } (lp_P D cI cL cZ tb ((qo, .inl (cL, 1, .inr (.inl ov))) :: w) sz [.ref x0, .int k, .long b, .ref qo]) (hx_QW D (some (.int 2)) ((qo, .inl (cL, 1, .inr (.inl ov))) :: w1) (va_A ((qo, .inl (cL, 1, .inr (.inl ov))) :: w) sz)) 1 6 (va_A ((qo, .inl (cL, 1, .inr (.inl ov))) :: w) sz) := by
  refine va_MetW (cc := kc_L_argument) (maxL := 6) (ret := (some .int)) (by decide) rfl ?_
  intro p e s m args below meth c s₁ B hml hv
  obtain ⟨rfl, ⟨hsz, hC, hP, hD0⟩, hN⟩ := hv
  have hx := B.exec
  have hb := B.bytes
  have hr := B.returns
  have hlocks := B.notSynchronized
  have hown : s.vm.findClass "HostBridgeLaw" = some m.cls := findClass_of_methodNamed B.named
  subst hsz
  have hD := hD0.self (sz := s.heap.size)
  generalize hAe : va_A ((qo, .inl (cL, 1, .inr (.inl ov))) :: w) s.heap.size = A at hD hC ⊢
  have hA : ∀ q : Nat, s.heap.size ≤ q → A q := fun q h => by rw [← hAe]; exact Or.inr h
  have hS : va_S A s.heap s.heap [] := va_S.rf
  have hK := hC.K
  have hts := hC.ts [.ref x0, .int k, .long b, .ref qo].toArray
  have hl := lv_entry ([.ref x0, .int k, .long b, .ref qo]) (n := 6) (Nat.le_of_ble_eq_true rfl)
  rw [lg_entry_eq]
  generalize (lg_sl ([.ref x0, .int k, .long b, .ref qo]) ++ List.replicate (6 - (lg_sl ([.ref x0, .int k, .long b, .ref qo])).length) Slot.unset).toArray = ls at hl ⊢
  have hl : lv_has ls 6 [(0, .ref x0), (1, .int k), (2, .long b), (4, .ref qo)] := hl
  obtain ⟨hDo, hDw, hap⟩ := sg_Dt hD
  obtain ⟨hPo, hPw⟩ := sg_cons.mp hP
  refine lv_aload hx hb kd_L_argument_0 (lv_at hl 3 rfl) ?_
  refine lv_iconst (v := 0) hx hb kd_L_argument_2 (by decide) ?_
  refine lv_aload_n hx hb kd_L_argument_3 rfl (lv_at hl 0 rfl) ?_
  refine lv_iload_n hx hb kd_L_argument_4 rfl (lv_at hl 1 rfl) ?_
  refine lv_lload_n hx hb kd_L_argument_5 rfl (lv_at hl 2 rfl) ?_
  refine sg_callX (vx_runV (As := [.int k, .long b]) (rest := [.int 0, .ref qo]) ⟨hx, hb, hml, hown, hts⟩ (hM _) (cwV 2 hts (goodIn_sub (hx_m5 km_352 km_353 km_354 km_1 km_355) (by decide +kernel)) rfl hrm.2.2.1 hrm.2.2.2 (by decide +kernel) ⟨show rm.frames + 1 ≤ 7 by omega, show 8 + (4 + 11) + rm.locals ≤ 200 by omega⟩) (sg_V (hC.S hS) hPw hDw hS hA (ci := 0) rfl h0) rfl rfl hl.1 rfl (lv_room (Nat.le_of_ble_eq_true rfl)) kd_L_argument_6 ⟨Nat.le_of_ble_eq_true rfl, Nat.le_of_ble_eq_true rfl⟩) hDw hS hA hw hap.symm hPo (fun q9 ce H locs hPw hDw hPo hS hce hcv hcl => ?_)
  have htab : c.exceptionTable.toList = tableOf [(0, 11, 14, 13), (0, 11, 18, 15)] := vx_table (x := ky_L_argument) B (atoms_spec (ws := kw_L_argument) B.pre _ List.mem_cons_self)
  refine vx_catch (own := "HostBridgeLaw") (name := "java/lang/IllegalStateException") hown [⟨0, 11, 14, 13⟩] ⟨0, 11, 18, 15⟩ [] (htab.trans rfl) (fun z hz => by rw [List.mem_singleton.mp hz]; exact Or.inr ⟨by decide, "java/lang/IllegalArgumentException", hts _ km_198, hN.1⟩) rfl (by decide) (hts _ km_199) (hts _ km_279) hce hcv hcl ?_
  refine lv_astore (lv' := [(5, .ref q9), (0, .ref x0), (1, .int k), (2, .long b), (4, .ref qo)]) hx hb kd_L_argument_18 hl (by decide) rfl (fun ls hl => ?_)
  refine lv_iconst (v := 2) hx hb kd_L_argument_20 (by decide) ?_
  exact hx_iretW hx hb hr hlocks rfl (sg_cons.mpr ⟨hPo, hPw⟩) hS kd_L_argument_21

set_option maxHeartbeats 4000000 in
set_option maxRecDepth 100000 in
theorem ml_weight_0 {l : Launch} {D : va_G} {cI cL cZ : ClassId} {tb x0 qo : Nat} {w w1 : va_W} {fs : List Value} {ov : Nat → Int64} (i : Int32) (t : Int32) {rr : Int32} {rm : Room} (h0 : w[0]? = some (x0, .inr (0, fs))) (hw : w1.map (fun q => q.1) = w.map (fun q => q.1)) (hrm : rm.frames ≤ 6 ∧ rm.locals ≤ 150 ∧ rm.cells = 0 ∧ rm.slots = 0) (hM : ∀ sz, Met l ky_B_weight kw_B_weight rm (pw_P D cI cL cZ tb w sz [.ref x0, .int i, .int t]) (hx_QW D (some (.int rr)) w1 (va_A w sz)) 0 0 (va_A w sz)) (sz : Nat) : Met l ky_L_weight kw_L_weight { frames := 7, cells := 1, slots := 6, locals := 200 } (lp_P D cI cL cZ tb ((qo, .inl (cL, 1, .inr (.inl ov))) :: w) sz [.ref x0, .int i, .int t, .ref qo]) (hx_QW D (some (.int 0)) ((qo, .inl (cL, 1, .inr (.inl (vp_updL ov 0 rr.toInt64)))) :: w1) (va_A ((qo, .inl (cL, 1, .inr (.inl ov))) :: w) sz)) 1 6 (va_A ((qo, .inl (cL, 1, .inr (.inl ov))) :: w) sz) := by
  refine va_MetW (cc := kc_L_weight) (maxL := 5) (ret := (some .int)) (by decide) rfl ?_
  intro p e s m args below meth c s₁ B hml hv
  obtain ⟨rfl, ⟨hsz, hC, hP, hD0⟩, hN⟩ := hv
  have hx := B.exec
  have hb := B.bytes
  have hr := B.returns
  have hlocks := B.notSynchronized
  have hown : s.vm.findClass "HostBridgeLaw" = some m.cls := findClass_of_methodNamed B.named
  subst hsz
  have hD := hD0.self (sz := s.heap.size)
  generalize hAe : va_A ((qo, .inl (cL, 1, .inr (.inl ov))) :: w) s.heap.size = A at hD hC ⊢
  have hA : ∀ q : Nat, s.heap.size ≤ q → A q := fun q h => by rw [← hAe]; exact Or.inr h
  have hS : va_S A s.heap s.heap [] := va_S.rf
  have hK := hC.K
  have hts := hC.ts [.ref x0, .int i, .int t, .ref qo].toArray
  have hl := lv_entry ([.ref x0, .int i, .int t, .ref qo]) (n := 5) (Nat.le_of_ble_eq_true rfl)
  rw [lg_entry_eq]
  generalize (lg_sl ([.ref x0, .int i, .int t, .ref qo]) ++ List.replicate (5 - (lg_sl ([.ref x0, .int i, .int t, .ref qo])).length) Slot.unset).toArray = ls at hl ⊢
  have hl : lv_has ls 5 [(0, .ref x0), (1, .int i), (2, .int t), (3, .ref qo)] := hl
  obtain ⟨hDo, hDw, hap⟩ := sg_Dt hD
  obtain ⟨hPo, hPw⟩ := sg_cons.mp hP
  refine lv_aload_n hx hb kd_L_weight_0 rfl (lv_at hl 3 rfl) ?_
  refine lv_iconst (v := 0) hx hb kd_L_weight_1 (by decide) ?_
  refine lv_aload_n hx hb kd_L_weight_2 rfl (lv_at hl 0 rfl) ?_
  refine lv_iload_n hx hb kd_L_weight_3 rfl (lv_at hl 1 rfl) ?_
  refine lv_iload_n hx hb kd_L_weight_4 rfl (lv_at hl 2 rfl) ?_
  refine sg_call (va_runV (As := [.int i, .int t]) (rest := [.int 0, .ref qo]) ⟨hx, hb, hml, hown, hts⟩ (hM _) (cwV 2 hts (goodIn_sub (hx_m5 km_399 km_400 km_401 km_1 km_402) (by decide +kernel)) rfl hrm.2.2.1 hrm.2.2.2 (by decide +kernel) ⟨show rm.frames + 1 ≤ 7 by omega, show 8 + (3 + 11) + rm.locals ≤ 200 by omega⟩) (sg_V (hC.S hS) hPw hDw hS hA (ci := 0) rfl h0) rfl rfl hl.1 rfl (lv_room (Nat.le_of_ble_eq_true rfl)) kd_L_weight_5 ⟨Nat.le_of_ble_eq_true rfl, Nat.le_of_ble_eq_true rfl⟩) hDw hS hA hw hap.symm hPo (fun H locs hPw hDw hPo hS => ?_)
  refine lv_i2l hx hb kd_L_weight_8 rfl ?_
  have hP := sg_cons.mpr ⟨hPo, hPw⟩
  have hD := sg_Dc hDo hDw (hap.new rfl hw)
  refine hx_last (j := 0) hx hb hK hP hD hS 0 rfl rfl (by decide) (by decide) kd_L_weight_9 (fun H locs hP hD hS => ?_)
  refine lv_goto (tgt := 17) hx hb kd_L_weight_10 (by decide) ?_
  refine lv_iconst (v := 0) hx hb kd_L_weight_17 (by decide) ?_
  refine W.widen (k := 1) (n := 6) (by decide) (by decide) ?_
  exact hx_iretW hx hb hr hlocks rfl hP hS kd_L_weight_18

set_option maxHeartbeats 4000000 in
set_option maxRecDepth 100000 in
theorem ml_weight_1 {l : Launch} {D : va_G} {cI cL cZ : ClassId} {tb x0 qo : Nat} {w w1 : va_W} {fs : List Value} {ov : Nat → Int64} (i : Int32) (t : Int32)  {rm : Room} (h0 : w[0]? = some (x0, .inr (0, fs))) (hw : w1.map (fun q => q.1) = w.map (fun q => q.1)) (hrm : rm.frames ≤ 6 ∧ rm.locals ≤ 150 ∧ rm.cells = 1 ∧ rm.slots = 6) (hM : ∀ sz, xt_M l ky_B_weight kw_B_weight rm (pw_P D cI cL cZ tb w sz [.ref x0, .int i, .int t]) D "java/lang/IllegalArgumentException" w1 (va_A w sz)) (sz : Nat) : Met l ky_L_weight kw_L_weight { frames := 7, cells := 1, slots := 6, locals := 200 } (lp_P D cI cL cZ tb ((qo, .inl (cL, 1, .inr (.inl ov))) :: w) sz [.ref x0, .int i, .int t, .ref qo]) (hx_QW D (some (.int 1)) ((qo, .inl (cL, 1, .inr (.inl ov))) :: w1) (va_A ((qo, .inl (cL, 1, .inr (.inl ov))) :: w) sz)) 1 6 (va_A ((qo, .inl (cL, 1, .inr (.inl ov))) :: w) sz) := by
  refine va_MetW (cc := kc_L_weight) (maxL := 5) (ret := (some .int)) (by decide) rfl ?_
  intro p e s m args below meth c s₁ B hml hv
  obtain ⟨rfl, ⟨hsz, hC, hP, hD0⟩, hN⟩ := hv
  have hx := B.exec
  have hb := B.bytes
  have hr := B.returns
  have hlocks := B.notSynchronized
  have hown : s.vm.findClass "HostBridgeLaw" = some m.cls := findClass_of_methodNamed B.named
  subst hsz
  have hD := hD0.self (sz := s.heap.size)
  generalize hAe : va_A ((qo, .inl (cL, 1, .inr (.inl ov))) :: w) s.heap.size = A at hD hC ⊢
  have hA : ∀ q : Nat, s.heap.size ≤ q → A q := fun q h => by rw [← hAe]; exact Or.inr h
  have hS : va_S A s.heap s.heap [] := va_S.rf
  have hK := hC.K
  have hts := hC.ts [.ref x0, .int i, .int t, .ref qo].toArray
  have hl := lv_entry ([.ref x0, .int i, .int t, .ref qo]) (n := 5) (Nat.le_of_ble_eq_true rfl)
  rw [lg_entry_eq]
  generalize (lg_sl ([.ref x0, .int i, .int t, .ref qo]) ++ List.replicate (5 - (lg_sl ([.ref x0, .int i, .int t, .ref qo])).length) Slot.unset).toArray = ls at hl ⊢
  have hl : lv_has ls 5 [(0, .ref x0), (1, .int i), (2, .int t), (3, .ref qo)] := hl
  obtain ⟨hDo, hDw, hap⟩ := sg_Dt hD
  obtain ⟨hPo, hPw⟩ := sg_cons.mp hP
  refine lv_aload_n hx hb kd_L_weight_0 rfl (lv_at hl 3 rfl) ?_
  refine lv_iconst (v := 0) hx hb kd_L_weight_1 (by decide) ?_
  refine lv_aload_n hx hb kd_L_weight_2 rfl (lv_at hl 0 rfl) ?_
  refine lv_iload_n hx hb kd_L_weight_3 rfl (lv_at hl 1 rfl) ?_
  refine lv_iload_n hx hb kd_L_weight_4 rfl (lv_at hl 2 rfl) ?_
  refine sg_callX (vx_runV (As := [.int i, .int t]) (rest := [.int 0, .ref qo]) ⟨hx, hb, hml, hown, hts⟩ (hM _) (cwV 2 hts (goodIn_sub (hx_m5 km_399 km_400 km_401 km_1 km_402) (by decide +kernel)) rfl hrm.2.2.1 hrm.2.2.2 (by decide +kernel) ⟨show rm.frames + 1 ≤ 7 by omega, show 8 + (3 + 11) + rm.locals ≤ 200 by omega⟩) (sg_V (hC.S hS) hPw hDw hS hA (ci := 0) rfl h0) rfl rfl hl.1 rfl (lv_room (Nat.le_of_ble_eq_true rfl)) kd_L_weight_5 ⟨Nat.le_of_ble_eq_true rfl, Nat.le_of_ble_eq_true rfl⟩) hDw hS hA hw hap.symm hPo (fun q9 ce H locs hPw hDw hPo hS hce hcv hcl => ?_)
  have htab : c.exceptionTable.toList = tableOf [(0, 10, 13, 13)] := vx_table (x := ky_L_weight) B (atoms_spec (ws := kw_L_weight) B.pre _ List.mem_cons_self)
  refine vx_catch (own := "HostBridgeLaw") (name := "java/lang/IllegalArgumentException") hown [] ⟨0, 10, 13, 13⟩ [] (htab.trans rfl) (fun z hz => absurd hz List.not_mem_nil) rfl (by decide) (hts _ km_198) (hts _ km_210) hce hcv hcl ?_
  refine lv_astore (lv' := [(4, .ref q9), (0, .ref x0), (1, .int i), (2, .int t), (3, .ref qo)]) hx hb kd_L_weight_13 hl (by decide) rfl (fun ls hl => ?_)
  refine lv_iconst (v := 1) hx hb kd_L_weight_15 (by decide) ?_
  exact hx_iretW hx hb hr hlocks rfl (sg_cons.mpr ⟨hPo, hPw⟩) hS kd_L_weight_16

set_option maxHeartbeats 4000000 in
set_option maxRecDepth 100000 in
theorem ml_call_0 {l : Launch} {D : va_G} {cI cL cZ : ClassId} {tb x0 qo : Nat} {w w1 : va_W} {fs : List Value} {ov : Nat → Int64} (oi : Int32) (n : Int32) {rr : Int32} {rm : Room} (h0 : w[0]? = some (x0, .inr (0, fs))) (hw : w1.map (fun q => q.1) = w.map (fun q => q.1)) (hrm : rm.frames ≤ 6 ∧ rm.locals ≤ 150 ∧ rm.cells = 0 ∧ rm.slots = 0) (hM : ∀ sz, Met l ky_B_call kw_B_call rm (pw_P D cI cL cZ tb w sz [.ref x0, .int oi, .int n]) (hx_QW D (some (.int rr)) w1 (va_A w sz)) 0 0 (va_A w sz)) (sz : Nat) : Met l ky_L_call kw_L_call { frames := 7, cells := 1, slots := 6, locals := 200 } (lp_P D cI cL cZ tb ((qo, .inl (cL, 1, .inr (.inl ov))) :: w) sz [.ref x0, .int oi, .int n, .ref qo]) (hx_QW D (some (.int 0)) ((qo, .inl (cL, 1, .inr (.inl (vp_updL ov 0 rr.toInt64)))) :: w1) (va_A ((qo, .inl (cL, 1, .inr (.inl ov))) :: w) sz)) 1 6 (va_A ((qo, .inl (cL, 1, .inr (.inl ov))) :: w) sz) := by
  refine va_MetW (cc := kc_L_call) (maxL := 5) (ret := (some .int)) (by decide) rfl ?_
  intro p e s m args below meth c s₁ B hml hv
  obtain ⟨rfl, ⟨hsz, hC, hP, hD0⟩, hN⟩ := hv
  have hx := B.exec
  have hb := B.bytes
  have hr := B.returns
  have hlocks := B.notSynchronized
  have hown : s.vm.findClass "HostBridgeLaw" = some m.cls := findClass_of_methodNamed B.named
  subst hsz
  have hD := hD0.self (sz := s.heap.size)
  generalize hAe : va_A ((qo, .inl (cL, 1, .inr (.inl ov))) :: w) s.heap.size = A at hD hC ⊢
  have hA : ∀ q : Nat, s.heap.size ≤ q → A q := fun q h => by rw [← hAe]; exact Or.inr h
  have hS : va_S A s.heap s.heap [] := va_S.rf
  have hK := hC.K
  have hts := hC.ts [.ref x0, .int oi, .int n, .ref qo].toArray
  have hl := lv_entry ([.ref x0, .int oi, .int n, .ref qo]) (n := 5) (Nat.le_of_ble_eq_true rfl)
  rw [lg_entry_eq]
  generalize (lg_sl ([.ref x0, .int oi, .int n, .ref qo]) ++ List.replicate (5 - (lg_sl ([.ref x0, .int oi, .int n, .ref qo])).length) Slot.unset).toArray = ls at hl ⊢
  have hl : lv_has ls 5 [(0, .ref x0), (1, .int oi), (2, .int n), (3, .ref qo)] := hl
  obtain ⟨hDo, hDw, hap⟩ := sg_Dt hD
  obtain ⟨hPo, hPw⟩ := sg_cons.mp hP
  refine lv_aload_n hx hb kd_L_call_0 rfl (lv_at hl 3 rfl) ?_
  refine lv_iconst (v := 0) hx hb kd_L_call_1 (by decide) ?_
  refine lv_aload_n hx hb kd_L_call_2 rfl (lv_at hl 0 rfl) ?_
  refine lv_iload_n hx hb kd_L_call_3 rfl (lv_at hl 1 rfl) ?_
  refine lv_iload_n hx hb kd_L_call_4 rfl (lv_at hl 2 rfl) ?_
  refine sg_call (va_runV (As := [.int oi, .int n]) (rest := [.int 0, .ref qo]) ⟨hx, hb, hml, hown, hts⟩ (hM _) (cwV 2 hts (goodIn_sub (hx_m5 km_418 km_419 km_420 km_1 km_421) (by decide +kernel)) rfl hrm.2.2.1 hrm.2.2.2 (by decide +kernel) ⟨show rm.frames + 1 ≤ 7 by omega, show 8 + (5 + 11) + rm.locals ≤ 200 by omega⟩) (sg_V (hC.S hS) hPw hDw hS hA (ci := 0) rfl h0) rfl rfl hl.1 rfl (lv_room (Nat.le_of_ble_eq_true rfl)) kd_L_call_5 ⟨Nat.le_of_ble_eq_true rfl, Nat.le_of_ble_eq_true rfl⟩) hDw hS hA hw hap.symm hPo (fun H locs hPw hDw hPo hS => ?_)
  refine lv_i2l hx hb kd_L_call_8 rfl ?_
  have hP := sg_cons.mpr ⟨hPo, hPw⟩
  have hD := sg_Dc hDo hDw (hap.new rfl hw)
  refine hx_last (j := 0) hx hb hK hP hD hS 0 rfl rfl (by decide) (by decide) kd_L_call_9 (fun H locs hP hD hS => ?_)
  refine lv_goto (tgt := 25) hx hb kd_L_call_10 (by decide) ?_
  refine lv_iconst (v := 0) hx hb kd_L_call_25 (by decide) ?_
  refine W.widen (k := 1) (n := 6) (by decide) (by decide) ?_
  exact hx_iretW hx hb hr hlocks rfl hP hS kd_L_call_26

set_option maxHeartbeats 4000000 in
set_option maxRecDepth 100000 in
theorem ml_call_1 {l : Launch} {D : va_G} {cI cL cZ : ClassId} {tb x0 qo : Nat} {w w1 : va_W} {fs : List Value} {ov : Nat → Int64} (oi : Int32) (n : Int32)  {rm : Room} (h0 : w[0]? = some (x0, .inr (0, fs))) (hw : w1.map (fun q => q.1) = w.map (fun q => q.1)) (hrm : rm.frames ≤ 6 ∧ rm.locals ≤ 150 ∧ rm.cells = 1 ∧ rm.slots = 6) (hM : ∀ sz, xt_M l ky_B_call kw_B_call rm (pw_P D cI cL cZ tb w sz [.ref x0, .int oi, .int n]) D "java/lang/IllegalArgumentException" w1 (va_A w sz)) (sz : Nat) : Met l ky_L_call kw_L_call { frames := 7, cells := 1, slots := 6, locals := 200 } (lp_P D cI cL cZ tb ((qo, .inl (cL, 1, .inr (.inl ov))) :: w) sz [.ref x0, .int oi, .int n, .ref qo]) (hx_QW D (some (.int 1)) ((qo, .inl (cL, 1, .inr (.inl ov))) :: w1) (va_A ((qo, .inl (cL, 1, .inr (.inl ov))) :: w) sz)) 1 6 (va_A ((qo, .inl (cL, 1, .inr (.inl ov))) :: w) sz) := by
  refine va_MetW (cc := kc_L_call) (maxL := 5) (ret := (some .int)) (by decide) rfl ?_
  intro p e s m args below meth c s₁ B hml hv
  obtain ⟨rfl, ⟨hsz, hC, hP, hD0⟩, hN⟩ := hv
  have hx := B.exec
  have hb := B.bytes
  have hr := B.returns
  have hlocks := B.notSynchronized
  have hown : s.vm.findClass "HostBridgeLaw" = some m.cls := findClass_of_methodNamed B.named
  subst hsz
  have hD := hD0.self (sz := s.heap.size)
  generalize hAe : va_A ((qo, .inl (cL, 1, .inr (.inl ov))) :: w) s.heap.size = A at hD hC ⊢
  have hA : ∀ q : Nat, s.heap.size ≤ q → A q := fun q h => by rw [← hAe]; exact Or.inr h
  have hS : va_S A s.heap s.heap [] := va_S.rf
  have hK := hC.K
  have hts := hC.ts [.ref x0, .int oi, .int n, .ref qo].toArray
  have hl := lv_entry ([.ref x0, .int oi, .int n, .ref qo]) (n := 5) (Nat.le_of_ble_eq_true rfl)
  rw [lg_entry_eq]
  generalize (lg_sl ([.ref x0, .int oi, .int n, .ref qo]) ++ List.replicate (5 - (lg_sl ([.ref x0, .int oi, .int n, .ref qo])).length) Slot.unset).toArray = ls at hl ⊢
  have hl : lv_has ls 5 [(0, .ref x0), (1, .int oi), (2, .int n), (3, .ref qo)] := hl
  obtain ⟨hDo, hDw, hap⟩ := sg_Dt hD
  obtain ⟨hPo, hPw⟩ := sg_cons.mp hP
  refine lv_aload_n hx hb kd_L_call_0 rfl (lv_at hl 3 rfl) ?_
  refine lv_iconst (v := 0) hx hb kd_L_call_1 (by decide) ?_
  refine lv_aload_n hx hb kd_L_call_2 rfl (lv_at hl 0 rfl) ?_
  refine lv_iload_n hx hb kd_L_call_3 rfl (lv_at hl 1 rfl) ?_
  refine lv_iload_n hx hb kd_L_call_4 rfl (lv_at hl 2 rfl) ?_
  refine sg_callX (vx_runV (As := [.int oi, .int n]) (rest := [.int 0, .ref qo]) ⟨hx, hb, hml, hown, hts⟩ (hM _) (cwV 2 hts (goodIn_sub (hx_m5 km_418 km_419 km_420 km_1 km_421) (by decide +kernel)) rfl hrm.2.2.1 hrm.2.2.2 (by decide +kernel) ⟨show rm.frames + 1 ≤ 7 by omega, show 8 + (5 + 11) + rm.locals ≤ 200 by omega⟩) (sg_V (hC.S hS) hPw hDw hS hA (ci := 0) rfl h0) rfl rfl hl.1 rfl (lv_room (Nat.le_of_ble_eq_true rfl)) kd_L_call_5 ⟨Nat.le_of_ble_eq_true rfl, Nat.le_of_ble_eq_true rfl⟩) hDw hS hA hw hap.symm hPo (fun q9 ce H locs hPw hDw hPo hS hce hcv hcl => ?_)
  have htab : c.exceptionTable.toList = tableOf [(0, 10, 13, 13), (0, 10, 17, 35), (0, 10, 21, 15)] := vx_table (x := ky_L_call) B (atoms_spec (ws := kw_L_call) B.pre _ List.mem_cons_self)
  refine vx_catch (own := "HostBridgeLaw") (name := "java/lang/IllegalArgumentException") hown [] ⟨0, 10, 13, 13⟩ [⟨0, 10, 17, 35⟩, ⟨0, 10, 21, 15⟩] (htab.trans rfl) (fun z hz => absurd hz List.not_mem_nil) rfl (by decide) (hts _ km_198) (hts _ km_210) hce hcv hcl ?_
  refine lv_astore (lv' := [(4, .ref q9), (0, .ref x0), (1, .int oi), (2, .int n), (3, .ref qo)]) hx hb kd_L_call_13 hl (by decide) rfl (fun ls hl => ?_)
  refine lv_iconst (v := 1) hx hb kd_L_call_15 (by decide) ?_
  exact hx_iretW hx hb hr hlocks rfl (sg_cons.mpr ⟨hPo, hPw⟩) hS kd_L_call_16

set_option maxHeartbeats 4000000 in
set_option maxRecDepth 100000 in
theorem ml_call_2 {l : Launch} {D : va_G} {cI cL cZ : ClassId} {tb x0 qo : Nat} {w w1 : va_W} {fs : List Value} {ov : Nat → Int64} (oi : Int32) (n : Int32)  {rm : Room} (h0 : w[0]? = some (x0, .inr (0, fs))) (hw : w1.map (fun q => q.1) = w.map (fun q => q.1)) (hrm : rm.frames ≤ 6 ∧ rm.locals ≤ 150 ∧ rm.cells = 1 ∧ rm.slots = 6) (hM : ∀ sz, xt_M l ky_B_call kw_B_call rm (pw_P D cI cL cZ tb w sz [.ref x0, .int oi, .int n]) D "java/util/NoSuchElementException" w1 (va_A w sz)) (sz : Nat) : Met l ky_L_call kw_L_call { frames := 7, cells := 1, slots := 6, locals := 200 } (lp_P D cI cL cZ tb ((qo, .inl (cL, 1, .inr (.inl ov))) :: w) sz [.ref x0, .int oi, .int n, .ref qo]) (hx_QW D (some (.int 2)) ((qo, .inl (cL, 1, .inr (.inl ov))) :: w1) (va_A ((qo, .inl (cL, 1, .inr (.inl ov))) :: w) sz)) 1 6 (va_A ((qo, .inl (cL, 1, .inr (.inl ov))) :: w) sz) := by
  refine va_MetW (cc := kc_L_call) (maxL := 5) (ret := (some .int)) (by decide) rfl ?_
  intro p e s m args below meth c s₁ B hml hv
  obtain ⟨rfl, ⟨hsz, hC, hP, hD0⟩, hN⟩ := hv
  have hx := B.exec
  have hb := B.bytes
  have hr := B.returns
  have hlocks := B.notSynchronized
  have hown : s.vm.findClass "HostBridgeLaw" = some m.cls := findClass_of_methodNamed B.named
  subst hsz
  have hD := hD0.self (sz := s.heap.size)
  generalize hAe : va_A ((qo, .inl (cL, 1, .inr (.inl ov))) :: w) s.heap.size = A at hD hC ⊢
  have hA : ∀ q : Nat, s.heap.size ≤ q → A q := fun q h => by rw [← hAe]; exact Or.inr h
  have hS : va_S A s.heap s.heap [] := va_S.rf
  have hK := hC.K
  have hts := hC.ts [.ref x0, .int oi, .int n, .ref qo].toArray
  have hl := lv_entry ([.ref x0, .int oi, .int n, .ref qo]) (n := 5) (Nat.le_of_ble_eq_true rfl)
  rw [lg_entry_eq]
  generalize (lg_sl ([.ref x0, .int oi, .int n, .ref qo]) ++ List.replicate (5 - (lg_sl ([.ref x0, .int oi, .int n, .ref qo])).length) Slot.unset).toArray = ls at hl ⊢
  have hl : lv_has ls 5 [(0, .ref x0), (1, .int oi), (2, .int n), (3, .ref qo)] := hl
  obtain ⟨hDo, hDw, hap⟩ := sg_Dt hD
  obtain ⟨hPo, hPw⟩ := sg_cons.mp hP
  refine lv_aload_n hx hb kd_L_call_0 rfl (lv_at hl 3 rfl) ?_
  refine lv_iconst (v := 0) hx hb kd_L_call_1 (by decide) ?_
  refine lv_aload_n hx hb kd_L_call_2 rfl (lv_at hl 0 rfl) ?_
  refine lv_iload_n hx hb kd_L_call_3 rfl (lv_at hl 1 rfl) ?_
  refine lv_iload_n hx hb kd_L_call_4 rfl (lv_at hl 2 rfl) ?_
  refine sg_callX (vx_runV (As := [.int oi, .int n]) (rest := [.int 0, .ref qo]) ⟨hx, hb, hml, hown, hts⟩ (hM _) (cwV 2 hts (goodIn_sub (hx_m5 km_418 km_419 km_420 km_1 km_421) (by decide +kernel)) rfl hrm.2.2.1 hrm.2.2.2 (by decide +kernel) ⟨show rm.frames + 1 ≤ 7 by omega, show 8 + (5 + 11) + rm.locals ≤ 200 by omega⟩) (sg_V (hC.S hS) hPw hDw hS hA (ci := 0) rfl h0) rfl rfl hl.1 rfl (lv_room (Nat.le_of_ble_eq_true rfl)) kd_L_call_5 ⟨Nat.le_of_ble_eq_true rfl, Nat.le_of_ble_eq_true rfl⟩) hDw hS hA hw hap.symm hPo (fun q9 ce H locs hPw hDw hPo hS hce hcv hcl => ?_)
  have htab : c.exceptionTable.toList = tableOf [(0, 10, 13, 13), (0, 10, 17, 35), (0, 10, 21, 15)] := vx_table (x := ky_L_call) B (atoms_spec (ws := kw_L_call) B.pre _ List.mem_cons_self)
  refine vx_catch (own := "HostBridgeLaw") (name := "java/util/NoSuchElementException") hown [⟨0, 10, 13, 13⟩] ⟨0, 10, 17, 35⟩ [⟨0, 10, 21, 15⟩] (htab.trans rfl) (fun z hz => by rw [List.mem_singleton.mp hz]; exact Or.inr ⟨by decide, "java/lang/IllegalArgumentException", hts _ km_198, hN.2.1⟩) rfl (by decide) (hts _ km_417) (hts _ km_452) hce hcv hcl ?_
  refine lv_astore (lv' := [(4, .ref q9), (0, .ref x0), (1, .int oi), (2, .int n), (3, .ref qo)]) hx hb kd_L_call_17 hl (by decide) rfl (fun ls hl => ?_)
  refine lv_iconst (v := 2) hx hb kd_L_call_19 (by decide) ?_
  exact hx_iretW hx hb hr hlocks rfl (sg_cons.mpr ⟨hPo, hPw⟩) hS kd_L_call_20

set_option maxHeartbeats 4000000 in
set_option maxRecDepth 100000 in
theorem ml_call_3 {l : Launch} {D : va_G} {cI cL cZ : ClassId} {tb x0 qo : Nat} {w w1 : va_W} {fs : List Value} {ov : Nat → Int64} (oi : Int32) (n : Int32)  {rm : Room} (h0 : w[0]? = some (x0, .inr (0, fs))) (hw : w1.map (fun q => q.1) = w.map (fun q => q.1)) (hrm : rm.frames ≤ 6 ∧ rm.locals ≤ 150 ∧ rm.cells = 1 ∧ rm.slots = 6) (hM : ∀ sz, xt_M l ky_B_call kw_B_call rm (pw_P D cI cL cZ tb w sz [.ref x0, .int oi, .int n]) D "java/lang/IllegalStateException" w1 (va_A w sz)) (sz : Nat) : Met l ky_L_call kw_L_call { frames := 7, cells := 1, slots := 6, locals := 200 } (lp_P D cI cL cZ tb ((qo, .inl (cL, 1, .inr (.inl ov))) :: w) sz [.ref x0, .int oi, .int n, .ref qo]) (hx_QW D (some (.int 3)) ((qo, .inl (cL, 1, .inr (.inl ov))) :: w1) (va_A ((qo, .inl (cL, 1, .inr (.inl ov))) :: w) sz)) 1 6 (va_A ((qo, .inl (cL, 1, .inr (.inl ov))) :: w) sz) := by
  refine va_MetW (cc := kc_L_call) (maxL := 5) (ret := (some .int)) (by decide) rfl ?_
  intro p e s m args below meth c s₁ B hml hv
  obtain ⟨rfl, ⟨hsz, hC, hP, hD0⟩, hN⟩ := hv
  have hx := B.exec
  have hb := B.bytes
  have hr := B.returns
  have hlocks := B.notSynchronized
  have hown : s.vm.findClass "HostBridgeLaw" = some m.cls := findClass_of_methodNamed B.named
  subst hsz
  have hD := hD0.self (sz := s.heap.size)
  generalize hAe : va_A ((qo, .inl (cL, 1, .inr (.inl ov))) :: w) s.heap.size = A at hD hC ⊢
  have hA : ∀ q : Nat, s.heap.size ≤ q → A q := fun q h => by rw [← hAe]; exact Or.inr h
  have hS : va_S A s.heap s.heap [] := va_S.rf
  have hK := hC.K
  have hts := hC.ts [.ref x0, .int oi, .int n, .ref qo].toArray
  have hl := lv_entry ([.ref x0, .int oi, .int n, .ref qo]) (n := 5) (Nat.le_of_ble_eq_true rfl)
  rw [lg_entry_eq]
  generalize (lg_sl ([.ref x0, .int oi, .int n, .ref qo]) ++ List.replicate (5 - (lg_sl ([.ref x0, .int oi, .int n, .ref qo])).length) Slot.unset).toArray = ls at hl ⊢
  have hl : lv_has ls 5 [(0, .ref x0), (1, .int oi), (2, .int n), (3, .ref qo)] := hl
  obtain ⟨hDo, hDw, hap⟩ := sg_Dt hD
  obtain ⟨hPo, hPw⟩ := sg_cons.mp hP
  refine lv_aload_n hx hb kd_L_call_0 rfl (lv_at hl 3 rfl) ?_
  refine lv_iconst (v := 0) hx hb kd_L_call_1 (by decide) ?_
  refine lv_aload_n hx hb kd_L_call_2 rfl (lv_at hl 0 rfl) ?_
  refine lv_iload_n hx hb kd_L_call_3 rfl (lv_at hl 1 rfl) ?_
  refine lv_iload_n hx hb kd_L_call_4 rfl (lv_at hl 2 rfl) ?_
  refine sg_callX (vx_runV (As := [.int oi, .int n]) (rest := [.int 0, .ref qo]) ⟨hx, hb, hml, hown, hts⟩ (hM _) (cwV 2 hts (goodIn_sub (hx_m5 km_418 km_419 km_420 km_1 km_421) (by decide +kernel)) rfl hrm.2.2.1 hrm.2.2.2 (by decide +kernel) ⟨show rm.frames + 1 ≤ 7 by omega, show 8 + (5 + 11) + rm.locals ≤ 200 by omega⟩) (sg_V (hC.S hS) hPw hDw hS hA (ci := 0) rfl h0) rfl rfl hl.1 rfl (lv_room (Nat.le_of_ble_eq_true rfl)) kd_L_call_5 ⟨Nat.le_of_ble_eq_true rfl, Nat.le_of_ble_eq_true rfl⟩) hDw hS hA hw hap.symm hPo (fun q9 ce H locs hPw hDw hPo hS hce hcv hcl => ?_)
  have htab : c.exceptionTable.toList = tableOf [(0, 10, 13, 13), (0, 10, 17, 35), (0, 10, 21, 15)] := vx_table (x := ky_L_call) B (atoms_spec (ws := kw_L_call) B.pre _ List.mem_cons_self)
  refine vx_catch (own := "HostBridgeLaw") (name := "java/lang/IllegalStateException") hown [⟨0, 10, 13, 13⟩, ⟨0, 10, 17, 35⟩] ⟨0, 10, 21, 15⟩ [] (htab.trans rfl) (fun z hz => (List.mem_cons.mp hz).elim (fun h9 => by rw [h9]; exact Or.inr ⟨by decide, "java/lang/IllegalArgumentException", hts _ km_198, hN.1⟩) (fun h9 => by rw [List.mem_singleton.mp h9]; exact Or.inr ⟨by decide, "java/util/NoSuchElementException", hts _ km_417, hN.2.2.2⟩)) rfl (by decide) (hts _ km_199) (hts _ km_279) hce hcv hcl ?_
  refine lv_astore (lv' := [(4, .ref q9), (0, .ref x0), (1, .int oi), (2, .int n), (3, .ref qo)]) hx hb kd_L_call_21 hl (by decide) rfl (fun ls hl => ?_)
  refine lv_iconst (v := 3) hx hb kd_L_call_23 (by decide) ?_
  exact hx_iretW hx hb hr hlocks rfl (sg_cons.mpr ⟨hPo, hPw⟩) hS kd_L_call_24

set_option maxHeartbeats 4000000 in
set_option maxRecDepth 100000 in
theorem ml_exact_0 {l : Launch} {D : va_G} {cI cL cZ : ClassId} {tb x0 qo : Nat} {w w1 : va_W} {fs : List Value} {ov : Nat → Int64} (oi : Int32) (n : Int32) (w0 : Int32) {rr : Int32} {rm : Room} (h0 : w[0]? = some (x0, .inr (0, fs))) (hw : w1.map (fun q => q.1) = w.map (fun q => q.1)) (hrm : rm.frames ≤ 6 ∧ rm.locals ≤ 150 ∧ rm.cells = 0 ∧ rm.slots = 0) (hM : ∀ sz, Met l ky_B_exact kw_B_exact rm (pw_P D cI cL cZ tb w sz [.ref x0, .int oi, .int n, .int w0]) (hx_QW D (some (.int rr)) w1 (va_A w sz)) 0 0 (va_A w sz)) (sz : Nat) : Met l ky_L_exact kw_L_exact { frames := 7, cells := 1, slots := 6, locals := 200 } (lp_P D cI cL cZ tb ((qo, .inl (cL, 1, .inr (.inl ov))) :: w) sz [.ref x0, .int oi, .int n, .int w0, .ref qo]) (hx_QW D (some (.int 0)) ((qo, .inl (cL, 1, .inr (.inl (vp_updL ov 0 rr.toInt64)))) :: w1) (va_A ((qo, .inl (cL, 1, .inr (.inl ov))) :: w) sz)) 1 6 (va_A ((qo, .inl (cL, 1, .inr (.inl ov))) :: w) sz) := by
  refine va_MetW (cc := kc_L_exact) (maxL := 6) (ret := (some .int)) (by decide) rfl ?_
  intro p e s m args below meth c s₁ B hml hv
  obtain ⟨rfl, ⟨hsz, hC, hP, hD0⟩, hN⟩ := hv
  have hx := B.exec
  have hb := B.bytes
  have hr := B.returns
  have hlocks := B.notSynchronized
  have hown : s.vm.findClass "HostBridgeLaw" = some m.cls := findClass_of_methodNamed B.named
  subst hsz
  have hD := hD0.self (sz := s.heap.size)
  generalize hAe : va_A ((qo, .inl (cL, 1, .inr (.inl ov))) :: w) s.heap.size = A at hD hC ⊢
  have hA : ∀ q : Nat, s.heap.size ≤ q → A q := fun q h => by rw [← hAe]; exact Or.inr h
  have hS : va_S A s.heap s.heap [] := va_S.rf
  have hK := hC.K
  have hts := hC.ts [.ref x0, .int oi, .int n, .int w0, .ref qo].toArray
  have hl := lv_entry ([.ref x0, .int oi, .int n, .int w0, .ref qo]) (n := 6) (Nat.le_of_ble_eq_true rfl)
  rw [lg_entry_eq]
  generalize (lg_sl ([.ref x0, .int oi, .int n, .int w0, .ref qo]) ++ List.replicate (6 - (lg_sl ([.ref x0, .int oi, .int n, .int w0, .ref qo])).length) Slot.unset).toArray = ls at hl ⊢
  have hl : lv_has ls 6 [(0, .ref x0), (1, .int oi), (2, .int n), (3, .int w0), (4, .ref qo)] := hl
  obtain ⟨hDo, hDw, hap⟩ := sg_Dt hD
  obtain ⟨hPo, hPw⟩ := sg_cons.mp hP
  refine lv_aload hx hb kd_L_exact_0 (lv_at hl 4 rfl) ?_
  refine lv_iconst (v := 0) hx hb kd_L_exact_2 (by decide) ?_
  refine lv_aload_n hx hb kd_L_exact_3 rfl (lv_at hl 0 rfl) ?_
  refine lv_iload_n hx hb kd_L_exact_4 rfl (lv_at hl 1 rfl) ?_
  refine lv_iload_n hx hb kd_L_exact_5 rfl (lv_at hl 2 rfl) ?_
  refine lv_iload_n hx hb kd_L_exact_6 rfl (lv_at hl 3 rfl) ?_
  refine sg_call (va_runV (As := [.int oi, .int n, .int w0]) (rest := [.int 0, .ref qo]) ⟨hx, hb, hml, hown, hts⟩ (hM _) (cwV 3 hts (goodIn_sub (hx_m5 km_531 km_532 km_533 km_1 km_534) (by decide +kernel)) rfl hrm.2.2.1 hrm.2.2.2 (by decide +kernel) ⟨show rm.frames + 1 ≤ 7 by omega, show 8 + (6 + 11) + rm.locals ≤ 200 by omega⟩) (sg_V (hC.S hS) hPw hDw hS hA (ci := 0) rfl h0) rfl rfl hl.1 rfl (lv_room (Nat.le_of_ble_eq_true rfl)) kd_L_exact_7 ⟨Nat.le_of_ble_eq_true rfl, Nat.le_of_ble_eq_true rfl⟩) hDw hS hA hw hap.symm hPo (fun H locs hPw hDw hPo hS => ?_)
  refine lv_i2l hx hb kd_L_exact_10 rfl ?_
  have hP := sg_cons.mpr ⟨hPo, hPw⟩
  have hD := sg_Dc hDo hDw (hap.new rfl hw)
  refine hx_last (j := 0) hx hb hK hP hD hS 0 rfl rfl (by decide) (by decide) kd_L_exact_11 (fun H locs hP hD hS => ?_)
  refine lv_goto (tgt := 23) hx hb kd_L_exact_12 (by decide) ?_
  refine lv_iconst (v := 0) hx hb kd_L_exact_23 (by decide) ?_
  refine W.widen (k := 1) (n := 6) (by decide) (by decide) ?_
  exact hx_iretW hx hb hr hlocks rfl hP hS kd_L_exact_24

set_option maxHeartbeats 4000000 in
set_option maxRecDepth 100000 in
theorem ml_exact_1 {l : Launch} {D : va_G} {cI cL cZ : ClassId} {tb x0 qo : Nat} {w w1 : va_W} {fs : List Value} {ov : Nat → Int64} (oi : Int32) (n : Int32) (w0 : Int32)  {rm : Room} (h0 : w[0]? = some (x0, .inr (0, fs))) (hw : w1.map (fun q => q.1) = w.map (fun q => q.1)) (hrm : rm.frames ≤ 6 ∧ rm.locals ≤ 150 ∧ rm.cells = 1 ∧ rm.slots = 6) (hM : ∀ sz, xt_M l ky_B_exact kw_B_exact rm (pw_P D cI cL cZ tb w sz [.ref x0, .int oi, .int n, .int w0]) D "java/lang/IllegalArgumentException" w1 (va_A w sz)) (sz : Nat) : Met l ky_L_exact kw_L_exact { frames := 7, cells := 1, slots := 6, locals := 200 } (lp_P D cI cL cZ tb ((qo, .inl (cL, 1, .inr (.inl ov))) :: w) sz [.ref x0, .int oi, .int n, .int w0, .ref qo]) (hx_QW D (some (.int 1)) ((qo, .inl (cL, 1, .inr (.inl ov))) :: w1) (va_A ((qo, .inl (cL, 1, .inr (.inl ov))) :: w) sz)) 1 6 (va_A ((qo, .inl (cL, 1, .inr (.inl ov))) :: w) sz) := by
  refine va_MetW (cc := kc_L_exact) (maxL := 6) (ret := (some .int)) (by decide) rfl ?_
  intro p e s m args below meth c s₁ B hml hv
  obtain ⟨rfl, ⟨hsz, hC, hP, hD0⟩, hN⟩ := hv
  have hx := B.exec
  have hb := B.bytes
  have hr := B.returns
  have hlocks := B.notSynchronized
  have hown : s.vm.findClass "HostBridgeLaw" = some m.cls := findClass_of_methodNamed B.named
  subst hsz
  have hD := hD0.self (sz := s.heap.size)
  generalize hAe : va_A ((qo, .inl (cL, 1, .inr (.inl ov))) :: w) s.heap.size = A at hD hC ⊢
  have hA : ∀ q : Nat, s.heap.size ≤ q → A q := fun q h => by rw [← hAe]; exact Or.inr h
  have hS : va_S A s.heap s.heap [] := va_S.rf
  have hK := hC.K
  have hts := hC.ts [.ref x0, .int oi, .int n, .int w0, .ref qo].toArray
  have hl := lv_entry ([.ref x0, .int oi, .int n, .int w0, .ref qo]) (n := 6) (Nat.le_of_ble_eq_true rfl)
  rw [lg_entry_eq]
  generalize (lg_sl ([.ref x0, .int oi, .int n, .int w0, .ref qo]) ++ List.replicate (6 - (lg_sl ([.ref x0, .int oi, .int n, .int w0, .ref qo])).length) Slot.unset).toArray = ls at hl ⊢
  have hl : lv_has ls 6 [(0, .ref x0), (1, .int oi), (2, .int n), (3, .int w0), (4, .ref qo)] := hl
  obtain ⟨hDo, hDw, hap⟩ := sg_Dt hD
  obtain ⟨hPo, hPw⟩ := sg_cons.mp hP
  refine lv_aload hx hb kd_L_exact_0 (lv_at hl 4 rfl) ?_
  refine lv_iconst (v := 0) hx hb kd_L_exact_2 (by decide) ?_
  refine lv_aload_n hx hb kd_L_exact_3 rfl (lv_at hl 0 rfl) ?_
  refine lv_iload_n hx hb kd_L_exact_4 rfl (lv_at hl 1 rfl) ?_
  refine lv_iload_n hx hb kd_L_exact_5 rfl (lv_at hl 2 rfl) ?_
  refine lv_iload_n hx hb kd_L_exact_6 rfl (lv_at hl 3 rfl) ?_
  refine sg_callX (vx_runV (As := [.int oi, .int n, .int w0]) (rest := [.int 0, .ref qo]) ⟨hx, hb, hml, hown, hts⟩ (hM _) (cwV 3 hts (goodIn_sub (hx_m5 km_531 km_532 km_533 km_1 km_534) (by decide +kernel)) rfl hrm.2.2.1 hrm.2.2.2 (by decide +kernel) ⟨show rm.frames + 1 ≤ 7 by omega, show 8 + (6 + 11) + rm.locals ≤ 200 by omega⟩) (sg_V (hC.S hS) hPw hDw hS hA (ci := 0) rfl h0) rfl rfl hl.1 rfl (lv_room (Nat.le_of_ble_eq_true rfl)) kd_L_exact_7 ⟨Nat.le_of_ble_eq_true rfl, Nat.le_of_ble_eq_true rfl⟩) hDw hS hA hw hap.symm hPo (fun q9 ce H locs hPw hDw hPo hS hce hcv hcl => ?_)
  have htab : c.exceptionTable.toList = tableOf [(0, 12, 15, 13), (0, 12, 19, 35)] := vx_table (x := ky_L_exact) B (atoms_spec (ws := kw_L_exact) B.pre _ List.mem_cons_self)
  refine vx_catch (own := "HostBridgeLaw") (name := "java/lang/IllegalArgumentException") hown [] ⟨0, 12, 15, 13⟩ [⟨0, 12, 19, 35⟩] (htab.trans rfl) (fun z hz => absurd hz List.not_mem_nil) rfl (by decide) (hts _ km_198) (hts _ km_210) hce hcv hcl ?_
  refine lv_astore (lv' := [(5, .ref q9), (0, .ref x0), (1, .int oi), (2, .int n), (3, .int w0), (4, .ref qo)]) hx hb kd_L_exact_15 hl (by decide) rfl (fun ls hl => ?_)
  refine lv_iconst (v := 1) hx hb kd_L_exact_17 (by decide) ?_
  exact hx_iretW hx hb hr hlocks rfl (sg_cons.mpr ⟨hPo, hPw⟩) hS kd_L_exact_18

set_option maxHeartbeats 4000000 in
set_option maxRecDepth 100000 in
theorem ml_exact_2 {l : Launch} {D : va_G} {cI cL cZ : ClassId} {tb x0 qo : Nat} {w w1 : va_W} {fs : List Value} {ov : Nat → Int64} (oi : Int32) (n : Int32) (w0 : Int32)  {rm : Room} (h0 : w[0]? = some (x0, .inr (0, fs))) (hw : w1.map (fun q => q.1) = w.map (fun q => q.1)) (hrm : rm.frames ≤ 6 ∧ rm.locals ≤ 150 ∧ rm.cells = 1 ∧ rm.slots = 6) (hM : ∀ sz, xt_M l ky_B_exact kw_B_exact rm (pw_P D cI cL cZ tb w sz [.ref x0, .int oi, .int n, .int w0]) D "java/util/NoSuchElementException" w1 (va_A w sz)) (sz : Nat) : Met l ky_L_exact kw_L_exact { frames := 7, cells := 1, slots := 6, locals := 200 } (lp_P D cI cL cZ tb ((qo, .inl (cL, 1, .inr (.inl ov))) :: w) sz [.ref x0, .int oi, .int n, .int w0, .ref qo]) (hx_QW D (some (.int 2)) ((qo, .inl (cL, 1, .inr (.inl ov))) :: w1) (va_A ((qo, .inl (cL, 1, .inr (.inl ov))) :: w) sz)) 1 6 (va_A ((qo, .inl (cL, 1, .inr (.inl ov))) :: w) sz) := by
  refine va_MetW (cc := kc_L_exact) (maxL := 6) (ret := (some .int)) (by decide) rfl ?_
  intro p e s m args below meth c s₁ B hml hv
  obtain ⟨rfl, ⟨hsz, hC, hP, hD0⟩, hN⟩ := hv
  have hx := B.exec
  have hb := B.bytes
  have hr := B.returns
  have hlocks := B.notSynchronized
  have hown : s.vm.findClass "HostBridgeLaw" = some m.cls := findClass_of_methodNamed B.named
  subst hsz
  have hD := hD0.self (sz := s.heap.size)
  generalize hAe : va_A ((qo, .inl (cL, 1, .inr (.inl ov))) :: w) s.heap.size = A at hD hC ⊢
  have hA : ∀ q : Nat, s.heap.size ≤ q → A q := fun q h => by rw [← hAe]; exact Or.inr h
  have hS : va_S A s.heap s.heap [] := va_S.rf
  have hK := hC.K
  have hts := hC.ts [.ref x0, .int oi, .int n, .int w0, .ref qo].toArray
  have hl := lv_entry ([.ref x0, .int oi, .int n, .int w0, .ref qo]) (n := 6) (Nat.le_of_ble_eq_true rfl)
  rw [lg_entry_eq]
  generalize (lg_sl ([.ref x0, .int oi, .int n, .int w0, .ref qo]) ++ List.replicate (6 - (lg_sl ([.ref x0, .int oi, .int n, .int w0, .ref qo])).length) Slot.unset).toArray = ls at hl ⊢
  have hl : lv_has ls 6 [(0, .ref x0), (1, .int oi), (2, .int n), (3, .int w0), (4, .ref qo)] := hl
  obtain ⟨hDo, hDw, hap⟩ := sg_Dt hD
  obtain ⟨hPo, hPw⟩ := sg_cons.mp hP
  refine lv_aload hx hb kd_L_exact_0 (lv_at hl 4 rfl) ?_
  refine lv_iconst (v := 0) hx hb kd_L_exact_2 (by decide) ?_
  refine lv_aload_n hx hb kd_L_exact_3 rfl (lv_at hl 0 rfl) ?_
  refine lv_iload_n hx hb kd_L_exact_4 rfl (lv_at hl 1 rfl) ?_
  refine lv_iload_n hx hb kd_L_exact_5 rfl (lv_at hl 2 rfl) ?_
  refine lv_iload_n hx hb kd_L_exact_6 rfl (lv_at hl 3 rfl) ?_
  refine sg_callX (vx_runV (As := [.int oi, .int n, .int w0]) (rest := [.int 0, .ref qo]) ⟨hx, hb, hml, hown, hts⟩ (hM _) (cwV 3 hts (goodIn_sub (hx_m5 km_531 km_532 km_533 km_1 km_534) (by decide +kernel)) rfl hrm.2.2.1 hrm.2.2.2 (by decide +kernel) ⟨show rm.frames + 1 ≤ 7 by omega, show 8 + (6 + 11) + rm.locals ≤ 200 by omega⟩) (sg_V (hC.S hS) hPw hDw hS hA (ci := 0) rfl h0) rfl rfl hl.1 rfl (lv_room (Nat.le_of_ble_eq_true rfl)) kd_L_exact_7 ⟨Nat.le_of_ble_eq_true rfl, Nat.le_of_ble_eq_true rfl⟩) hDw hS hA hw hap.symm hPo (fun q9 ce H locs hPw hDw hPo hS hce hcv hcl => ?_)
  have htab : c.exceptionTable.toList = tableOf [(0, 12, 15, 13), (0, 12, 19, 35)] := vx_table (x := ky_L_exact) B (atoms_spec (ws := kw_L_exact) B.pre _ List.mem_cons_self)
  refine vx_catch (own := "HostBridgeLaw") (name := "java/util/NoSuchElementException") hown [⟨0, 12, 15, 13⟩] ⟨0, 12, 19, 35⟩ [] (htab.trans rfl) (fun z hz => by rw [List.mem_singleton.mp hz]; exact Or.inr ⟨by decide, "java/lang/IllegalArgumentException", hts _ km_198, hN.2.1⟩) rfl (by decide) (hts _ km_417) (hts _ km_452) hce hcv hcl ?_
  refine lv_astore (lv' := [(5, .ref q9), (0, .ref x0), (1, .int oi), (2, .int n), (3, .int w0), (4, .ref qo)]) hx hb kd_L_exact_19 hl (by decide) rfl (fun ls hl => ?_)
  refine lv_iconst (v := 2) hx hb kd_L_exact_21 (by decide) ?_
  exact hx_iretW hx hb hr hlocks rfl (sg_cons.mpr ⟨hPo, hPw⟩) hS kd_L_exact_22

set_option maxHeartbeats 4000000 in
set_option maxRecDepth 100000 in
theorem ml_answer_0 {l : Launch} {D : va_G} {cI cL cZ : ClassId} {tb x0 qo : Nat} {w w1 : va_W} {fs : List Value} {ov : Nat → Int64} (v : Int64)  {rm : Room} (h0 : w[0]? = some (x0, .inr (0, fs))) (hw : w1.map (fun q => q.1) = w.map (fun q => q.1)) (hrm : rm.frames ≤ 6 ∧ rm.locals ≤ 150 ∧ rm.cells = 0 ∧ rm.slots = 0) (hM : ∀ sz, Met l ky_B_answer kw_B_answer rm (pw_P D cI cL cZ tb w sz [.ref x0, .long v]) (hx_QW D none w1 (va_A w sz)) 0 0 (va_A w sz)) (sz : Nat) : Met l ky_L_answer kw_L_answer { frames := 7, cells := 1, slots := 6, locals := 200 } (lp_P D cI cL cZ tb ((qo, .inl (cL, 1, .inr (.inl ov))) :: w) sz [.ref x0, .long v]) (hx_QW D (some (.int 0)) ((qo, .inl (cL, 1, .inr (.inl ov))) :: w1) (va_A ((qo, .inl (cL, 1, .inr (.inl ov))) :: w) sz)) 1 6 (va_A ((qo, .inl (cL, 1, .inr (.inl ov))) :: w) sz) := by
  refine va_MetW (cc := kc_L_answer) (maxL := 4) (ret := (some .int)) (by decide) rfl ?_
  intro p e s m args below meth c s₁ B hml hv
  obtain ⟨rfl, ⟨hsz, hC, hP, hD0⟩, hN⟩ := hv
  have hx := B.exec
  have hb := B.bytes
  have hr := B.returns
  have hlocks := B.notSynchronized
  have hown : s.vm.findClass "HostBridgeLaw" = some m.cls := findClass_of_methodNamed B.named
  subst hsz
  have hD := hD0.self (sz := s.heap.size)
  generalize hAe : va_A ((qo, .inl (cL, 1, .inr (.inl ov))) :: w) s.heap.size = A at hD hC ⊢
  have hA : ∀ q : Nat, s.heap.size ≤ q → A q := fun q h => by rw [← hAe]; exact Or.inr h
  have hS : va_S A s.heap s.heap [] := va_S.rf
  have hK := hC.K
  have hts := hC.ts [.ref x0, .long v].toArray
  have hl := lv_entry ([.ref x0, .long v]) (n := 4) (Nat.le_of_ble_eq_true rfl)
  rw [lg_entry_eq]
  generalize (lg_sl ([.ref x0, .long v]) ++ List.replicate (4 - (lg_sl ([.ref x0, .long v])).length) Slot.unset).toArray = ls at hl ⊢
  have hl : lv_has ls 4 [(0, .ref x0), (1, .long v)] := hl
  obtain ⟨hDo, hDw, hap⟩ := sg_Dt hD
  obtain ⟨hPo, hPw⟩ := sg_cons.mp hP
  refine lv_aload_n hx hb kd_L_answer_0 rfl (lv_at hl 0 rfl) ?_
  refine lv_lload_n hx hb kd_L_answer_1 rfl (lv_at hl 1 rfl) ?_
  refine sg_call (va_runV (As := [.long v]) (rest := []) ⟨hx, hb, hml, hown, hts⟩ (hM _) (cwV 1 hts (goodIn_sub (hx_m5 km_546 km_547 km_548 km_1 km_549) (by decide +kernel)) rfl hrm.2.2.1 hrm.2.2.2 (by decide +kernel) ⟨show rm.frames + 1 ≤ 7 by omega, show 8 + (3 + 11) + rm.locals ≤ 200 by omega⟩) (sg_V (hC.S hS) hPw hDw hS hA (ci := 0) rfl h0) rfl rfl hl.1 rfl (lv_room (Nat.le_of_ble_eq_true rfl)) kd_L_answer_2 ⟨Nat.le_of_ble_eq_true rfl, Nat.le_of_ble_eq_true rfl⟩) hDw hS hA hw hap.symm hPo (fun H locs hPw hDw hPo hS => ?_)
  have hP := sg_cons.mpr ⟨hPo, hPw⟩
  refine lv_goto (tgt := 11) hx hb kd_L_answer_5 (by decide) ?_
  refine lv_iconst (v := 0) hx hb kd_L_answer_11 (by decide) ?_
  refine W.widen (k := 1) (n := 6) (by decide) (by decide) ?_
  exact hx_iretW hx hb hr hlocks rfl hP hS kd_L_answer_12

set_option maxHeartbeats 4000000 in
set_option maxRecDepth 100000 in
theorem ml_answer_1 {l : Launch} {D : va_G} {cI cL cZ : ClassId} {tb x0 qo : Nat} {w w1 : va_W} {fs : List Value} {ov : Nat → Int64} (v : Int64)  {rm : Room} (h0 : w[0]? = some (x0, .inr (0, fs))) (hw : w1.map (fun q => q.1) = w.map (fun q => q.1)) (hrm : rm.frames ≤ 6 ∧ rm.locals ≤ 150 ∧ rm.cells = 1 ∧ rm.slots = 6) (hM : ∀ sz, xt_M l ky_B_answer kw_B_answer rm (pw_P D cI cL cZ tb w sz [.ref x0, .long v]) D "java/lang/IllegalStateException" w1 (va_A w sz)) (sz : Nat) : Met l ky_L_answer kw_L_answer { frames := 7, cells := 1, slots := 6, locals := 200 } (lp_P D cI cL cZ tb ((qo, .inl (cL, 1, .inr (.inl ov))) :: w) sz [.ref x0, .long v]) (hx_QW D (some (.int 1)) ((qo, .inl (cL, 1, .inr (.inl ov))) :: w1) (va_A ((qo, .inl (cL, 1, .inr (.inl ov))) :: w) sz)) 1 6 (va_A ((qo, .inl (cL, 1, .inr (.inl ov))) :: w) sz) := by
  refine va_MetW (cc := kc_L_answer) (maxL := 4) (ret := (some .int)) (by decide) rfl ?_
  intro p e s m args below meth c s₁ B hml hv
  obtain ⟨rfl, ⟨hsz, hC, hP, hD0⟩, hN⟩ := hv
  have hx := B.exec
  have hb := B.bytes
  have hr := B.returns
  have hlocks := B.notSynchronized
  have hown : s.vm.findClass "HostBridgeLaw" = some m.cls := findClass_of_methodNamed B.named
  subst hsz
  have hD := hD0.self (sz := s.heap.size)
  generalize hAe : va_A ((qo, .inl (cL, 1, .inr (.inl ov))) :: w) s.heap.size = A at hD hC ⊢
  have hA : ∀ q : Nat, s.heap.size ≤ q → A q := fun q h => by rw [← hAe]; exact Or.inr h
  have hS : va_S A s.heap s.heap [] := va_S.rf
  have hK := hC.K
  have hts := hC.ts [.ref x0, .long v].toArray
  have hl := lv_entry ([.ref x0, .long v]) (n := 4) (Nat.le_of_ble_eq_true rfl)
  rw [lg_entry_eq]
  generalize (lg_sl ([.ref x0, .long v]) ++ List.replicate (4 - (lg_sl ([.ref x0, .long v])).length) Slot.unset).toArray = ls at hl ⊢
  have hl : lv_has ls 4 [(0, .ref x0), (1, .long v)] := hl
  obtain ⟨hDo, hDw, hap⟩ := sg_Dt hD
  obtain ⟨hPo, hPw⟩ := sg_cons.mp hP
  refine lv_aload_n hx hb kd_L_answer_0 rfl (lv_at hl 0 rfl) ?_
  refine lv_lload_n hx hb kd_L_answer_1 rfl (lv_at hl 1 rfl) ?_
  refine sg_callX (vx_runV (As := [.long v]) (rest := []) ⟨hx, hb, hml, hown, hts⟩ (hM _) (cwV 1 hts (goodIn_sub (hx_m5 km_546 km_547 km_548 km_1 km_549) (by decide +kernel)) rfl hrm.2.2.1 hrm.2.2.2 (by decide +kernel) ⟨show rm.frames + 1 ≤ 7 by omega, show 8 + (3 + 11) + rm.locals ≤ 200 by omega⟩) (sg_V (hC.S hS) hPw hDw hS hA (ci := 0) rfl h0) rfl rfl hl.1 rfl (lv_room (Nat.le_of_ble_eq_true rfl)) kd_L_answer_2 ⟨Nat.le_of_ble_eq_true rfl, Nat.le_of_ble_eq_true rfl⟩) hDw hS hA hw hap.symm hPo (fun q9 ce H locs hPw hDw hPo hS hce hcv hcl => ?_)
  have htab : c.exceptionTable.toList = tableOf [(0, 5, 8, 15)] := vx_table (x := ky_L_answer) B (atoms_spec (ws := kw_L_answer) B.pre _ List.mem_cons_self)
  refine vx_catch (own := "HostBridgeLaw") (name := "java/lang/IllegalStateException") hown [] ⟨0, 5, 8, 15⟩ [] (htab.trans rfl) (fun z hz => absurd hz List.not_mem_nil) rfl (by decide) (hts _ km_199) (hts _ km_279) hce hcv hcl ?_
  refine lv_astore_n (lv' := [(3, .ref q9), (0, .ref x0), (1, .long v)]) hx hb kd_L_answer_8 rfl hl (by decide) rfl (fun ls hl => ?_)
  refine lv_iconst (v := 1) hx hb kd_L_answer_9 (by decide) ?_
  exact hx_iretW hx hb hr hlocks rfl (sg_cons.mpr ⟨hPo, hPw⟩) hS kd_L_answer_10

set_option maxHeartbeats 4000000 in
set_option maxRecDepth 100000 in
theorem ml_given_0 {l : Launch} {D : va_G} {cI cL cZ : ClassId} {tb x0 qo : Nat} {w w1 : va_W} {fs : List Value} {ov : Nat → Int64}  {rr : Int64} {rm : Room} (h0 : w[0]? = some (x0, .inr (0, fs))) (hw : w1.map (fun q => q.1) = w.map (fun q => q.1)) (hrm : rm.frames ≤ 6 ∧ rm.locals ≤ 150 ∧ rm.cells = 0 ∧ rm.slots = 0) (hM : ∀ sz, Met l ky_B_given kw_B_given rm (pw_P D cI cL cZ tb w sz [.ref x0]) (hx_QW D (some (.long rr)) w1 (va_A w sz)) 0 0 (va_A w sz)) (sz : Nat) : Met l ky_L_given kw_L_given { frames := 7, cells := 1, slots := 6, locals := 200 } (lp_P D cI cL cZ tb ((qo, .inl (cL, 1, .inr (.inl ov))) :: w) sz [.ref x0, .ref qo]) (hx_QW D (some (.int 0)) ((qo, .inl (cL, 1, .inr (.inl (vp_updL ov 0 rr)))) :: w1) (va_A ((qo, .inl (cL, 1, .inr (.inl ov))) :: w) sz)) 1 6 (va_A ((qo, .inl (cL, 1, .inr (.inl ov))) :: w) sz) := by
  refine va_MetW (cc := kc_L_given) (maxL := 3) (ret := (some .int)) (by decide) rfl ?_
  intro p e s m args below meth c s₁ B hml hv
  obtain ⟨rfl, ⟨hsz, hC, hP, hD0⟩, hN⟩ := hv
  have hx := B.exec
  have hb := B.bytes
  have hr := B.returns
  have hlocks := B.notSynchronized
  have hown : s.vm.findClass "HostBridgeLaw" = some m.cls := findClass_of_methodNamed B.named
  subst hsz
  have hD := hD0.self (sz := s.heap.size)
  generalize hAe : va_A ((qo, .inl (cL, 1, .inr (.inl ov))) :: w) s.heap.size = A at hD hC ⊢
  have hA : ∀ q : Nat, s.heap.size ≤ q → A q := fun q h => by rw [← hAe]; exact Or.inr h
  have hS : va_S A s.heap s.heap [] := va_S.rf
  have hK := hC.K
  have hts := hC.ts [.ref x0, .ref qo].toArray
  have hl := lv_entry ([.ref x0, .ref qo]) (n := 3) (Nat.le_of_ble_eq_true rfl)
  rw [lg_entry_eq]
  generalize (lg_sl ([.ref x0, .ref qo]) ++ List.replicate (3 - (lg_sl ([.ref x0, .ref qo])).length) Slot.unset).toArray = ls at hl ⊢
  have hl : lv_has ls 3 [(0, .ref x0), (1, .ref qo)] := hl
  obtain ⟨hDo, hDw, hap⟩ := sg_Dt hD
  obtain ⟨hPo, hPw⟩ := sg_cons.mp hP
  refine lv_aload_n hx hb kd_L_given_0 rfl (lv_at hl 1 rfl) ?_
  refine lv_iconst (v := 0) hx hb kd_L_given_1 (by decide) ?_
  refine lv_aload_n hx hb kd_L_given_2 rfl (lv_at hl 0 rfl) ?_
  refine sg_call (va_runV (As := []) (rest := [.int 0, .ref qo]) ⟨hx, hb, hml, hown, hts⟩ (hM _) (cwV 0 hts (goodIn_sub (hx_m5 km_558 km_559 km_560 km_1 km_561) (by decide +kernel)) rfl hrm.2.2.1 hrm.2.2.2 (by decide +kernel) ⟨show rm.frames + 1 ≤ 7 by omega, show 8 + (1 + 11) + rm.locals ≤ 200 by omega⟩) (sg_V (hC.S hS) hPw hDw hS hA (ci := 0) rfl h0) rfl rfl hl.1 rfl (lv_room (Nat.le_of_ble_eq_true rfl)) kd_L_given_3 ⟨Nat.le_of_ble_eq_true rfl, Nat.le_of_ble_eq_true rfl⟩) hDw hS hA hw hap.symm hPo (fun H locs hPw hDw hPo hS => ?_)
  have hP := sg_cons.mpr ⟨hPo, hPw⟩
  have hD := sg_Dc hDo hDw (hap.new rfl hw)
  refine hx_last (j := 0) hx hb hK hP hD hS 0 rfl rfl (by decide) (by decide) kd_L_given_6 (fun H locs hP hD hS => ?_)
  refine lv_goto (tgt := 13) hx hb kd_L_given_7 (by decide) ?_
  refine lv_iconst (v := 0) hx hb kd_L_given_13 (by decide) ?_
  refine W.widen (k := 1) (n := 6) (by decide) (by decide) ?_
  exact hx_iretW hx hb hr hlocks rfl hP hS kd_L_given_14

set_option maxHeartbeats 4000000 in
set_option maxRecDepth 100000 in
theorem ml_given_1 {l : Launch} {D : va_G} {cI cL cZ : ClassId} {tb x0 qo : Nat} {w w1 : va_W} {fs : List Value} {ov : Nat → Int64}   {rm : Room} (h0 : w[0]? = some (x0, .inr (0, fs))) (hw : w1.map (fun q => q.1) = w.map (fun q => q.1)) (hrm : rm.frames ≤ 6 ∧ rm.locals ≤ 150 ∧ rm.cells = 1 ∧ rm.slots = 6) (hM : ∀ sz, xt_M l ky_B_given kw_B_given rm (pw_P D cI cL cZ tb w sz [.ref x0]) D "java/lang/IllegalStateException" w1 (va_A w sz)) (sz : Nat) : Met l ky_L_given kw_L_given { frames := 7, cells := 1, slots := 6, locals := 200 } (lp_P D cI cL cZ tb ((qo, .inl (cL, 1, .inr (.inl ov))) :: w) sz [.ref x0, .ref qo]) (hx_QW D (some (.int 1)) ((qo, .inl (cL, 1, .inr (.inl ov))) :: w1) (va_A ((qo, .inl (cL, 1, .inr (.inl ov))) :: w) sz)) 1 6 (va_A ((qo, .inl (cL, 1, .inr (.inl ov))) :: w) sz) := by
  refine va_MetW (cc := kc_L_given) (maxL := 3) (ret := (some .int)) (by decide) rfl ?_
  intro p e s m args below meth c s₁ B hml hv
  obtain ⟨rfl, ⟨hsz, hC, hP, hD0⟩, hN⟩ := hv
  have hx := B.exec
  have hb := B.bytes
  have hr := B.returns
  have hlocks := B.notSynchronized
  have hown : s.vm.findClass "HostBridgeLaw" = some m.cls := findClass_of_methodNamed B.named
  subst hsz
  have hD := hD0.self (sz := s.heap.size)
  generalize hAe : va_A ((qo, .inl (cL, 1, .inr (.inl ov))) :: w) s.heap.size = A at hD hC ⊢
  have hA : ∀ q : Nat, s.heap.size ≤ q → A q := fun q h => by rw [← hAe]; exact Or.inr h
  have hS : va_S A s.heap s.heap [] := va_S.rf
  have hK := hC.K
  have hts := hC.ts [.ref x0, .ref qo].toArray
  have hl := lv_entry ([.ref x0, .ref qo]) (n := 3) (Nat.le_of_ble_eq_true rfl)
  rw [lg_entry_eq]
  generalize (lg_sl ([.ref x0, .ref qo]) ++ List.replicate (3 - (lg_sl ([.ref x0, .ref qo])).length) Slot.unset).toArray = ls at hl ⊢
  have hl : lv_has ls 3 [(0, .ref x0), (1, .ref qo)] := hl
  obtain ⟨hDo, hDw, hap⟩ := sg_Dt hD
  obtain ⟨hPo, hPw⟩ := sg_cons.mp hP
  refine lv_aload_n hx hb kd_L_given_0 rfl (lv_at hl 1 rfl) ?_
  refine lv_iconst (v := 0) hx hb kd_L_given_1 (by decide) ?_
  refine lv_aload_n hx hb kd_L_given_2 rfl (lv_at hl 0 rfl) ?_
  refine sg_callX (vx_runV (As := []) (rest := [.int 0, .ref qo]) ⟨hx, hb, hml, hown, hts⟩ (hM _) (cwV 0 hts (goodIn_sub (hx_m5 km_558 km_559 km_560 km_1 km_561) (by decide +kernel)) rfl hrm.2.2.1 hrm.2.2.2 (by decide +kernel) ⟨show rm.frames + 1 ≤ 7 by omega, show 8 + (1 + 11) + rm.locals ≤ 200 by omega⟩) (sg_V (hC.S hS) hPw hDw hS hA (ci := 0) rfl h0) rfl rfl hl.1 rfl (lv_room (Nat.le_of_ble_eq_true rfl)) kd_L_given_3 ⟨Nat.le_of_ble_eq_true rfl, Nat.le_of_ble_eq_true rfl⟩) hDw hS hA hw hap.symm hPo (fun q9 ce H locs hPw hDw hPo hS hce hcv hcl => ?_)
  have htab : c.exceptionTable.toList = tableOf [(0, 7, 10, 15)] := vx_table (x := ky_L_given) B (atoms_spec (ws := kw_L_given) B.pre _ List.mem_cons_self)
  refine vx_catch (own := "HostBridgeLaw") (name := "java/lang/IllegalStateException") hown [] ⟨0, 7, 10, 15⟩ [] (htab.trans rfl) (fun z hz => absurd hz List.not_mem_nil) rfl (by decide) (hts _ km_199) (hts _ km_279) hce hcv hcl ?_
  refine lv_astore_n (lv' := [(2, .ref q9), (0, .ref x0), (1, .ref qo)]) hx hb kd_L_given_10 rfl hl (by decide) rfl (fun ls hl => ?_)
  refine lv_iconst (v := 1) hx hb kd_L_given_11 (by decide) ?_
  exact hx_iretW hx hb hr hlocks rfl (sg_cons.mpr ⟨hPo, hPw⟩) hS kd_L_given_12

set_option maxHeartbeats 4000000 in
set_option maxRecDepth 100000 in
theorem ml_look_0 {l : Launch} {D : va_G} {cI cL cZ : ClassId} {tb x0 qo : Nat} {w w1 : va_W} {fs : List Value} {ov : Nat → Int64} (k : Int32) (i : Int32) {rr : Int32} {rm : Room} (h0 : w[0]? = some (x0, .inr (0, fs))) (hw : w1.map (fun q => q.1) = w.map (fun q => q.1)) (hrm : rm.frames ≤ 6 ∧ rm.locals ≤ 150 ∧ rm.cells = 0 ∧ rm.slots = 0) (hM : ∀ sz, Met l ky_B_look kw_B_look rm (pw_P D cI cL cZ tb w sz [.ref x0, .int k, .int i]) (hx_QW D (some (.int rr)) w1 (va_A w sz)) 0 0 (va_A w sz)) (sz : Nat) : Met l ky_L_look kw_L_look { frames := 7, cells := 1, slots := 6, locals := 200 } (lp_P D cI cL cZ tb ((qo, .inl (cL, 1, .inr (.inl ov))) :: w) sz [.ref x0, .int k, .int i, .ref qo]) (hx_QW D (some (.int 0)) ((qo, .inl (cL, 1, .inr (.inl (vp_updL ov 0 rr.toInt64)))) :: w1) (va_A ((qo, .inl (cL, 1, .inr (.inl ov))) :: w) sz)) 1 6 (va_A ((qo, .inl (cL, 1, .inr (.inl ov))) :: w) sz) := by
  refine va_MetW (cc := kc_L_look) (maxL := 5) (ret := (some .int)) (by decide) rfl ?_
  intro p e s m args below meth c s₁ B hml hv
  obtain ⟨rfl, ⟨hsz, hC, hP, hD0⟩, hN⟩ := hv
  have hx := B.exec
  have hb := B.bytes
  have hr := B.returns
  have hlocks := B.notSynchronized
  have hown : s.vm.findClass "HostBridgeLaw" = some m.cls := findClass_of_methodNamed B.named
  subst hsz
  have hD := hD0.self (sz := s.heap.size)
  generalize hAe : va_A ((qo, .inl (cL, 1, .inr (.inl ov))) :: w) s.heap.size = A at hD hC ⊢
  have hA : ∀ q : Nat, s.heap.size ≤ q → A q := fun q h => by rw [← hAe]; exact Or.inr h
  have hS : va_S A s.heap s.heap [] := va_S.rf
  have hK := hC.K
  have hts := hC.ts [.ref x0, .int k, .int i, .ref qo].toArray
  have hl := lv_entry ([.ref x0, .int k, .int i, .ref qo]) (n := 5) (Nat.le_of_ble_eq_true rfl)
  rw [lg_entry_eq]
  generalize (lg_sl ([.ref x0, .int k, .int i, .ref qo]) ++ List.replicate (5 - (lg_sl ([.ref x0, .int k, .int i, .ref qo])).length) Slot.unset).toArray = ls at hl ⊢
  have hl : lv_has ls 5 [(0, .ref x0), (1, .int k), (2, .int i), (3, .ref qo)] := hl
  obtain ⟨hDo, hDw, hap⟩ := sg_Dt hD
  obtain ⟨hPo, hPw⟩ := sg_cons.mp hP
  refine lv_aload_n hx hb kd_L_look_0 rfl (lv_at hl 3 rfl) ?_
  refine lv_iconst (v := 0) hx hb kd_L_look_1 (by decide) ?_
  refine lv_aload_n hx hb kd_L_look_2 rfl (lv_at hl 0 rfl) ?_
  refine lv_iload_n hx hb kd_L_look_3 rfl (lv_at hl 1 rfl) ?_
  refine lv_iload_n hx hb kd_L_look_4 rfl (lv_at hl 2 rfl) ?_
  refine sg_call (va_runV (As := [.int k, .int i]) (rest := [.int 0, .ref qo]) ⟨hx, hb, hml, hown, hts⟩ (hM _) (cwV 2 hts (goodIn_sub (hx_m5 km_567 km_568 km_569 km_1 km_570) (by decide +kernel)) rfl hrm.2.2.1 hrm.2.2.2 (by decide +kernel) ⟨show rm.frames + 1 ≤ 7 by omega, show 8 + (3 + 11) + rm.locals ≤ 200 by omega⟩) (sg_V (hC.S hS) hPw hDw hS hA (ci := 0) rfl h0) rfl rfl hl.1 rfl (lv_room (Nat.le_of_ble_eq_true rfl)) kd_L_look_5 ⟨Nat.le_of_ble_eq_true rfl, Nat.le_of_ble_eq_true rfl⟩) hDw hS hA hw hap.symm hPo (fun H locs hPw hDw hPo hS => ?_)
  refine lv_i2l hx hb kd_L_look_8 rfl ?_
  have hP := sg_cons.mpr ⟨hPo, hPw⟩
  have hD := sg_Dc hDo hDw (hap.new rfl hw)
  refine hx_last (j := 0) hx hb hK hP hD hS 0 rfl rfl (by decide) (by decide) kd_L_look_9 (fun H locs hP hD hS => ?_)
  refine lv_goto (tgt := 21) hx hb kd_L_look_10 (by decide) ?_
  refine lv_iconst (v := 0) hx hb kd_L_look_21 (by decide) ?_
  refine W.widen (k := 1) (n := 6) (by decide) (by decide) ?_
  exact hx_iretW hx hb hr hlocks rfl hP hS kd_L_look_22

set_option maxHeartbeats 4000000 in
set_option maxRecDepth 100000 in
theorem ml_look_1 {l : Launch} {D : va_G} {cI cL cZ : ClassId} {tb x0 qo : Nat} {w w1 : va_W} {fs : List Value} {ov : Nat → Int64} (k : Int32) (i : Int32)  {rm : Room} (h0 : w[0]? = some (x0, .inr (0, fs))) (hw : w1.map (fun q => q.1) = w.map (fun q => q.1)) (hrm : rm.frames ≤ 6 ∧ rm.locals ≤ 150 ∧ rm.cells = 1 ∧ rm.slots = 6) (hM : ∀ sz, xt_M l ky_B_look kw_B_look rm (pw_P D cI cL cZ tb w sz [.ref x0, .int k, .int i]) D "java/lang/IllegalArgumentException" w1 (va_A w sz)) (sz : Nat) : Met l ky_L_look kw_L_look { frames := 7, cells := 1, slots := 6, locals := 200 } (lp_P D cI cL cZ tb ((qo, .inl (cL, 1, .inr (.inl ov))) :: w) sz [.ref x0, .int k, .int i, .ref qo]) (hx_QW D (some (.int 1)) ((qo, .inl (cL, 1, .inr (.inl ov))) :: w1) (va_A ((qo, .inl (cL, 1, .inr (.inl ov))) :: w) sz)) 1 6 (va_A ((qo, .inl (cL, 1, .inr (.inl ov))) :: w) sz) := by
  refine va_MetW (cc := kc_L_look) (maxL := 5) (ret := (some .int)) (by decide) rfl ?_
  intro p e s m args below meth c s₁ B hml hv
  obtain ⟨rfl, ⟨hsz, hC, hP, hD0⟩, hN⟩ := hv
  have hx := B.exec
  have hb := B.bytes
  have hr := B.returns
  have hlocks := B.notSynchronized
  have hown : s.vm.findClass "HostBridgeLaw" = some m.cls := findClass_of_methodNamed B.named
  subst hsz
  have hD := hD0.self (sz := s.heap.size)
  generalize hAe : va_A ((qo, .inl (cL, 1, .inr (.inl ov))) :: w) s.heap.size = A at hD hC ⊢
  have hA : ∀ q : Nat, s.heap.size ≤ q → A q := fun q h => by rw [← hAe]; exact Or.inr h
  have hS : va_S A s.heap s.heap [] := va_S.rf
  have hK := hC.K
  have hts := hC.ts [.ref x0, .int k, .int i, .ref qo].toArray
  have hl := lv_entry ([.ref x0, .int k, .int i, .ref qo]) (n := 5) (Nat.le_of_ble_eq_true rfl)
  rw [lg_entry_eq]
  generalize (lg_sl ([.ref x0, .int k, .int i, .ref qo]) ++ List.replicate (5 - (lg_sl ([.ref x0, .int k, .int i, .ref qo])).length) Slot.unset).toArray = ls at hl ⊢
  have hl : lv_has ls 5 [(0, .ref x0), (1, .int k), (2, .int i), (3, .ref qo)] := hl
  obtain ⟨hDo, hDw, hap⟩ := sg_Dt hD
  obtain ⟨hPo, hPw⟩ := sg_cons.mp hP
  refine lv_aload_n hx hb kd_L_look_0 rfl (lv_at hl 3 rfl) ?_
  refine lv_iconst (v := 0) hx hb kd_L_look_1 (by decide) ?_
  refine lv_aload_n hx hb kd_L_look_2 rfl (lv_at hl 0 rfl) ?_
  refine lv_iload_n hx hb kd_L_look_3 rfl (lv_at hl 1 rfl) ?_
  refine lv_iload_n hx hb kd_L_look_4 rfl (lv_at hl 2 rfl) ?_
  refine sg_callX (vx_runV (As := [.int k, .int i]) (rest := [.int 0, .ref qo]) ⟨hx, hb, hml, hown, hts⟩ (hM _) (cwV 2 hts (goodIn_sub (hx_m5 km_567 km_568 km_569 km_1 km_570) (by decide +kernel)) rfl hrm.2.2.1 hrm.2.2.2 (by decide +kernel) ⟨show rm.frames + 1 ≤ 7 by omega, show 8 + (3 + 11) + rm.locals ≤ 200 by omega⟩) (sg_V (hC.S hS) hPw hDw hS hA (ci := 0) rfl h0) rfl rfl hl.1 rfl (lv_room (Nat.le_of_ble_eq_true rfl)) kd_L_look_5 ⟨Nat.le_of_ble_eq_true rfl, Nat.le_of_ble_eq_true rfl⟩) hDw hS hA hw hap.symm hPo (fun q9 ce H locs hPw hDw hPo hS hce hcv hcl => ?_)
  have htab : c.exceptionTable.toList = tableOf [(0, 10, 13, 13), (0, 10, 17, 52)] := vx_table (x := ky_L_look) B (atoms_spec (ws := kw_L_look) B.pre _ List.mem_cons_self)
  refine vx_catch (own := "HostBridgeLaw") (name := "java/lang/IllegalArgumentException") hown [] ⟨0, 10, 13, 13⟩ [⟨0, 10, 17, 52⟩] (htab.trans rfl) (fun z hz => absurd hz List.not_mem_nil) rfl (by decide) (hts _ km_198) (hts _ km_210) hce hcv hcl ?_
  refine lv_astore (lv' := [(4, .ref q9), (0, .ref x0), (1, .int k), (2, .int i), (3, .ref qo)]) hx hb kd_L_look_13 hl (by decide) rfl (fun ls hl => ?_)
  refine lv_iconst (v := 1) hx hb kd_L_look_15 (by decide) ?_
  exact hx_iretW hx hb hr hlocks rfl (sg_cons.mpr ⟨hPo, hPw⟩) hS kd_L_look_16

set_option maxHeartbeats 4000000 in
set_option maxRecDepth 100000 in
theorem ml_look_2 {l : Launch} {D : va_G} {cI cL cZ : ClassId} {tb x0 qo : Nat} {w w1 : va_W} {fs : List Value} {ov : Nat → Int64} (k : Int32) (i : Int32)  {rm : Room} (h0 : w[0]? = some (x0, .inr (0, fs))) (hw : w1.map (fun q => q.1) = w.map (fun q => q.1)) (hrm : rm.frames ≤ 6 ∧ rm.locals ≤ 150 ∧ rm.cells = 1 ∧ rm.slots = 6) (hM : ∀ sz, xt_M l ky_B_look kw_B_look rm (pw_P D cI cL cZ tb w sz [.ref x0, .int k, .int i]) D "java/lang/IndexOutOfBoundsException" w1 (va_A w sz)) (sz : Nat) : Met l ky_L_look kw_L_look { frames := 7, cells := 1, slots := 6, locals := 200 } (lp_P D cI cL cZ tb ((qo, .inl (cL, 1, .inr (.inl ov))) :: w) sz [.ref x0, .int k, .int i, .ref qo]) (hx_QW D (some (.int 2)) ((qo, .inl (cL, 1, .inr (.inl ov))) :: w1) (va_A ((qo, .inl (cL, 1, .inr (.inl ov))) :: w) sz)) 1 6 (va_A ((qo, .inl (cL, 1, .inr (.inl ov))) :: w) sz) := by
  refine va_MetW (cc := kc_L_look) (maxL := 5) (ret := (some .int)) (by decide) rfl ?_
  intro p e s m args below meth c s₁ B hml hv
  obtain ⟨rfl, ⟨hsz, hC, hP, hD0⟩, hN⟩ := hv
  have hx := B.exec
  have hb := B.bytes
  have hr := B.returns
  have hlocks := B.notSynchronized
  have hown : s.vm.findClass "HostBridgeLaw" = some m.cls := findClass_of_methodNamed B.named
  subst hsz
  have hD := hD0.self (sz := s.heap.size)
  generalize hAe : va_A ((qo, .inl (cL, 1, .inr (.inl ov))) :: w) s.heap.size = A at hD hC ⊢
  have hA : ∀ q : Nat, s.heap.size ≤ q → A q := fun q h => by rw [← hAe]; exact Or.inr h
  have hS : va_S A s.heap s.heap [] := va_S.rf
  have hK := hC.K
  have hts := hC.ts [.ref x0, .int k, .int i, .ref qo].toArray
  have hl := lv_entry ([.ref x0, .int k, .int i, .ref qo]) (n := 5) (Nat.le_of_ble_eq_true rfl)
  rw [lg_entry_eq]
  generalize (lg_sl ([.ref x0, .int k, .int i, .ref qo]) ++ List.replicate (5 - (lg_sl ([.ref x0, .int k, .int i, .ref qo])).length) Slot.unset).toArray = ls at hl ⊢
  have hl : lv_has ls 5 [(0, .ref x0), (1, .int k), (2, .int i), (3, .ref qo)] := hl
  obtain ⟨hDo, hDw, hap⟩ := sg_Dt hD
  obtain ⟨hPo, hPw⟩ := sg_cons.mp hP
  refine lv_aload_n hx hb kd_L_look_0 rfl (lv_at hl 3 rfl) ?_
  refine lv_iconst (v := 0) hx hb kd_L_look_1 (by decide) ?_
  refine lv_aload_n hx hb kd_L_look_2 rfl (lv_at hl 0 rfl) ?_
  refine lv_iload_n hx hb kd_L_look_3 rfl (lv_at hl 1 rfl) ?_
  refine lv_iload_n hx hb kd_L_look_4 rfl (lv_at hl 2 rfl) ?_
  refine sg_callX (vx_runV (As := [.int k, .int i]) (rest := [.int 0, .ref qo]) ⟨hx, hb, hml, hown, hts⟩ (hM _) (cwV 2 hts (goodIn_sub (hx_m5 km_567 km_568 km_569 km_1 km_570) (by decide +kernel)) rfl hrm.2.2.1 hrm.2.2.2 (by decide +kernel) ⟨show rm.frames + 1 ≤ 7 by omega, show 8 + (3 + 11) + rm.locals ≤ 200 by omega⟩) (sg_V (hC.S hS) hPw hDw hS hA (ci := 0) rfl h0) rfl rfl hl.1 rfl (lv_room (Nat.le_of_ble_eq_true rfl)) kd_L_look_5 ⟨Nat.le_of_ble_eq_true rfl, Nat.le_of_ble_eq_true rfl⟩) hDw hS hA hw hap.symm hPo (fun q9 ce H locs hPw hDw hPo hS hce hcv hcl => ?_)
  have htab : c.exceptionTable.toList = tableOf [(0, 10, 13, 13), (0, 10, 17, 52)] := vx_table (x := ky_L_look) B (atoms_spec (ws := kw_L_look) B.pre _ List.mem_cons_self)
  refine vx_catch (own := "HostBridgeLaw") (name := "java/lang/IndexOutOfBoundsException") hown [⟨0, 10, 13, 13⟩] ⟨0, 10, 17, 52⟩ [] (htab.trans rfl) (fun z hz => by rw [List.mem_singleton.mp hz]; exact Or.inr ⟨by decide, "java/lang/IllegalArgumentException", hts _ km_198, hN.2.2.1⟩) rfl (by decide) (hts _ km_566) (hts _ km_578) hce hcv hcl ?_
  refine lv_astore (lv' := [(4, .ref q9), (0, .ref x0), (1, .int k), (2, .int i), (3, .ref qo)]) hx hb kd_L_look_17 hl (by decide) rfl (fun ls hl => ?_)
  refine lv_iconst (v := 2) hx hb kd_L_look_19 (by decide) ?_
  exact hx_iretW hx hb hr hlocks rfl (sg_cons.mpr ⟨hPo, hPw⟩) hS kd_L_look_20

set_option maxHeartbeats 4000000 in
set_option maxRecDepth 100000 in
theorem ml_converted_0 {l : Launch} {D : va_G} {cI cL cZ : ClassId} {tb x0 qo : Nat} {w w1 : va_W} {fs : List Value} {ov : Nat → Int64} (k : Int32) (i : Int32) {rr : Int64} {rm : Room} (h0 : w[0]? = some (x0, .inr (0, fs))) (hw : w1.map (fun q => q.1) = w.map (fun q => q.1)) (hrm : rm.frames ≤ 6 ∧ rm.locals ≤ 150 ∧ rm.cells = 0 ∧ rm.slots = 0) (hM : ∀ sz, Met l ky_B_converted kw_B_converted rm (pw_P D cI cL cZ tb w sz [.ref x0, .int k, .int i]) (hx_QW D (some (.long rr)) w1 (va_A w sz)) 0 0 (va_A w sz)) (sz : Nat) : Met l ky_L_converted kw_L_converted { frames := 7, cells := 1, slots := 6, locals := 200 } (lp_P D cI cL cZ tb ((qo, .inl (cL, 1, .inr (.inl ov))) :: w) sz [.ref x0, .int k, .int i, .ref qo]) (hx_QW D (some (.int 0)) ((qo, .inl (cL, 1, .inr (.inl (vp_updL ov 0 rr)))) :: w1) (va_A ((qo, .inl (cL, 1, .inr (.inl ov))) :: w) sz)) 1 6 (va_A ((qo, .inl (cL, 1, .inr (.inl ov))) :: w) sz) := by
  refine va_MetW (cc := kc_L_converted) (maxL := 5) (ret := (some .int)) (by decide) rfl ?_
  intro p e s m args below meth c s₁ B hml hv
  obtain ⟨rfl, ⟨hsz, hC, hP, hD0⟩, hN⟩ := hv
  have hx := B.exec
  have hb := B.bytes
  have hr := B.returns
  have hlocks := B.notSynchronized
  have hown : s.vm.findClass "HostBridgeLaw" = some m.cls := findClass_of_methodNamed B.named
  subst hsz
  have hD := hD0.self (sz := s.heap.size)
  generalize hAe : va_A ((qo, .inl (cL, 1, .inr (.inl ov))) :: w) s.heap.size = A at hD hC ⊢
  have hA : ∀ q : Nat, s.heap.size ≤ q → A q := fun q h => by rw [← hAe]; exact Or.inr h
  have hS : va_S A s.heap s.heap [] := va_S.rf
  have hK := hC.K
  have hts := hC.ts [.ref x0, .int k, .int i, .ref qo].toArray
  have hl := lv_entry ([.ref x0, .int k, .int i, .ref qo]) (n := 5) (Nat.le_of_ble_eq_true rfl)
  rw [lg_entry_eq]
  generalize (lg_sl ([.ref x0, .int k, .int i, .ref qo]) ++ List.replicate (5 - (lg_sl ([.ref x0, .int k, .int i, .ref qo])).length) Slot.unset).toArray = ls at hl ⊢
  have hl : lv_has ls 5 [(0, .ref x0), (1, .int k), (2, .int i), (3, .ref qo)] := hl
  obtain ⟨hDo, hDw, hap⟩ := sg_Dt hD
  obtain ⟨hPo, hPw⟩ := sg_cons.mp hP
  refine lv_aload_n hx hb kd_L_converted_0 rfl (lv_at hl 3 rfl) ?_
  refine lv_iconst (v := 0) hx hb kd_L_converted_1 (by decide) ?_
  refine lv_aload_n hx hb kd_L_converted_2 rfl (lv_at hl 0 rfl) ?_
  refine lv_iload_n hx hb kd_L_converted_3 rfl (lv_at hl 1 rfl) ?_
  refine lv_iload_n hx hb kd_L_converted_4 rfl (lv_at hl 2 rfl) ?_
  refine sg_call (va_runV (As := [.int k, .int i]) (rest := [.int 0, .ref qo]) ⟨hx, hb, hml, hown, hts⟩ (hM _) (cwV 2 hts (goodIn_sub (hx_m5 km_607 km_608 km_609 km_1 km_610) (by decide +kernel)) rfl hrm.2.2.1 hrm.2.2.2 (by decide +kernel) ⟨show rm.frames + 1 ≤ 7 by omega, show 8 + (3 + 11) + rm.locals ≤ 200 by omega⟩) (sg_V (hC.S hS) hPw hDw hS hA (ci := 0) rfl h0) rfl rfl hl.1 rfl (lv_room (Nat.le_of_ble_eq_true rfl)) kd_L_converted_5 ⟨Nat.le_of_ble_eq_true rfl, Nat.le_of_ble_eq_true rfl⟩) hDw hS hA hw hap.symm hPo (fun H locs hPw hDw hPo hS => ?_)
  have hP := sg_cons.mpr ⟨hPo, hPw⟩
  have hD := sg_Dc hDo hDw (hap.new rfl hw)
  refine hx_last (j := 0) hx hb hK hP hD hS 0 rfl rfl (by decide) (by decide) kd_L_converted_8 (fun H locs hP hD hS => ?_)
  refine lv_goto (tgt := 16) hx hb kd_L_converted_9 (by decide) ?_
  refine lv_iconst (v := 0) hx hb kd_L_converted_16 (by decide) ?_
  refine W.widen (k := 1) (n := 6) (by decide) (by decide) ?_
  exact hx_iretW hx hb hr hlocks rfl hP hS kd_L_converted_17

set_option maxHeartbeats 4000000 in
set_option maxRecDepth 100000 in
theorem ml_converted_1 {l : Launch} {D : va_G} {cI cL cZ : ClassId} {tb x0 qo : Nat} {w w1 : va_W} {fs : List Value} {ov : Nat → Int64} (k : Int32) (i : Int32)  {rm : Room} (h0 : w[0]? = some (x0, .inr (0, fs))) (hw : w1.map (fun q => q.1) = w.map (fun q => q.1)) (hrm : rm.frames ≤ 6 ∧ rm.locals ≤ 150 ∧ rm.cells = 1 ∧ rm.slots = 6) (hM : ∀ sz, xt_M l ky_B_converted kw_B_converted rm (pw_P D cI cL cZ tb w sz [.ref x0, .int k, .int i]) D "java/lang/IndexOutOfBoundsException" w1 (va_A w sz)) (sz : Nat) : Met l ky_L_converted kw_L_converted { frames := 7, cells := 1, slots := 6, locals := 200 } (lp_P D cI cL cZ tb ((qo, .inl (cL, 1, .inr (.inl ov))) :: w) sz [.ref x0, .int k, .int i, .ref qo]) (hx_QW D (some (.int 1)) ((qo, .inl (cL, 1, .inr (.inl ov))) :: w1) (va_A ((qo, .inl (cL, 1, .inr (.inl ov))) :: w) sz)) 1 6 (va_A ((qo, .inl (cL, 1, .inr (.inl ov))) :: w) sz) := by
  refine va_MetW (cc := kc_L_converted) (maxL := 5) (ret := (some .int)) (by decide) rfl ?_
  intro p e s m args below meth c s₁ B hml hv
  obtain ⟨rfl, ⟨hsz, hC, hP, hD0⟩, hN⟩ := hv
  have hx := B.exec
  have hb := B.bytes
  have hr := B.returns
  have hlocks := B.notSynchronized
  have hown : s.vm.findClass "HostBridgeLaw" = some m.cls := findClass_of_methodNamed B.named
  subst hsz
  have hD := hD0.self (sz := s.heap.size)
  generalize hAe : va_A ((qo, .inl (cL, 1, .inr (.inl ov))) :: w) s.heap.size = A at hD hC ⊢
  have hA : ∀ q : Nat, s.heap.size ≤ q → A q := fun q h => by rw [← hAe]; exact Or.inr h
  have hS : va_S A s.heap s.heap [] := va_S.rf
  have hK := hC.K
  have hts := hC.ts [.ref x0, .int k, .int i, .ref qo].toArray
  have hl := lv_entry ([.ref x0, .int k, .int i, .ref qo]) (n := 5) (Nat.le_of_ble_eq_true rfl)
  rw [lg_entry_eq]
  generalize (lg_sl ([.ref x0, .int k, .int i, .ref qo]) ++ List.replicate (5 - (lg_sl ([.ref x0, .int k, .int i, .ref qo])).length) Slot.unset).toArray = ls at hl ⊢
  have hl : lv_has ls 5 [(0, .ref x0), (1, .int k), (2, .int i), (3, .ref qo)] := hl
  obtain ⟨hDo, hDw, hap⟩ := sg_Dt hD
  obtain ⟨hPo, hPw⟩ := sg_cons.mp hP
  refine lv_aload_n hx hb kd_L_converted_0 rfl (lv_at hl 3 rfl) ?_
  refine lv_iconst (v := 0) hx hb kd_L_converted_1 (by decide) ?_
  refine lv_aload_n hx hb kd_L_converted_2 rfl (lv_at hl 0 rfl) ?_
  refine lv_iload_n hx hb kd_L_converted_3 rfl (lv_at hl 1 rfl) ?_
  refine lv_iload_n hx hb kd_L_converted_4 rfl (lv_at hl 2 rfl) ?_
  refine sg_callX (vx_runV (As := [.int k, .int i]) (rest := [.int 0, .ref qo]) ⟨hx, hb, hml, hown, hts⟩ (hM _) (cwV 2 hts (goodIn_sub (hx_m5 km_607 km_608 km_609 km_1 km_610) (by decide +kernel)) rfl hrm.2.2.1 hrm.2.2.2 (by decide +kernel) ⟨show rm.frames + 1 ≤ 7 by omega, show 8 + (3 + 11) + rm.locals ≤ 200 by omega⟩) (sg_V (hC.S hS) hPw hDw hS hA (ci := 0) rfl h0) rfl rfl hl.1 rfl (lv_room (Nat.le_of_ble_eq_true rfl)) kd_L_converted_5 ⟨Nat.le_of_ble_eq_true rfl, Nat.le_of_ble_eq_true rfl⟩) hDw hS hA hw hap.symm hPo (fun q9 ce H locs hPw hDw hPo hS hce hcv hcl => ?_)
  have htab : c.exceptionTable.toList = tableOf [(0, 9, 12, 52)] := vx_table (x := ky_L_converted) B (atoms_spec (ws := kw_L_converted) B.pre _ List.mem_cons_self)
  refine vx_catch (own := "HostBridgeLaw") (name := "java/lang/IndexOutOfBoundsException") hown [] ⟨0, 9, 12, 52⟩ [] (htab.trans rfl) (fun z hz => absurd hz List.not_mem_nil) rfl (by decide) (hts _ km_566) (hts _ km_578) hce hcv hcl ?_
  refine lv_astore (lv' := [(4, .ref q9), (0, .ref x0), (1, .int k), (2, .int i), (3, .ref qo)]) hx hb kd_L_converted_12 hl (by decide) rfl (fun ls hl => ?_)
  refine lv_iconst (v := 1) hx hb kd_L_converted_14 (by decide) ?_
  exact hx_iretW hx hb hr hlocks rfl (sg_cons.mpr ⟨hPo, hPw⟩) hS kd_L_converted_15
