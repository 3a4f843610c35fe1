/-! A SCRIPT'S NUMBERS (HostBridge$Numbers): functions read off the code -/
def nu_abs (b : Int64) : Int64 := (b &&& 9223372036854775807)
set_option maxHeartbeats 4000000 in
set_option maxRecDepth 100000 in
theorem mc_N_withoutSign {l : Launch} {D : va_G} {cI cL cZ : ClassId} {tb : Nat} (b : Int64) : Met l ky_N_withoutSign kw_N_withoutSign { frames := 0, cells := 0, slots := 0, locals := 0 } (pr_P D cI cL cZ tb [] [.long b]) (hx_QR (some (.long (nu_abs b)))) 0 0 (fun _ => False) := by
  refine Met.ofW (cc := kc_N_withoutSign) (maxL := 2) (ret := (some .long)) (by decide) rfl ?_
  intro p e s m args below meth c s₁ B hml hv
  obtain ⟨rfl, hC, hP⟩ := hv
  have hx := B.exec
  have hb := B.bytes
  have hr := B.returns
  have hlocks := B.notSynchronized
  have hown : s.vm.findClass "HostBridge$Numbers" = some m.cls := findClass_of_methodNamed B.named
  have hS : va_S (fun _ => False) s.heap s.heap [] := va_S.rf
  have hK := hC.K
  have hts := hC.ts [.long b].toArray
  have hl := lv_entry ([.long b]) (n := 2) (Nat.le_of_ble_eq_true rfl)
  rw [lg_entry_eq]
  generalize (lg_sl ([.long b]) ++ List.replicate (2 - (lg_sl ([.long b])).length) Slot.unset).toArray = ls at hl ⊢
  have hl : lv_has ls 2 [(0, .long b)] := hl
  refine lv_lload_n hx hb kd_N_withoutSign_0 rfl (lv_at hl 0 rfl) ?_
  refine lv_ldc2 (v := 9223372036854775807) hx hb hown (hts _ km_382) kd_N_withoutSign_1 ?_
  refine lv_land hx hb kd_N_withoutSign_4 ?_
  exact hx_lretR hx hb hr hlocks (by unfold nu_abs; try rfl) kd_N_withoutSign_5

def nu_frac (b : Int64) : Int64 := (b &&& 4503599627370495)
set_option maxHeartbeats 4000000 in
set_option maxRecDepth 100000 in
theorem mc_N_fractionOf {l : Launch} {D : va_G} {cI cL cZ : ClassId} {tb : Nat} (b : Int64) : Met l ky_N_fractionOf kw_N_fractionOf { frames := 0, cells := 0, slots := 0, locals := 0 } (pr_P D cI cL cZ tb [] [.long b]) (hx_QR (some (.long (nu_frac b)))) 0 0 (fun _ => False) := by
  refine Met.ofW (cc := kc_N_fractionOf) (maxL := 2) (ret := (some .long)) (by decide) rfl ?_
  intro p e s m args below meth c s₁ B hml hv
  obtain ⟨rfl, hC, hP⟩ := hv
  have hx := B.exec
  have hb := B.bytes
  have hr := B.returns
  have hlocks := B.notSynchronized
  have hown : s.vm.findClass "HostBridge$Numbers" = some m.cls := findClass_of_methodNamed B.named
  have hS : va_S (fun _ => False) s.heap s.heap [] := va_S.rf
  have hK := hC.K
  have hts := hC.ts [.long b].toArray
  have hl := lv_entry ([.long b]) (n := 2) (Nat.le_of_ble_eq_true rfl)
  rw [lg_entry_eq]
  generalize (lg_sl ([.long b]) ++ List.replicate (2 - (lg_sl ([.long b])).length) Slot.unset).toArray = ls at hl ⊢
  have hl : lv_has ls 2 [(0, .long b)] := hl
  refine lv_lload_n hx hb kd_N_fractionOf_0 rfl (lv_at hl 0 rfl) ?_
  refine lv_ldc2 (v := 4503599627370495) hx hb hown (hts _ km_390) kd_N_fractionOf_1 ?_
  refine lv_land hx hb kd_N_fractionOf_4 ?_
  exact hx_lretR hx hb hr hlocks (by unfold nu_frac; try rfl) kd_N_fractionOf_5

def nu_pow (b : Int64) : Int32 := (((((b.toUInt64 >>> ((52 : Int32).toInt64.toUInt64 &&& Int64.toUInt64 63)).toInt64) &&& 2047).toInt32) - 1023)
set_option maxHeartbeats 4000000 in
set_option maxRecDepth 100000 in
theorem mc_N_powerOf {l : Launch} {D : va_G} {cI cL cZ : ClassId} {tb : Nat} (b : Int64) : Met l ky_N_powerOf kw_N_powerOf { frames := 0, cells := 0, slots := 0, locals := 0 } (pr_P D cI cL cZ tb [] [.long b]) (hx_QR (some (.int (nu_pow b)))) 0 0 (fun _ => False) := by
  refine Met.ofW (cc := kc_N_powerOf) (maxL := 2) (ret := (some .int)) (by decide) rfl ?_
  intro p e s m args below meth c s₁ B hml hv
  obtain ⟨rfl, hC, hP⟩ := hv
  have hx := B.exec
  have hb := B.bytes
  have hr := B.returns
  have hlocks := B.notSynchronized
  have hown : s.vm.findClass "HostBridge$Numbers" = some m.cls := findClass_of_methodNamed B.named
  have hS : va_S (fun _ => False) s.heap s.heap [] := va_S.rf
  have hK := hC.K
  have hts := hC.ts [.long b].toArray
  have hl := lv_entry ([.long b]) (n := 2) (Nat.le_of_ble_eq_true rfl)
  rw [lg_entry_eq]
  generalize (lg_sl ([.long b]) ++ List.replicate (2 - (lg_sl ([.long b])).length) Slot.unset).toArray = ls at hl ⊢
  have hl : lv_has ls 2 [(0, .long b)] := hl
  refine lv_lload_n hx hb kd_N_powerOf_0 rfl (lv_at hl 0 rfl) ?_
  refine lv_bipush (v := 52) hx hb kd_N_powerOf_1 (by decide) ?_
  refine lv_lushr hx hb kd_N_powerOf_3 rfl ?_
  refine lv_ldc2 (v := 2047) hx hb hown (hts _ km_386) kd_N_powerOf_4 ?_
  refine lv_land hx hb kd_N_powerOf_7 ?_
  refine lv_l2i hx hb kd_N_powerOf_8 rfl ?_
  refine lv_sipush (v := 1023) hx hb kd_N_powerOf_9 (by decide) ?_
  refine lv_isub hx hb kd_N_powerOf_12 ?_
  exact hx_iretR hx hb hr hlocks (by unfold nu_pow; try rfl) kd_N_powerOf_13

def nu_zero (b : Int64) : Bool := (if (lg_cmp (nu_abs b) 0) = 0 then true else false)
set_option maxHeartbeats 4000000 in
set_option maxRecDepth 100000 in
theorem mc_N_isZero {l : Launch} {D : va_G} {cI cL cZ : ClassId} {tb : Nat} (b : Int64) : Met l ky_N_isZero kw_N_isZero { frames := 1, cells := 0, slots := 0, locals := 21 } (pr_P D cI cL cZ tb [] [.long b]) (hx_QR (some (.int (b2_ (nu_zero b))))) 0 0 (fun _ => False) := by
  refine Met.ofW (cc := kc_N_isZero) (maxL := 2) (ret := (some .boolean)) (by decide) rfl ?_
  intro p e s m args below meth c s₁ B hml hv
  obtain ⟨rfl, hC, hP⟩ := hv
  have hx := B.exec
  have hb := B.bytes
  have hr := B.returns
  have hlocks := B.notSynchronized
  have hown : s.vm.findClass "HostBridge$Numbers" = some m.cls := findClass_of_methodNamed B.named
  have hS : va_S (fun _ => False) s.heap s.heap [] := va_S.rf
  have hK := hC.K
  have hts := hC.ts [.long b].toArray
  have hl := lv_entry ([.long b]) (n := 2) (Nat.le_of_ble_eq_true rfl)
  rw [lg_entry_eq]
  generalize (lg_sl ([.long b]) ++ List.replicate (2 - (lg_sl ([.long b])).length) Slot.unset).toArray = ls at hl ⊢
  have hl : lv_has ls 2 [(0, .long b)] := hl
  refine lv_lload_n hx hb kd_N_isZero_0 rfl (lv_at hl 0 rfl) ?_
  refine hx_callRl (va_runS (As := [.long b]) (rest := []) ⟨hx, hb, hml, hown, hts⟩ (mc_N_withoutSign b) (va_cwS 1 hts (goodIn_sub (hx_m4 km_379 km_380 km_14 km_381) (by decide +kernel)) rfl rfl rfl (by decide +kernel) ⟨Nat.le_of_ble_eq_true rfl, Nat.le_of_ble_eq_true rfl⟩) (pr_S (hC.S hS) hP [] rfl) rfl rfl hl.1 rfl (lv_room (Nat.le_of_ble_eq_true rfl)) kd_N_isZero_1 ⟨Nat.le_of_ble_eq_true rfl, Nat.le_of_ble_eq_true rfl⟩) ?_
  refine lv_lconst (v := 0) hx hb kd_N_isZero_4 (by decide) ?_
  refine W.lcmp hx hb kd_N_isZero_5 ?_
  refine lv_if_ne (tgt := 13) hx hb kd_N_isZero_6 (by decide) (fun c_6 => ?_) (fun c_6 => ?_)
  · skip
    refine lv_iconst (v := 0) hx hb kd_N_isZero_13 (by decide) ?_
    exact hx_zretR hx hb hr hlocks (by unfold nu_zero; rw [if_neg c_6]; try rfl) kd_N_isZero_14
  · skip
    refine lv_iconst (v := 1) hx hb kd_N_isZero_9 (by decide) ?_
    refine lv_goto (tgt := 14) hx hb kd_N_isZero_10 (by decide) ?_
    exact hx_zretR hx hb hr hlocks (by unfold nu_zero; rw [if_pos c_6]; try rfl) kd_N_isZero_14

def nu_nan (b : Int64) : Bool := (if (lg_cmp (nu_abs b) 9218868437227405312) ≤ 0 then false else true)
set_option maxHeartbeats 4000000 in
set_option maxRecDepth 100000 in
theorem mc_N_isNan {l : Launch} {D : va_G} {cI cL cZ : ClassId} {tb : Nat} (b : Int64) : Met l ky_N_isNan kw_N_isNan { frames := 1, cells := 0, slots := 0, locals := 21 } (pr_P D cI cL cZ tb [] [.long b]) (hx_QR (some (.int (b2_ (nu_nan b))))) 0 0 (fun _ => False) := by
  refine Met.ofW (cc := kc_N_isNan) (maxL := 2) (ret := (some .boolean)) (by decide) rfl ?_
  intro p e s m args below meth c s₁ B hml hv
  obtain ⟨rfl, hC, hP⟩ := hv
  have hx := B.exec
  have hb := B.bytes
  have hr := B.returns
  have hlocks := B.notSynchronized
  have hown : s.vm.findClass "HostBridge$Numbers" = some m.cls := findClass_of_methodNamed B.named
  have hS : va_S (fun _ => False) s.heap s.heap [] := va_S.rf
  have hK := hC.K
  have hts := hC.ts [.long b].toArray
  have hl := lv_entry ([.long b]) (n := 2) (Nat.le_of_ble_eq_true rfl)
  rw [lg_entry_eq]
  generalize (lg_sl ([.long b]) ++ List.replicate (2 - (lg_sl ([.long b])).length) Slot.unset).toArray = ls at hl ⊢
  have hl : lv_has ls 2 [(0, .long b)] := hl
  refine lv_lload_n hx hb kd_N_isNan_0 rfl (lv_at hl 0 rfl) ?_
  refine hx_callRl (va_runS (As := [.long b]) (rest := []) ⟨hx, hb, hml, hown, hts⟩ (mc_N_withoutSign b) (va_cwS 1 hts (goodIn_sub (hx_m4 km_379 km_380 km_14 km_381) (by decide +kernel)) rfl rfl rfl (by decide +kernel) ⟨Nat.le_of_ble_eq_true rfl, Nat.le_of_ble_eq_true rfl⟩) (pr_S (hC.S hS) hP [] rfl) rfl rfl hl.1 rfl (lv_room (Nat.le_of_ble_eq_true rfl)) kd_N_isNan_1 ⟨Nat.le_of_ble_eq_true rfl, Nat.le_of_ble_eq_true rfl⟩) ?_
  refine lv_ldc2 (v := 9218868437227405312) hx hb hown (hts _ km_513) kd_N_isNan_4 ?_
  refine W.lcmp hx hb kd_N_isNan_7 ?_
  refine lv_if_le (tgt := 15) hx hb kd_N_isNan_8 (by decide) (fun c_8 => ?_) (fun c_8 => ?_)
  · skip
    refine lv_iconst (v := 0) hx hb kd_N_isNan_15 (by decide) ?_
    exact hx_zretR hx hb hr hlocks (by unfold nu_nan; rw [if_pos c_8]; try rfl) kd_N_isNan_16
  · skip
    refine lv_iconst (v := 1) hx hb kd_N_isNan_11 (by decide) ?_
    refine lv_goto (tgt := 16) hx hb kd_N_isNan_12 (by decide) ?_
    exact hx_zretR hx hb hr hlocks (by unfold nu_nan; rw [if_neg c_8]; try rfl) kd_N_isNan_16

def nu_truth (b : Int64) : Int64 := (if (b2_ (nu_zero b)) = 0 then (if (b2_ (nu_nan b)) = 0 then 1 else 0) else 0)
set_option maxHeartbeats 4000000 in
set_option maxRecDepth 100000 in
theorem mc_N_truthOf {l : Launch} {D : va_G} {cI cL cZ : ClassId} {tb : Nat} (b : Int64) : Met l ky_N_truthOf kw_N_truthOf { frames := 2, cells := 0, slots := 0, locals := 42 } (pr_P D cI cL cZ tb [] [.long b]) (hx_QR (some (.long (nu_truth b)))) 0 0 (fun _ => False) := by
  refine Met.ofW (cc := kc_N_truthOf) (maxL := 2) (ret := (some .long)) (by decide) rfl ?_
  intro p e s m args below meth c s₁ B hml hv
  obtain ⟨rfl, hC, hP⟩ := hv
  have hx := B.exec
  have hb := B.bytes
  have hr := B.returns
  have hlocks := B.notSynchronized
  have hown : s.vm.findClass "HostBridge$Numbers" = some m.cls := findClass_of_methodNamed B.named
  have hS : va_S (fun _ => False) s.heap s.heap [] := va_S.rf
  have hK := hC.K
  have hts := hC.ts [.long b].toArray
  have hl := lv_entry ([.long b]) (n := 2) (Nat.le_of_ble_eq_true rfl)
  rw [lg_entry_eq]
  generalize (lg_sl ([.long b]) ++ List.replicate (2 - (lg_sl ([.long b])).length) Slot.unset).toArray = ls at hl ⊢
  have hl : lv_has ls 2 [(0, .long b)] := hl
  refine lv_lload_n hx hb kd_N_truthOf_0 rfl (lv_at hl 0 rfl) ?_
  refine hx_callRi (va_runS (As := [.long b]) (rest := []) ⟨hx, hb, hml, hown, hts⟩ (mc_N_isZero b) (va_cwS 1 hts (goodIn_sub (hx_m4 km_376 km_377 km_14 km_378) (by decide +kernel)) rfl rfl rfl (by decide +kernel) ⟨Nat.le_of_ble_eq_true rfl, Nat.le_of_ble_eq_true rfl⟩) (pr_S (hC.S hS) hP [] rfl) rfl rfl hl.1 rfl (lv_room (Nat.le_of_ble_eq_true rfl)) kd_N_truthOf_1 ⟨Nat.le_of_ble_eq_true rfl, Nat.le_of_ble_eq_true rfl⟩) ?_
  refine lv_if_ne (tgt := 14) hx hb kd_N_truthOf_4 (by decide) (fun c_4 => ?_) (fun c_4 => ?_)
  · skip
    refine lv_lconst (v := 0) hx hb kd_N_truthOf_14 (by decide) ?_
    refine lv_goto (tgt := 19) hx hb kd_N_truthOf_15 (by decide) ?_
    exact hx_lretR hx hb hr hlocks (by unfold nu_truth; rw [if_neg c_4]; try rfl) kd_N_truthOf_19
  · skip
    refine lv_lload_n hx hb kd_N_truthOf_7 rfl (lv_at hl 0 rfl) ?_
    refine hx_callRi (va_runS (As := [.long b]) (rest := []) ⟨hx, hb, hml, hown, hts⟩ (mc_N_isNan b) (va_cwS 1 hts (goodIn_sub (hx_m4 km_510 km_511 km_14 km_512) (by decide +kernel)) rfl rfl rfl (by decide +kernel) ⟨Nat.le_of_ble_eq_true rfl, Nat.le_of_ble_eq_true rfl⟩) (pr_S (hC.S hS) hP [] rfl) rfl rfl hl.1 rfl (lv_room (Nat.le_of_ble_eq_true rfl)) kd_N_truthOf_8 ⟨Nat.le_of_ble_eq_true rfl, Nat.le_of_ble_eq_true rfl⟩) ?_
    refine lv_if_eq (tgt := 18) hx hb kd_N_truthOf_11 (by decide) (fun c_11 => ?_) (fun c_11 => ?_)
    · skip
      refine lv_lconst (v := 1) hx hb kd_N_truthOf_18 (by decide) ?_
      exact hx_lretR hx hb hr hlocks (by unfold nu_truth; rw [if_pos c_4, if_pos c_11]; try rfl) kd_N_truthOf_19
    · skip
      refine lv_lconst (v := 0) hx hb kd_N_truthOf_14 (by decide) ?_
      refine lv_goto (tgt := 19) hx hb kd_N_truthOf_15 (by decide) ?_
      exact hx_lretR hx hb hr hlocks (by unfold nu_truth; rw [if_pos c_4, if_neg c_11]; try rfl) kd_N_truthOf_19

def nu_long (b : Int64) : Bool := (if (b2_ (nu_zero b)) = 0 then (if (nu_pow b) < 0 then false else (if (nu_pow b) ≤ 53 then (if (nu_pow b) = 53 then (if (lg_cmp (nu_frac b) 0) = 0 then true else false) else (if (lg_cmp ((nu_frac b) &&& ((1 <<< ((52 - (nu_pow b) : Int32).toInt64 &&& 63)) - 1)) 0) = 0 then true else false)) else false)) else true)
set_option maxHeartbeats 4000000 in
set_option maxRecDepth 100000 in
theorem mc_N_isLong {l : Launch} {D : va_G} {cI cL cZ : ClassId} {tb : Nat} (b : Int64) : Met l ky_N_isLong kw_N_isLong { frames := 2, cells := 0, slots := 0, locals := 42 } (pr_P D cI cL cZ tb [] [.long b]) (hx_QR (some (.int (b2_ (nu_long b))))) 0 0 (fun _ => False) := by
  refine Met.ofW (cc := kc_N_isLong) (maxL := 5) (ret := (some .boolean)) (by decide) rfl ?_
  intro p e s m args below meth c s₁ B hml hv
  obtain ⟨rfl, hC, hP⟩ := hv
  have hx := B.exec
  have hb := B.bytes
  have hr := B.returns
  have hlocks := B.notSynchronized
  have hown : s.vm.findClass "HostBridge$Numbers" = some m.cls := findClass_of_methodNamed B.named
  have hS : va_S (fun _ => False) s.heap s.heap [] := va_S.rf
  have hK := hC.K
  have hts := hC.ts [.long b].toArray
  have hl := lv_entry ([.long b]) (n := 5) (Nat.le_of_ble_eq_true rfl)
  rw [lg_entry_eq]
  generalize (lg_sl ([.long b]) ++ List.replicate (5 - (lg_sl ([.long b])).length) Slot.unset).toArray = ls at hl ⊢
  have hl : lv_has ls 5 [(0, .long b)] := hl
  refine lv_lload_n hx hb kd_N_isLong_0 rfl (lv_at hl 0 rfl) ?_
  refine hx_callRi (va_runS (As := [.long b]) (rest := []) ⟨hx, hb, hml, hown, hts⟩ (mc_N_isZero b) (va_cwS 1 hts (goodIn_sub (hx_m4 km_376 km_377 km_14 km_378) (by decide +kernel)) rfl rfl rfl (by decide +kernel) ⟨Nat.le_of_ble_eq_true rfl, Nat.le_of_ble_eq_true rfl⟩) (pr_S (hC.S hS) hP [] rfl) rfl rfl hl.1 rfl (lv_room (Nat.le_of_ble_eq_true rfl)) kd_N_isLong_1 ⟨Nat.le_of_ble_eq_true rfl, Nat.le_of_ble_eq_true rfl⟩) ?_
  refine lv_if_eq (tgt := 9) hx hb kd_N_isLong_4 (by decide) (fun c_4 => ?_) (fun c_4 => ?_)
  · skip
    refine lv_lload_n hx hb kd_N_isLong_9 rfl (lv_at hl 0 rfl) ?_
    refine hx_callRi (va_runS (As := [.long b]) (rest := []) ⟨hx, hb, hml, hown, hts⟩ (mc_N_powerOf b) (va_cwS 1 hts (goodIn_sub (hx_m4 km_383 km_384 km_14 km_385) (by decide +kernel)) rfl rfl rfl (by decide +kernel) ⟨Nat.le_of_ble_eq_true rfl, Nat.le_of_ble_eq_true rfl⟩) (pr_S (hC.S hS) hP [] rfl) rfl rfl hl.1 rfl (lv_room (Nat.le_of_ble_eq_true rfl)) kd_N_isLong_10 ⟨Nat.le_of_ble_eq_true rfl, Nat.le_of_ble_eq_true rfl⟩) ?_
    refine lv_istore_n (lv' := [(2, .int (nu_pow b)), (0, .long b)]) hx hb kd_N_isLong_13 rfl hl (by decide) rfl (fun ls hl => ?_)
    refine lv_iload_n hx hb kd_N_isLong_14 rfl (lv_at hl 0 rfl) ?_
    refine lv_if_lt (tgt := 24) hx hb kd_N_isLong_15 (by decide) (fun c_15 => ?_) (fun c_15 => ?_)
    · skip
      refine lv_iconst (v := 0) hx hb kd_N_isLong_24 (by decide) ?_
      exact hx_zretR hx hb hr hlocks (by unfold nu_long; rw [if_pos c_4, if_pos c_15]; try rfl) kd_N_isLong_25
    · skip
      refine lv_iload_n hx hb kd_N_isLong_18 rfl (lv_at hl 0 rfl) ?_
      refine lv_bipush (v := 53) hx hb kd_N_isLong_19 (by decide) ?_
      refine lv_icmp_le (tgt := 26) hx hb kd_N_isLong_21 (by decide) (fun c_21 => ?_) (fun c_21 => ?_)
      · skip
        refine lv_iload_n hx hb kd_N_isLong_26 rfl (lv_at hl 0 rfl) ?_
        refine lv_bipush (v := 53) hx hb kd_N_isLong_27 (by decide) ?_
        refine lv_icmp_ne (tgt := 47) hx hb kd_N_isLong_29 (by decide) (fun c_29 => ?_) (fun c_29 => ?_)
        · skip
          refine lv_lconst (v := 1) hx hb kd_N_isLong_47 (by decide) ?_
          refine lv_bipush (v := 52) hx hb kd_N_isLong_48 (by decide) ?_
          refine lv_iload_n hx hb kd_N_isLong_50 rfl (lv_at hl 0 rfl) ?_
          refine lv_isub hx hb kd_N_isLong_51 ?_
          refine lv_lshl hx hb kd_N_isLong_52 rfl ?_
          refine lv_lconst (v := 1) hx hb kd_N_isLong_53 (by decide) ?_
          refine lv_lsub hx hb kd_N_isLong_54 ?_
          refine lv_lstore_n (lv' := [(3, .long ((1 <<< ((52 - (nu_pow b) : Int32).toInt64 &&& 63)) - 1)), (2, .int (nu_pow b)), (0, .long b)]) hx hb kd_N_isLong_55 rfl hl (by decide) rfl (fun ls hl => ?_)
          refine lv_lload_n hx hb kd_N_isLong_56 rfl (lv_at hl 2 rfl) ?_
          refine hx_callRl (va_runS (As := [.long b]) (rest := []) ⟨hx, hb, hml, hown, hts⟩ (mc_N_fractionOf b) (va_cwS 1 hts (goodIn_sub (hx_m4 km_387 km_388 km_14 km_389) (by decide +kernel)) rfl rfl rfl (by decide +kernel) ⟨Nat.le_of_ble_eq_true rfl, Nat.le_of_ble_eq_true rfl⟩) (pr_S (hC.S hS) hP [] rfl) rfl rfl hl.1 rfl (lv_room (Nat.le_of_ble_eq_true rfl)) kd_N_isLong_57 ⟨Nat.le_of_ble_eq_true rfl, Nat.le_of_ble_eq_true rfl⟩) ?_
          refine lv_lload_n hx hb kd_N_isLong_60 rfl (lv_at hl 0 rfl) ?_
          refine lv_land hx hb kd_N_isLong_61 ?_
          refine lv_lconst (v := 0) hx hb kd_N_isLong_62 (by decide) ?_
          refine W.lcmp hx hb kd_N_isLong_63 ?_
          refine lv_if_ne (tgt := 71) hx hb kd_N_isLong_64 (by decide) (fun c_64 => ?_) (fun c_64 => ?_)
          · skip
            refine lv_iconst (v := 0) hx hb kd_N_isLong_71 (by decide) ?_
            exact hx_zretR hx hb hr hlocks (by unfold nu_long; rw [if_pos c_4, if_neg c_15, if_pos c_21, if_neg c_29, if_neg c_64]; try rfl) kd_N_isLong_72
          · skip
            refine lv_iconst (v := 1) hx hb kd_N_isLong_67 (by decide) ?_
            refine lv_goto (tgt := 72) hx hb kd_N_isLong_68 (by decide) ?_
            exact hx_zretR hx hb hr hlocks (by unfold nu_long; rw [if_pos c_4, if_neg c_15, if_pos c_21, if_neg c_29, if_pos c_64]; try rfl) kd_N_isLong_72
        · skip
          refine lv_lload_n hx hb kd_N_isLong_32 rfl (lv_at hl 1 rfl) ?_
          refine hx_callRl (va_runS (As := [.long b]) (rest := []) ⟨hx, hb, hml, hown, hts⟩ (mc_N_fractionOf b) (va_cwS 1 hts (goodIn_sub (hx_m4 km_387 km_388 km_14 km_389) (by decide +kernel)) rfl rfl rfl (by decide +kernel) ⟨Nat.le_of_ble_eq_true rfl, Nat.le_of_ble_eq_true rfl⟩) (pr_S (hC.S hS) hP [] rfl) rfl rfl hl.1 rfl (lv_room (Nat.le_of_ble_eq_true rfl)) kd_N_isLong_33 ⟨Nat.le_of_ble_eq_true rfl, Nat.le_of_ble_eq_true rfl⟩) ?_
          refine lv_lconst (v := 0) hx hb kd_N_isLong_36 (by decide) ?_
          refine W.lcmp hx hb kd_N_isLong_37 ?_
          refine lv_if_ne (tgt := 45) hx hb kd_N_isLong_38 (by decide) (fun c_38 => ?_) (fun c_38 => ?_)
          · skip
            refine lv_iconst (v := 0) hx hb kd_N_isLong_45 (by decide) ?_
            exact hx_zretR hx hb hr hlocks (by unfold nu_long; rw [if_pos c_4, if_neg c_15, if_pos c_21, if_pos c_29, if_neg c_38]; try rfl) kd_N_isLong_46
          · skip
            refine lv_iconst (v := 1) hx hb kd_N_isLong_41 (by decide) ?_
            refine lv_goto (tgt := 46) hx hb kd_N_isLong_42 (by decide) ?_
            exact hx_zretR hx hb hr hlocks (by unfold nu_long; rw [if_pos c_4, if_neg c_15, if_pos c_21, if_pos c_29, if_pos c_38]; try rfl) kd_N_isLong_46
      · skip
        refine lv_iconst (v := 0) hx hb kd_N_isLong_24 (by decide) ?_
        exact hx_zretR hx hb hr hlocks (by unfold nu_long; rw [if_pos c_4, if_neg c_15, if_neg c_21]; try rfl) kd_N_isLong_25
  · skip
    refine lv_iconst (v := 1) hx hb kd_N_isLong_7 (by decide) ?_
    exact hx_zretR hx hb hr hlocks (by unfold nu_long; rw [if_neg c_4]; try rfl) kd_N_isLong_8

def nu_whole (b : Int64) : Int64 := (if (b2_ (nu_zero b)) = 0 then (if (nu_pow b) ≤ 52 then (if 0 ≤ (lg_cmp b 0) then ((((nu_frac b) ||| 4503599627370496).toUInt64 >>> ((52 - (nu_pow b) : Int32).toInt64.toUInt64 &&& Int64.toUInt64 63)).toInt64) else (-((((nu_frac b) ||| 4503599627370496).toUInt64 >>> ((52 - (nu_pow b) : Int32).toInt64.toUInt64 &&& Int64.toUInt64 63)).toInt64))) else (if 0 ≤ (lg_cmp b 0) then (((nu_frac b) ||| 4503599627370496) <<< (((nu_pow b) - 52 : Int32).toInt64 &&& 63)) else (-(((nu_frac b) ||| 4503599627370496) <<< (((nu_pow b) - 52 : Int32).toInt64 &&& 63))))) else 0)
set_option maxHeartbeats 4000000 in
set_option maxRecDepth 100000 in
theorem mc_N_wholeOf {l : Launch} {D : va_G} {cI cL cZ : ClassId} {tb : Nat} (b : Int64) : Met l ky_N_wholeOf kw_N_wholeOf { frames := 2, cells := 0, slots := 0, locals := 42 } (pr_P D cI cL cZ tb [] [.long b]) (hx_QR (some (.long (nu_whole b)))) 0 0 (fun _ => False) := by
  refine Met.ofW (cc := kc_N_wholeOf) (maxL := 7) (ret := (some .long)) (by decide) rfl ?_
  intro p e s m args below meth c s₁ B hml hv
  obtain ⟨rfl, hC, hP⟩ := hv
  have hx := B.exec
  have hb := B.bytes
  have hr := B.returns
  have hlocks := B.notSynchronized
  have hown : s.vm.findClass "HostBridge$Numbers" = some m.cls := findClass_of_methodNamed B.named
  have hS : va_S (fun _ => False) s.heap s.heap [] := va_S.rf
  have hK := hC.K
  have hts := hC.ts [.long b].toArray
  have hl := lv_entry ([.long b]) (n := 7) (Nat.le_of_ble_eq_true rfl)
  rw [lg_entry_eq]
  generalize (lg_sl ([.long b]) ++ List.replicate (7 - (lg_sl ([.long b])).length) Slot.unset).toArray = ls at hl ⊢
  have hl : lv_has ls 7 [(0, .long b)] := hl
  refine lv_lload_n hx hb kd_N_wholeOf_0 rfl (lv_at hl 0 rfl) ?_
  refine hx_callRi (va_runS (As := [.long b]) (rest := []) ⟨hx, hb, hml, hown, hts⟩ (mc_N_isZero b) (va_cwS 1 hts (goodIn_sub (hx_m4 km_376 km_377 km_14 km_378) (by decide +kernel)) rfl rfl rfl (by decide +kernel) ⟨Nat.le_of_ble_eq_true rfl, Nat.le_of_ble_eq_true rfl⟩) (pr_S (hC.S hS) hP [] rfl) rfl rfl hl.1 rfl (lv_room (Nat.le_of_ble_eq_true rfl)) kd_N_wholeOf_1 ⟨Nat.le_of_ble_eq_true rfl, Nat.le_of_ble_eq_true rfl⟩) ?_
  refine lv_if_eq (tgt := 9) hx hb kd_N_wholeOf_4 (by decide) (fun c_4 => ?_) (fun c_4 => ?_)
  · skip
    refine lv_lload_n hx hb kd_N_wholeOf_9 rfl (lv_at hl 0 rfl) ?_
    refine hx_callRl (va_runS (As := [.long b]) (rest := []) ⟨hx, hb, hml, hown, hts⟩ (mc_N_fractionOf b) (va_cwS 1 hts (goodIn_sub (hx_m4 km_387 km_388 km_14 km_389) (by decide +kernel)) rfl rfl rfl (by decide +kernel) ⟨Nat.le_of_ble_eq_true rfl, Nat.le_of_ble_eq_true rfl⟩) (pr_S (hC.S hS) hP [] rfl) rfl rfl hl.1 rfl (lv_room (Nat.le_of_ble_eq_true rfl)) kd_N_wholeOf_10 ⟨Nat.le_of_ble_eq_true rfl, Nat.le_of_ble_eq_true rfl⟩) ?_
    refine lv_ldc2 (v := 4503599627370496) hx hb hown (hts _ km_394) kd_N_wholeOf_13 ?_
    refine lv_lor hx hb kd_N_wholeOf_16 ?_
    refine lv_lstore_n (lv' := [(2, .long ((nu_frac b) ||| 4503599627370496)), (0, .long b)]) hx hb kd_N_wholeOf_17 rfl hl (by decide) rfl (fun ls hl => ?_)
    refine lv_lload_n hx hb kd_N_wholeOf_18 rfl (lv_at hl 1 rfl) ?_
    refine hx_callRi (va_runS (As := [.long b]) (rest := []) ⟨hx, hb, hml, hown, hts⟩ (mc_N_powerOf b) (va_cwS 1 hts (goodIn_sub (hx_m4 km_383 km_384 km_14 km_385) (by decide +kernel)) rfl rfl rfl (by decide +kernel) ⟨Nat.le_of_ble_eq_true rfl, Nat.le_of_ble_eq_true rfl⟩) (pr_S (hC.S hS) hP [] rfl) rfl rfl hl.1 rfl (lv_room (Nat.le_of_ble_eq_true rfl)) kd_N_wholeOf_19 ⟨Nat.le_of_ble_eq_true rfl, Nat.le_of_ble_eq_true rfl⟩) ?_
    refine lv_istore (lv' := [(4, .int (nu_pow b)), (2, .long ((nu_frac b) ||| 4503599627370496)), (0, .long b)]) hx hb kd_N_wholeOf_22 hl (by decide) rfl (fun ls hl => ?_)
    refine lv_iload hx hb kd_N_wholeOf_24 (lv_at hl 0 rfl) ?_
    refine lv_bipush (v := 52) hx hb kd_N_wholeOf_26 (by decide) ?_
    refine lv_icmp_le (tgt := 41) hx hb kd_N_wholeOf_28 (by decide) (fun c_28 => ?_) (fun c_28 => ?_)
    · skip
      refine lv_lload_n hx hb kd_N_wholeOf_41 rfl (lv_at hl 1 rfl) ?_
      refine lv_bipush (v := 52) hx hb kd_N_wholeOf_42 (by decide) ?_
      refine lv_iload hx hb kd_N_wholeOf_44 (lv_at hl 0 rfl) ?_
      refine lv_isub hx hb kd_N_wholeOf_46 ?_
      refine lv_lushr hx hb kd_N_wholeOf_47 rfl ?_
      refine lv_lstore (lv' := [(5, .long ((((nu_frac b) ||| 4503599627370496).toUInt64 >>> ((52 - (nu_pow b) : Int32).toInt64.toUInt64 &&& Int64.toUInt64 63)).toInt64)), (4, .int (nu_pow b)), (2, .long ((nu_frac b) ||| 4503599627370496)), (0, .long b)]) hx hb kd_N_wholeOf_48 hl (by decide) rfl (fun ls hl => ?_)
      refine lv_lload_n hx hb kd_N_wholeOf_50 rfl (lv_at hl 3 rfl) ?_
      refine lv_lconst (v := 0) hx hb kd_N_wholeOf_51 (by decide) ?_
      refine W.lcmp hx hb kd_N_wholeOf_52 ?_
      refine lv_if_ge (tgt := 62) hx hb kd_N_wholeOf_53 (by decide) (fun c_53 => ?_) (fun c_53 => ?_)
      · skip
        refine lv_lload hx hb kd_N_wholeOf_62 (lv_at hl 0 rfl) ?_
        exact hx_lretR hx hb hr hlocks (by unfold nu_whole; rw [if_pos c_4, if_pos c_28, if_pos c_53]; try rfl) kd_N_wholeOf_64
      · skip
        refine lv_lload hx hb kd_N_wholeOf_56 (lv_at hl 0 rfl) ?_
        refine lv_lneg hx hb kd_N_wholeOf_58 ?_
        refine lv_goto (tgt := 64) hx hb kd_N_wholeOf_59 (by decide) ?_
        exact hx_lretR hx hb hr hlocks (by unfold nu_whole; rw [if_pos c_4, if_pos c_28, if_neg c_53]; try rfl) kd_N_wholeOf_64
    · skip
      refine lv_lload_n hx hb kd_N_wholeOf_31 rfl (lv_at hl 1 rfl) ?_
      refine lv_iload hx hb kd_N_wholeOf_32 (lv_at hl 0 rfl) ?_
      refine lv_bipush (v := 52) hx hb kd_N_wholeOf_34 (by decide) ?_
      refine lv_isub hx hb kd_N_wholeOf_36 ?_
      refine lv_lshl hx hb kd_N_wholeOf_37 rfl ?_
      refine lv_goto (tgt := 48) hx hb kd_N_wholeOf_38 (by decide) ?_
      refine lv_lstore (lv' := [(5, .long (((nu_frac b) ||| 4503599627370496) <<< (((nu_pow b) - 52 : Int32).toInt64 &&& 63))), (4, .int (nu_pow b)), (2, .long ((nu_frac b) ||| 4503599627370496)), (0, .long b)]) hx hb kd_N_wholeOf_48 hl (by decide) rfl (fun ls hl => ?_)
      refine lv_lload_n hx hb kd_N_wholeOf_50 rfl (lv_at hl 3 rfl) ?_
      refine lv_lconst (v := 0) hx hb kd_N_wholeOf_51 (by decide) ?_
      refine W.lcmp hx hb kd_N_wholeOf_52 ?_
      refine lv_if_ge (tgt := 62) hx hb kd_N_wholeOf_53 (by decide) (fun c_53 => ?_) (fun c_53 => ?_)
      · skip
        refine lv_lload hx hb kd_N_wholeOf_62 (lv_at hl 0 rfl) ?_
        exact hx_lretR hx hb hr hlocks (by unfold nu_whole; rw [if_pos c_4, if_neg c_28, if_pos c_53]; try rfl) kd_N_wholeOf_64
      · skip
        refine lv_lload hx hb kd_N_wholeOf_56 (lv_at hl 0 rfl) ?_
        refine lv_lneg hx hb kd_N_wholeOf_58 ?_
        refine lv_goto (tgt := 64) hx hb kd_N_wholeOf_59 (by decide) ?_
        exact hx_lretR hx hb hr hlocks (by unfold nu_whole; rw [if_pos c_4, if_neg c_28, if_neg c_53]; try rfl) kd_N_wholeOf_64
  · skip
    refine lv_lconst (v := 0) hx hb kd_N_wholeOf_7 (by decide) ?_
    exact hx_lretR hx hb hr hlocks (by unfold nu_whole; rw [if_neg c_4]; try rfl) kd_N_wholeOf_8

def nu_int (b : Int64) : Bool := (if (lg_cmp b (-9223372036854775808)) = 0 then false else (if (b2_ (nu_long b)) = 0 then false else (if (lg_cmp (nu_whole b) (((nu_whole b).toInt32).toInt64)) = 0 then true else false)))
set_option maxHeartbeats 4000000 in
set_option maxRecDepth 100000 in
theorem mc_N_isInt {l : Launch} {D : va_G} {cI cL cZ : ClassId} {tb : Nat} (b : Int64) : Met l ky_N_isInt kw_N_isInt { frames := 3, cells := 0, slots := 0, locals := 68 } (pr_P D cI cL cZ tb [] [.long b]) (hx_QR (some (.int (b2_ (nu_int b))))) 0 0 (fun _ => False) := by
  refine Met.ofW (cc := kc_N_isInt) (maxL := 4) (ret := (some .boolean)) (by decide) rfl ?_
  intro p e s m args below meth c s₁ B hml hv
  obtain ⟨rfl, hC, hP⟩ := hv
  have hx := B.exec
  have hb := B.bytes
  have hr := B.returns
  have hlocks := B.notSynchronized
  have hown : s.vm.findClass "HostBridge$Numbers" = some m.cls := findClass_of_methodNamed B.named
  have hS : va_S (fun _ => False) s.heap s.heap [] := va_S.rf
  have hK := hC.K
  have hts := hC.ts [.long b].toArray
  have hl := lv_entry ([.long b]) (n := 4) (Nat.le_of_ble_eq_true rfl)
  rw [lg_entry_eq]
  generalize (lg_sl ([.long b]) ++ List.replicate (4 - (lg_sl ([.long b])).length) Slot.unset).toArray = ls at hl ⊢
  have hl : lv_has ls 4 [(0, .long b)] := hl
  refine lv_lload_n hx hb kd_N_isInt_0 rfl (lv_at hl 0 rfl) ?_
  refine lv_ldc2 (v := -9223372036854775808) hx hb hown (hts _ km_372) kd_N_isInt_1 ?_
  refine W.lcmp hx hb kd_N_isInt_4 ?_
  refine lv_if_eq (tgt := 15) hx hb kd_N_isInt_5 (by decide) (fun c_5 => ?_) (fun c_5 => ?_)
  · skip
    refine lv_iconst (v := 0) hx hb kd_N_isInt_15 (by decide) ?_
    exact hx_zretR hx hb hr hlocks (by unfold nu_int; rw [if_pos c_5]; try rfl) kd_N_isInt_16
  · skip
    refine lv_lload_n hx hb kd_N_isInt_8 rfl (lv_at hl 0 rfl) ?_
    refine hx_callRi (va_runS (As := [.long b]) (rest := []) ⟨hx, hb, hml, hown, hts⟩ (mc_N_isLong b) (va_cwS 1 hts (goodIn_sub (hx_m4 km_373 km_374 km_14 km_375) (by decide +kernel)) rfl rfl rfl (by decide +kernel) ⟨Nat.le_of_ble_eq_true rfl, Nat.le_of_ble_eq_true rfl⟩) (pr_S (hC.S hS) hP [] rfl) rfl rfl hl.1 rfl (lv_room (Nat.le_of_ble_eq_true rfl)) kd_N_isInt_9 ⟨Nat.le_of_ble_eq_true rfl, Nat.le_of_ble_eq_true rfl⟩) ?_
    refine lv_if_ne (tgt := 17) hx hb kd_N_isInt_12 (by decide) (fun c_12 => ?_) (fun c_12 => ?_)
    · skip
      refine lv_lload_n hx hb kd_N_isInt_17 rfl (lv_at hl 0 rfl) ?_
      refine hx_callRl (va_runS (As := [.long b]) (rest := []) ⟨hx, hb, hml, hown, hts⟩ (mc_N_wholeOf b) (va_cwS 1 hts (goodIn_sub (hx_m4 km_391 km_392 km_14 km_393) (by decide +kernel)) rfl rfl rfl (by decide +kernel) ⟨Nat.le_of_ble_eq_true rfl, Nat.le_of_ble_eq_true rfl⟩) (pr_S (hC.S hS) hP [] rfl) rfl rfl hl.1 rfl (lv_room (Nat.le_of_ble_eq_true rfl)) kd_N_isInt_18 ⟨Nat.le_of_ble_eq_true rfl, Nat.le_of_ble_eq_true rfl⟩) ?_
      refine lv_lstore_n (lv' := [(2, .long (nu_whole b)), (0, .long b)]) hx hb kd_N_isInt_21 rfl hl (by decide) rfl (fun ls hl => ?_)
      refine lv_lload_n hx hb kd_N_isInt_22 rfl (lv_at hl 0 rfl) ?_
      refine lv_lload_n hx hb kd_N_isInt_23 rfl (lv_at hl 0 rfl) ?_
      refine lv_l2i hx hb kd_N_isInt_24 rfl ?_
      refine lv_i2l hx hb kd_N_isInt_25 rfl ?_
      refine W.lcmp hx hb kd_N_isInt_26 ?_
      refine lv_if_ne (tgt := 34) hx hb kd_N_isInt_27 (by decide) (fun c_27 => ?_) (fun c_27 => ?_)
      · skip
        refine lv_iconst (v := 0) hx hb kd_N_isInt_34 (by decide) ?_
        exact hx_zretR hx hb hr hlocks (by unfold nu_int; rw [if_neg c_5, if_neg c_12, if_neg c_27]; try rfl) kd_N_isInt_35
      · skip
        refine lv_iconst (v := 1) hx hb kd_N_isInt_30 (by decide) ?_
        refine lv_goto (tgt := 35) hx hb kd_N_isInt_31 (by decide) ?_
        exact hx_zretR hx hb hr hlocks (by unfold nu_int; rw [if_neg c_5, if_neg c_12, if_pos c_27]; try rfl) kd_N_isInt_35
    · skip
      refine lv_iconst (v := 0) hx hb kd_N_isInt_15 (by decide) ?_
      exact hx_zretR hx hb hr hlocks (by unfold nu_int; rw [if_neg c_5, if_pos c_12]; try rfl) kd_N_isInt_16
