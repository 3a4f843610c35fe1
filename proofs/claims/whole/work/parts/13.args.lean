/-! THE ARGUMENTS (HostBridge$Arguments): sorts, weights, what they are converted to -/
def so_ (k : Int32) (b : Int64) : Int32 := (if k = 3 then (if (b2_ (nu_int b)) = 0 then (if (b2_ (nu_long b)) = 0 then 3 else 8) else 7) else k)
set_option maxHeartbeats 4000000 in
set_option maxRecDepth 100000 in
theorem mc_A_sortOf {l : Launch} {D : va_G} {cI cL cZ : ClassId} {tb : Nat} (k : Int32) (b : Int64) : Met l ky_A_sortOf kw_A_sortOf { frames := 4, cells := 0, slots := 0, locals := 91 } (pr_P D cI cL cZ tb [] [.int k, .long b]) (hx_QR (some (.int (so_ k b)))) 0 0 (fun _ => False) := by
  refine Met.ofW (cc := kc_A_sortOf) (maxL := 3) (ret := (some .int)) (by decide) rfl ?_
  intro p e s m args below meth c s₁ B hml hv
  obtain ⟨rfl, hC, hP⟩ := hv
  have hx := B.exec
  have hb := B.bytes
  have hr := B.returns
  have hlocks := B.notSynchronized
  have hown : s.vm.findClass "HostBridge$Arguments" = some m.cls := findClass_of_methodNamed B.named
  have hS : va_S (fun _ => False) s.heap s.heap [] := va_S.rf
  have hK := hC.K
  have hts := hC.ts [.int k, .long b].toArray
  have hl := lv_entry ([.int k, .long b]) (n := 3) (Nat.le_of_ble_eq_true rfl)
  rw [lg_entry_eq]
  generalize (lg_sl ([.int k, .long b]) ++ List.replicate (3 - (lg_sl ([.int k, .long b])).length) Slot.unset).toArray = ls at hl ⊢
  have hl : lv_has ls 3 [(0, .int k), (1, .long b)] := hl
  refine lv_iload_n hx hb kd_A_sortOf_0 rfl (lv_at hl 0 rfl) ?_
  refine lv_iconst (v := 3) hx hb kd_A_sortOf_1 (by decide) ?_
  refine lv_icmp_eq (tgt := 7) hx hb kd_A_sortOf_2 (by decide) (fun c_2 => ?_) (fun c_2 => ?_)
  · skip
    refine lv_lload_n hx hb kd_A_sortOf_7 rfl (lv_at hl 1 rfl) ?_
    refine hx_callRi (va_runS (As := [.long b]) (rest := []) ⟨hx, hb, hml, hown, hts⟩ (mc_N_isInt b) (va_cwS 1 hts (goodIn_sub (hx_m4 km_369 km_370 km_14 km_371) (by decide +kernel)) rfl rfl rfl (by decide +kernel) ⟨Nat.le_of_ble_eq_true rfl, Nat.le_of_ble_eq_true rfl⟩) (pr_S (hC.S hS) hP [] rfl) rfl rfl hl.1 rfl (lv_room (Nat.le_of_ble_eq_true rfl)) kd_A_sortOf_8 ⟨Nat.le_of_ble_eq_true rfl, Nat.le_of_ble_eq_true rfl⟩) ?_
    refine lv_if_eq (tgt := 17) hx hb kd_A_sortOf_11 (by decide) (fun c_11 => ?_) (fun c_11 => ?_)
    · skip
      refine lv_lload_n hx hb kd_A_sortOf_17 rfl (lv_at hl 1 rfl) ?_
      refine hx_callRi (va_runS (As := [.long b]) (rest := []) ⟨hx, hb, hml, hown, hts⟩ (mc_N_isLong b) (va_cwS 1 hts (goodIn_sub (hx_m4 km_395 km_374 km_14 km_375) (by decide +kernel)) rfl rfl rfl (by decide +kernel) ⟨Nat.le_of_ble_eq_true rfl, Nat.le_of_ble_eq_true rfl⟩) (pr_S (hC.S hS) hP [] rfl) rfl rfl hl.1 rfl (lv_room (Nat.le_of_ble_eq_true rfl)) kd_A_sortOf_18 ⟨Nat.le_of_ble_eq_true rfl, Nat.le_of_ble_eq_true rfl⟩) ?_
      refine lv_if_eq (tgt := 29) hx hb kd_A_sortOf_21 (by decide) (fun c_21 => ?_) (fun c_21 => ?_)
      · skip
        refine lv_iconst (v := 3) hx hb kd_A_sortOf_29 (by decide) ?_
        exact hx_iretR hx hb hr hlocks (by unfold so_; rw [if_pos c_2, if_pos c_11, if_pos c_21]; try rfl) kd_A_sortOf_30
      · skip
        refine lv_bipush (v := 8) hx hb kd_A_sortOf_24 (by decide) ?_
        refine lv_goto (tgt := 30) hx hb kd_A_sortOf_26 (by decide) ?_
        exact hx_iretR hx hb hr hlocks (by unfold so_; rw [if_pos c_2, if_pos c_11, if_neg c_21]; try rfl) kd_A_sortOf_30
    · skip
      refine lv_bipush (v := 7) hx hb kd_A_sortOf_14 (by decide) ?_
      exact hx_iretR hx hb hr hlocks (by unfold so_; rw [if_pos c_2, if_neg c_11]; try rfl) kd_A_sortOf_16
  · skip
    refine lv_iload_n hx hb kd_A_sortOf_5 rfl (lv_at hl 0 rfl) ?_
    exact hx_iretR hx hb hr hlocks (by unfold so_; rw [if_neg c_2]; try rfl) kd_A_sortOf_6

set_option maxHeartbeats 4000000 in
set_option maxRecDepth 100000 in
theorem mc_A_takeAll {l : Launch} {D : va_G} {cI cL cZ : ClassId} {tb : Nat} (h0 hw a1 a2 a3 na : Nat) (sz : Nat) : Met l ky_A_takeAll kw_A_takeAll { frames := 0, cells := 0, slots := 0, locals := 0 } (pw_P D cI cL cZ tb [(h0, .inr (3, [.ref hw, .ref a1, .ref a2, .ref a3, .int (nI na)]))] sz [.ref h0]) (hx_QW D (some (.int (nI na))) [(h0, .inr (3, [.ref hw, .ref a1, .ref a2, .ref a3, .int (nI 0)]))] (va_A [(h0, .inr (3, [.ref hw, .ref a1, .ref a2, .ref a3, .int (nI na)]))] sz)) 0 0 (va_A [(h0, .inr (3, [.ref hw, .ref a1, .ref a2, .ref a3, .int (nI na)]))] sz) := by
  refine Met.ofW (cc := kc_A_takeAll) (maxL := 2) (ret := (some .int)) (by decide) rfl ?_
  intro p e s m args below meth c s₁ B hml hv
  obtain ⟨rfl, hsz, hC, hP, hD0⟩ := hv
  have hx := B.exec
  have hb := B.bytes
  have hr := B.returns
  have hlocks := B.notSynchronized
  have hown : s.vm.findClass "HostBridge$Arguments" = some m.cls := findClass_of_methodNamed B.named
  subst hsz
  have hD := hD0.self (sz := s.heap.size)
  generalize hAe : va_A [(h0, .inr (3, [.ref hw, .ref a1, .ref a2, .ref a3, .int (nI na)]))] s.heap.size = A at hD hC ⊢
  have hA : ∀ q : Nat, s.heap.size ≤ q → A q := fun q h => by rw [← hAe]; exact Or.inr h
  have hS : va_S A s.heap s.heap [] := va_S.rf
  have hK := hC.K
  have hts := hC.ts [.ref h0].toArray
  have hl := lv_entry ([.ref h0]) (n := 2) (Nat.le_of_ble_eq_true rfl)
  rw [lg_entry_eq]
  generalize (lg_sl ([.ref h0]) ++ List.replicate (2 - (lg_sl ([.ref h0])).length) Slot.unset).toArray = ls at hl ⊢
  have hl : lv_has ls 2 [(0, .ref h0)] := hl
  refine lv_aload_n hx hb kd_A_takeAll_0 rfl (lv_at hl 0 rfl) ?_
  refine va_get (D := D) (ci := 3) (v := .int (nI na)) (C := "HostBridge$Arguments") (T := ct_A) (N := 5) hx hb hts cw_A hown hK hP 0 rfl rfl 4 (by decide) (hts _ km_88) (fun _ h9 => h9) rfl kd_A_takeAll_1 ?_
  refine lv_istore_n (lv' := [(1, .int (nI na)), (0, .ref h0)]) hx hb kd_A_takeAll_4 rfl hl (by decide) rfl (fun ls hl => ?_)
  refine lv_aload_n hx hb kd_A_takeAll_5 rfl (lv_at hl 1 rfl) ?_
  refine lv_iconst (v := 0) hx hb kd_A_takeAll_6 (by decide) ?_
  refine hx_topi (y := nI 0) (nI_0.symm) ?_
  refine va_put (D := D) (ci := 3) (v := .int (nI 0)) (ty := .int) (C := "HostBridge$Arguments") (T := ct_A) (N := 5) hx hb hts cw_A cy_A cp_A cn_A hown hK hP hD hS 0 rfl rfl 4 (by decide) (hts _ km_88) (fun _ h9 => h9) rfl (by decide +kernel) rfl rfl (Nat.le_of_ble_eq_true rfl) kd_A_takeAll_7 (fun H locs hP hD hS => ?_)
  have hP : va_P D cl_all [(h0, .inr (3, [.ref hw, .ref a1, .ref a2, .ref a3, .int (nI 0)]))] H := hP
  have hD : va_D A [(h0, .inr (3, [.ref hw, .ref a1, .ref a2, .ref a3, .int (nI 0)]))] := hD
  refine lv_iload_n hx hb kd_A_takeAll_10 rfl (lv_at hl 0 rfl) ?_
  exact hx_iretW hx hb hr hlocks (by simp []) (hP) hS kd_A_takeAll_11

set_option maxHeartbeats 4000000 in
set_option maxRecDepth 100000 in
theorem mc_A_add {l : Launch} {D : va_G} {cI cL cZ : ClassId} {tb : Nat} (h0 hw a1 a2 a3 na : Nat) (kn so : Nat → Int32) (bi : Nat → Int64) (k : Int32) (b : Int64) (hn : na < 4) (sz : Nat) : Met l ky_A_add kw_A_add { frames := 5, cells := 0, slots := 0, locals := 113 } (pw_P D cI cL cZ tb [(h0, .inr (3, [.ref hw, .ref a1, .ref a2, .ref a3, .int (nI na)])), (a1, .inl (cI, 4, .inl kn)), (a2, .inl (cI, 4, .inl so)), (a3, .inl (cL, 4, .inr (.inl bi)))] sz [.ref h0, .int k, .long b]) (hx_QW D (some (.int (nI (na + 1)))) [(h0, .inr (3, [.ref hw, .ref a1, .ref a2, .ref a3, .int (nI (na + 1))])), (a1, .inl (cI, 4, .inl (upd kn na k))), (a2, .inl (cI, 4, .inl (upd so na (so_ k b)))), (a3, .inl (cL, 4, .inr (.inl (vp_updL bi na b))))] (va_A [(h0, .inr (3, [.ref hw, .ref a1, .ref a2, .ref a3, .int (nI na)])), (a1, .inl (cI, 4, .inl kn)), (a2, .inl (cI, 4, .inl so)), (a3, .inl (cL, 4, .inr (.inl bi)))] sz)) 0 0 (va_A [(h0, .inr (3, [.ref hw, .ref a1, .ref a2, .ref a3, .int (nI na)])), (a1, .inl (cI, 4, .inl kn)), (a2, .inl (cI, 4, .inl so)), (a3, .inl (cL, 4, .inr (.inl bi)))] sz) := by
  refine Met.ofW (cc := kc_A_add) (maxL := 4) (ret := (some .int)) (by decide) rfl ?_
  intro p e s m args below meth c s₁ B hml hv
  obtain ⟨rfl, hsz, hC, hP, hD0⟩ := hv
  have hx := B.exec
  have hb := B.bytes
  have hr := B.returns
  have hlocks := B.notSynchronized
  have hown : s.vm.findClass "HostBridge$Arguments" = some m.cls := findClass_of_methodNamed B.named
  subst hsz
  have hD := hD0.self (sz := s.heap.size)
  generalize hAe : va_A [(h0, .inr (3, [.ref hw, .ref a1, .ref a2, .ref a3, .int (nI na)])), (a1, .inl (cI, 4, .inl kn)), (a2, .inl (cI, 4, .inl so)), (a3, .inl (cL, 4, .inr (.inl bi)))] s.heap.size = A at hD hC ⊢
  have hA : ∀ q : Nat, s.heap.size ≤ q → A q := fun q h => by rw [← hAe]; exact Or.inr h
  have hS : va_S A s.heap s.heap [] := va_S.rf
  have hK := hC.K
  have hts := hC.ts [.ref h0, .int k, .long b].toArray
  have hl := lv_entry ([.ref h0, .int k, .long b]) (n := 4) (Nat.le_of_ble_eq_true rfl)
  rw [lg_entry_eq]
  generalize (lg_sl ([.ref h0, .int k, .long b]) ++ List.replicate (4 - (lg_sl ([.ref h0, .int k, .long b])).length) Slot.unset).toArray = ls at hl ⊢
  have hl : lv_has ls 4 [(0, .ref h0), (1, .int k), (2, .long b)] := hl
  refine lv_aload_n hx hb kd_A_add_0 rfl (lv_at hl 0 rfl) ?_
  refine va_get (D := D) (ci := 3) (v := .ref a1) (C := "HostBridge$Arguments") (T := ct_A) (N := 5) hx hb hts cw_A hown hK hP 0 rfl rfl 1 (by decide) (hts _ km_85) (fun _ h9 => h9) rfl kd_A_add_1 ?_
  refine lv_aload_n hx hb kd_A_add_4 rfl (lv_at hl 0 rfl) ?_
  refine va_get (D := D) (ci := 3) (v := .int (nI na)) (C := "HostBridge$Arguments") (T := ct_A) (N := 5) hx hb hts cw_A hown hK hP 0 rfl rfl 4 (by decide) (hts _ km_88) (fun _ h9 => h9) rfl kd_A_add_5 ?_
  refine lv_iload_n hx hb kd_A_add_8 rfl (lv_at hl 1 rfl) ?_
  refine hx_iast (j := na) hx hb hK hP hD hS 1 rfl (rfl) (hn) (by decide) kd_A_add_9 (fun H locs hP hD hS => ?_)
  have hP : va_P D cl_all [(h0, .inr (3, [.ref hw, .ref a1, .ref a2, .ref a3, .int (nI na)])), (a1, .inl (cI, 4, .inl (upd kn na k))), (a2, .inl (cI, 4, .inl so)), (a3, .inl (cL, 4, .inr (.inl bi)))] H := hP
  have hD : va_D A [(h0, .inr (3, [.ref hw, .ref a1, .ref a2, .ref a3, .int (nI na)])), (a1, .inl (cI, 4, .inl (upd kn na k))), (a2, .inl (cI, 4, .inl so)), (a3, .inl (cL, 4, .inr (.inl bi)))] := hD
  refine lv_aload_n hx hb kd_A_add_10 rfl (lv_at hl 0 rfl) ?_
  refine va_get (D := D) (ci := 3) (v := .ref a2) (C := "HostBridge$Arguments") (T := ct_A) (N := 5) hx hb hts cw_A hown hK hP 0 rfl rfl 2 (by decide) (hts _ km_86) (fun _ h9 => h9) rfl kd_A_add_11 ?_
  refine lv_aload_n hx hb kd_A_add_14 rfl (lv_at hl 0 rfl) ?_
  refine va_get (D := D) (ci := 3) (v := .int (nI na)) (C := "HostBridge$Arguments") (T := ct_A) (N := 5) hx hb hts cw_A hown hK hP 0 rfl rfl 4 (by decide) (hts _ km_88) (fun _ h9 => h9) rfl kd_A_add_15 ?_
  refine lv_iload_n hx hb kd_A_add_18 rfl (lv_at hl 1 rfl) ?_
  refine lv_lload_n hx hb kd_A_add_19 rfl (lv_at hl 2 rfl) ?_
  refine hx_callRi (va_runS (As := [.int k, .long b]) (rest := [.int (nI na), .ref a2]) ⟨hx, hb, hml, hown, hts⟩ (mc_A_sortOf k b) (va_cwS 2 hts (goodIn_sub (hx_m4 km_366 km_367 km_4 km_368) (by decide +kernel)) rfl rfl rfl (by decide +kernel) ⟨Nat.le_of_ble_eq_true rfl, Nat.le_of_ble_eq_true rfl⟩) (pr_S (hC.S hS) hP [] rfl) rfl rfl hl.1 rfl (lv_room (Nat.le_of_ble_eq_true rfl)) kd_A_add_20 ⟨Nat.le_of_ble_eq_true rfl, Nat.le_of_ble_eq_true rfl⟩) ?_
  refine hx_iast (j := na) hx hb hK hP hD hS 2 rfl (rfl) (hn) (by decide) kd_A_add_23 (fun H locs hP hD hS => ?_)
  have hP : va_P D cl_all [(h0, .inr (3, [.ref hw, .ref a1, .ref a2, .ref a3, .int (nI na)])), (a1, .inl (cI, 4, .inl (upd kn na k))), (a2, .inl (cI, 4, .inl (upd so na (so_ k b)))), (a3, .inl (cL, 4, .inr (.inl bi)))] H := hP
  have hD : va_D A [(h0, .inr (3, [.ref hw, .ref a1, .ref a2, .ref a3, .int (nI na)])), (a1, .inl (cI, 4, .inl (upd kn na k))), (a2, .inl (cI, 4, .inl (upd so na (so_ k b)))), (a3, .inl (cL, 4, .inr (.inl bi)))] := hD
  refine lv_aload_n hx hb kd_A_add_24 rfl (lv_at hl 0 rfl) ?_
  refine va_get (D := D) (ci := 3) (v := .ref a3) (C := "HostBridge$Arguments") (T := ct_A) (N := 5) hx hb hts cw_A hown hK hP 0 rfl rfl 3 (by decide) (hts _ km_87) (fun _ h9 => h9) rfl kd_A_add_25 ?_
  refine lv_aload_n hx hb kd_A_add_28 rfl (lv_at hl 0 rfl) ?_
  refine va_get (D := D) (ci := 3) (v := .int (nI na)) (C := "HostBridge$Arguments") (T := ct_A) (N := 5) hx hb hts cw_A hown hK hP 0 rfl rfl 4 (by decide) (hts _ km_88) (fun _ h9 => h9) rfl kd_A_add_29 ?_
  refine lv_lload_n hx hb kd_A_add_32 rfl (lv_at hl 2 rfl) ?_
  refine hx_last (j := na) hx hb hK hP hD hS 3 rfl (rfl) (hn) (by decide) kd_A_add_33 (fun H locs hP hD hS => ?_)
  have hP : va_P D cl_all [(h0, .inr (3, [.ref hw, .ref a1, .ref a2, .ref a3, .int (nI na)])), (a1, .inl (cI, 4, .inl (upd kn na k))), (a2, .inl (cI, 4, .inl (upd so na (so_ k b)))), (a3, .inl (cL, 4, .inr (.inl (vp_updL bi na b))))] H := hP
  have hD : va_D A [(h0, .inr (3, [.ref hw, .ref a1, .ref a2, .ref a3, .int (nI na)])), (a1, .inl (cI, 4, .inl (upd kn na k))), (a2, .inl (cI, 4, .inl (upd so na (so_ k b)))), (a3, .inl (cL, 4, .inr (.inl (vp_updL bi na b))))] := hD
  refine lv_aload_n hx hb kd_A_add_34 rfl (lv_at hl 0 rfl) ?_
  refine lv_dup hx hb kd_A_add_35 rfl ?_
  refine va_get (D := D) (ci := 3) (v := .int (nI na)) (C := "HostBridge$Arguments") (T := ct_A) (N := 5) hx hb hts cw_A hown hK hP 0 rfl rfl 4 (by decide) (hts _ km_88) (fun _ h9 => h9) rfl kd_A_add_36 ?_
  refine lv_iconst (v := 1) hx hb kd_A_add_39 (by decide) ?_
  refine lv_iadd hx hb kd_A_add_40 ?_
  refine hx_topi (y := nI (na + 1)) (nI_1 na) ?_
  refine va_put (D := D) (ci := 3) (v := .int (nI (na + 1))) (ty := .int) (C := "HostBridge$Arguments") (T := ct_A) (N := 5) hx hb hts cw_A cy_A cp_A cn_A hown hK hP hD hS 0 rfl rfl 4 (by decide) (hts _ km_88) (fun _ h9 => h9) rfl (by decide +kernel) rfl rfl (Nat.le_of_ble_eq_true rfl) kd_A_add_41 (fun H locs hP hD hS => ?_)
  have hP : va_P D cl_all [(h0, .inr (3, [.ref hw, .ref a1, .ref a2, .ref a3, .int (nI (na + 1))])), (a1, .inl (cI, 4, .inl (upd kn na k))), (a2, .inl (cI, 4, .inl (upd so na (so_ k b)))), (a3, .inl (cL, 4, .inr (.inl (vp_updL bi na b))))] H := hP
  have hD : va_D A [(h0, .inr (3, [.ref hw, .ref a1, .ref a2, .ref a3, .int (nI (na + 1))])), (a1, .inl (cI, 4, .inl (upd kn na k))), (a2, .inl (cI, 4, .inl (upd so na (so_ k b)))), (a3, .inl (cL, 4, .inr (.inl (vp_updL bi na b))))] := hD
  refine lv_aload_n hx hb kd_A_add_44 rfl (lv_at hl 0 rfl) ?_
  refine va_get (D := D) (ci := 3) (v := .int (nI (na + 1))) (C := "HostBridge$Arguments") (T := ct_A) (N := 5) hx hb hts cw_A hown hK hP 0 rfl rfl 4 (by decide) (hts _ km_88) (fun _ h9 => h9) rfl kd_A_add_45 ?_
  exact hx_iretW hx hb hr hlocks (by simp []) (hP) hS kd_A_add_48

/-- an argument is well formed: its kind is one, its sort that of its kind and bits, a host object is there -/
def ar_ok (no : Nat) (k s : Int32) (b : Int64) : Prop := fb_in k 7 = true ∧ s = so_ k b ∧ (k = 5 → ∃ j : Nat, j < no ∧ b = lN j)
theorem so_lt {no : Nat} {k s : Int32} {b : Int64} (h : ar_ok no k s b) : ∃ j : Nat, j < 9 ∧ s = nI j := by
  obtain ⟨h1, h2, -⟩ := h
  obtain ⟨j, h3, h4⟩ := (fb_in_iff (by decide)).mp h1
  subst h2
  unfold so_
  split
  · split
    · split
      · exact ⟨3, by decide, by decide⟩
      · exact ⟨8, by decide, by decide⟩
    · exact ⟨7, by decide, by decide⟩
  · exact ⟨j, by omega, h4⟩
/-- the weight of an argument of kind k, sort s, bits b for type t -/
def wf_ (pa co : Nat → Int32) (k s : Int32) (b : Int64) (t : Nat) : Int32 :=
  if t < 6 then wt_ (s.toNatClampNeg * 7 + t) else if k = 5 then ds_ pa (nI (t - 6)) 16 (co b.toInt32.toNatClampNeg) 0 else wt_ (s.toNatClampNeg * 7 + 6)

set_option maxHeartbeats 4000000 in
set_option maxRecDepth 100000 in
theorem mc_A_weightFor {l : Launch} {D : va_G} {cI cL cZ : ClassId} {tb : Nat} (h0 hw a1 a2 a3 b1 b2 na nc no : Nat) (kn so pa co : Nat → Int32) (bi : Nat → Int64) (i t : Nat) (hi : i < 4) (hok : ar_ok no (kn i) (so i) (bi i)) (hln : ln_ok nc pa) (hno : no ≤ 64) (hco : ∀ j, j < no → ∃ q : Nat, q < nc ∧ co j = nI q) (ht : t < 256) : Met l ky_A_weightFor kw_A_weightFor { frames := 1, cells := 0, slots := 0, locals := 24 } (pr_P D cI cL cZ tb [(h0, .inr (3, [.ref hw, .ref a1, .ref a2, .ref a3, .int (nI na)])), (a1, .inl (cI, 4, .inl kn)), (a2, .inl (cI, 4, .inl so)), (a3, .inl (cL, 4, .inr (.inl bi))), (hw, .inr (1, [.ref b1, .ref b2, .int (nI nc), .int (nI no)])), (b1, .inl (cI, 16, .inl pa)), (b2, .inl (cI, 64, .inl co))] [.ref h0, .int (nI i), .int (nI t)]) (hx_QR (some (.int (wf_ pa co (kn i) (so i) (bi i) t)))) 0 0 (fun _ => False) := by
  refine Met.ofW (cc := kc_A_weightFor) (maxL := 3) (ret := (some .int)) (by decide) rfl ?_
  intro p e s m args below meth c s₁ B hml hv
  obtain ⟨rfl, hC, hP⟩ := hv
  have hx := B.exec
  have hb := B.bytes
  have hr := B.returns
  have hlocks := B.notSynchronized
  have hown : s.vm.findClass "HostBridge$Arguments" = some m.cls := findClass_of_methodNamed B.named
  have hS : va_S (fun _ => False) s.heap s.heap [] := va_S.rf
  have hK := hC.K
  have hts := hC.ts [.ref h0, .int (nI i), .int (nI t)].toArray
  have hl := lv_entry ([.ref h0, .int (nI i), .int (nI t)]) (n := 3) (Nat.le_of_ble_eq_true rfl)
  rw [lg_entry_eq]
  generalize (lg_sl ([.ref h0, .int (nI i), .int (nI t)]) ++ List.replicate (3 - (lg_sl ([.ref h0, .int (nI i), .int (nI t)])).length) Slot.unset).toArray = ls at hl ⊢
  have hl : lv_has ls 3 [(0, .ref h0), (1, .int (nI i)), (2, .int (nI t))] := hl
  have hZ := hC.2.2.2
  obtain ⟨q, hq, hso⟩ := so_lt hok
  refine lv_iload_n hx hb kd_A_weightFor_0 rfl (lv_at hl 2 rfl) ?_
  refine lv_bipush (v := 6) hx hb kd_A_weightFor_1 (by decide) ?_
  refine lv_icmp_ge (tgt := 22) hx hb kd_A_weightFor_3 (by decide) (fun c_3 => ?_) (fun c_3 => ?_)
  · skip
    have h6 : ¬ t < 6 := by
      have h9 : nI 6 ≤ nI t := c_3
      rw [nI_leI (by decide) (by omega)] at h9; omega
    refine lv_aload_n hx hb kd_A_weightFor_22 rfl (lv_at hl 0 rfl) ?_
    refine va_get (D := D) (ci := 3) (v := .ref a1) (C := "HostBridge$Arguments") (T := ct_A) (N := 5) hx hb hts cw_A hown hK hP 0 rfl rfl 1 (by decide) (hts _ km_85) (fun _ h9 => h9) rfl kd_A_weightFor_23 ?_
    refine lv_iload_n hx hb kd_A_weightFor_26 rfl (lv_at hl 1 rfl) ?_
    refine hx_iald (j := i) hx hb hK hP 1 rfl (rfl) (hi) (by decide) kd_A_weightFor_27 ?_
    refine lv_iconst (v := 5) hx hb kd_A_weightFor_28 (by decide) ?_
    refine lv_icmp_ne (tgt := 59) hx hb kd_A_weightFor_29 (by decide) (fun c_29 => ?_) (fun c_29 => ?_)
    · skip
      refine va_gets hx hb hZ.1 hS hown (hts _ km_408) (fun _ h9 => h9) kd_A_weightFor_59 ?_
      refine lv_aload_n hx hb kd_A_weightFor_62 rfl (lv_at hl 0 rfl) ?_
      refine va_get (D := D) (ci := 3) (v := .ref a2) (C := "HostBridge$Arguments") (T := ct_A) (N := 5) hx hb hts cw_A hown hK hP 0 rfl rfl 2 (by decide) (hts _ km_86) (fun _ h9 => h9) rfl kd_A_weightFor_63 ?_
      refine lv_iload_n hx hb kd_A_weightFor_66 rfl (lv_at hl 1 rfl) ?_
      refine hx_iald (j := i) hx hb hK hP 2 rfl (rfl) (hi) (by decide) kd_A_weightFor_67 ?_
      refine hx_topi (y := nI q) (hso) ?_
      refine lv_bipush (v := 7) hx hb kd_A_weightFor_68 (by decide) ?_
      refine lv_imul hx hb kd_A_weightFor_70 ?_
      refine hx_topi (y := nI (q * 7)) (by rw [show (7 : Int32) = nI 7 from rfl, pk_mul]) ?_
      refine lv_bipush (v := 6) hx hb kd_A_weightFor_71 (by decide) ?_
      refine lv_iadd hx hb kd_A_weightFor_73 ?_
      refine hx_topi (y := nI (q * 7 + 6)) (by rw [show (6 : Int32) = nI 6 from rfl, nI_add]) ?_
      refine va_ti hx hb hZ.2.1 hS (i := nI (q * 7 + 6)) (v := .int (wt_ (q * 7 + 6))) (vp_in_nI (by omega) (by decide)) (by rw [nI_clamp (by omega)]) kd_A_weightFor_74 ?_
      exact hx_iretR hx hb hr hlocks (by unfold wf_; rw [if_neg h6, if_neg c_29, hso, nI_clamp (by omega)]) kd_A_weightFor_75
    · skip
      obtain ⟨o, ho, hbo⟩ := hok.2.2 c_29
      obtain ⟨z, hz, hcz⟩ := hco o ho
      refine lv_aload_n hx hb kd_A_weightFor_32 rfl (lv_at hl 0 rfl) ?_
      refine va_get (D := D) (ci := 3) (v := .ref hw) (C := "HostBridge$Arguments") (T := ct_A) (N := 5) hx hb hts cw_A hown hK hP 0 rfl rfl 0 (by decide) (hts _ km_84) (fun _ h9 => h9) rfl kd_A_weightFor_33 ?_
      refine lv_aload_n hx hb kd_A_weightFor_36 rfl (lv_at hl 0 rfl) ?_
      refine va_get (D := D) (ci := 3) (v := .ref hw) (C := "HostBridge$Arguments") (T := ct_A) (N := 5) hx hb hts cw_A hown hK hP 0 rfl rfl 0 (by decide) (hts _ km_84) (fun _ h9 => h9) rfl kd_A_weightFor_37 ?_
      refine va_getN (host := "HostBridge") (D := D) (ci := 1) (v := .ref b2) (C := "HostBridge$World") (T := ct_W) (N := 4) hx hb hts cw_W hown hK hP 4 rfl rfl 1 (by decide) (hts _ km_35) (fun _ h9 => h9) rfl kd_A_weightFor_40 ?_
      refine lv_aload_n hx hb kd_A_weightFor_43 rfl (lv_at hl 0 rfl) ?_
      refine va_get (D := D) (ci := 3) (v := .ref a3) (C := "HostBridge$Arguments") (T := ct_A) (N := 5) hx hb hts cw_A hown hK hP 0 rfl rfl 3 (by decide) (hts _ km_87) (fun _ h9 => h9) rfl kd_A_weightFor_44 ?_
      refine lv_iload_n hx hb kd_A_weightFor_47 rfl (lv_at hl 1 rfl) ?_
      refine hx_lald (j := i) hx hb hK hP 3 rfl (rfl) (hi) (by decide) kd_A_weightFor_48 ?_
      refine hx_topl (y := lN o) (hbo) ?_
      refine lv_l2i hx hb kd_A_weightFor_49 rfl ?_
      refine hx_topi (y := nI o) (lN_i o) ?_
      refine hx_iald (j := o) hx hb hK hP 6 rfl (rfl) (by omega) (by decide) kd_A_weightFor_50 ?_
      refine hx_topi (y := nI z) (hcz) ?_
      refine lv_iload_n hx hb kd_A_weightFor_51 rfl (lv_at hl 2 rfl) ?_
      refine lv_bipush (v := 6) hx hb kd_A_weightFor_52 (by decide) ?_
      refine lv_isub hx hb kd_A_weightFor_54 ?_
      refine hx_topi (y := nI (t - 6)) (by rw [show (6 : Int32) = nI 6 from rfl, pk_sub (by omega)]) ?_
      refine hx_callRi (va_runV (As := [.int (nI z), .int (nI (t - 6))]) (rest := []) ⟨hx, hb, hml, hown, hts⟩ (mc_W_distance hw b1 b2 nc no pa (nI z) (nI (t - 6)) hln (Or.inr ⟨z, hz, rfl⟩)) (cwV 2 hts (goodIn_sub (hx_m5 km_410 km_411 km_412 km_2 km_413) (by decide +kernel)) rfl rfl rfl (by decide +kernel) ⟨Nat.le_of_ble_eq_true rfl, Nat.le_of_ble_eq_true rfl⟩) (pr_V (hC.S hS) hP [4, 5] rfl (ci := 1) rfl (q0 := 0) rfl) rfl rfl hl.1 rfl (lv_room (Nat.le_of_ble_eq_true rfl)) kd_A_weightFor_55 ⟨Nat.le_of_ble_eq_true rfl, Nat.le_of_ble_eq_true rfl⟩) ?_
      exact hx_iretR hx hb hr hlocks (by unfold wf_; rw [if_neg h6, if_pos c_29, hbo, lN_i, nI_clamp (by omega), hcz]) kd_A_weightFor_58
  · skip
    have h6 : t < 6 := by
      have h9 : ¬ nI 6 ≤ nI t := c_3
      rw [nI_leI (by decide) (by omega)] at h9; omega
    refine va_gets hx hb hZ.1 hS hown (hts _ km_408) (fun _ h9 => h9) kd_A_weightFor_6 ?_
    refine lv_aload_n hx hb kd_A_weightFor_9 rfl (lv_at hl 0 rfl) ?_
    refine va_get (D := D) (ci := 3) (v := .ref a2) (C := "HostBridge$Arguments") (T := ct_A) (N := 5) hx hb hts cw_A hown hK hP 0 rfl rfl 2 (by decide) (hts _ km_86) (fun _ h9 => h9) rfl kd_A_weightFor_10 ?_
    refine lv_iload_n hx hb kd_A_weightFor_13 rfl (lv_at hl 1 rfl) ?_
    refine hx_iald (j := i) hx hb hK hP 2 rfl (rfl) (hi) (by decide) kd_A_weightFor_14 ?_
    refine hx_topi (y := nI q) (hso) ?_
    refine lv_bipush (v := 7) hx hb kd_A_weightFor_15 (by decide) ?_
    refine lv_imul hx hb kd_A_weightFor_17 ?_
    refine hx_topi (y := nI (q * 7)) (by rw [show (7 : Int32) = nI 7 from rfl, pk_mul]) ?_
    refine lv_iload_n hx hb kd_A_weightFor_18 rfl (lv_at hl 2 rfl) ?_
    refine lv_iadd hx hb kd_A_weightFor_19 ?_
    refine hx_topi (y := nI (q * 7 + t)) (nI_add _ _) ?_
    refine va_ti hx hb hZ.2.1 hS (i := nI (q * 7 + t)) (v := .int (wt_ (q * 7 + t))) (vp_in_nI (by omega) (by decide)) (by rw [nI_clamp (by omega)]) kd_A_weightFor_20 ?_
    exact hx_iretR hx hb hr hlocks (by unfold wf_; rw [if_pos h6, hso, nI_clamp (by omega)]) kd_A_weightFor_21

/-- all arguments fit the types of a word -/
def ft_ (w : Nat → Nat → Int32) (ty : Int32) (n : Nat) : Bool := decide (∀ i, i < n → ¬ w i (ty_N ty n i) = -1)

set_option maxHeartbeats 4000000 in
set_option maxRecDepth 100000 in
theorem mc_A_fit {l : Launch} {D : va_G} {cI cL cZ : ClassId} {tb : Nat} (h0 hw a1 a2 a3 b1 b2 na nc no : Nat) (kn so pa co : Nat → Int32) (bi : Nat → Int64) (n : Nat) (ty : Int32) (hn : n ≤ 4) (hok : ∀ i, i < n → ar_ok no (kn i) (so i) (bi i)) (hln : ln_ok nc pa) (hno : no ≤ 64) (hco : ∀ j, j < no → ∃ q : Nat, q < nc ∧ co j = nI q) : Met l ky_A_fit kw_A_fit { frames := 2, cells := 0, slots := 0, locals := 46 } (pr_P D cI cL cZ tb [(h0, .inr (3, [.ref hw, .ref a1, .ref a2, .ref a3, .int (nI na)])), (a1, .inl (cI, 4, .inl kn)), (a2, .inl (cI, 4, .inl so)), (a3, .inl (cL, 4, .inr (.inl bi))), (hw, .inr (1, [.ref b1, .ref b2, .int (nI nc), .int (nI no)])), (b1, .inl (cI, 16, .inl pa)), (b2, .inl (cI, 64, .inl co))] [.ref h0, .int (nI n), .int ty]) (hx_QR (some (.int (b2_ (ft_ (fun i t => wf_ pa co (kn i) (so i) (bi i) t) ty n))))) 0 0 (fun _ => False) := by
  refine Met.ofW (cc := kc_A_fit) (maxL := 4) (ret := (some .boolean)) (by decide) rfl ?_
  intro p e s m args below meth c s₁ B hml hv
  obtain ⟨rfl, hC, hP⟩ := hv
  have hx := B.exec
  have hb := B.bytes
  have hr := B.returns
  have hlocks := B.notSynchronized
  have hown : s.vm.findClass "HostBridge$Arguments" = some m.cls := findClass_of_methodNamed B.named
  have hS : va_S (fun _ => False) s.heap s.heap [] := va_S.rf
  have hK := hC.K
  have hts := hC.ts [.ref h0, .int (nI n), .int ty].toArray
  have hl := lv_entry ([.ref h0, .int (nI n), .int ty]) (n := 4) (Nat.le_of_ble_eq_true rfl)
  rw [lg_entry_eq]
  generalize (lg_sl ([.ref h0, .int (nI n), .int ty]) ++ List.replicate (4 - (lg_sl ([.ref h0, .int (nI n), .int ty])).length) Slot.unset).toArray = ls at hl ⊢
  have hl : lv_has ls 4 [(0, .ref h0), (1, .int (nI n)), (2, .int ty)] := hl
  refine lv_iconst (v := 0) hx hb kd_A_fit_0 (by decide) ?_
  refine lv_istore_n (lv' := [(3, .int 0), (0, .ref h0), (1, .int (nI n)), (2, .int ty)]) hx hb kd_A_fit_1 rfl hl (by decide) rfl (fun ls hl => ?_)
  refine hx_loopR (σ := Nat) (I := fun i ls => lv_has ls 4 [(0, .ref h0), (1, .int (nI n)), (2, .int ty), (3, .int (nI i))] ∧ i ≤ n ∧ (∀ j, j < i → ¬ wf_ pa co (kn j) (so j) (bi j) (ty_N ty n j) = -1)) (μ := fun i => n - i) ?_ 0 ⟨lv_sub hl [1, 2, 3, 0] rfl, Nat.zero_le _, fun j h => absurd h (Nat.not_lt_zero j)⟩
  intro i ls hI ih2
  obtain ⟨hl, hi, hall⟩ := hI
  refine lv_iload_n hx hb kd_A_fit_2 rfl (lv_at hl 3 rfl) ?_
  refine lv_iload_n hx hb kd_A_fit_3 rfl (lv_at hl 1 rfl) ?_
  refine lv_icmp_ge (tgt := 30) hx hb kd_A_fit_4 (by decide) (fun c_4 => ?_) (fun c_4 => ?_)
  · skip
    have hin : i = n := by rw [nI_leI (by omega) (by omega)] at c_4; omega
    refine lv_iconst (v := 1) hx hb kd_A_fit_30 (by decide) ?_
    exact hx_zretR hx hb hr hlocks (by rw [ft_, decide_eq_true (fun j hj => hall j (by omega))]; rfl) kd_A_fit_31
  · skip
    have hin : i < n := by rw [nI_leI (by omega) (by omega)] at c_4; omega
    refine lv_aload_n hx hb kd_A_fit_7 rfl (lv_at hl 0 rfl) ?_
    refine lv_iload_n hx hb kd_A_fit_8 rfl (lv_at hl 3 rfl) ?_
    refine lv_iload_n hx hb kd_A_fit_9 rfl (lv_at hl 2 rfl) ?_
    refine lv_iload_n hx hb kd_A_fit_10 rfl (lv_at hl 1 rfl) ?_
    refine lv_iload_n hx hb kd_A_fit_11 rfl (lv_at hl 3 rfl) ?_
    refine hx_callRi (va_runSN (As := [.int ty, .int (nI n), .int (nI i)]) (rest := [.int (nI i), .ref h0]) ⟨hx, hb, hml, hown, hts⟩ (mc_B_typeAt ty n i hin hn) ⟨va_cnB 3 hts (goodIn_sub (hx_m1 km_316) (by decide +kernel)) rfl rfl rfl (va_Nw.of rfl (hts _ km_444)) (hts _ km_1) (by decide +kernel) ⟨Nat.le_of_ble_eq_true rfl, Nat.le_of_ble_eq_true rfl⟩, hts _ km_315, trivial⟩ (pr_S (hC.S hS) hP [] rfl) rfl rfl hl.1 rfl (lv_room (Nat.le_of_ble_eq_true rfl)) kd_A_fit_12 ⟨Nat.le_of_ble_eq_true rfl, Nat.le_of_ble_eq_true rfl⟩) ?_
    refine hx_callRi (va_runV (As := [.int (nI i), .int (nI (ty_N ty n i))]) (rest := []) ⟨hx, hb, hml, hown, hts⟩ (mc_A_weightFor h0 hw a1 a2 a3 b1 b2 na nc no kn so pa co bi i (ty_N ty n i) (by omega) (hok i hin) hln hno hco (ty_lt ty n i)) (cwV 2 hts (goodIn_sub (hx_m5 km_445 km_405 km_406 km_4 km_407) (by decide +kernel)) rfl rfl rfl (by decide +kernel) ⟨Nat.le_of_ble_eq_true rfl, Nat.le_of_ble_eq_true rfl⟩) (pr_V (hC.S hS) hP [0, 1, 2, 3, 4, 5, 6] rfl (ci := 3) rfl (q0 := 0) rfl) rfl rfl hl.1 rfl (lv_room (Nat.le_of_ble_eq_true rfl)) kd_A_fit_15 ⟨Nat.le_of_ble_eq_true rfl, Nat.le_of_ble_eq_true rfl⟩) ?_
    refine lv_iconst (v := -1) hx hb kd_A_fit_18 (by decide) ?_
    refine lv_icmp_ne (tgt := 24) hx hb kd_A_fit_19 (by decide) (fun c_19 => ?_) (fun c_19 => ?_)
    · skip
      refine lv_iinc (v := nI (i + 1)) (lv' := [(3, .int (nI (i + 1))), (0, .ref h0), (1, .int (nI n)), (2, .int ty)]) hx hb kd_A_fit_24 hl (k := 3) rfl (nI_1 i) (by decide) rfl (fun ls hl => ?_)
      refine lv_goto (tgt := 2) hx hb kd_A_fit_27 (by decide) ?_
      exact ih2 (i + 1) _ (by omega) ⟨lv_sub hl [1, 2, 3, 0] rfl, by omega, fun j hj => (Nat.lt_succ_iff_lt_or_eq.mp hj).elim (hall j) (fun e => by rw [e]; exact c_19)⟩
    · skip
      refine lv_iconst (v := 0) hx hb kd_A_fit_22 (by decide) ?_
      exact hx_zretR hx hb hr hlocks (by rw [ft_, decide_eq_false (fun h => h i hin c_19)]; rfl) kd_A_fit_23

def cv_ (kn : Nat → Int32) (bi : Nat → Int64) (i : Nat) (t : Int32) : Int64 := (if t = 0 then (if (kn i) = 3 then (nu_truth (bi i)) else (bi i)) else (if t = 1 then (nu_whole (bi i)) else (if t = 2 then (nu_whole (bi i)) else (if t = 3 then (bi i) else (if 6 ≤ t then (if (kn i) = 1 then (-1) else (bi i)) else ((kn i).toInt64))))))
set_option maxHeartbeats 4000000 in
set_option maxRecDepth 100000 in
theorem mc_A_convert {l : Launch} {D : va_G} {cI cL cZ : ClassId} {tb : Nat} (h0 hw a1 a2 a3 na : Nat) (kn so : Nat → Int32) (bi : Nat → Int64) (i : Nat) (t : Int32) (hi : i < 4) : Met l ky_A_convert kw_A_convert { frames := 3, cells := 0, slots := 0, locals := 68 } (pr_P D cI cL cZ tb [(h0, .inr (3, [.ref hw, .ref a1, .ref a2, .ref a3, .int (nI na)])), (a1, .inl (cI, 4, .inl kn)), (a2, .inl (cI, 4, .inl so)), (a3, .inl (cL, 4, .inr (.inl bi)))] [.ref h0, .int (nI i), .int t]) (hx_QR (some (.long (cv_ kn bi i t)))) 0 0 (fun _ => False) := by
  refine Met.ofW (cc := kc_A_convert) (maxL := 3) (ret := (some .long)) (by decide) rfl ?_
  intro p e s m args below meth c s₁ B hml hv
  obtain ⟨rfl, hC, hP⟩ := hv
  have hx := B.exec
  have hb := B.bytes
  have hr := B.returns
  have hlocks := B.notSynchronized
  have hown : s.vm.findClass "HostBridge$Arguments" = some m.cls := findClass_of_methodNamed B.named
  have hS : va_S (fun _ => False) s.heap s.heap [] := va_S.rf
  have hK := hC.K
  have hts := hC.ts [.ref h0, .int (nI i), .int t].toArray
  have hl := lv_entry ([.ref h0, .int (nI i), .int t]) (n := 3) (Nat.le_of_ble_eq_true rfl)
  rw [lg_entry_eq]
  generalize (lg_sl ([.ref h0, .int (nI i), .int t]) ++ List.replicate (3 - (lg_sl ([.ref h0, .int (nI i), .int t])).length) Slot.unset).toArray = ls at hl ⊢
  have hl : lv_has ls 3 [(0, .ref h0), (1, .int (nI i)), (2, .int t)] := hl
  refine lv_iload_n hx hb kd_A_convert_0 rfl (lv_at hl 2 rfl) ?_
  refine lv_if_ne (tgt := 33) hx hb kd_A_convert_1 (by decide) (fun c_1 => ?_) (fun c_1 => ?_)
  · skip
    refine lv_iload_n hx hb kd_A_convert_33 rfl (lv_at hl 2 rfl) ?_
    refine lv_iconst (v := 1) hx hb kd_A_convert_34 (by decide) ?_
    refine lv_icmp_eq (tgt := 43) hx hb kd_A_convert_35 (by decide) (fun c_35 => ?_) (fun c_35 => ?_)
    · skip
      refine lv_aload_n hx hb kd_A_convert_43 rfl (lv_at hl 0 rfl) ?_
      refine va_get (D := D) (ci := 3) (v := .ref a3) (C := "HostBridge$Arguments") (T := ct_A) (N := 5) hx hb hts cw_A hown hK hP 0 rfl rfl 3 (by decide) (hts _ km_87) (fun _ h9 => h9) rfl kd_A_convert_44 ?_
      refine lv_iload_n hx hb kd_A_convert_47 rfl (lv_at hl 1 rfl) ?_
      refine hx_lald (j := i) hx hb hK hP 3 rfl (rfl) (hi) (by decide) kd_A_convert_48 ?_
      refine hx_callRl (va_runS (As := [.long (bi i)]) (rest := []) ⟨hx, hb, hml, hown, hts⟩ (mc_N_wholeOf (bi i)) (va_cwS 1 hts (goodIn_sub (hx_m4 km_514 km_392 km_14 km_393) (by decide +kernel)) rfl rfl rfl (by decide +kernel) ⟨Nat.le_of_ble_eq_true rfl, Nat.le_of_ble_eq_true rfl⟩) (pr_S (hC.S hS) hP [] rfl) rfl rfl hl.1 rfl (lv_room (Nat.le_of_ble_eq_true rfl)) kd_A_convert_49 ⟨Nat.le_of_ble_eq_true rfl, Nat.le_of_ble_eq_true rfl⟩) ?_
      exact hx_lretR hx hb hr hlocks (by unfold cv_; rw [if_neg c_1, if_pos c_35]; try rfl) kd_A_convert_52
    · skip
      refine lv_iload_n hx hb kd_A_convert_38 rfl (lv_at hl 2 rfl) ?_
      refine lv_iconst (v := 2) hx hb kd_A_convert_39 (by decide) ?_
      refine lv_icmp_ne (tgt := 53) hx hb kd_A_convert_40 (by decide) (fun c_40 => ?_) (fun c_40 => ?_)
      · skip
        refine lv_iload_n hx hb kd_A_convert_53 rfl (lv_at hl 2 rfl) ?_
        refine lv_iconst (v := 3) hx hb kd_A_convert_54 (by decide) ?_
        refine lv_icmp_ne (tgt := 65) hx hb kd_A_convert_55 (by decide) (fun c_55 => ?_) (fun c_55 => ?_)
        · skip
          refine lv_iload_n hx hb kd_A_convert_65 rfl (lv_at hl 2 rfl) ?_
          refine lv_bipush (v := 6) hx hb kd_A_convert_66 (by decide) ?_
          refine lv_icmp_ge (tgt := 79) hx hb kd_A_convert_68 (by decide) (fun c_68 => ?_) (fun c_68 => ?_)
          · skip
            refine lv_aload_n hx hb kd_A_convert_79 rfl (lv_at hl 0 rfl) ?_
            refine va_get (D := D) (ci := 3) (v := .ref a1) (C := "HostBridge$Arguments") (T := ct_A) (N := 5) hx hb hts cw_A hown hK hP 0 rfl rfl 1 (by decide) (hts _ km_85) (fun _ h9 => h9) rfl kd_A_convert_80 ?_
            refine lv_iload_n hx hb kd_A_convert_83 rfl (lv_at hl 1 rfl) ?_
            refine hx_iald (j := i) hx hb hK hP 1 rfl (rfl) (hi) (by decide) kd_A_convert_84 ?_
            refine lv_iconst (v := 1) hx hb kd_A_convert_85 (by decide) ?_
            refine lv_icmp_ne (tgt := 95) hx hb kd_A_convert_86 (by decide) (fun c_86 => ?_) (fun c_86 => ?_)
            · skip
              refine lv_aload_n hx hb kd_A_convert_95 rfl (lv_at hl 0 rfl) ?_
              refine va_get (D := D) (ci := 3) (v := .ref a3) (C := "HostBridge$Arguments") (T := ct_A) (N := 5) hx hb hts cw_A hown hK hP 0 rfl rfl 3 (by decide) (hts _ km_87) (fun _ h9 => h9) rfl kd_A_convert_96 ?_
              refine lv_iload_n hx hb kd_A_convert_99 rfl (lv_at hl 1 rfl) ?_
              refine hx_lald (j := i) hx hb hK hP 3 rfl (rfl) (hi) (by decide) kd_A_convert_100 ?_
              exact hx_lretR hx hb hr hlocks (by unfold cv_; rw [if_neg c_1, if_neg c_35, if_neg c_40, if_neg c_55, if_pos c_68, if_neg c_86]; try rfl) kd_A_convert_101
            · skip
              refine lv_ldc2 (v := -1) hx hb hown (hts _ km_515) kd_A_convert_89 ?_
              refine lv_goto (tgt := 101) hx hb kd_A_convert_92 (by decide) ?_
              exact hx_lretR hx hb hr hlocks (by unfold cv_; rw [if_neg c_1, if_neg c_35, if_neg c_40, if_neg c_55, if_pos c_68, if_pos c_86]; try rfl) kd_A_convert_101
          · skip
            refine lv_aload_n hx hb kd_A_convert_71 rfl (lv_at hl 0 rfl) ?_
            refine va_get (D := D) (ci := 3) (v := .ref a1) (C := "HostBridge$Arguments") (T := ct_A) (N := 5) hx hb hts cw_A hown hK hP 0 rfl rfl 1 (by decide) (hts _ km_85) (fun _ h9 => h9) rfl kd_A_convert_72 ?_
            refine lv_iload_n hx hb kd_A_convert_75 rfl (lv_at hl 1 rfl) ?_
            refine hx_iald (j := i) hx hb hK hP 1 rfl (rfl) (hi) (by decide) kd_A_convert_76 ?_
            refine lv_i2l hx hb kd_A_convert_77 rfl ?_
            exact hx_lretR hx hb hr hlocks (by unfold cv_; rw [if_neg c_1, if_neg c_35, if_neg c_40, if_neg c_55, if_neg c_68]; try rfl) kd_A_convert_78
        · skip
          refine lv_aload_n hx hb kd_A_convert_58 rfl (lv_at hl 0 rfl) ?_
          refine va_get (D := D) (ci := 3) (v := .ref a3) (C := "HostBridge$Arguments") (T := ct_A) (N := 5) hx hb hts cw_A hown hK hP 0 rfl rfl 3 (by decide) (hts _ km_87) (fun _ h9 => h9) rfl kd_A_convert_59 ?_
          refine lv_iload_n hx hb kd_A_convert_62 rfl (lv_at hl 1 rfl) ?_
          refine hx_lald (j := i) hx hb hK hP 3 rfl (rfl) (hi) (by decide) kd_A_convert_63 ?_
          exact hx_lretR hx hb hr hlocks (by unfold cv_; rw [if_neg c_1, if_neg c_35, if_neg c_40, if_pos c_55]; try rfl) kd_A_convert_64
      · skip
        refine lv_aload_n hx hb kd_A_convert_43 rfl (lv_at hl 0 rfl) ?_
        refine va_get (D := D) (ci := 3) (v := .ref a3) (C := "HostBridge$Arguments") (T := ct_A) (N := 5) hx hb hts cw_A hown hK hP 0 rfl rfl 3 (by decide) (hts _ km_87) (fun _ h9 => h9) rfl kd_A_convert_44 ?_
        refine lv_iload_n hx hb kd_A_convert_47 rfl (lv_at hl 1 rfl) ?_
        refine hx_lald (j := i) hx hb hK hP 3 rfl (rfl) (hi) (by decide) kd_A_convert_48 ?_
        refine hx_callRl (va_runS (As := [.long (bi i)]) (rest := []) ⟨hx, hb, hml, hown, hts⟩ (mc_N_wholeOf (bi i)) (va_cwS 1 hts (goodIn_sub (hx_m4 km_514 km_392 km_14 km_393) (by decide +kernel)) rfl rfl rfl (by decide +kernel) ⟨Nat.le_of_ble_eq_true rfl, Nat.le_of_ble_eq_true rfl⟩) (pr_S (hC.S hS) hP [] rfl) rfl rfl hl.1 rfl (lv_room (Nat.le_of_ble_eq_true rfl)) kd_A_convert_49 ⟨Nat.le_of_ble_eq_true rfl, Nat.le_of_ble_eq_true rfl⟩) ?_
        exact hx_lretR hx hb hr hlocks (by unfold cv_; rw [if_neg c_1, if_neg c_35, if_pos c_40]; try rfl) kd_A_convert_52
  · skip
    refine lv_aload_n hx hb kd_A_convert_4 rfl (lv_at hl 0 rfl) ?_
    refine va_get (D := D) (ci := 3) (v := .ref a1) (C := "HostBridge$Arguments") (T := ct_A) (N := 5) hx hb hts cw_A hown hK hP 0 rfl rfl 1 (by decide) (hts _ km_85) (fun _ h9 => h9) rfl kd_A_convert_5 ?_
    refine lv_iload_n hx hb kd_A_convert_8 rfl (lv_at hl 1 rfl) ?_
    refine hx_iald (j := i) hx hb hK hP 1 rfl (rfl) (hi) (by decide) kd_A_convert_9 ?_
    refine lv_iconst (v := 3) hx hb kd_A_convert_10 (by decide) ?_
    refine lv_icmp_ne (tgt := 26) hx hb kd_A_convert_11 (by decide) (fun c_11 => ?_) (fun c_11 => ?_)
    · skip
      refine lv_aload_n hx hb kd_A_convert_26 rfl (lv_at hl 0 rfl) ?_
      refine va_get (D := D) (ci := 3) (v := .ref a3) (C := "HostBridge$Arguments") (T := ct_A) (N := 5) hx hb hts cw_A hown hK hP 0 rfl rfl 3 (by decide) (hts _ km_87) (fun _ h9 => h9) rfl kd_A_convert_27 ?_
      refine lv_iload_n hx hb kd_A_convert_30 rfl (lv_at hl 1 rfl) ?_
      refine hx_lald (j := i) hx hb hK hP 3 rfl (rfl) (hi) (by decide) kd_A_convert_31 ?_
      exact hx_lretR hx hb hr hlocks (by unfold cv_; rw [if_pos c_1, if_neg c_11]; try rfl) kd_A_convert_32
    · skip
      refine lv_aload_n hx hb kd_A_convert_14 rfl (lv_at hl 0 rfl) ?_
      refine va_get (D := D) (ci := 3) (v := .ref a3) (C := "HostBridge$Arguments") (T := ct_A) (N := 5) hx hb hts cw_A hown hK hP 0 rfl rfl 3 (by decide) (hts _ km_87) (fun _ h9 => h9) rfl kd_A_convert_15 ?_
      refine lv_iload_n hx hb kd_A_convert_18 rfl (lv_at hl 1 rfl) ?_
      refine hx_lald (j := i) hx hb hK hP 3 rfl (rfl) (hi) (by decide) kd_A_convert_19 ?_
      refine hx_callRl (va_runS (As := [.long (bi i)]) (rest := []) ⟨hx, hb, hml, hown, hts⟩ (mc_N_truthOf (bi i)) (va_cwS 1 hts (goodIn_sub (hx_m4 km_507 km_508 km_14 km_509) (by decide +kernel)) rfl rfl rfl (by decide +kernel) ⟨Nat.le_of_ble_eq_true rfl, Nat.le_of_ble_eq_true rfl⟩) (pr_S (hC.S hS) hP [] rfl) rfl rfl hl.1 rfl (lv_room (Nat.le_of_ble_eq_true rfl)) kd_A_convert_20 ⟨Nat.le_of_ble_eq_true rfl, Nat.le_of_ble_eq_true rfl⟩) ?_
      refine lv_goto (tgt := 32) hx hb kd_A_convert_23 (by decide) ?_
      exact hx_lretR hx hb hr hlocks (by unfold cv_; rw [if_pos c_1, if_pos c_11]; try rfl) kd_A_convert_32
