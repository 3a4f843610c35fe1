/-! THE CLASSES AND OBJECTS OF THE CLASS (HostBridge$World), names and types -/
/-- a number is a place below n -/
def fb_in (k : Int32) (n : Nat) : Bool := !decide (k < 0) && !decide (nI n ≤ k)
theorem fb_in_iff {k : Int32} {n : Nat} (hn : n < 2 ^ 31) : fb_in k n = true ↔ ∃ j : Nat, j < n ∧ k = nI j := by
  constructor
  · intro h
    simp only [fb_in, Bool.and_eq_true, Bool.not_eq_true', decide_eq_false_iff_not] at h
    rcases pk_ix k hn with h1 | h1 | h1
    · exact absurd h1 h.1
    · exact absurd h1 h.2
    · exact h1
  · rintro ⟨j, h1, rfl⟩
    simp [fb_in, nI_pos (show j < 2 ^ 31 by omega), nI_ge h1 hn]
theorem fb_lt {j n : Nat} (hj : j < 2 ^ 31) (hn : n < 2 ^ 31) (h : fb_in (nI j) n = true) : j < n := by
  obtain ⟨i, h1, h2⟩ := (fb_in_iff hn).mp h
  rw [nI_eq hj (by omega)] at h2
  omega
theorem fb_nlt {j n : Nat} (hn : n < 2 ^ 31) (h : fb_in (nI j) n = false) : ¬ j < n := fun h9 => by
  rw [(fb_in_iff hn).mpr ⟨j, h9, rfl⟩] at h
  cases h
theorem b2_t {b : Bool} (h : ¬ b2_ b = 0) : b = true := by
  cases b
  · exact absurd rfl h
  · rfl
theorem b2_f {b : Bool} (h : b2_ b = 0) : b = false := by
  cases b
  · rfl
  · exact absurd h (by decide)

set_option maxHeartbeats 4000000 in
set_option maxRecDepth 100000 in
theorem mc_W_hasClass {l : Launch} {D : va_G} {cI cL cZ : ClassId} {tb : Nat} (h0 a1 a2 nc no : Nat) (k : Int32) : Met l ky_W_hasClass kw_W_hasClass { frames := 0, cells := 0, slots := 0, locals := 0 } (pr_P D cI cL cZ tb [(h0, .inr (1, [.ref a1, .ref a2, .int (nI nc), .int (nI no)]))] [.ref h0, .int k]) (hx_QR (some (.int (b2_ (fb_in k nc))))) 0 0 (fun _ => False) := by
  refine Met.ofW (cc := kc_W_hasClass) (maxL := 2) (ret := (some .boolean)) (by decide) rfl ?_
  intro p e s m args below meth c s₁ B hml hv
  obtain ⟨rfl, hC, hP⟩ := hv
  have hx := B.exec
  have hb := B.bytes
  have hr := B.returns
  have hlocks := B.notSynchronized
  have hown : s.vm.findClass "HostBridge$World" = some m.cls := findClass_of_methodNamed B.named
  have hS : va_S (fun _ => False) s.heap s.heap [] := va_S.rf
  have hK := hC.K
  have hts := hC.ts [.ref h0, .int k].toArray
  have hl := lv_entry ([.ref h0, .int k]) (n := 2) (Nat.le_of_ble_eq_true rfl)
  rw [lg_entry_eq]
  generalize (lg_sl ([.ref h0, .int k]) ++ List.replicate (2 - (lg_sl ([.ref h0, .int k])).length) Slot.unset).toArray = ls at hl ⊢
  have hl : lv_has ls 2 [(0, .ref h0), (1, .int k)] := hl
  refine lv_iload_n hx hb kd_W_hasClass_0 rfl (lv_at hl 1 rfl) ?_
  refine lv_if_lt (tgt := 16) hx hb kd_W_hasClass_1 (by decide) (fun c_1 => ?_) (fun c_1 => ?_)
  · skip
    refine lv_iconst (v := 0) hx hb kd_W_hasClass_16 (by decide) ?_
    exact hx_zretR hx hb hr hlocks (by simp [b2_, fb_in, c_1]) kd_W_hasClass_17
  · skip
    refine lv_iload_n hx hb kd_W_hasClass_4 rfl (lv_at hl 1 rfl) ?_
    refine lv_aload_n hx hb kd_W_hasClass_5 rfl (lv_at hl 0 rfl) ?_
    refine va_get (D := D) (ci := 1) (v := .int (nI nc)) (C := "HostBridge$World") (T := ct_W) (N := 4) hx hb hts cw_W hown hK hP 0 rfl rfl 2 (by decide) (hts _ km_37) (fun _ h9 => h9) rfl kd_W_hasClass_6 ?_
    refine lv_icmp_ge (tgt := 16) hx hb kd_W_hasClass_9 (by decide) (fun c_9 => ?_) (fun c_9 => ?_)
    · skip
      refine lv_iconst (v := 0) hx hb kd_W_hasClass_16 (by decide) ?_
      exact hx_zretR hx hb hr hlocks (by simp [b2_, fb_in, c_1, c_9]) kd_W_hasClass_17
    · skip
      refine lv_iconst (v := 1) hx hb kd_W_hasClass_12 (by decide) ?_
      refine lv_goto (tgt := 17) hx hb kd_W_hasClass_13 (by decide) ?_
      exact hx_zretR hx hb hr hlocks (by simp [b2_, fb_in, c_1, c_9]) kd_W_hasClass_17

set_option maxHeartbeats 4000000 in
set_option maxRecDepth 100000 in
theorem mc_W_hasObject {l : Launch} {D : va_G} {cI cL cZ : ClassId} {tb : Nat} (h0 a1 a2 nc no : Nat) (k : Int32) : Met l ky_W_hasObject kw_W_hasObject { frames := 0, cells := 0, slots := 0, locals := 0 } (pr_P D cI cL cZ tb [(h0, .inr (1, [.ref a1, .ref a2, .int (nI nc), .int (nI no)]))] [.ref h0, .int k]) (hx_QR (some (.int (b2_ (fb_in k no))))) 0 0 (fun _ => False) := by
  refine Met.ofW (cc := kc_W_hasObject) (maxL := 2) (ret := (some .boolean)) (by decide) rfl ?_
  intro p e s m args below meth c s₁ B hml hv
  obtain ⟨rfl, hC, hP⟩ := hv
  have hx := B.exec
  have hb := B.bytes
  have hr := B.returns
  have hlocks := B.notSynchronized
  have hown : s.vm.findClass "HostBridge$World" = some m.cls := findClass_of_methodNamed B.named
  have hS : va_S (fun _ => False) s.heap s.heap [] := va_S.rf
  have hK := hC.K
  have hts := hC.ts [.ref h0, .int k].toArray
  have hl := lv_entry ([.ref h0, .int k]) (n := 2) (Nat.le_of_ble_eq_true rfl)
  rw [lg_entry_eq]
  generalize (lg_sl ([.ref h0, .int k]) ++ List.replicate (2 - (lg_sl ([.ref h0, .int k])).length) Slot.unset).toArray = ls at hl ⊢
  have hl : lv_has ls 2 [(0, .ref h0), (1, .int k)] := hl
  refine lv_iload_n hx hb kd_W_hasObject_0 rfl (lv_at hl 1 rfl) ?_
  refine lv_if_lt (tgt := 16) hx hb kd_W_hasObject_1 (by decide) (fun c_1 => ?_) (fun c_1 => ?_)
  · skip
    refine lv_iconst (v := 0) hx hb kd_W_hasObject_16 (by decide) ?_
    exact hx_zretR hx hb hr hlocks (by simp [b2_, fb_in, c_1]) kd_W_hasObject_17
  · skip
    refine lv_iload_n hx hb kd_W_hasObject_4 rfl (lv_at hl 1 rfl) ?_
    refine lv_aload_n hx hb kd_W_hasObject_5 rfl (lv_at hl 0 rfl) ?_
    refine va_get (D := D) (ci := 1) (v := .int (nI no)) (C := "HostBridge$World") (T := ct_W) (N := 4) hx hb hts cw_W hown hK hP 0 rfl rfl 3 (by decide) (hts _ km_39) (fun _ h9 => h9) rfl kd_W_hasObject_6 ?_
    refine lv_icmp_ge (tgt := 16) hx hb kd_W_hasObject_9 (by decide) (fun c_9 => ?_) (fun c_9 => ?_)
    · skip
      refine lv_iconst (v := 0) hx hb kd_W_hasObject_16 (by decide) ?_
      exact hx_zretR hx hb hr hlocks (by simp [b2_, fb_in, c_1, c_9]) kd_W_hasObject_17
    · skip
      refine lv_iconst (v := 1) hx hb kd_W_hasObject_12 (by decide) ?_
      refine lv_goto (tgt := 17) hx hb kd_W_hasObject_13 (by decide) ?_
      exact hx_zretR hx hb hr hlocks (by simp [b2_, fb_in, c_1, c_9]) kd_W_hasObject_17

set_option maxHeartbeats 4000000 in
set_option maxRecDepth 100000 in
theorem mc_W_hasType {l : Launch} {D : va_G} {cI cL cZ : ClassId} {tb : Nat} (h0 a1 a2 nc no : Nat) (k : Int32) : Met l ky_W_hasType kw_W_hasType { frames := 0, cells := 0, slots := 0, locals := 0 } (pr_P D cI cL cZ tb [(h0, .inr (1, [.ref a1, .ref a2, .int (nI nc), .int (nI no)]))] [.ref h0, .int k]) (hx_QR (some (.int (b2_ (fb_in k (6 + nc)))))) 0 0 (fun _ => False) := by
  refine Met.ofW (cc := kc_W_hasType) (maxL := 2) (ret := (some .boolean)) (by decide) rfl ?_
  intro p e s m args below meth c s₁ B hml hv
  obtain ⟨rfl, hC, hP⟩ := hv
  have hx := B.exec
  have hb := B.bytes
  have hr := B.returns
  have hlocks := B.notSynchronized
  have hown : s.vm.findClass "HostBridge$World" = some m.cls := findClass_of_methodNamed B.named
  have hS : va_S (fun _ => False) s.heap s.heap [] := va_S.rf
  have hK := hC.K
  have hts := hC.ts [.ref h0, .int k].toArray
  have hl := lv_entry ([.ref h0, .int k]) (n := 2) (Nat.le_of_ble_eq_true rfl)
  rw [lg_entry_eq]
  generalize (lg_sl ([.ref h0, .int k]) ++ List.replicate (2 - (lg_sl ([.ref h0, .int k])).length) Slot.unset).toArray = ls at hl ⊢
  have hl : lv_has ls 2 [(0, .ref h0), (1, .int k)] := hl
  refine lv_iload_n hx hb kd_W_hasType_0 rfl (lv_at hl 1 rfl) ?_
  refine lv_if_lt (tgt := 19) hx hb kd_W_hasType_1 (by decide) (fun c_1 => ?_) (fun c_1 => ?_)
  · skip
    refine lv_iconst (v := 0) hx hb kd_W_hasType_19 (by decide) ?_
    exact hx_zretR hx hb hr hlocks (by simp [b2_, fb_in, c_1]) kd_W_hasType_20
  · skip
    refine lv_iload_n hx hb kd_W_hasType_4 rfl (lv_at hl 1 rfl) ?_
    refine lv_bipush (v := 6) hx hb kd_W_hasType_5 (by decide) ?_
    refine lv_aload_n hx hb kd_W_hasType_7 rfl (lv_at hl 0 rfl) ?_
    refine va_get (D := D) (ci := 1) (v := .int (nI nc)) (C := "HostBridge$World") (T := ct_W) (N := 4) hx hb hts cw_W hown hK hP 0 rfl rfl 2 (by decide) (hts _ km_37) (fun _ h9 => h9) rfl kd_W_hasType_8 ?_
    refine lv_iadd hx hb kd_W_hasType_11 ?_
    refine hx_topi (y := nI (6 + nc)) (by rw [show (6 : Int32) = nI 6 from rfl, nI_add]) ?_
    refine lv_icmp_ge (tgt := 19) hx hb kd_W_hasType_12 (by decide) (fun c_12 => ?_) (fun c_12 => ?_)
    · skip
      refine lv_iconst (v := 0) hx hb kd_W_hasType_19 (by decide) ?_
      exact hx_zretR hx hb hr hlocks (by simp [b2_, fb_in, c_1, c_12]) kd_W_hasType_20
    · skip
      refine lv_iconst (v := 1) hx hb kd_W_hasType_15 (by decide) ?_
      refine lv_goto (tgt := 20) hx hb kd_W_hasType_16 (by decide) ?_
      exact hx_zretR hx hb hr hlocks (by simp [b2_, fb_in, c_1, c_12]) kd_W_hasType_20

set_option maxHeartbeats 4000000 in
set_option maxRecDepth 100000 in
theorem mc_B_isName {l : Launch} {D : va_G} {cI cL cZ : ClassId} {tb : Nat} (k : Int32) : Met l ky_B_isName kw_B_isName { frames := 0, cells := 0, slots := 0, locals := 0 } (pr_P D cI cL cZ tb [] [.int k]) (hx_QR (some (.int (b2_ (fb_in k 1000))))) 0 0 (fun _ => False) := by
  refine Met.ofW (cc := kc_B_isName) (maxL := 1) (ret := (some .boolean)) (by decide) rfl ?_
  intro p e s m args below meth c s₁ B hml hv
  obtain ⟨rfl, hC, hP⟩ := hv
  have hx := B.exec
  have hb := B.bytes
  have hr := B.returns
  have hlocks := B.notSynchronized
  have hown : s.vm.findClass "HostBridge" = some m.cls := findClass_of_methodNamed B.named
  have hS : va_S (fun _ => False) s.heap s.heap [] := va_S.rf
  have hK := hC.K
  have hts := hC.ts [.int k].toArray
  have hl := lv_entry ([.int k]) (n := 1) (Nat.le_of_ble_eq_true rfl)
  rw [lg_entry_eq]
  generalize (lg_sl ([.int k]) ++ List.replicate (1 - (lg_sl ([.int k])).length) Slot.unset).toArray = ls at hl ⊢
  have hl : lv_has ls 1 [(0, .int k)] := hl
  refine lv_iload_n hx hb kd_B_isName_0 rfl (lv_at hl 0 rfl) ?_
  refine lv_if_lt (tgt := 15) hx hb kd_B_isName_1 (by decide) (fun c_1 => ?_) (fun c_1 => ?_)
  · skip
    refine lv_iconst (v := 0) hx hb kd_B_isName_15 (by decide) ?_
    exact hx_zretR hx hb hr hlocks (by simp [b2_, fb_in, c_1]) kd_B_isName_16
  · skip
    refine lv_iload_n hx hb kd_B_isName_4 rfl (lv_at hl 0 rfl) ?_
    refine lv_sipush (v := 1000) hx hb kd_B_isName_5 (by decide) ?_
    refine hx_topi (y := nI 1000) (by decide) ?_
    refine lv_icmp_ge (tgt := 15) hx hb kd_B_isName_8 (by decide) (fun c_8 => ?_) (fun c_8 => ?_)
    · skip
      refine lv_iconst (v := 0) hx hb kd_B_isName_15 (by decide) ?_
      exact hx_zretR hx hb hr hlocks (by simp [b2_, fb_in, c_1, c_8]) kd_B_isName_16
    · skip
      refine lv_iconst (v := 1) hx hb kd_B_isName_11 (by decide) ?_
      refine lv_goto (tgt := 16) hx hb kd_B_isName_12 (by decide) ?_
      exact hx_zretR hx hb hr hlocks (by simp [b2_, fb_in, c_1, c_8]) kd_B_isName_16

set_option maxHeartbeats 4000000 in
set_option maxRecDepth 100000 in
theorem mc_W_addClass {l : Launch} {D : va_G} {cI cL cZ : ClassId} {tb : Nat} (h0 a1 a2 nc no : Nat) (pa : Nat → Int32) (k : Int32) (hn : nc < 16) (sz : Nat) : Met l ky_W_addClass kw_W_addClass { frames := 0, cells := 0, slots := 0, locals := 0 } (pw_P D cI cL cZ tb [(h0, .inr (1, [.ref a1, .ref a2, .int (nI nc), .int (nI no)])), (a1, .inl (cI, 16, .inl pa))] sz [.ref h0, .int k]) (hx_QW D (some (.int (nI nc))) [(h0, .inr (1, [.ref a1, .ref a2, .int (nI (nc + 1)), .int (nI no)])), (a1, .inl (cI, 16, .inl (upd pa nc k)))] (va_A [(h0, .inr (1, [.ref a1, .ref a2, .int (nI nc), .int (nI no)])), (a1, .inl (cI, 16, .inl pa))] sz)) 0 0 (va_A [(h0, .inr (1, [.ref a1, .ref a2, .int (nI nc), .int (nI no)])), (a1, .inl (cI, 16, .inl pa))] sz) := by
  refine Met.ofW (cc := kc_W_addClass) (maxL := 2) (ret := (some .int)) (by decide) rfl ?_
  intro p e s m args below meth c s₁ B hml hv
  obtain ⟨rfl, hsz, hC, hP, hD0⟩ := hv
  have hx := B.exec
  have hb := B.bytes
  have hr := B.returns
  have hlocks := B.notSynchronized
  have hown : s.vm.findClass "HostBridge$World" = some m.cls := findClass_of_methodNamed B.named
  subst hsz
  have hD := hD0.self (sz := s.heap.size)
  generalize hAe : va_A [(h0, .inr (1, [.ref a1, .ref a2, .int (nI nc), .int (nI no)])), (a1, .inl (cI, 16, .inl pa))] s.heap.size = A at hD hC ⊢
  have hA : ∀ q : Nat, s.heap.size ≤ q → A q := fun q h => by rw [← hAe]; exact Or.inr h
  have hS : va_S A s.heap s.heap [] := va_S.rf
  have hK := hC.K
  have hts := hC.ts [.ref h0, .int k].toArray
  have hl := lv_entry ([.ref h0, .int k]) (n := 2) (Nat.le_of_ble_eq_true rfl)
  rw [lg_entry_eq]
  generalize (lg_sl ([.ref h0, .int k]) ++ List.replicate (2 - (lg_sl ([.ref h0, .int k])).length) Slot.unset).toArray = ls at hl ⊢
  have hl : lv_has ls 2 [(0, .ref h0), (1, .int k)] := hl
  refine lv_aload_n hx hb kd_W_addClass_0 rfl (lv_at hl 0 rfl) ?_
  refine va_get (D := D) (ci := 1) (v := .ref a1) (C := "HostBridge$World") (T := ct_W) (N := 4) hx hb hts cw_W hown hK hP 0 rfl rfl 0 (by decide) (hts _ km_32) (fun _ h9 => h9) rfl kd_W_addClass_1 ?_
  refine lv_aload_n hx hb kd_W_addClass_4 rfl (lv_at hl 0 rfl) ?_
  refine va_get (D := D) (ci := 1) (v := .int (nI nc)) (C := "HostBridge$World") (T := ct_W) (N := 4) hx hb hts cw_W hown hK hP 0 rfl rfl 2 (by decide) (hts _ km_37) (fun _ h9 => h9) rfl kd_W_addClass_5 ?_
  refine lv_iload_n hx hb kd_W_addClass_8 rfl (lv_at hl 1 rfl) ?_
  refine hx_iast (j := nc) hx hb hK hP hD hS 1 rfl (rfl) (hn) (by decide) kd_W_addClass_9 (fun H locs hP hD hS => ?_)
  have hP : va_P D cl_all [(h0, .inr (1, [.ref a1, .ref a2, .int (nI nc), .int (nI no)])), (a1, .inl (cI, 16, .inl (upd pa nc k)))] H := hP
  have hD : va_D A [(h0, .inr (1, [.ref a1, .ref a2, .int (nI nc), .int (nI no)])), (a1, .inl (cI, 16, .inl (upd pa nc k)))] := hD
  refine lv_aload_n hx hb kd_W_addClass_10 rfl (lv_at hl 0 rfl) ?_
  refine lv_dup hx hb kd_W_addClass_11 rfl ?_
  refine va_get (D := D) (ci := 1) (v := .int (nI nc)) (C := "HostBridge$World") (T := ct_W) (N := 4) hx hb hts cw_W hown hK hP 0 rfl rfl 2 (by decide) (hts _ km_37) (fun _ h9 => h9) rfl kd_W_addClass_12 ?_
  refine lv_iconst (v := 1) hx hb kd_W_addClass_15 (by decide) ?_
  refine lv_iadd hx hb kd_W_addClass_16 ?_
  refine hx_topi (y := nI (nc + 1)) (nI_1 nc) ?_
  refine va_put (D := D) (ci := 1) (v := .int (nI (nc + 1))) (ty := .int) (C := "HostBridge$World") (T := ct_W) (N := 4) hx hb hts cw_W cy_W cp_W cn_W hown hK hP hD hS 0 rfl rfl 2 (by decide) (hts _ km_37) (fun _ h9 => h9) rfl (by decide +kernel) rfl rfl (Nat.le_of_ble_eq_true rfl) kd_W_addClass_17 (fun H locs hP hD hS => ?_)
  have hP : va_P D cl_all [(h0, .inr (1, [.ref a1, .ref a2, .int (nI (nc + 1)), .int (nI no)])), (a1, .inl (cI, 16, .inl (upd pa nc k)))] H := hP
  have hD : va_D A [(h0, .inr (1, [.ref a1, .ref a2, .int (nI (nc + 1)), .int (nI no)])), (a1, .inl (cI, 16, .inl (upd pa nc k)))] := hD
  refine lv_aload_n hx hb kd_W_addClass_20 rfl (lv_at hl 0 rfl) ?_
  refine va_get (D := D) (ci := 1) (v := .int (nI (nc + 1))) (C := "HostBridge$World") (T := ct_W) (N := 4) hx hb hts cw_W hown hK hP 0 rfl rfl 2 (by decide) (hts _ km_37) (fun _ h9 => h9) rfl kd_W_addClass_21 ?_
  refine lv_iconst (v := 1) hx hb kd_W_addClass_24 (by decide) ?_
  refine lv_isub hx hb kd_W_addClass_25 ?_
  refine hx_topi (y := nI nc) (nI_pred nc) ?_
  exact hx_iretW hx hb hr hlocks (by simp []) (hP) hS kd_W_addClass_26

set_option maxHeartbeats 4000000 in
set_option maxRecDepth 100000 in
theorem mc_W_addObject {l : Launch} {D : va_G} {cI cL cZ : ClassId} {tb : Nat} (h0 a1 a2 nc no : Nat) (co : Nat → Int32) (k : Int32) (hn : no < 64) (sz : Nat) : Met l ky_W_addObject kw_W_addObject { frames := 0, cells := 0, slots := 0, locals := 0 } (pw_P D cI cL cZ tb [(h0, .inr (1, [.ref a1, .ref a2, .int (nI nc), .int (nI no)])), (a2, .inl (cI, 64, .inl co))] sz [.ref h0, .int k]) (hx_QW D (some (.int (nI no))) [(h0, .inr (1, [.ref a1, .ref a2, .int (nI nc), .int (nI (no + 1))])), (a2, .inl (cI, 64, .inl (upd co no k)))] (va_A [(h0, .inr (1, [.ref a1, .ref a2, .int (nI nc), .int (nI no)])), (a2, .inl (cI, 64, .inl co))] sz)) 0 0 (va_A [(h0, .inr (1, [.ref a1, .ref a2, .int (nI nc), .int (nI no)])), (a2, .inl (cI, 64, .inl co))] sz) := by
  refine Met.ofW (cc := kc_W_addObject) (maxL := 2) (ret := (some .int)) (by decide) rfl ?_
  intro p e s m args below meth c s₁ B hml hv
  obtain ⟨rfl, hsz, hC, hP, hD0⟩ := hv
  have hx := B.exec
  have hb := B.bytes
  have hr := B.returns
  have hlocks := B.notSynchronized
  have hown : s.vm.findClass "HostBridge$World" = some m.cls := findClass_of_methodNamed B.named
  subst hsz
  have hD := hD0.self (sz := s.heap.size)
  generalize hAe : va_A [(h0, .inr (1, [.ref a1, .ref a2, .int (nI nc), .int (nI no)])), (a2, .inl (cI, 64, .inl co))] s.heap.size = A at hD hC ⊢
  have hA : ∀ q : Nat, s.heap.size ≤ q → A q := fun q h => by rw [← hAe]; exact Or.inr h
  have hS : va_S A s.heap s.heap [] := va_S.rf
  have hK := hC.K
  have hts := hC.ts [.ref h0, .int k].toArray
  have hl := lv_entry ([.ref h0, .int k]) (n := 2) (Nat.le_of_ble_eq_true rfl)
  rw [lg_entry_eq]
  generalize (lg_sl ([.ref h0, .int k]) ++ List.replicate (2 - (lg_sl ([.ref h0, .int k])).length) Slot.unset).toArray = ls at hl ⊢
  have hl : lv_has ls 2 [(0, .ref h0), (1, .int k)] := hl
  refine lv_aload_n hx hb kd_W_addObject_0 rfl (lv_at hl 0 rfl) ?_
  refine va_get (D := D) (ci := 1) (v := .ref a2) (C := "HostBridge$World") (T := ct_W) (N := 4) hx hb hts cw_W hown hK hP 0 rfl rfl 1 (by decide) (hts _ km_34) (fun _ h9 => h9) rfl kd_W_addObject_1 ?_
  refine lv_aload_n hx hb kd_W_addObject_4 rfl (lv_at hl 0 rfl) ?_
  refine va_get (D := D) (ci := 1) (v := .int (nI no)) (C := "HostBridge$World") (T := ct_W) (N := 4) hx hb hts cw_W hown hK hP 0 rfl rfl 3 (by decide) (hts _ km_39) (fun _ h9 => h9) rfl kd_W_addObject_5 ?_
  refine lv_iload_n hx hb kd_W_addObject_8 rfl (lv_at hl 1 rfl) ?_
  refine hx_iast (j := no) hx hb hK hP hD hS 1 rfl (rfl) (hn) (by decide) kd_W_addObject_9 (fun H locs hP hD hS => ?_)
  have hP : va_P D cl_all [(h0, .inr (1, [.ref a1, .ref a2, .int (nI nc), .int (nI no)])), (a2, .inl (cI, 64, .inl (upd co no k)))] H := hP
  have hD : va_D A [(h0, .inr (1, [.ref a1, .ref a2, .int (nI nc), .int (nI no)])), (a2, .inl (cI, 64, .inl (upd co no k)))] := hD
  refine lv_aload_n hx hb kd_W_addObject_10 rfl (lv_at hl 0 rfl) ?_
  refine lv_dup hx hb kd_W_addObject_11 rfl ?_
  refine va_get (D := D) (ci := 1) (v := .int (nI no)) (C := "HostBridge$World") (T := ct_W) (N := 4) hx hb hts cw_W hown hK hP 0 rfl rfl 3 (by decide) (hts _ km_39) (fun _ h9 => h9) rfl kd_W_addObject_12 ?_
  refine lv_iconst (v := 1) hx hb kd_W_addObject_15 (by decide) ?_
  refine lv_iadd hx hb kd_W_addObject_16 ?_
  refine hx_topi (y := nI (no + 1)) (nI_1 no) ?_
  refine va_put (D := D) (ci := 1) (v := .int (nI (no + 1))) (ty := .int) (C := "HostBridge$World") (T := ct_W) (N := 4) hx hb hts cw_W cy_W cp_W cn_W hown hK hP hD hS 0 rfl rfl 3 (by decide) (hts _ km_39) (fun _ h9 => h9) rfl (by decide +kernel) rfl rfl (Nat.le_of_ble_eq_true rfl) kd_W_addObject_17 (fun H locs hP hD hS => ?_)
  have hP : va_P D cl_all [(h0, .inr (1, [.ref a1, .ref a2, .int (nI nc), .int (nI (no + 1))])), (a2, .inl (cI, 64, .inl (upd co no k)))] H := hP
  have hD : va_D A [(h0, .inr (1, [.ref a1, .ref a2, .int (nI nc), .int (nI (no + 1))])), (a2, .inl (cI, 64, .inl (upd co no k)))] := hD
  refine lv_aload_n hx hb kd_W_addObject_20 rfl (lv_at hl 0 rfl) ?_
  refine va_get (D := D) (ci := 1) (v := .int (nI (no + 1))) (C := "HostBridge$World") (T := ct_W) (N := 4) hx hb hts cw_W hown hK hP 0 rfl rfl 3 (by decide) (hts _ km_39) (fun _ h9 => h9) rfl kd_W_addObject_21 ?_
  refine lv_iconst (v := 1) hx hb kd_W_addObject_24 (by decide) ?_
  refine lv_isub hx hb kd_W_addObject_25 ?_
  refine hx_topi (y := nI no) (nI_pred no) ?_
  exact hx_iretW hx hb hr hlocks (by simp []) (hP) hS kd_W_addObject_26

set_option maxHeartbeats 4000000 in
set_option maxRecDepth 100000 in
theorem mc_B_typeAt {l : Launch} {D : va_G} {cI cL cZ : ClassId} {tb : Nat} (ty : Int32) (n i : Nat) (hi : i < n) (hn : n ≤ 4) : Met l ky_B_typeAt kw_B_typeAt { frames := 0, cells := 0, slots := 0, locals := 0 } (pr_P D cI cL cZ tb [] [.int ty, .int (nI n), .int (nI i)]) (hx_QR (some (.int (nI (ty_N ty n i))))) 0 0 (fun _ => False) := by
  refine Met.ofW (cc := kc_B_typeAt) (maxL := 3) (ret := (some .int)) (by decide) rfl ?_
  intro p e s m args below meth c s₁ B hml hv
  obtain ⟨rfl, hC, hP⟩ := hv
  have hx := B.exec
  have hb := B.bytes
  have hr := B.returns
  have hlocks := B.notSynchronized
  have hown : s.vm.findClass "HostBridge" = some m.cls := findClass_of_methodNamed B.named
  have hS : va_S (fun _ => False) s.heap s.heap [] := va_S.rf
  have hK := hC.K
  have hts := hC.ts [.int ty, .int (nI n), .int (nI i)].toArray
  have hl := lv_entry ([.int ty, .int (nI n), .int (nI i)]) (n := 3) (Nat.le_of_ble_eq_true rfl)
  rw [lg_entry_eq]
  generalize (lg_sl ([.int ty, .int (nI n), .int (nI i)]) ++ List.replicate (3 - (lg_sl ([.int ty, .int (nI n), .int (nI i)])).length) Slot.unset).toArray = ls at hl ⊢
  have hl : lv_has ls 3 [(0, .int ty), (1, .int (nI n)), (2, .int (nI i))] := hl
  refine lv_iload_n hx hb kd_B_typeAt_0 rfl (lv_at hl 0 rfl) ?_
  refine lv_bipush (v := 8) hx hb kd_B_typeAt_1 (by decide) ?_
  refine lv_iload_n hx hb kd_B_typeAt_3 rfl (lv_at hl 1 rfl) ?_
  refine lv_iconst (v := 1) hx hb kd_B_typeAt_4 (by decide) ?_
  refine lv_isub hx hb kd_B_typeAt_5 ?_
  refine hx_topi (y := nI (n - 1)) (by rw [show (1 : Int32) = nI 1 from rfl, pk_sub (by omega)]) ?_
  refine lv_iload_n hx hb kd_B_typeAt_6 rfl (lv_at hl 2 rfl) ?_
  refine lv_isub hx hb kd_B_typeAt_7 ?_
  refine hx_topi (y := nI (n - 1 - i)) (pk_sub (by omega)) ?_
  refine lv_imul hx hb kd_B_typeAt_8 ?_
  refine hx_topi (y := nI (8 * (n - 1 - i))) (by rw [show (8 : Int32) = nI 8 from rfl, pk_mul]) ?_
  refine lv_iushr hx hb kd_B_typeAt_9 rfl ?_
  refine lv_sipush (v := 255) hx hb kd_B_typeAt_10 (by decide) ?_
  refine lv_iand hx hb kd_B_typeAt_13 ?_
  refine hx_topi (y := nI (ty_N ty n i)) (sh_b (by omega) ty) ?_
  exact hx_iretR hx hb hr hlocks (by simp []) kd_B_typeAt_14

set_option maxHeartbeats 4000000 in
set_option maxRecDepth 100000 in
theorem mc_W_hasTypes {l : Launch} {D : va_G} {cI cL cZ : ClassId} {tb : Nat} (h0 a1 a2 nc no : Nat) (ty : Int32) (n : Nat) (hn : n ≤ 4) (hnc : nc ≤ 16) : Met l ky_W_hasTypes kw_W_hasTypes { frames := 1, cells := 0, slots := 0, locals := 22 } (pr_P D cI cL cZ tb [(h0, .inr (1, [.ref a1, .ref a2, .int (nI nc), .int (nI no)]))] [.ref h0, .int (nI n), .int ty]) (hx_QR (some (.int (b2_ (ty_ok nc ty n))))) 0 0 (fun _ => False) := by
  refine Met.ofW (cc := kc_W_hasTypes) (maxL := 4) (ret := (some .boolean)) (by decide) rfl ?_
  intro p e s m args below meth c s₁ B hml hv
  obtain ⟨rfl, hC, hP⟩ := hv
  have hx := B.exec
  have hb := B.bytes
  have hr := B.returns
  have hlocks := B.notSynchronized
  have hown : s.vm.findClass "HostBridge$World" = some m.cls := findClass_of_methodNamed B.named
  have hS : va_S (fun _ => False) s.heap s.heap [] := va_S.rf
  have hK := hC.K
  have hts := hC.ts [.ref h0, .int (nI n), .int ty].toArray
  have hl := lv_entry ([.ref h0, .int (nI n), .int ty]) (n := 4) (Nat.le_of_ble_eq_true rfl)
  rw [lg_entry_eq]
  generalize (lg_sl ([.ref h0, .int (nI n), .int ty]) ++ List.replicate (4 - (lg_sl ([.ref h0, .int (nI n), .int ty])).length) Slot.unset).toArray = ls at hl ⊢
  have hl : lv_has ls 4 [(0, .ref h0), (1, .int (nI n)), (2, .int ty)] := hl
  refine hx_cut0 (pc2 := 16) (ls2 := ls) (rest2 := []) (P := ty.toBitVec.toNat < 2 ^ (8 * n)) ?_ (fun hj1 => ?_)
  · intro hz
    refine lv_iconst (v := 0) hx hb kd_W_hasTypes_16 (by decide) ?_
    refine lv_istore_n (lv' := [(3, .int 0), (0, .ref h0), (1, .int (nI n)), (2, .int ty)]) hx hb kd_W_hasTypes_17 rfl hl (by decide) rfl (fun ls hl => ?_)
    refine hx_loopR (σ := Nat) (I := fun i ls => lv_has ls 4 [(0, .ref h0), (1, .int (nI n)), (2, .int ty), (3, .int (nI i))] ∧ i ≤ n ∧ (∀ j, j < i → ty_N ty n j < 6 + nc)) (μ := fun i => n - i) ?_ 0 ⟨lv_sub hl [1, 2, 3, 0] rfl, Nat.zero_le _, fun j h => absurd h (Nat.not_lt_zero j)⟩
    intro i ls hI ih18
    obtain ⟨hl, hi, hall⟩ := hI
    refine lv_iload_n hx hb kd_W_hasTypes_18 rfl (lv_at hl 3 rfl) ?_
    refine lv_iload_n hx hb kd_W_hasTypes_19 rfl (lv_at hl 1 rfl) ?_
    refine lv_icmp_ge (tgt := 44) hx hb kd_W_hasTypes_20 (by decide) (fun c_20 => ?_) (fun c_20 => ?_)
    · skip
      have hin : i = n := by rw [nI_leI (by omega) (by omega)] at c_20; omega
      refine lv_iconst (v := 1) hx hb kd_W_hasTypes_44 (by decide) ?_
      exact hx_zretR hx hb hr hlocks (by rw [ty_ok, decide_eq_true hz, decide_eq_true (p := ∀ j, j < n → ty_N ty n j < 6 + nc) (fun j hj => hall j (by omega))]; rfl) kd_W_hasTypes_45
    · skip
      have hin : i < n := by rw [nI_leI (by omega) (by omega)] at c_20; omega
      refine lv_aload_n hx hb kd_W_hasTypes_23 rfl (lv_at hl 0 rfl) ?_
      refine lv_iload_n hx hb kd_W_hasTypes_24 rfl (lv_at hl 2 rfl) ?_
      refine lv_iload_n hx hb kd_W_hasTypes_25 rfl (lv_at hl 1 rfl) ?_
      refine lv_iload_n hx hb kd_W_hasTypes_26 rfl (lv_at hl 3 rfl) ?_
      refine hx_callRi (va_runSN (As := [.int ty, .int (nI n), .int (nI i)]) (rest := [.ref h0]) ⟨hx, hb, hml, hown, hts⟩ (mc_B_typeAt ty n i hin hn) ⟨va_cnB 3 hts (goodIn_sub (hx_m1 km_316) (by decide +kernel)) rfl rfl rfl (va_Nw.of rfl (hts _ km_314)) (hts _ km_1) (by decide +kernel) ⟨Nat.le_of_ble_eq_true rfl, Nat.le_of_ble_eq_true rfl⟩, hts _ km_315, trivial⟩ (pr_S (hC.S hS) hP [] rfl) rfl rfl hl.1 rfl (lv_room (Nat.le_of_ble_eq_true rfl)) kd_W_hasTypes_27 ⟨Nat.le_of_ble_eq_true rfl, Nat.le_of_ble_eq_true rfl⟩) ?_
      refine hx_callRi (va_runV (As := [.int (nI (ty_N ty n i))]) (rest := []) ⟨hx, hb, hml, hown, hts⟩ (mc_W_hasType h0 a1 a2 nc no (nI (ty_N ty n i))) (cwV 1 hts (goodIn_sub (hx_m5 km_317 km_318 km_319 km_2 km_320) (by decide +kernel)) rfl rfl rfl (by decide +kernel) ⟨Nat.le_of_ble_eq_true rfl, Nat.le_of_ble_eq_true rfl⟩) (pr_V (hC.S hS) hP [0] rfl (ci := 1) rfl (q0 := 0) rfl) rfl rfl hl.1 rfl (lv_room (Nat.le_of_ble_eq_true rfl)) kd_W_hasTypes_30 ⟨Nat.le_of_ble_eq_true rfl, Nat.le_of_ble_eq_true rfl⟩) ?_
      refine lv_if_ne (tgt := 38) hx hb kd_W_hasTypes_33 (by decide) (fun c_33 => ?_) (fun c_33 => ?_)
      · skip
        have ht : ty_N ty n i < 6 + nc := fb_lt (Nat.lt_trans (ty_lt ty n i) (by decide)) (by omega) (b2_t c_33)
        refine lv_iinc (v := nI (i + 1)) (lv' := [(3, .int (nI (i + 1))), (0, .ref h0), (1, .int (nI n)), (2, .int ty)]) hx hb kd_W_hasTypes_38 hl (k := 3) rfl (nI_1 i) (by decide) rfl (fun ls hl => ?_)
        refine lv_goto (tgt := 18) hx hb kd_W_hasTypes_41 (by decide) ?_
        exact ih18 (i + 1) _ (by omega) ⟨lv_sub hl [1, 2, 3, 0] rfl, by omega, fun j hj => (Nat.lt_succ_iff_lt_or_eq.mp hj).elim (hall j) (fun e => by rw [e]; exact ht)⟩
      · skip
        have ht : ¬ ty_N ty n i < 6 + nc := fb_nlt (by omega) (b2_f c_33)
        refine lv_iconst (v := 0) hx hb kd_W_hasTypes_36 (by decide) ?_
        exact hx_zretR hx hb hr hlocks (by rw [ty_ok, decide_eq_false (p := ∀ j, j < n → ty_N ty n j < 6 + nc) (fun h => ht (h i hin)), Bool.and_false]; rfl) kd_W_hasTypes_37
  · skip
    refine lv_iload_n hx hb kd_W_hasTypes_0 rfl (lv_at hl 1 rfl) ?_
    refine lv_iconst (v := 4) hx hb kd_W_hasTypes_1 (by decide) ?_
    refine lv_icmp_ge (tgt := 16) hx hb kd_W_hasTypes_2 (by decide) (fun c_2 => ?_) (fun c_2 => ?_)
    · skip
      exact hj1 (by
          have h9 : nI 4 ≤ nI n := c_2
          rw [nI_leI (by decide) (by omega)] at h9
          have h8 : n = 4 := by omega
          rw [h8]; exact ty.toBitVec.isLt)
    · skip
      refine lv_iload_n hx hb kd_W_hasTypes_5 rfl (lv_at hl 2 rfl) ?_
      refine lv_bipush (v := 8) hx hb kd_W_hasTypes_6 (by decide) ?_
      refine lv_iload_n hx hb kd_W_hasTypes_8 rfl (lv_at hl 1 rfl) ?_
      refine lv_imul hx hb kd_W_hasTypes_9 ?_
      refine hx_topi (y := nI (8 * n)) (by rw [show (8 : Int32) = nI 8 from rfl, pk_mul]) ?_
      refine lv_iushr hx hb kd_W_hasTypes_10 rfl ?_
      refine lv_if_eq (tgt := 16) hx hb kd_W_hasTypes_11 (by decide) (fun c_11 => ?_) (fun c_11 => ?_)
      · skip
        exact hj1 ((sh_0 (by have h9 : ¬ nI 4 ≤ nI n := c_2; rw [nI_leI (by decide) (by omega)] at h9; omega) ty).mp c_11)
      · skip
        refine lv_iconst (v := 0) hx hb kd_W_hasTypes_14 (by decide) ?_
        exact hx_zretR hx hb hr hlocks (by rw [ty_ok, decide_eq_false (fun h => c_11 ((sh_0 (by have h9 : ¬ nI 4 ≤ nI n := c_2; rw [nI_leI (by decide) (by omega)] at h9; omega) ty).mpr h)), Bool.false_and]; rfl) kd_W_hasTypes_15

set_option maxHeartbeats 4000000 in
set_option maxRecDepth 100000 in
theorem mc_W_distance {l : Launch} {D : va_G} {cI cL cZ : ClassId} {tb : Nat} (h0 a1 a2 nc no : Nat) (pa : Nat → Int32) (k0 cl : Int32) (hok : ln_ok nc pa) (hk0 : ln_k nc k0) : Met l ky_W_distance kw_W_distance { frames := 0, cells := 0, slots := 0, locals := 0 } (pr_P D cI cL cZ tb [(h0, .inr (1, [.ref a1, .ref a2, .int (nI nc), .int (nI no)])), (a1, .inl (cI, 16, .inl pa))] [.ref h0, .int k0, .int cl]) (hx_QR (some (.int (ds_ pa cl 16 k0 0)))) 0 0 (fun _ => False) := by
  refine Met.ofW (cc := kc_W_distance) (maxL := 5) (ret := (some .int)) (by decide) rfl ?_
  intro p e s m args below meth c s₁ B hml hv
  obtain ⟨rfl, hC, hP⟩ := hv
  have hx := B.exec
  have hb := B.bytes
  have hr := B.returns
  have hlocks := B.notSynchronized
  have hown : s.vm.findClass "HostBridge$World" = some m.cls := findClass_of_methodNamed B.named
  have hS : va_S (fun _ => False) s.heap s.heap [] := va_S.rf
  have hK := hC.K
  have hts := hC.ts [.ref h0, .int k0, .int cl].toArray
  have hl := lv_entry ([.ref h0, .int k0, .int cl]) (n := 5) (Nat.le_of_ble_eq_true rfl)
  rw [lg_entry_eq]
  generalize (lg_sl ([.ref h0, .int k0, .int cl]) ++ List.replicate (5 - (lg_sl ([.ref h0, .int k0, .int cl])).length) Slot.unset).toArray = ls at hl ⊢
  have hl : lv_has ls 5 [(0, .ref h0), (1, .int k0), (2, .int cl)] := hl
  refine lv_iload_n hx hb kd_W_distance_0 rfl (lv_at hl 1 rfl) ?_
  refine lv_istore_n (lv' := [(3, .int k0), (0, .ref h0), (1, .int k0), (2, .int cl)]) hx hb kd_W_distance_1 rfl hl (by decide) rfl (fun ls hl => ?_)
  refine lv_iconst (v := 0) hx hb kd_W_distance_2 (by decide) ?_
  refine lv_istore (lv' := [(4, .int 0), (3, .int k0), (0, .ref h0), (1, .int k0), (2, .int cl)]) hx hb kd_W_distance_3 hl (by decide) rfl (fun ls hl => ?_)
  refine hx_loopR (σ := Nat × Int32) (I := fun x ls => lv_has ls 5 [(0, .ref h0), (2, .int cl), (3, .int x.2), (4, .int (nI x.1))] ∧ x.1 ≤ 16 ∧ ln_k nc x.2 ∧ ds_ pa cl (16 - x.1) x.2 x.1 = ds_ pa cl 16 k0 0) (μ := fun x => 16 - x.1) ?_ (0, k0) ⟨lv_sub hl [2, 4, 1, 0] rfl, Nat.zero_le _, hk0, rfl⟩
  intro x ls hI ih5
  obtain ⟨n, k⟩ := x
  obtain ⟨hl, hn, hk, hd⟩ := hI
  dsimp only at hl hn hk hd ih5
  refine lv_iload hx hb kd_W_distance_5 (lv_at hl 3 rfl) ?_
  refine lv_bipush (v := 16) hx hb kd_W_distance_7 (by decide) ?_
  refine lv_icmp_ge (tgt := 38) hx hb kd_W_distance_9 (by decide) (fun c_9 => ?_) (fun c_9 => ?_)
  · skip
    have h16 : n = 16 := by
      have h9 : nI 16 ≤ nI n := c_9
      rw [nI_leI (by decide) (by omega)] at h9; omega
    refine lv_iconst (v := -1) hx hb kd_W_distance_38 (by decide) ?_
    exact hx_iretR hx hb hr hlocks (by rw [← hd, h16]; rfl) kd_W_distance_39
  · skip
    have h16 : n < 16 := by
      have h9 : ¬ nI 16 ≤ nI n := c_9
      rw [nI_leI (by decide) (by omega)] at h9; omega
    obtain ⟨f, hf0⟩ : ∃ f, f = 15 - n := ⟨_, rfl⟩
    have hf : 16 - n = (15 - n) + 1 := by omega
    refine lv_iload_n hx hb kd_W_distance_12 rfl (lv_at hl 2 rfl) ?_
    refine lv_iconst (v := -1) hx hb kd_W_distance_13 (by decide) ?_
    refine lv_icmp_eq (tgt := 38) hx hb kd_W_distance_14 (by decide) (fun c_14 => ?_) (fun c_14 => ?_)
    · skip
      refine lv_iconst (v := -1) hx hb kd_W_distance_38 (by decide) ?_
      exact hx_iretR hx hb hr hlocks (by rw [← hd, hf]; simp only [ds_]; rw [if_pos c_14]) kd_W_distance_39
    · skip
      obtain ⟨j, hj, rfl⟩ := hk.resolve_left c_14
      refine lv_iload_n hx hb kd_W_distance_17 rfl (lv_at hl 2 rfl) ?_
      refine lv_iload_n hx hb kd_W_distance_18 rfl (lv_at hl 1 rfl) ?_
      refine lv_icmp_ne (tgt := 25) hx hb kd_W_distance_19 (by decide) (fun c_19 => ?_) (fun c_19 => ?_)
      · skip
        refine lv_aload_n hx hb kd_W_distance_25 rfl (lv_at hl 0 rfl) ?_
        refine va_get (D := D) (ci := 1) (v := .ref a1) (C := "HostBridge$World") (T := ct_W) (N := 4) hx hb hts cw_W hown hK hP 0 rfl rfl 0 (by decide) (hts _ km_32) (fun _ h9 => h9) rfl kd_W_distance_26 ?_
        refine lv_iload_n hx hb kd_W_distance_29 rfl (lv_at hl 2 rfl) ?_
        refine hx_iald (j := j) hx hb hK hP 1 rfl (rfl) (by have := hok.1; omega) (by decide) kd_W_distance_30 ?_
        refine lv_istore_n (lv' := [(3, .int (pa j)), (0, .ref h0), (2, .int cl), (4, .int (nI n))]) hx hb kd_W_distance_31 rfl hl (by decide) rfl (fun ls hl => ?_)
        refine lv_iinc (v := nI (n + 1)) (lv' := [(4, .int (nI (n + 1))), (3, .int (pa j)), (0, .ref h0), (2, .int cl)]) hx hb kd_W_distance_32 hl (k := 3) rfl (nI_1 n) (by decide) rfl (fun ls hl => ?_)
        refine lv_goto (tgt := 5) hx hb kd_W_distance_35 (by decide) ?_
        exact ih5 (n + 1, pa j) _ (by dsimp only; omega) ⟨lv_sub hl [2, 3, 1, 0] rfl, by dsimp only; omega, hok.at hj, by dsimp only; rw [← hd, hf, show 16 - (n + 1) = 15 - n by omega]; simp only [ds_]; rw [if_neg c_14, if_neg c_19, nI_clamp (by have := hok.1; omega)]⟩
      · skip
        refine lv_iload hx hb kd_W_distance_22 (lv_at hl 3 rfl) ?_
        exact hx_iretR hx hb hr hlocks (by rw [← hd, hf]; simp only [ds_]; rw [if_neg c_14, if_pos c_19]) kd_W_distance_24
