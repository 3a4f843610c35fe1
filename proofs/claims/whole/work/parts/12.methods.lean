/-! THE METHODS (HostBridge$Methods) -/
/-- method j is of class k, of that name, with so many parameters -/
def mi_ (ho na si : Nat → Int32) (k nm mn : Int32) (j : Nat) : Bool := decide (ho j = k) && decide (na j = nm) && decide (si j = mn)
def mm_ (ho na si ty : Nat → Int32) (k nm mn tw : Int32) (j : Nat) : Bool := mi_ ho na si k nm mn j && decide (ty j = tw)
/-- the first place from i on, of f at most, at which P holds; -1 when there is none -/
def fd_ (P : Nat → Bool) : Nat → Nat → Int32
  | 0, _ => -1
  | f + 1, i => if P i = true then nI i else fd_ P f (i + 1)

set_option maxHeartbeats 4000000 in
set_option maxRecDepth 100000 in
theorem mc_M_isCalled {l : Launch} {D : va_G} {cI cL cZ : ClassId} {tb : Nat} (h0 a1 a2 a3 a4 nm : Nat) (ho na si ty : Nat → Int32) (j : Nat) (k n mn : Int32) (hj : j < 64) : Met l ky_M_isCalled kw_M_isCalled { frames := 0, cells := 0, slots := 0, locals := 0 } (pr_P D cI cL cZ tb [(h0, .inr (2, [.ref a1, .ref a2, .ref a3, .ref a4, .int (nI nm)])), (a1, .inl (cI, 64, .inl ho)), (a2, .inl (cI, 64, .inl na)), (a3, .inl (cI, 64, .inl si))] [.ref h0, .int (nI j), .int k, .int n, .int mn]) (hx_QR (some (.int (b2_ (mi_ ho na si k n mn j))))) 0 0 (fun _ => False) := by
  refine Met.ofW (cc := kc_M_isCalled) (maxL := 5) (ret := (some .boolean)) (by decide) rfl ?_
  intro p e s m args below meth c s₁ B hml hv
  obtain ⟨rfl, hC, hP⟩ := hv
  have hx := B.exec
  have hb := B.bytes
  have hr := B.returns
  have hlocks := B.notSynchronized
  have hown : s.vm.findClass "HostBridge$Methods" = some m.cls := findClass_of_methodNamed B.named
  have hS : va_S (fun _ => False) s.heap s.heap [] := va_S.rf
  have hK := hC.K
  have hts := hC.ts [.ref h0, .int (nI j), .int k, .int n, .int mn].toArray
  have hl := lv_entry ([.ref h0, .int (nI j), .int k, .int n, .int mn]) (n := 5) (Nat.le_of_ble_eq_true rfl)
  rw [lg_entry_eq]
  generalize (lg_sl ([.ref h0, .int (nI j), .int k, .int n, .int mn]) ++ List.replicate (5 - (lg_sl ([.ref h0, .int (nI j), .int k, .int n, .int mn])).length) Slot.unset).toArray = ls at hl ⊢
  have hl : lv_has ls 5 [(0, .ref h0), (1, .int (nI j)), (2, .int k), (3, .int n), (4, .int mn)] := hl
  refine lv_aload_n hx hb kd_M_isCalled_0 rfl (lv_at hl 0 rfl) ?_
  refine va_get (D := D) (ci := 2) (v := .ref a1) (C := "HostBridge$Methods") (T := ct_M) (N := 5) hx hb hts cw_M hown hK hP 0 rfl rfl 0 (by decide) (hts _ km_57) (fun _ h9 => h9) rfl kd_M_isCalled_1 ?_
  refine lv_iload_n hx hb kd_M_isCalled_4 rfl (lv_at hl 1 rfl) ?_
  refine hx_iald (j := j) hx hb hK hP 1 rfl (rfl) (hj) (by decide) kd_M_isCalled_5 ?_
  refine lv_iload_n hx hb kd_M_isCalled_6 rfl (lv_at hl 2 rfl) ?_
  refine lv_icmp_ne (tgt := 35) hx hb kd_M_isCalled_7 (by decide) (fun c_7 => ?_) (fun c_7 => ?_)
  · skip
    refine lv_iconst (v := 0) hx hb kd_M_isCalled_35 (by decide) ?_
    exact hx_zretR hx hb hr hlocks (by simp [b2_, mi_, c_7]) kd_M_isCalled_36
  · skip
    refine lv_aload_n hx hb kd_M_isCalled_10 rfl (lv_at hl 0 rfl) ?_
    refine va_get (D := D) (ci := 2) (v := .ref a2) (C := "HostBridge$Methods") (T := ct_M) (N := 5) hx hb hts cw_M hown hK hP 0 rfl rfl 1 (by decide) (hts _ km_58) (fun _ h9 => h9) rfl kd_M_isCalled_11 ?_
    refine lv_iload_n hx hb kd_M_isCalled_14 rfl (lv_at hl 1 rfl) ?_
    refine hx_iald (j := j) hx hb hK hP 2 rfl (rfl) (hj) (by decide) kd_M_isCalled_15 ?_
    refine lv_iload_n hx hb kd_M_isCalled_16 rfl (lv_at hl 3 rfl) ?_
    refine lv_icmp_ne (tgt := 35) hx hb kd_M_isCalled_17 (by decide) (fun c_17 => ?_) (fun c_17 => ?_)
    · skip
      refine lv_iconst (v := 0) hx hb kd_M_isCalled_35 (by decide) ?_
      exact hx_zretR hx hb hr hlocks (by simp [b2_, mi_, c_7, c_17]) kd_M_isCalled_36
    · skip
      refine lv_aload_n hx hb kd_M_isCalled_20 rfl (lv_at hl 0 rfl) ?_
      refine va_get (D := D) (ci := 2) (v := .ref a3) (C := "HostBridge$Methods") (T := ct_M) (N := 5) hx hb hts cw_M hown hK hP 0 rfl rfl 2 (by decide) (hts _ km_59) (fun _ h9 => h9) rfl kd_M_isCalled_21 ?_
      refine lv_iload_n hx hb kd_M_isCalled_24 rfl (lv_at hl 1 rfl) ?_
      refine hx_iald (j := j) hx hb hK hP 3 rfl (rfl) (hj) (by decide) kd_M_isCalled_25 ?_
      refine lv_iload hx hb kd_M_isCalled_26 (lv_at hl 4 rfl) ?_
      refine lv_icmp_ne (tgt := 35) hx hb kd_M_isCalled_28 (by decide) (fun c_28 => ?_) (fun c_28 => ?_)
      · skip
        refine lv_iconst (v := 0) hx hb kd_M_isCalled_35 (by decide) ?_
        exact hx_zretR hx hb hr hlocks (by simp [b2_, mi_, c_7, c_17, c_28]) kd_M_isCalled_36
      · skip
        refine lv_iconst (v := 1) hx hb kd_M_isCalled_31 (by decide) ?_
        refine lv_goto (tgt := 36) hx hb kd_M_isCalled_32 (by decide) ?_
        exact hx_zretR hx hb hr hlocks (by simp [b2_, mi_, c_7, c_17, c_28]) kd_M_isCalled_36

set_option maxHeartbeats 4000000 in
set_option maxRecDepth 100000 in
theorem mc_M_find {l : Launch} {D : va_G} {cI cL cZ : ClassId} {tb : Nat} (h0 a1 a2 a3 a4 nm : Nat) (ho na si ty : Nat → Int32) (k n mn tw : Int32) (hnm : nm ≤ 64) : Met l ky_M_find kw_M_find { frames := 1, cells := 0, slots := 0, locals := 24 } (pr_P D cI cL cZ tb [(h0, .inr (2, [.ref a1, .ref a2, .ref a3, .ref a4, .int (nI nm)])), (a1, .inl (cI, 64, .inl ho)), (a2, .inl (cI, 64, .inl na)), (a3, .inl (cI, 64, .inl si)), (a4, .inl (cI, 64, .inl ty))] [.ref h0, .int k, .int n, .int mn, .int tw]) (hx_QR (some (.int (fd_ (mm_ ho na si ty k n mn tw) nm 0)))) 0 0 (fun _ => False) := by
  refine Met.ofW (cc := kc_M_find) (maxL := 6) (ret := (some .int)) (by decide) rfl ?_
  intro p e s m args below meth c s₁ B hml hv
  obtain ⟨rfl, hC, hP⟩ := hv
  have hx := B.exec
  have hb := B.bytes
  have hr := B.returns
  have hlocks := B.notSynchronized
  have hown : s.vm.findClass "HostBridge$Methods" = some m.cls := findClass_of_methodNamed B.named
  have hS : va_S (fun _ => False) s.heap s.heap [] := va_S.rf
  have hK := hC.K
  have hts := hC.ts [.ref h0, .int k, .int n, .int mn, .int tw].toArray
  have hl := lv_entry ([.ref h0, .int k, .int n, .int mn, .int tw]) (n := 6) (Nat.le_of_ble_eq_true rfl)
  rw [lg_entry_eq]
  generalize (lg_sl ([.ref h0, .int k, .int n, .int mn, .int tw]) ++ List.replicate (6 - (lg_sl ([.ref h0, .int k, .int n, .int mn, .int tw])).length) Slot.unset).toArray = ls at hl ⊢
  have hl : lv_has ls 6 [(0, .ref h0), (1, .int k), (2, .int n), (3, .int mn), (4, .int tw)] := hl
  refine lv_iconst (v := 0) hx hb kd_M_find_0 (by decide) ?_
  refine lv_istore (lv' := [(5, .int 0), (0, .ref h0), (1, .int k), (2, .int n), (3, .int mn), (4, .int tw)]) hx hb kd_M_find_1 hl (by decide) rfl (fun ls hl => ?_)
  refine hx_loopR (σ := Nat) (I := fun i ls => lv_has ls 6 [(0, .ref h0), (1, .int k), (2, .int n), (3, .int mn), (4, .int tw), (5, .int (nI i))] ∧ i ≤ nm ∧ fd_ (mm_ ho na si ty k n mn tw) (nm - i) i = fd_ (mm_ ho na si ty k n mn tw) nm 0) (μ := fun i => nm - i) ?_ 0 ⟨lv_sub hl [1, 2, 3, 4, 5, 0] rfl, Nat.zero_le _, rfl⟩
  intro i ls hI ih3
  obtain ⟨hl, hi, hd⟩ := hI
  refine lv_iload hx hb kd_M_find_3 (lv_at hl 5 rfl) ?_
  refine lv_aload_n hx hb kd_M_find_5 rfl (lv_at hl 0 rfl) ?_
  refine va_get (D := D) (ci := 2) (v := .int (nI nm)) (C := "HostBridge$Methods") (T := ct_M) (N := 5) hx hb hts cw_M hown hK hP 0 rfl rfl 4 (by decide) (hts _ km_64) (fun _ h9 => h9) rfl kd_M_find_6 ?_
  refine lv_icmp_ge (tgt := 45) hx hb kd_M_find_9 (by decide) (fun c_9 => ?_) (fun c_9 => ?_)
  · skip
    have hin : i = nm := by rw [nI_leI (by omega) (by omega)] at c_9; omega
    refine lv_iconst (v := -1) hx hb kd_M_find_45 (by decide) ?_
    exact hx_iretR hx hb hr hlocks (by rw [← hd, hin, Nat.sub_self]; rfl) kd_M_find_46
  · skip
    have hin : i < nm := by rw [nI_leI (by omega) (by omega)] at c_9; omega
    refine lv_aload_n hx hb kd_M_find_12 rfl (lv_at hl 0 rfl) ?_
    refine lv_iload hx hb kd_M_find_13 (lv_at hl 5 rfl) ?_
    refine lv_iload_n hx hb kd_M_find_15 rfl (lv_at hl 1 rfl) ?_
    refine lv_iload_n hx hb kd_M_find_16 rfl (lv_at hl 2 rfl) ?_
    refine lv_iload_n hx hb kd_M_find_17 rfl (lv_at hl 3 rfl) ?_
    refine hx_callRi (va_runV (As := [.int (nI i), .int k, .int n, .int mn]) (rest := []) ⟨hx, hb, hml, hown, hts⟩ (mc_M_isCalled h0 a1 a2 a3 a4 nm ho na si ty i k n mn (by omega)) (cwV 4 hts (goodIn_sub (hx_m5 km_327 km_328 km_329 km_3 km_330) (by decide +kernel)) rfl rfl rfl (by decide +kernel) ⟨Nat.le_of_ble_eq_true rfl, Nat.le_of_ble_eq_true rfl⟩) (pr_V (hC.S hS) hP [0, 1, 2, 3] rfl (ci := 2) rfl (q0 := 0) rfl) rfl rfl hl.1 rfl (lv_room (Nat.le_of_ble_eq_true rfl)) kd_M_find_18 ⟨Nat.le_of_ble_eq_true rfl, Nat.le_of_ble_eq_true rfl⟩) ?_
    refine lv_if_eq (tgt := 39) hx hb kd_M_find_21 (by decide) (fun c_21 => ?_) (fun c_21 => ?_)
    · skip
      have c_21f := b2_f c_21
      refine lv_iinc (v := nI (i + 1)) (lv' := [(5, .int (nI (i + 1))), (0, .ref h0), (1, .int k), (2, .int n), (3, .int mn), (4, .int tw)]) hx hb kd_M_find_39 hl (k := 5) rfl (nI_1 i) (by decide) rfl (fun ls hl => ?_)
      refine lv_goto (tgt := 3) hx hb kd_M_find_42 (by decide) ?_
      exact ih3 (i + 1) _ (by omega) ⟨lv_sub hl [1, 2, 3, 4, 5, 0] rfl, by omega, by rw [← hd, show nm - i = (nm - (i + 1)) + 1 by omega]; simp only [fd_]; rw [if_neg (by rw [mm_, c_21f, Bool.false_and]; decide)]⟩
    · skip
      have c_21f := b2_t c_21
      refine lv_aload_n hx hb kd_M_find_24 rfl (lv_at hl 0 rfl) ?_
      refine va_get (D := D) (ci := 2) (v := .ref a4) (C := "HostBridge$Methods") (T := ct_M) (N := 5) hx hb hts cw_M hown hK hP 0 rfl rfl 3 (by decide) (hts _ km_61) (fun _ h9 => h9) rfl kd_M_find_25 ?_
      refine lv_iload hx hb kd_M_find_28 (lv_at hl 5 rfl) ?_
      refine hx_iald (j := i) hx hb hK hP 4 rfl (rfl) (by omega) (by decide) kd_M_find_30 ?_
      refine lv_iload hx hb kd_M_find_31 (lv_at hl 4 rfl) ?_
      refine lv_icmp_ne (tgt := 39) hx hb kd_M_find_33 (by decide) (fun c_33 => ?_) (fun c_33 => ?_)
      · skip
        refine lv_iinc (v := nI (i + 1)) (lv' := [(5, .int (nI (i + 1))), (0, .ref h0), (1, .int k), (2, .int n), (3, .int mn), (4, .int tw)]) hx hb kd_M_find_39 hl (k := 5) rfl (nI_1 i) (by decide) rfl (fun ls hl => ?_)
        refine lv_goto (tgt := 3) hx hb kd_M_find_42 (by decide) ?_
        exact ih3 (i + 1) _ (by omega) ⟨lv_sub hl [1, 2, 3, 4, 5, 0] rfl, by omega, by rw [← hd, show nm - i = (nm - (i + 1)) + 1 by omega]; simp only [fd_]; rw [if_neg (by rw [mm_, c_21f, decide_eq_false c_33]; decide)]⟩
      · skip
        refine lv_iload hx hb kd_M_find_36 (lv_at hl 5 rfl) ?_
        exact hx_iretR hx hb hr hlocks (by rw [← hd, show nm - i = (nm - (i + 1)) + 1 by omega]; simp only [fd_]; rw [if_pos (by rw [mm_, c_21f, decide_eq_true c_33]; rfl)]) kd_M_find_38

set_option maxHeartbeats 4000000 in
set_option maxRecDepth 100000 in
theorem mc_M_add {l : Launch} {D : va_G} {cI cL cZ : ClassId} {tb : Nat} (h0 a1 a2 a3 a4 nm : Nat) (ho na si ty : Nat → Int32) (k n mn tw : Int32) (hnm : nm < 64) (sz : Nat) : Met l ky_M_add kw_M_add { frames := 0, cells := 0, slots := 0, locals := 0 } (pw_P D cI cL cZ tb [(h0, .inr (2, [.ref a1, .ref a2, .ref a3, .ref a4, .int (nI nm)])), (a1, .inl (cI, 64, .inl ho)), (a2, .inl (cI, 64, .inl na)), (a3, .inl (cI, 64, .inl si)), (a4, .inl (cI, 64, .inl ty))] sz [.ref h0, .int k, .int n, .int mn, .int tw]) (hx_QW D (some (.int (nI nm))) [(h0, .inr (2, [.ref a1, .ref a2, .ref a3, .ref a4, .int (nI (nm + 1))])), (a1, .inl (cI, 64, .inl (upd ho nm k))), (a2, .inl (cI, 64, .inl (upd na nm n))), (a3, .inl (cI, 64, .inl (upd si nm mn))), (a4, .inl (cI, 64, .inl (upd ty nm tw)))] (va_A [(h0, .inr (2, [.ref a1, .ref a2, .ref a3, .ref a4, .int (nI nm)])), (a1, .inl (cI, 64, .inl ho)), (a2, .inl (cI, 64, .inl na)), (a3, .inl (cI, 64, .inl si)), (a4, .inl (cI, 64, .inl ty))] sz)) 0 0 (va_A [(h0, .inr (2, [.ref a1, .ref a2, .ref a3, .ref a4, .int (nI nm)])), (a1, .inl (cI, 64, .inl ho)), (a2, .inl (cI, 64, .inl na)), (a3, .inl (cI, 64, .inl si)), (a4, .inl (cI, 64, .inl ty))] sz) := by
  refine Met.ofW (cc := kc_M_add) (maxL := 5) (ret := (some .int)) (by decide) rfl ?_
  intro p e s m args below meth c s₁ B hml hv
  obtain ⟨rfl, hsz, hC, hP, hD0⟩ := hv
  have hx := B.exec
  have hb := B.bytes
  have hr := B.returns
  have hlocks := B.notSynchronized
  have hown : s.vm.findClass "HostBridge$Methods" = some m.cls := findClass_of_methodNamed B.named
  subst hsz
  have hD := hD0.self (sz := s.heap.size)
  generalize hAe : va_A [(h0, .inr (2, [.ref a1, .ref a2, .ref a3, .ref a4, .int (nI nm)])), (a1, .inl (cI, 64, .inl ho)), (a2, .inl (cI, 64, .inl na)), (a3, .inl (cI, 64, .inl si)), (a4, .inl (cI, 64, .inl ty))] s.heap.size = A at hD hC ⊢
  have hA : ∀ q : Nat, s.heap.size ≤ q → A q := fun q h => by rw [← hAe]; exact Or.inr h
  have hS : va_S A s.heap s.heap [] := va_S.rf
  have hK := hC.K
  have hts := hC.ts [.ref h0, .int k, .int n, .int mn, .int tw].toArray
  have hl := lv_entry ([.ref h0, .int k, .int n, .int mn, .int tw]) (n := 5) (Nat.le_of_ble_eq_true rfl)
  rw [lg_entry_eq]
  generalize (lg_sl ([.ref h0, .int k, .int n, .int mn, .int tw]) ++ List.replicate (5 - (lg_sl ([.ref h0, .int k, .int n, .int mn, .int tw])).length) Slot.unset).toArray = ls at hl ⊢
  have hl : lv_has ls 5 [(0, .ref h0), (1, .int k), (2, .int n), (3, .int mn), (4, .int tw)] := hl
  refine lv_aload_n hx hb kd_M_add_0 rfl (lv_at hl 0 rfl) ?_
  refine va_get (D := D) (ci := 2) (v := .ref a1) (C := "HostBridge$Methods") (T := ct_M) (N := 5) hx hb hts cw_M hown hK hP 0 rfl rfl 0 (by decide) (hts _ km_57) (fun _ h9 => h9) rfl kd_M_add_1 ?_
  refine lv_aload_n hx hb kd_M_add_4 rfl (lv_at hl 0 rfl) ?_
  refine va_get (D := D) (ci := 2) (v := .int (nI nm)) (C := "HostBridge$Methods") (T := ct_M) (N := 5) hx hb hts cw_M hown hK hP 0 rfl rfl 4 (by decide) (hts _ km_64) (fun _ h9 => h9) rfl kd_M_add_5 ?_
  refine lv_iload_n hx hb kd_M_add_8 rfl (lv_at hl 1 rfl) ?_
  refine hx_iast (j := nm) hx hb hK hP hD hS 1 rfl (rfl) (hnm) (by decide) kd_M_add_9 (fun H locs hP hD hS => ?_)
  have hP : va_P D cl_all [(h0, .inr (2, [.ref a1, .ref a2, .ref a3, .ref a4, .int (nI nm)])), (a1, .inl (cI, 64, .inl (upd ho nm k))), (a2, .inl (cI, 64, .inl na)), (a3, .inl (cI, 64, .inl si)), (a4, .inl (cI, 64, .inl ty))] H := hP
  have hD : va_D A [(h0, .inr (2, [.ref a1, .ref a2, .ref a3, .ref a4, .int (nI nm)])), (a1, .inl (cI, 64, .inl (upd ho nm k))), (a2, .inl (cI, 64, .inl na)), (a3, .inl (cI, 64, .inl si)), (a4, .inl (cI, 64, .inl ty))] := hD
  refine lv_aload_n hx hb kd_M_add_10 rfl (lv_at hl 0 rfl) ?_
  refine va_get (D := D) (ci := 2) (v := .ref a2) (C := "HostBridge$Methods") (T := ct_M) (N := 5) hx hb hts cw_M hown hK hP 0 rfl rfl 1 (by decide) (hts _ km_58) (fun _ h9 => h9) rfl kd_M_add_11 ?_
  refine lv_aload_n hx hb kd_M_add_14 rfl (lv_at hl 0 rfl) ?_
  refine va_get (D := D) (ci := 2) (v := .int (nI nm)) (C := "HostBridge$Methods") (T := ct_M) (N := 5) hx hb hts cw_M hown hK hP 0 rfl rfl 4 (by decide) (hts _ km_64) (fun _ h9 => h9) rfl kd_M_add_15 ?_
  refine lv_iload_n hx hb kd_M_add_18 rfl (lv_at hl 2 rfl) ?_
  refine hx_iast (j := nm) hx hb hK hP hD hS 2 rfl (rfl) (hnm) (by decide) kd_M_add_19 (fun H locs hP hD hS => ?_)
  have hP : va_P D cl_all [(h0, .inr (2, [.ref a1, .ref a2, .ref a3, .ref a4, .int (nI nm)])), (a1, .inl (cI, 64, .inl (upd ho nm k))), (a2, .inl (cI, 64, .inl (upd na nm n))), (a3, .inl (cI, 64, .inl si)), (a4, .inl (cI, 64, .inl ty))] H := hP
  have hD : va_D A [(h0, .inr (2, [.ref a1, .ref a2, .ref a3, .ref a4, .int (nI nm)])), (a1, .inl (cI, 64, .inl (upd ho nm k))), (a2, .inl (cI, 64, .inl (upd na nm n))), (a3, .inl (cI, 64, .inl si)), (a4, .inl (cI, 64, .inl ty))] := hD
  refine lv_aload_n hx hb kd_M_add_20 rfl (lv_at hl 0 rfl) ?_
  refine va_get (D := D) (ci := 2) (v := .ref a3) (C := "HostBridge$Methods") (T := ct_M) (N := 5) hx hb hts cw_M hown hK hP 0 rfl rfl 2 (by decide) (hts _ km_59) (fun _ h9 => h9) rfl kd_M_add_21 ?_
  refine lv_aload_n hx hb kd_M_add_24 rfl (lv_at hl 0 rfl) ?_
  refine va_get (D := D) (ci := 2) (v := .int (nI nm)) (C := "HostBridge$Methods") (T := ct_M) (N := 5) hx hb hts cw_M hown hK hP 0 rfl rfl 4 (by decide) (hts _ km_64) (fun _ h9 => h9) rfl kd_M_add_25 ?_
  refine lv_iload_n hx hb kd_M_add_28 rfl (lv_at hl 3 rfl) ?_
  refine hx_iast (j := nm) hx hb hK hP hD hS 3 rfl (rfl) (hnm) (by decide) kd_M_add_29 (fun H locs hP hD hS => ?_)
  have hP : va_P D cl_all [(h0, .inr (2, [.ref a1, .ref a2, .ref a3, .ref a4, .int (nI nm)])), (a1, .inl (cI, 64, .inl (upd ho nm k))), (a2, .inl (cI, 64, .inl (upd na nm n))), (a3, .inl (cI, 64, .inl (upd si nm mn))), (a4, .inl (cI, 64, .inl ty))] H := hP
  have hD : va_D A [(h0, .inr (2, [.ref a1, .ref a2, .ref a3, .ref a4, .int (nI nm)])), (a1, .inl (cI, 64, .inl (upd ho nm k))), (a2, .inl (cI, 64, .inl (upd na nm n))), (a3, .inl (cI, 64, .inl (upd si nm mn))), (a4, .inl (cI, 64, .inl ty))] := hD
  refine lv_aload_n hx hb kd_M_add_30 rfl (lv_at hl 0 rfl) ?_
  refine va_get (D := D) (ci := 2) (v := .ref a4) (C := "HostBridge$Methods") (T := ct_M) (N := 5) hx hb hts cw_M hown hK hP 0 rfl rfl 3 (by decide) (hts _ km_61) (fun _ h9 => h9) rfl kd_M_add_31 ?_
  refine lv_aload_n hx hb kd_M_add_34 rfl (lv_at hl 0 rfl) ?_
  refine va_get (D := D) (ci := 2) (v := .int (nI nm)) (C := "HostBridge$Methods") (T := ct_M) (N := 5) hx hb hts cw_M hown hK hP 0 rfl rfl 4 (by decide) (hts _ km_64) (fun _ h9 => h9) rfl kd_M_add_35 ?_
  refine lv_iload hx hb kd_M_add_38 (lv_at hl 4 rfl) ?_
  refine hx_iast (j := nm) hx hb hK hP hD hS 4 rfl (rfl) (hnm) (by decide) kd_M_add_40 (fun H locs hP hD hS => ?_)
  have hP : va_P D cl_all [(h0, .inr (2, [.ref a1, .ref a2, .ref a3, .ref a4, .int (nI nm)])), (a1, .inl (cI, 64, .inl (upd ho nm k))), (a2, .inl (cI, 64, .inl (upd na nm n))), (a3, .inl (cI, 64, .inl (upd si nm mn))), (a4, .inl (cI, 64, .inl (upd ty nm tw)))] H := hP
  have hD : va_D A [(h0, .inr (2, [.ref a1, .ref a2, .ref a3, .ref a4, .int (nI nm)])), (a1, .inl (cI, 64, .inl (upd ho nm k))), (a2, .inl (cI, 64, .inl (upd na nm n))), (a3, .inl (cI, 64, .inl (upd si nm mn))), (a4, .inl (cI, 64, .inl (upd ty nm tw)))] := hD
  refine lv_aload_n hx hb kd_M_add_41 rfl (lv_at hl 0 rfl) ?_
  refine lv_dup hx hb kd_M_add_42 rfl ?_
  refine va_get (D := D) (ci := 2) (v := .int (nI nm)) (C := "HostBridge$Methods") (T := ct_M) (N := 5) hx hb hts cw_M hown hK hP 0 rfl rfl 4 (by decide) (hts _ km_64) (fun _ h9 => h9) rfl kd_M_add_43 ?_
  refine lv_iconst (v := 1) hx hb kd_M_add_46 (by decide) ?_
  refine lv_iadd hx hb kd_M_add_47 ?_
  refine hx_topi (y := nI (nm + 1)) (nI_1 nm) ?_
  refine va_put (D := D) (ci := 2) (v := .int (nI (nm + 1))) (ty := .int) (C := "HostBridge$Methods") (T := ct_M) (N := 5) hx hb hts cw_M cy_M cp_M cn_M hown hK hP hD hS 0 rfl rfl 4 (by decide) (hts _ km_64) (fun _ h9 => h9) rfl (by decide +kernel) rfl rfl (Nat.le_of_ble_eq_true rfl) kd_M_add_48 (fun H locs hP hD hS => ?_)
  have hP : va_P D cl_all [(h0, .inr (2, [.ref a1, .ref a2, .ref a3, .ref a4, .int (nI (nm + 1))])), (a1, .inl (cI, 64, .inl (upd ho nm k))), (a2, .inl (cI, 64, .inl (upd na nm n))), (a3, .inl (cI, 64, .inl (upd si nm mn))), (a4, .inl (cI, 64, .inl (upd ty nm tw)))] H := hP
  have hD : va_D A [(h0, .inr (2, [.ref a1, .ref a2, .ref a3, .ref a4, .int (nI (nm + 1))])), (a1, .inl (cI, 64, .inl (upd ho nm k))), (a2, .inl (cI, 64, .inl (upd na nm n))), (a3, .inl (cI, 64, .inl (upd si nm mn))), (a4, .inl (cI, 64, .inl (upd ty nm tw)))] := hD
  refine lv_aload_n hx hb kd_M_add_51 rfl (lv_at hl 0 rfl) ?_
  refine va_get (D := D) (ci := 2) (v := .int (nI (nm + 1))) (C := "HostBridge$Methods") (T := ct_M) (N := 5) hx hb hts cw_M hown hK hP 0 rfl rfl 4 (by decide) (hts _ km_64) (fun _ h9 => h9) rfl kd_M_add_52 ?_
  refine lv_iconst (v := 1) hx hb kd_M_add_55 (by decide) ?_
  refine lv_isub hx hb kd_M_add_56 ?_
  refine hx_topi (y := nI nm) (nI_pred nm) ?_
  exact hx_iretW hx hb hr hlocks (by simp []) (hP) hS kd_M_add_57
