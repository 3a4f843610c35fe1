/-! WHICH METHOD A CALL IS GIVEN (HostBridge$Choice) -/
/-- the candidates' row: the list ahead, what lay there behind -/
def cf_ (L : List Nat) (ca : Nat → Int32) : Nat → Int32 := fun c => if c < L.length then nI (L.getD c 0) else ca c
theorem cf_nil (ca : Nat → Int32) : cf_ [] ca = ca := by
  funext c
  simp [cf_]
theorem cf_push (L : List Nat) (ca : Nat → Int32) (m : Nat) : upd (cf_ L ca) L.length (nI m) = cf_ (L ++ [m]) ca := by
  funext c
  simp only [upd, cf_, List.length_append, List.length_singleton]
  by_cases h : c = L.length
  · subst h
    rw [if_pos rfl, if_pos (by omega)]
    simp
  · rw [if_neg h]
    by_cases h2 : c < L.length
    · rw [if_pos h2, if_pos (by omega)]
      simp [List.getD_eq_getElem?_getD, List.getElem?_append_left h2]
    · rw [if_neg h2, if_neg (by omega)]
theorem cf_at {L : List Nat} {ca : Nat → Int32} {c : Nat} (h : c < L.length) : cf_ L ca c = nI (L[c]) := by
  simp [cf_, h, List.getD_eq_getElem?_getD]
theorem dr_at {L : List Nat} {c : Nat} (h : c < L.length) : L.drop c = L[c] :: L.drop (c + 1) := List.drop_eq_getElem_cons h
/-- the first along the line for which F answers -/
def fs_ (F : Int32 → Int32) (pa : Nat → Int32) : Nat → Int32 → Int32
  | 0, _ => -1
  | f + 1, k => if k = -1 then -1 else if F k = -1 then fs_ F pa f (pa k.toNatClampNeg) else F k
/-- the weight of argument i for method j -/
def wg_ (pa co kn so : Nat → Int32) (bi : Nat → Int64) (ty : Nat → Int32) (n j i : Nat) : Int32 := wf_ pa co (kn i) (so i) (bi i) (ty_N (ty j) n i)
def mn_ (x y : Int32) : Int32 := if y < x then y else x
/-- the lowest weight of argument i -/
def lw_ (g : Nat → Int32) : List Nat → Int32
  | [] => 0
  | a :: r => r.foldl (fun m c => mn_ m (g c)) (g a)
/-- the only one for which P holds; -1 when there is none, or another -/
def bb_ (P : Nat → Bool) : List Nat → Int32 → Int32
  | [], b => b
  | c :: r, b => if P c = true then (if b = -1 then bb_ P r (nI c) else -1) else bb_ P r b
/-- the methods of one class that are gathered -/
def gf_ (P : Nat → Bool) (hid : List Nat → Nat → Bool) : Nat → Nat → List Nat → List Nat
  | 0, _, L => L
  | f + 1, m, L => if L.length < 64 then (if P m = true ∧ hid L m = false then gf_ P hid f (m + 1) (L ++ [m]) else gf_ P hid f (m + 1) L) else L
/-- those of the line -/
def ga_ (G : Int32 → List Nat → List Nat) (pa : Nat → Int32) : Nat → Int32 → List Nat → List Nat
  | 0, _, L => L
  | f + 1, k, L => if k = -1 then L else ga_ G pa f (pa k.toNatClampNeg) (G k L)
def hd_ (ty : Nat → Int32) (L : List Nat) (m : Nat) : Bool := L.any (fun c => decide (ty c = ty m))

set_option maxHeartbeats 4000000 in
set_option maxRecDepth 100000 in
theorem mc_C_first {l : Launch} {D : va_G} {cI cL cZ : ClassId} {tb : Nat} (h0 hw hm ha b1 b2 m1 m2 m3 m4 a1 a2 a3 c1 c2 nc no nm nar : Nat) (pa co ho nn si ty kn so ca lo : Nat → Int32) (bi : Nat → Int64) (L : List Nat) (ck k0 n mn tw : Int32) (hok : ln_ok nc pa) (hk0 : ln_k nc k0) (hnm : nm ≤ 64) : Met l ky_C_first kw_C_first { frames := 2, cells := 0, slots := 0, locals := 49 } (pr_P D cI cL cZ tb [(h0, .inr (4, [.ref hw, .ref hm, .ref ha, .ref c1, .ref c2, .int ck])), (hw, .inr (1, [.ref b1, .ref b2, .int (nI nc), .int (nI no)])), (b1, .inl (cI, 16, .inl pa)), (hm, .inr (2, [.ref m1, .ref m2, .ref m3, .ref m4, .int (nI nm)])), (m1, .inl (cI, 64, .inl ho)), (m2, .inl (cI, 64, .inl nn)), (m3, .inl (cI, 64, .inl si)), (m4, .inl (cI, 64, .inl ty))] [.ref h0, .int k0, .int n, .int mn, .int tw]) (hx_QR (some (.int (fs_ (fun k => fd_ (mm_ ho nn si ty k n mn tw) nm 0) pa 16 k0)))) 0 0 (fun _ => False) := by
  refine Met.ofW (cc := kc_C_first) (maxL := 8) (ret := (some .int)) (by decide) rfl ?_
  intro p e s m args below meth c s₁ B hml hv
  obtain ⟨rfl, hC, hP⟩ := hv
  have hx := B.exec
  have hb := B.bytes
  have hr := B.returns
  have hlocks := B.notSynchronized
  have hown : s.vm.findClass "HostBridge$Choice" = some m.cls := findClass_of_methodNamed B.named
  have hS : va_S (fun _ => False) s.heap s.heap [] := va_S.rf
  have hK := hC.K
  have hts := hC.ts [.ref h0, .int k0, .int n, .int mn, .int tw].toArray
  have hl := lv_entry ([.ref h0, .int k0, .int n, .int mn, .int tw]) (n := 8) (Nat.le_of_ble_eq_true rfl)
  rw [lg_entry_eq]
  generalize (lg_sl ([.ref h0, .int k0, .int n, .int mn, .int tw]) ++ List.replicate (8 - (lg_sl ([.ref h0, .int k0, .int n, .int mn, .int tw])).length) Slot.unset).toArray = ls at hl ⊢
  have hl : lv_has ls 8 [(0, .ref h0), (1, .int k0), (2, .int n), (3, .int mn), (4, .int tw)] := hl
  refine lv_iload_n hx hb kd_C_first_0 rfl (lv_at hl 1 rfl) ?_
  refine lv_istore (lv' := [(5, .int k0), (0, .ref h0), (1, .int k0), (2, .int n), (3, .int mn), (4, .int tw)]) hx hb kd_C_first_1 hl (by decide) rfl (fun ls hl => ?_)
  refine lv_iconst (v := 0) hx hb kd_C_first_3 (by decide) ?_
  refine lv_istore (lv' := [(6, .int 0), (5, .int k0), (0, .ref h0), (1, .int k0), (2, .int n), (3, .int mn), (4, .int tw)]) hx hb kd_C_first_4 hl (by decide) rfl (fun ls hl => ?_)
  refine hx_loopR (σ := Nat × Int32) (I := fun x ls => lv_has ls 8 [(0, .ref h0), (2, .int n), (3, .int mn), (4, .int tw), (5, .int x.2), (6, .int (nI x.1))] ∧ x.1 ≤ 16 ∧ ln_k nc x.2 ∧ fs_ (fun k => fd_ (mm_ ho nn si ty k n mn tw) nm 0) pa (16 - x.1) x.2 = fs_ (fun k => fd_ (mm_ ho nn si ty k n mn tw) nm 0) pa 16 k0) (μ := fun x => 16 - x.1) ?_ (0, k0) ⟨lv_sub hl [2, 4, 5, 6, 1, 0] rfl, Nat.zero_le _, hk0, rfl⟩
  intro x ls hI ih6
  obtain ⟨q, k⟩ := x
  obtain ⟨hl, hq, hk, hd⟩ := hI
  dsimp only at hl hq hk hd ih6
  refine lv_iload hx hb kd_C_first_6 (lv_at hl 5 rfl) ?_
  refine lv_bipush (v := 16) hx hb kd_C_first_8 (by decide) ?_
  refine lv_icmp_ge (tgt := 61) hx hb kd_C_first_10 (by decide) (fun c_10 => ?_) (fun c_10 => ?_)
  · skip
    have h16 : q = 16 := by
      have h9 : nI 16 ≤ nI q := c_10
      rw [nI_leI (by decide) (by omega)] at h9; omega
    refine lv_iconst (v := -1) hx hb kd_C_first_61 (by decide) ?_
    exact hx_iretR hx hb hr hlocks (by rw [← hd, h16]; rfl) kd_C_first_62
  · skip
    have h16 : q < 16 := by
      have h9 : ¬ nI 16 ≤ nI q := c_10
      rw [nI_leI (by decide) (by omega)] at h9; omega
    have hf : 16 - q = (15 - q) + 1 := by omega
    refine lv_iload hx hb kd_C_first_13 (lv_at hl 4 rfl) ?_
    refine lv_iconst (v := -1) hx hb kd_C_first_15 (by decide) ?_
    refine lv_icmp_eq (tgt := 61) hx hb kd_C_first_16 (by decide) (fun c_16 => ?_) (fun c_16 => ?_)
    · skip
      refine lv_iconst (v := -1) hx hb kd_C_first_61 (by decide) ?_
      exact hx_iretR hx hb hr hlocks (by rw [← hd, hf]; simp only [fs_]; rw [if_pos c_16]) kd_C_first_62
    · skip
      obtain ⟨j, hj, rfl⟩ := hk.resolve_left c_16
      refine lv_aload_n hx hb kd_C_first_19 rfl (lv_at hl 0 rfl) ?_
      refine va_get (D := D) (ci := 4) (v := .ref hm) (C := "HostBridge$Choice") (T := ct_C) (N := 6) hx hb hts cw_C hown hK hP 0 rfl rfl 1 (by decide) (hts _ km_109) (fun _ h9 => h9) rfl kd_C_first_20 ?_
      refine lv_iload hx hb kd_C_first_23 (lv_at hl 4 rfl) ?_
      refine lv_iload_n hx hb kd_C_first_25 rfl (lv_at hl 1 rfl) ?_
      refine lv_iload_n hx hb kd_C_first_26 rfl (lv_at hl 2 rfl) ?_
      refine lv_iload hx hb kd_C_first_27 (lv_at hl 3 rfl) ?_
      refine hx_callRi (va_runV (As := [.int (nI j), .int n, .int mn, .int tw]) (rest := []) ⟨hx, hb, hml, hown, hts⟩ (mc_M_find hm m1 m2 m3 m4 nm ho nn si ty (nI j) n mn tw hnm) (cwV 4 hts (goodIn_sub (hx_m5 km_539 km_324 km_325 km_3 km_326) (by decide +kernel)) rfl rfl rfl (by decide +kernel) ⟨Nat.le_of_ble_eq_true rfl, Nat.le_of_ble_eq_true rfl⟩) (pr_V (hC.S hS) hP [3, 4, 5, 6, 7] rfl (ci := 2) rfl (q0 := 0) rfl) rfl rfl hl.1 rfl (lv_room (Nat.le_of_ble_eq_true rfl)) kd_C_first_29 ⟨Nat.le_of_ble_eq_true rfl, Nat.le_of_ble_eq_true rfl⟩) ?_
      refine lv_istore (lv' := [(7, .int (fd_ (mm_ ho nn si ty (nI j) n mn tw) nm 0)), (0, .ref h0), (2, .int n), (3, .int mn), (4, .int tw), (5, .int (nI j)), (6, .int (nI q))]) hx hb kd_C_first_32 hl (by decide) rfl (fun ls hl => ?_)
      refine lv_iload hx hb kd_C_first_34 (lv_at hl 0 rfl) ?_
      refine lv_iconst (v := -1) hx hb kd_C_first_36 (by decide) ?_
      refine lv_icmp_eq (tgt := 43) hx hb kd_C_first_37 (by decide) (fun c_37 => ?_) (fun c_37 => ?_)
      · skip
        refine lv_aload_n hx hb kd_C_first_43 rfl (lv_at hl 1 rfl) ?_
        refine va_get (D := D) (ci := 4) (v := .ref hw) (C := "HostBridge$Choice") (T := ct_C) (N := 6) hx hb hts cw_C hown hK hP 0 rfl rfl 0 (by decide) (hts _ km_108) (fun _ h9 => h9) rfl kd_C_first_44 ?_
        refine va_getN (host := "HostBridge") (D := D) (ci := 1) (v := .ref b1) (C := "HostBridge$World") (T := ct_W) (N := 4) hx hb hts cw_W hown hK hP 1 rfl rfl 0 (by decide) (hts _ km_33) (fun _ h9 => h9) rfl kd_C_first_47 ?_
        refine lv_iload hx hb kd_C_first_50 (lv_at hl 5 rfl) ?_
        refine hx_iald (j := j) hx hb hK hP 2 rfl (rfl) (by have := hok.1; omega) (by decide) kd_C_first_52 ?_
        refine lv_istore (lv' := [(5, .int (pa j)), (7, .int (fd_ (mm_ ho nn si ty (nI j) n mn tw) nm 0)), (0, .ref h0), (2, .int n), (3, .int mn), (4, .int tw), (6, .int (nI q))]) hx hb kd_C_first_53 hl (by decide) rfl (fun ls hl => ?_)
        refine lv_iinc (v := nI (q + 1)) (lv' := [(6, .int (nI (q + 1))), (5, .int (pa j)), (7, .int (fd_ (mm_ ho nn si ty (nI j) n mn tw) nm 0)), (0, .ref h0), (2, .int n), (3, .int mn), (4, .int tw)]) hx hb kd_C_first_55 hl (k := 6) rfl (nI_1 q) (by decide) rfl (fun ls hl => ?_)
        refine lv_goto (tgt := 6) hx hb kd_C_first_58 (by decide) ?_
        exact ih6 (q + 1, pa j) _ (by dsimp only; omega) ⟨lv_sub hl [3, 4, 5, 6, 1, 0] rfl, by dsimp only; omega, hok.at hj, by dsimp only; rw [← hd, hf, show 16 - (q + 1) = 15 - q by omega]; simp only [fs_]; rw [if_neg c_16, if_pos c_37, nI_clamp (by have := hok.1; omega)]⟩
      · skip
        refine lv_iload hx hb kd_C_first_40 (lv_at hl 0 rfl) ?_
        exact hx_iretR hx hb hr hlocks (by rw [← hd, hf]; simp only [fs_]; rw [if_neg c_16, if_neg c_37]) kd_C_first_42

set_option maxHeartbeats 4000000 in
set_option maxRecDepth 100000 in
theorem mc_C_isHidden {l : Launch} {D : va_G} {cI cL cZ : ClassId} {tb : Nat} (h0 hw hm ha b1 b2 m1 m2 m3 m4 a1 a2 a3 c1 c2 nc no nm nar : Nat) (pa co ho nn si ty kn so ca lo : Nat → Int32) (bi : Nat → Int64) (L : List Nat) (j : Nat) (hj : j < 64) (hL : ∀ c ∈ L, c < 64) (hLl : L.length ≤ 64) : Met l ky_C_isHidden kw_C_isHidden { frames := 0, cells := 0, slots := 0, locals := 0 } (pr_P D cI cL cZ tb [(h0, .inr (4, [.ref hw, .ref hm, .ref ha, .ref c1, .ref c2, .int (nI L.length)])), (hm, .inr (2, [.ref m1, .ref m2, .ref m3, .ref m4, .int (nI nm)])), (m4, .inl (cI, 64, .inl ty)), (c1, .inl (cI, 64, .inl (cf_ L ca)))] [.ref h0, .int (nI j)]) (hx_QR (some (.int (b2_ (hd_ ty L j))))) 0 0 (fun _ => False) := by
  refine Met.ofW (cc := kc_C_isHidden) (maxL := 3) (ret := (some .boolean)) (by decide) rfl ?_
  intro p e s m args below meth c s₁ B hml hv
  obtain ⟨rfl, hC, hP⟩ := hv
  have hx := B.exec
  have hb := B.bytes
  have hr := B.returns
  have hlocks := B.notSynchronized
  have hown : s.vm.findClass "HostBridge$Choice" = some m.cls := findClass_of_methodNamed B.named
  have hS : va_S (fun _ => False) s.heap s.heap [] := va_S.rf
  have hK := hC.K
  have hts := hC.ts [.ref h0, .int (nI j)].toArray
  have hl := lv_entry ([.ref h0, .int (nI j)]) (n := 3) (Nat.le_of_ble_eq_true rfl)
  rw [lg_entry_eq]
  generalize (lg_sl ([.ref h0, .int (nI j)]) ++ List.replicate (3 - (lg_sl ([.ref h0, .int (nI j)])).length) Slot.unset).toArray = ls at hl ⊢
  have hl : lv_has ls 3 [(0, .ref h0), (1, .int (nI j))] := hl
  refine lv_iconst (v := 0) hx hb kd_C_isHidden_0 (by decide) ?_
  refine lv_istore_n (lv' := [(2, .int 0), (0, .ref h0), (1, .int (nI j))]) hx hb kd_C_isHidden_1 rfl hl (by decide) rfl (fun ls hl => ?_)
  refine hx_loopR (σ := Nat) (I := fun c9 ls => lv_has ls 3 [(0, .ref h0), (1, .int (nI j)), (2, .int (nI c9))] ∧ c9 ≤ L.length ∧ hd_ ty (L.drop c9) j = hd_ ty L j) (μ := fun c9 => L.length - c9) ?_ 0 ⟨lv_sub hl [1, 2, 0] rfl, Nat.zero_le _, rfl⟩
  intro c9 ls hI ih2
  obtain ⟨hl, hc, hd⟩ := hI
  refine lv_iload_n hx hb kd_C_isHidden_2 rfl (lv_at hl 2 rfl) ?_
  refine lv_aload_n hx hb kd_C_isHidden_3 rfl (lv_at hl 0 rfl) ?_
  refine va_get (D := D) (ci := 4) (v := .int (nI L.length)) (C := "HostBridge$Choice") (T := ct_C) (N := 6) hx hb hts cw_C hown hK hP 0 rfl rfl 5 (by decide) (hts _ km_113) (fun _ h9 => h9) rfl kd_C_isHidden_4 ?_
  refine lv_icmp_ge (tgt := 44) hx hb kd_C_isHidden_7 (by decide) (fun c_7 => ?_) (fun c_7 => ?_)
  · skip
    have hin : c9 = L.length := by rw [nI_leI (by omega) (by omega)] at c_7; omega
    refine lv_iconst (v := 0) hx hb kd_C_isHidden_44 (by decide) ?_
    exact hx_zretR hx hb hr hlocks (by rw [← hd, hin, List.drop_length]; rfl) kd_C_isHidden_45
  · skip
    have hin : c9 < L.length := by rw [nI_leI (by omega) (by omega)] at c_7; omega
    refine lv_aload_n hx hb kd_C_isHidden_10 rfl (lv_at hl 0 rfl) ?_
    refine va_get (D := D) (ci := 4) (v := .ref hm) (C := "HostBridge$Choice") (T := ct_C) (N := 6) hx hb hts cw_C hown hK hP 0 rfl rfl 1 (by decide) (hts _ km_109) (fun _ h9 => h9) rfl kd_C_isHidden_11 ?_
    refine va_getN (host := "HostBridge") (D := D) (ci := 2) (v := .ref m4) (C := "HostBridge$Methods") (T := ct_M) (N := 5) hx hb hts cw_M hown hK hP 1 rfl rfl 3 (by decide) (hts _ km_62) (fun _ h9 => h9) rfl kd_C_isHidden_14 ?_
    refine lv_aload_n hx hb kd_C_isHidden_17 rfl (lv_at hl 0 rfl) ?_
    refine va_get (D := D) (ci := 4) (v := .ref c1) (C := "HostBridge$Choice") (T := ct_C) (N := 6) hx hb hts cw_C hown hK hP 0 rfl rfl 3 (by decide) (hts _ km_111) (fun _ h9 => h9) rfl kd_C_isHidden_18 ?_
    refine lv_iload_n hx hb kd_C_isHidden_21 rfl (lv_at hl 2 rfl) ?_
    refine hx_iald (j := c9) hx hb hK hP 3 rfl (rfl) (by omega) (by decide) kd_C_isHidden_22 ?_
    refine hx_topi (y := nI (L[c9])) (cf_at hin) ?_
    refine hx_iald (j := L[c9]) hx hb hK hP 2 rfl (rfl) (hL _ (List.getElem_mem hin)) (by decide) kd_C_isHidden_23 ?_
    refine lv_aload_n hx hb kd_C_isHidden_24 rfl (lv_at hl 0 rfl) ?_
    refine va_get (D := D) (ci := 4) (v := .ref hm) (C := "HostBridge$Choice") (T := ct_C) (N := 6) hx hb hts cw_C hown hK hP 0 rfl rfl 1 (by decide) (hts _ km_109) (fun _ h9 => h9) rfl kd_C_isHidden_25 ?_
    refine va_getN (host := "HostBridge") (D := D) (ci := 2) (v := .ref m4) (C := "HostBridge$Methods") (T := ct_M) (N := 5) hx hb hts cw_M hown hK hP 1 rfl rfl 3 (by decide) (hts _ km_62) (fun _ h9 => h9) rfl kd_C_isHidden_28 ?_
    refine lv_iload_n hx hb kd_C_isHidden_31 rfl (lv_at hl 1 rfl) ?_
    refine hx_iald (j := j) hx hb hK hP 2 rfl (rfl) (hj) (by decide) kd_C_isHidden_32 ?_
    refine lv_icmp_ne (tgt := 38) hx hb kd_C_isHidden_33 (by decide) (fun c_33 => ?_) (fun c_33 => ?_)
    · skip
      refine lv_iinc (v := nI (c9 + 1)) (lv' := [(2, .int (nI (c9 + 1))), (0, .ref h0), (1, .int (nI j))]) hx hb kd_C_isHidden_38 hl (k := 2) rfl (nI_1 c9) (by decide) rfl (fun ls hl => ?_)
      refine lv_goto (tgt := 2) hx hb kd_C_isHidden_41 (by decide) ?_
      exact ih2 (c9 + 1) _ (by omega) ⟨lv_sub hl [1, 2, 0] rfl, by omega, by rw [← hd, dr_at hin, hd_, hd_, List.any_cons, decide_eq_false c_33, Bool.false_or]⟩
    · skip
      refine lv_iconst (v := 1) hx hb kd_C_isHidden_36 (by decide) ?_
      exact hx_zretR hx hb hr hlocks (by rw [← hd, dr_at hin, hd_, List.any_cons, decide_eq_true c_33, Bool.true_or]; rfl) kd_C_isHidden_37

set_option maxHeartbeats 4000000 in
set_option maxRecDepth 100000 in
theorem mc_C_weightIn {l : Launch} {D : va_G} {cI cL cZ : ClassId} {tb : Nat} (h0 hw hm ha b1 b2 m1 m2 m3 m4 a1 a2 a3 c1 c2 nc no nm nar : Nat) (pa co ho nn si ty kn so ca lo : Nat → Int32) (bi : Nat → Int64) (L : List Nat) (n j i : Nat) (hn : n ≤ 4) (hok : ∀ i, i < n → ar_ok no (kn i) (so i) (bi i)) (hln : ln_ok nc pa) (hno : no ≤ 64) (hco : ∀ j, j < no → ∃ q : Nat, q < nc ∧ co j = nI q) (hj : j < 64) (hi : i < n) : Met l ky_C_weightIn kw_C_weightIn { frames := 2, cells := 0, slots := 0, locals := 46 } (pr_P D cI cL cZ tb [(h0, .inr (4, [.ref hw, .ref hm, .ref ha, .ref c1, .ref c2, .int (nI L.length)])), (hm, .inr (2, [.ref m1, .ref m2, .ref m3, .ref m4, .int (nI nm)])), (m4, .inl (cI, 64, .inl ty)), (ha, .inr (3, [.ref hw, .ref a1, .ref a2, .ref a3, .int (nI nar)])), (a1, .inl (cI, 4, .inl kn)), (a2, .inl (cI, 4, .inl so)), (a3, .inl (cL, 4, .inr (.inl bi))), (hw, .inr (1, [.ref b1, .ref b2, .int (nI nc), .int (nI no)])), (b1, .inl (cI, 16, .inl pa)), (b2, .inl (cI, 64, .inl co))] [.ref h0, .int (nI j), .int (nI i), .int (nI n)]) (hx_QR (some (.int (wg_ pa co kn so bi ty n j i)))) 0 0 (fun _ => False) := by
  refine Met.ofW (cc := kc_C_weightIn) (maxL := 4) (ret := (some .int)) (by decide) rfl ?_
  intro p e s m args below meth c s₁ B hml hv
  obtain ⟨rfl, hC, hP⟩ := hv
  have hx := B.exec
  have hb := B.bytes
  have hr := B.returns
  have hlocks := B.notSynchronized
  have hown : s.vm.findClass "HostBridge$Choice" = some m.cls := findClass_of_methodNamed B.named
  have hS : va_S (fun _ => False) s.heap s.heap [] := va_S.rf
  have hK := hC.K
  have hts := hC.ts [.ref h0, .int (nI j), .int (nI i), .int (nI n)].toArray
  have hl := lv_entry ([.ref h0, .int (nI j), .int (nI i), .int (nI n)]) (n := 4) (Nat.le_of_ble_eq_true rfl)
  rw [lg_entry_eq]
  generalize (lg_sl ([.ref h0, .int (nI j), .int (nI i), .int (nI n)]) ++ List.replicate (4 - (lg_sl ([.ref h0, .int (nI j), .int (nI i), .int (nI n)])).length) Slot.unset).toArray = ls at hl ⊢
  have hl : lv_has ls 4 [(0, .ref h0), (1, .int (nI j)), (2, .int (nI i)), (3, .int (nI n))] := hl
  refine lv_aload_n hx hb kd_C_weightIn_0 rfl (lv_at hl 0 rfl) ?_
  refine va_get (D := D) (ci := 4) (v := .ref ha) (C := "HostBridge$Choice") (T := ct_C) (N := 6) hx hb hts cw_C hown hK hP 0 rfl rfl 2 (by decide) (hts _ km_110) (fun _ h9 => h9) rfl kd_C_weightIn_1 ?_
  refine lv_iload_n hx hb kd_C_weightIn_4 rfl (lv_at hl 2 rfl) ?_
  refine lv_aload_n hx hb kd_C_weightIn_5 rfl (lv_at hl 0 rfl) ?_
  refine va_get (D := D) (ci := 4) (v := .ref hm) (C := "HostBridge$Choice") (T := ct_C) (N := 6) hx hb hts cw_C hown hK hP 0 rfl rfl 1 (by decide) (hts _ km_109) (fun _ h9 => h9) rfl kd_C_weightIn_6 ?_
  refine va_getN (host := "HostBridge") (D := D) (ci := 2) (v := .ref m4) (C := "HostBridge$Methods") (T := ct_M) (N := 5) hx hb hts cw_M hown hK hP 1 rfl rfl 3 (by decide) (hts _ km_62) (fun _ h9 => h9) rfl kd_C_weightIn_9 ?_
  refine lv_iload_n hx hb kd_C_weightIn_12 rfl (lv_at hl 1 rfl) ?_
  refine hx_iald (j := j) hx hb hK hP 2 rfl (rfl) (hj) (by decide) kd_C_weightIn_13 ?_
  refine lv_iload_n hx hb kd_C_weightIn_14 rfl (lv_at hl 3 rfl) ?_
  refine lv_iload_n hx hb kd_C_weightIn_15 rfl (lv_at hl 2 rfl) ?_
  refine hx_callRi (va_runSN (As := [.int (ty j), .int (nI n), .int (nI i)]) (rest := [.int (nI i), .ref ha]) ⟨hx, hb, hml, hown, hts⟩ (mc_B_typeAt (ty j) n i hi hn) ⟨va_cnB 3 hts (goodIn_sub (hx_m1 km_316) (by decide +kernel)) rfl rfl rfl (va_Nw.of rfl (hts _ km_478)) (hts _ km_1) (by decide +kernel) ⟨Nat.le_of_ble_eq_true rfl, Nat.le_of_ble_eq_true rfl⟩, hts _ km_315, trivial⟩ (pr_S (hC.S hS) hP [] rfl) rfl rfl hl.1 rfl (lv_room (Nat.le_of_ble_eq_true rfl)) kd_C_weightIn_16 ⟨Nat.le_of_ble_eq_true rfl, Nat.le_of_ble_eq_true rfl⟩) ?_
  refine hx_callRi (va_runV (As := [.int (nI i), .int (nI (ty_N (ty j) n i))]) (rest := []) ⟨hx, hb, hml, hown, hts⟩ (mc_A_weightFor ha hw a1 a2 a3 b1 b2 nar nc no kn so pa co bi i (ty_N (ty j) n i) (by omega) (hok i hi) hln hno hco (ty_lt (ty j) n i)) (cwV 2 hts (goodIn_sub (hx_m5 km_479 km_405 km_406 km_4 km_407) (by decide +kernel)) rfl rfl rfl (by decide +kernel) ⟨Nat.le_of_ble_eq_true rfl, Nat.le_of_ble_eq_true rfl⟩) (pr_V (hC.S hS) hP [3, 4, 5, 6, 7, 8, 9] rfl (ci := 3) rfl (q0 := 0) rfl) rfl rfl hl.1 rfl (lv_room (Nat.le_of_ble_eq_true rfl)) kd_C_weightIn_19 ⟨Nat.le_of_ble_eq_true rfl, Nat.le_of_ble_eq_true rfl⟩) ?_
  exact hx_iretR hx hb hr hlocks (rfl) kd_C_weightIn_22

def mi2_ (x y : Int32) : Int32 := (if y < x then y else x)
set_option maxHeartbeats 4000000 in
set_option maxRecDepth 100000 in
theorem mc_J_min {l : Launch} {D : va_G} {cI cL cZ : ClassId} {tb : Nat} (x y : Int32) : Met l ky_J_min kw_J_min { frames := 0, cells := 0, slots := 0, locals := 0 } (pr_P D cI cL cZ tb [] [.int x, .int y]) (hx_QR (some (.int (mi2_ x y)))) 0 0 (fun _ => False) := by
  refine va_MetF (cc := kc_J_min) (maxL := 2) (ret := (some .int)) (by decide +kernel) rfl ?_
  intro p e s m args below meth c s₁ B hml hv
  obtain ⟨rfl, hC, hP⟩ := hv
  have hx := B.exec
  have hb := B.bytes
  have hr := B.returns
  have hlocks := B.notSynchronized
  have hown : s.vm.findClass "java/lang/Math" = some m.cls := findClass_of_methodNamed B.named
  have hS : va_S (fun _ => False) s.heap s.heap [] := va_S.rf
  have hK := hC.K
  have hts := hC.ts [.int x, .int y].toArray
  have hl := lv_entry ([.int x, .int y]) (n := 2) (Nat.le_of_ble_eq_true rfl)
  rw [lg_entry_eq]
  generalize (lg_sl ([.int x, .int y]) ++ List.replicate (2 - (lg_sl ([.int x, .int y])).length) Slot.unset).toArray = ls at hl ⊢
  have hl : lv_has ls 2 [(0, .int x), (1, .int y)] := hl
  refine lv_iload_n hx hb kd_J_min_0 rfl (lv_at hl 0 rfl) ?_
  refine lv_iload_n hx hb kd_J_min_1 rfl (lv_at hl 1 rfl) ?_
  refine lv_icmp_gt (tgt := 9) hx hb kd_J_min_2 (by decide) (fun c_2 => ?_) (fun c_2 => ?_)
  · skip
    refine lv_iload_n hx hb kd_J_min_9 rfl (lv_at hl 1 rfl) ?_
    exact hx_iretR hx hb hr hlocks (by unfold mi2_; rw [if_pos c_2]; try rfl) kd_J_min_10
  · skip
    refine lv_iload_n hx hb kd_J_min_5 rfl (lv_at hl 0 rfl) ?_
    refine lv_goto (tgt := 10) hx hb kd_J_min_6 (by decide) ?_
    exact hx_iretR hx hb hr hlocks (by unfold mi2_; rw [if_neg c_2]; try rfl) kd_J_min_10

theorem mi2_eq (x y : Int32) : mi2_ x y = mn_ x y := rfl

set_option maxHeartbeats 4000000 in
set_option maxRecDepth 100000 in
theorem mc_C_lowestWeight {l : Launch} {D : va_G} {cI cL cZ : ClassId} {tb : Nat} (h0 hw hm ha b1 b2 m1 m2 m3 m4 a1 a2 a3 c1 c2 nc no nm nar : Nat) (pa co ho nn si ty kn so ca lo : Nat → Int32) (bi : Nat → Int64) (L : List Nat) (n i : Nat) (hn : n ≤ 4) (hok : ∀ i, i < n → ar_ok no (kn i) (so i) (bi i)) (hln : ln_ok nc pa) (hno : no ≤ 64) (hco : ∀ j, j < no → ∃ q : Nat, q < nc ∧ co j = nI q) (hi : i < n) (hL : ∀ c ∈ L, c < 64) (hLl : L.length ≤ 64) (hL0 : 0 < L.length) : Met l ky_C_lowestWeight kw_C_lowestWeight { frames := 3, cells := 0, slots := 0, locals := 69 } (pr_P D cI cL cZ tb [(h0, .inr (4, [.ref hw, .ref hm, .ref ha, .ref c1, .ref c2, .int (nI L.length)])), (hm, .inr (2, [.ref m1, .ref m2, .ref m3, .ref m4, .int (nI nm)])), (m4, .inl (cI, 64, .inl ty)), (ha, .inr (3, [.ref hw, .ref a1, .ref a2, .ref a3, .int (nI nar)])), (a1, .inl (cI, 4, .inl kn)), (a2, .inl (cI, 4, .inl so)), (a3, .inl (cL, 4, .inr (.inl bi))), (hw, .inr (1, [.ref b1, .ref b2, .int (nI nc), .int (nI no)])), (b1, .inl (cI, 16, .inl pa)), (b2, .inl (cI, 64, .inl co)), (c1, .inl (cI, 64, .inl (cf_ L ca)))] [.ref h0, .int (nI i), .int (nI n)]) (hx_QR (some (.int (lw_ (fun j => wg_ pa co kn so bi ty n j i) L)))) 0 0 (fun _ => False) := by
  refine Met.ofW (cc := kc_C_lowestWeight) (maxL := 5) (ret := (some .int)) (by decide) rfl ?_
  intro p e s m args below meth c s₁ B hml hv
  obtain ⟨rfl, hC, hP⟩ := hv
  have hx := B.exec
  have hb := B.bytes
  have hr := B.returns
  have hlocks := B.notSynchronized
  have hown : s.vm.findClass "HostBridge$Choice" = some m.cls := findClass_of_methodNamed B.named
  have hS : va_S (fun _ => False) s.heap s.heap [] := va_S.rf
  have hK := hC.K
  have hts := hC.ts [.ref h0, .int (nI i), .int (nI n)].toArray
  have hl := lv_entry ([.ref h0, .int (nI i), .int (nI n)]) (n := 5) (Nat.le_of_ble_eq_true rfl)
  rw [lg_entry_eq]
  generalize (lg_sl ([.ref h0, .int (nI i), .int (nI n)]) ++ List.replicate (5 - (lg_sl ([.ref h0, .int (nI i), .int (nI n)])).length) Slot.unset).toArray = ls at hl ⊢
  have hl : lv_has ls 5 [(0, .ref h0), (1, .int (nI i)), (2, .int (nI n))] := hl
  refine lv_aload_n hx hb kd_C_lowestWeight_0 rfl (lv_at hl 0 rfl) ?_
  refine lv_aload_n hx hb kd_C_lowestWeight_1 rfl (lv_at hl 0 rfl) ?_
  refine va_get (D := D) (ci := 4) (v := .ref c1) (C := "HostBridge$Choice") (T := ct_C) (N := 6) hx hb hts cw_C hown hK hP 0 rfl rfl 3 (by decide) (hts _ km_111) (fun _ h9 => h9) rfl kd_C_lowestWeight_2 ?_
  refine lv_iconst (v := 0) hx hb kd_C_lowestWeight_5 (by decide) ?_
  refine hx_iald (j := 0) hx hb hK hP 10 rfl (nI_0.symm) (by decide) (by decide) kd_C_lowestWeight_6 ?_
  refine hx_topi (y := nI (L[0])) (cf_at hL0) ?_
  refine lv_iload_n hx hb kd_C_lowestWeight_7 rfl (lv_at hl 1 rfl) ?_
  refine lv_iload_n hx hb kd_C_lowestWeight_8 rfl (lv_at hl 2 rfl) ?_
  refine hx_callRi (va_runV (As := [.int (nI (L[0])), .int (nI i), .int (nI n)]) (rest := []) ⟨hx, hb, hml, hown, hts⟩ (mc_C_weightIn h0 hw hm ha b1 b2 m1 m2 m3 m4 a1 a2 a3 c1 c2 nc no nm nar pa co ho nn si ty kn so ca lo bi L n (L[0]) i hn hok hln hno hco (hL _ (List.getElem_mem hL0)) hi) (cwV 3 hts (goodIn_sub (hx_m5 km_474 km_476 kv_C_weightIn km_5 km_477) (by decide +kernel)) rfl rfl rfl (by decide +kernel) ⟨Nat.le_of_ble_eq_true rfl, Nat.le_of_ble_eq_true rfl⟩) (pr_V (hC.S hS) hP [0, 1, 2, 3, 4, 5, 6, 7, 8, 9] rfl (ci := 4) rfl (q0 := 0) rfl) rfl rfl hl.1 rfl (lv_room (Nat.le_of_ble_eq_true rfl)) kd_C_lowestWeight_9 ⟨Nat.le_of_ble_eq_true rfl, Nat.le_of_ble_eq_true rfl⟩) ?_
  refine lv_istore_n (lv' := [(3, .int (wg_ pa co kn so bi ty n (L[0]) i)), (0, .ref h0), (1, .int (nI i)), (2, .int (nI n))]) hx hb kd_C_lowestWeight_12 rfl hl (by decide) rfl (fun ls hl => ?_)
  refine lv_iconst (v := 1) hx hb kd_C_lowestWeight_13 (by decide) ?_
  refine hx_topi (y := nI 1) (by decide) ?_
  refine lv_istore (lv' := [(4, .int (nI 1)), (3, .int (wg_ pa co kn so bi ty n (L[0]) i)), (0, .ref h0), (1, .int (nI i)), (2, .int (nI n))]) hx hb kd_C_lowestWeight_14 hl (by decide) rfl (fun ls hl => ?_)
  refine hx_loopR (σ := Nat × Int32) (I := fun x ls => lv_has ls 5 [(0, .ref h0), (1, .int (nI i)), (2, .int (nI n)), (3, .int x.2), (4, .int (nI x.1))] ∧ x.1 ≤ L.length ∧ (L.drop x.1).foldl (fun m c => mn_ m (wg_ pa co kn so bi ty n c i)) x.2 = lw_ (fun j => wg_ pa co kn so bi ty n j i) L) (μ := fun x => L.length - x.1) ?_ (1, wg_ pa co kn so bi ty n (L[0]) i) ⟨lv_sub hl [2, 3, 4, 1, 0] rfl, by dsimp only; omega, by
      have h9 := dr_at hL0
      rw [List.drop_zero] at h9
      conv => rhs; rw [h9]
      rfl⟩
  intro x ls hI ih16
  obtain ⟨c9, lw⟩ := x
  obtain ⟨hl, hc, hd⟩ := hI
  dsimp only at hl hc hd ih16
  refine lv_iload hx hb kd_C_lowestWeight_16 (lv_at hl 4 rfl) ?_
  refine lv_aload_n hx hb kd_C_lowestWeight_18 rfl (lv_at hl 0 rfl) ?_
  refine va_get (D := D) (ci := 4) (v := .int (nI L.length)) (C := "HostBridge$Choice") (T := ct_C) (N := 6) hx hb hts cw_C hown hK hP 0 rfl rfl 5 (by decide) (hts _ km_113) (fun _ h9 => h9) rfl kd_C_lowestWeight_19 ?_
  refine lv_icmp_ge (tgt := 49) hx hb kd_C_lowestWeight_22 (by decide) (fun c_22 => ?_) (fun c_22 => ?_)
  · skip
    have hin : c9 = L.length := by rw [nI_leI (by omega) (by omega)] at c_22; omega
    refine lv_iload_n hx hb kd_C_lowestWeight_49 rfl (lv_at hl 3 rfl) ?_
    exact hx_iretR hx hb hr hlocks (by rw [← hd, hin, List.drop_length]; rfl) kd_C_lowestWeight_50
  · skip
    have hin : c9 < L.length := by rw [nI_leI (by omega) (by omega)] at c_22; omega
    refine lv_iload_n hx hb kd_C_lowestWeight_25 rfl (lv_at hl 3 rfl) ?_
    refine lv_aload_n hx hb kd_C_lowestWeight_26 rfl (lv_at hl 0 rfl) ?_
    refine lv_aload_n hx hb kd_C_lowestWeight_27 rfl (lv_at hl 0 rfl) ?_
    refine va_get (D := D) (ci := 4) (v := .ref c1) (C := "HostBridge$Choice") (T := ct_C) (N := 6) hx hb hts cw_C hown hK hP 0 rfl rfl 3 (by decide) (hts _ km_111) (fun _ h9 => h9) rfl kd_C_lowestWeight_28 ?_
    refine lv_iload hx hb kd_C_lowestWeight_31 (lv_at hl 4 rfl) ?_
    refine hx_iald (j := c9) hx hb hK hP 10 rfl (rfl) (by omega) (by decide) kd_C_lowestWeight_33 ?_
    refine hx_topi (y := nI (L[c9])) (cf_at hin) ?_
    refine lv_iload_n hx hb kd_C_lowestWeight_34 rfl (lv_at hl 1 rfl) ?_
    refine lv_iload_n hx hb kd_C_lowestWeight_35 rfl (lv_at hl 2 rfl) ?_
    refine hx_callRi (va_runV (As := [.int (nI (L[c9])), .int (nI i), .int (nI n)]) (rest := [.int lw]) ⟨hx, hb, hml, hown, hts⟩ (mc_C_weightIn h0 hw hm ha b1 b2 m1 m2 m3 m4 a1 a2 a3 c1 c2 nc no nm nar pa co ho nn si ty kn so ca lo bi L n (L[c9]) i hn hok hln hno hco (hL _ (List.getElem_mem hin)) hi) (cwV 3 hts (goodIn_sub (hx_m5 km_474 km_476 kv_C_weightIn km_5 km_477) (by decide +kernel)) rfl rfl rfl (by decide +kernel) ⟨Nat.le_of_ble_eq_true rfl, Nat.le_of_ble_eq_true rfl⟩) (pr_V (hC.S hS) hP [0, 1, 2, 3, 4, 5, 6, 7, 8, 9] rfl (ci := 4) rfl (q0 := 0) rfl) rfl rfl hl.1 rfl (lv_room (Nat.le_of_ble_eq_true rfl)) kd_C_lowestWeight_36 ⟨Nat.le_of_ble_eq_true rfl, Nat.le_of_ble_eq_true rfl⟩) ?_
    refine hx_callRi (va_runS (As := [.int lw, .int (wg_ pa co kn so bi ty n (L[c9]) i)]) (rest := []) ⟨hx, hb, hml, hown, hts⟩ (mc_J_min lw (wg_ pa co kn so bi ty n (L[c9]) i)) (va_cwS 2 hts (goodIn_sub (hx_m4 km_480 km_481 km_16 km_482) (by decide +kernel)) rfl rfl rfl (by decide +kernel) ⟨Nat.le_of_ble_eq_true rfl, Nat.le_of_ble_eq_true rfl⟩) (pr_S (hC.S hS) hP [] rfl) rfl rfl hl.1 rfl (lv_room (Nat.le_of_ble_eq_true rfl)) kd_C_lowestWeight_39 ⟨Nat.le_of_ble_eq_true rfl, Nat.le_of_ble_eq_true rfl⟩) ?_
    refine hx_topi (y := mn_ lw (wg_ pa co kn so bi ty n (L[c9]) i)) (mi2_eq _ _) ?_
    refine lv_istore_n (lv' := [(3, .int (mn_ lw (wg_ pa co kn so bi ty n (L[c9]) i))), (0, .ref h0), (1, .int (nI i)), (2, .int (nI n)), (4, .int (nI c9))]) hx hb kd_C_lowestWeight_42 rfl hl (by decide) rfl (fun ls hl => ?_)
    refine lv_iinc (v := nI (c9 + 1)) (lv' := [(4, .int (nI (c9 + 1))), (3, .int (mn_ lw (wg_ pa co kn so bi ty n (L[c9]) i))), (0, .ref h0), (1, .int (nI i)), (2, .int (nI n))]) hx hb kd_C_lowestWeight_43 hl (k := 4) rfl (nI_1 c9) (by decide) rfl (fun ls hl => ?_)
    refine lv_goto (tgt := 16) hx hb kd_C_lowestWeight_46 (by decide) ?_
    exact ih16 (c9 + 1, mn_ lw (wg_ pa co kn so bi ty n (L[c9]) i)) _ (by dsimp only; omega) ⟨lv_sub hl [2, 3, 4, 1, 0] rfl, by dsimp only; omega, by dsimp only; rw [← hd, dr_at hin, List.foldl_cons]⟩

/-- no weight of method j is above the lowest -/
def il_ (g : Nat → Nat → Int32) (lo : Nat → Int32) (n j : Nat) : Bool := decide (∀ i, i < n → g j i ≤ lo i)

set_option maxHeartbeats 4000000 in
set_option maxRecDepth 100000 in
theorem mc_C_isLowest {l : Launch} {D : va_G} {cI cL cZ : ClassId} {tb : Nat} (h0 hw hm ha b1 b2 m1 m2 m3 m4 a1 a2 a3 c1 c2 nc no nm nar : Nat) (pa co ho nn si ty kn so ca lo : Nat → Int32) (bi : Nat → Int64) (L : List Nat) (n j : Nat) (hn : n ≤ 4) (hok : ∀ i, i < n → ar_ok no (kn i) (so i) (bi i)) (hln : ln_ok nc pa) (hno : no ≤ 64) (hco : ∀ j, j < no → ∃ q : Nat, q < nc ∧ co j = nI q) (hj : j < 64) : Met l ky_C_isLowest kw_C_isLowest { frames := 3, cells := 0, slots := 0, locals := 69 } (pr_P D cI cL cZ tb [(h0, .inr (4, [.ref hw, .ref hm, .ref ha, .ref c1, .ref c2, .int (nI L.length)])), (hm, .inr (2, [.ref m1, .ref m2, .ref m3, .ref m4, .int (nI nm)])), (m4, .inl (cI, 64, .inl ty)), (ha, .inr (3, [.ref hw, .ref a1, .ref a2, .ref a3, .int (nI nar)])), (a1, .inl (cI, 4, .inl kn)), (a2, .inl (cI, 4, .inl so)), (a3, .inl (cL, 4, .inr (.inl bi))), (hw, .inr (1, [.ref b1, .ref b2, .int (nI nc), .int (nI no)])), (b1, .inl (cI, 16, .inl pa)), (b2, .inl (cI, 64, .inl co)), (c2, .inl (cI, 4, .inl lo))] [.ref h0, .int (nI j), .int (nI n)]) (hx_QR (some (.int (b2_ (il_ (wg_ pa co kn so bi ty n) lo n j))))) 0 0 (fun _ => False) := by
  refine Met.ofW (cc := kc_C_isLowest) (maxL := 4) (ret := (some .boolean)) (by decide) rfl ?_
  intro p e s m args below meth c s₁ B hml hv
  obtain ⟨rfl, hC, hP⟩ := hv
  have hx := B.exec
  have hb := B.bytes
  have hr := B.returns
  have hlocks := B.notSynchronized
  have hown : s.vm.findClass "HostBridge$Choice" = some m.cls := findClass_of_methodNamed B.named
  have hS : va_S (fun _ => False) s.heap s.heap [] := va_S.rf
  have hK := hC.K
  have hts := hC.ts [.ref h0, .int (nI j), .int (nI n)].toArray
  have hl := lv_entry ([.ref h0, .int (nI j), .int (nI n)]) (n := 4) (Nat.le_of_ble_eq_true rfl)
  rw [lg_entry_eq]
  generalize (lg_sl ([.ref h0, .int (nI j), .int (nI n)]) ++ List.replicate (4 - (lg_sl ([.ref h0, .int (nI j), .int (nI n)])).length) Slot.unset).toArray = ls at hl ⊢
  have hl : lv_has ls 4 [(0, .ref h0), (1, .int (nI j)), (2, .int (nI n))] := hl
  refine lv_iconst (v := 0) hx hb kd_C_isLowest_0 (by decide) ?_
  refine lv_istore_n (lv' := [(3, .int 0), (0, .ref h0), (1, .int (nI j)), (2, .int (nI n))]) hx hb kd_C_isLowest_1 rfl hl (by decide) rfl (fun ls hl => ?_)
  refine hx_loopR (σ := Nat) (I := fun i ls => lv_has ls 4 [(0, .ref h0), (1, .int (nI j)), (2, .int (nI n)), (3, .int (nI i))] ∧ i ≤ n ∧ (∀ z, z < i → wg_ pa co kn so bi ty n j z ≤ lo z)) (μ := fun i => n - i) ?_ 0 ⟨lv_sub hl [1, 2, 3, 0] rfl, Nat.zero_le _, fun z h => absurd h (Nat.not_lt_zero z)⟩
  intro i ls hI ih2
  obtain ⟨hl, hi, hall⟩ := hI
  refine lv_iload_n hx hb kd_C_isLowest_2 rfl (lv_at hl 3 rfl) ?_
  refine lv_iload_n hx hb kd_C_isLowest_3 rfl (lv_at hl 2 rfl) ?_
  refine lv_icmp_ge (tgt := 31) hx hb kd_C_isLowest_4 (by decide) (fun c_4 => ?_) (fun c_4 => ?_)
  · skip
    have hin : i = n := by rw [nI_leI (by omega) (by omega)] at c_4; omega
    refine lv_iconst (v := 1) hx hb kd_C_isLowest_31 (by decide) ?_
    exact hx_zretR hx hb hr hlocks (by rw [il_, decide_eq_true (fun z hz => hall z (by omega))]; rfl) kd_C_isLowest_32
  · skip
    have hin : i < n := by rw [nI_leI (by omega) (by omega)] at c_4; omega
    refine lv_aload_n hx hb kd_C_isLowest_7 rfl (lv_at hl 0 rfl) ?_
    refine lv_iload_n hx hb kd_C_isLowest_8 rfl (lv_at hl 1 rfl) ?_
    refine lv_iload_n hx hb kd_C_isLowest_9 rfl (lv_at hl 3 rfl) ?_
    refine lv_iload_n hx hb kd_C_isLowest_10 rfl (lv_at hl 2 rfl) ?_
    refine hx_callRi (va_runV (As := [.int (nI j), .int (nI i), .int (nI n)]) (rest := []) ⟨hx, hb, hml, hown, hts⟩ (mc_C_weightIn h0 hw hm ha b1 b2 m1 m2 m3 m4 a1 a2 a3 c1 c2 nc no nm nar pa co ho nn si ty kn so ca lo bi L n j i hn hok hln hno hco hj hin) (cwV 3 hts (goodIn_sub (hx_m5 km_474 km_476 kv_C_weightIn km_5 km_477) (by decide +kernel)) rfl rfl rfl (by decide +kernel) ⟨Nat.le_of_ble_eq_true rfl, Nat.le_of_ble_eq_true rfl⟩) (pr_V (hC.S hS) hP [0, 1, 2, 3, 4, 5, 6, 7, 8, 9] rfl (ci := 4) rfl (q0 := 0) rfl) rfl rfl hl.1 rfl (lv_room (Nat.le_of_ble_eq_true rfl)) kd_C_isLowest_11 ⟨Nat.le_of_ble_eq_true rfl, Nat.le_of_ble_eq_true rfl⟩) ?_
    refine lv_aload_n hx hb kd_C_isLowest_14 rfl (lv_at hl 0 rfl) ?_
    refine va_get (D := D) (ci := 4) (v := .ref c2) (C := "HostBridge$Choice") (T := ct_C) (N := 6) hx hb hts cw_C hown hK hP 0 rfl rfl 4 (by decide) (hts _ km_112) (fun _ h9 => h9) rfl kd_C_isLowest_15 ?_
    refine lv_iload_n hx hb kd_C_isLowest_18 rfl (lv_at hl 3 rfl) ?_
    refine hx_iald (j := i) hx hb hK hP 10 rfl (rfl) (by omega) (by decide) kd_C_isLowest_19 ?_
    refine lv_icmp_le (tgt := 25) hx hb kd_C_isLowest_20 (by decide) (fun c_20 => ?_) (fun c_20 => ?_)
    · skip
      refine lv_iinc (v := nI (i + 1)) (lv' := [(3, .int (nI (i + 1))), (0, .ref h0), (1, .int (nI j)), (2, .int (nI n))]) hx hb kd_C_isLowest_25 hl (k := 3) rfl (nI_1 i) (by decide) rfl (fun ls hl => ?_)
      refine lv_goto (tgt := 2) hx hb kd_C_isLowest_28 (by decide) ?_
      exact ih2 (i + 1) _ (by omega) ⟨lv_sub hl [1, 2, 3, 0] rfl, by omega, fun z hz => (Nat.lt_succ_iff_lt_or_eq.mp hz).elim (hall z) (fun e => by rw [e]; exact c_20)⟩
    · skip
      refine lv_iconst (v := 0) hx hb kd_C_isLowest_23 (by decide) ?_
      exact hx_zretR hx hb hr hlocks (by rw [il_, decide_eq_false (fun h => c_20 (h i hin))]; rfl) kd_C_isLowest_24
