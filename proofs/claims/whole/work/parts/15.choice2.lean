/-! WHICH METHOD A CALL IS GIVEN: gathering the candidates, the best of them (HostBridge$Choice, methods that write) -/
theorem gf_len {P : Nat → Bool} {hid : List Nat → Nat → Bool} : ∀ {f m : Nat} {L : List Nat}, L.length ≤ 64 → (gf_ P hid f m L).length ≤ 64
  | 0, _, _, h => h
  | f + 1, m, L, h => by
    simp only [gf_]
    split
    · split
      · exact gf_len (by rw [List.length_append]; simpa using Nat.succ_le_of_lt ‹L.length < 64›)
      · exact gf_len h
    · exact h
theorem gf_in' {P : Nat → Bool} {hid : List Nat → Nat → Bool} {B : Nat} : ∀ {f m : Nat} {L : List Nat}, (∀ c ∈ L, c < B) → m + f ≤ B → ∀ c ∈ gf_ P hid f m L, c < B
  | 0, _, _, h, _ => h
  | f + 1, m, L, h, hb => by
    simp only [gf_]
    split
    · split
      · exact gf_in' (fun c hc => (List.mem_append.mp hc).elim (h c) (fun e => by rw [List.mem_singleton.mp e]; omega)) (by omega)
      · exact gf_in' h (by omega)
    · exact h
theorem gf_in {P : Nat → Bool} {hid : List Nat → Nat → Bool} {n : Nat} {L : List Nat} (h : ∀ c ∈ L, c < 64) (hn : n ≤ 64) : ∀ c ∈ gf_ P hid n 0 L, c < 64 := gf_in' h (by omega)
def lf_ (g lo : Nat → Int32) (i : Nat) : Nat → Int32 := fun z => if z < i then g z else lo z
theorem lf_0 (g lo : Nat → Int32) : lf_ g lo 0 = lo := by funext z; simp [lf_]
theorem lf_s (g lo : Nat → Int32) (i : Nat) : upd (lf_ g lo i) i (g i) = lf_ g lo (i + 1) := by
  funext z
  simp only [upd, lf_]
  by_cases h : z = i
  · subst h; rw [if_pos rfl, if_pos (by omega)]
  · rw [if_neg h]
    by_cases h2 : z < i
    · rw [if_pos h2, if_pos (by omega)]
    · rw [if_neg h2, if_neg (by omega)]

set_option maxHeartbeats 4000000 in
set_option maxRecDepth 100000 in
theorem mc_C_gatherFrom {l : Launch} {D : va_G} {cI cL cZ : ClassId} {tb : Nat} (h0 hw hm ha b1 b2 m1 m2 m3 m4 a1 a2 a3 c1 c2 nc no nm nar : Nat) (pa co ho nn si ty kn so ca : Nat → Int32) (bi : Nat → Int64) (k n : Int32) (N : Nat) (L : List Nat) (hn : N ≤ 4) (hok : ∀ i, i < N → ar_ok no (kn i) (so i) (bi i)) (hln : ln_ok nc pa) (hno : no ≤ 64) (hco : ∀ j, j < no → ∃ q : Nat, q < nc ∧ co j = nI q) (hnm : nm ≤ 64) (hL : ∀ c ∈ L, c < 64) (hLl : L.length ≤ 64) (sz : Nat) : Met l ky_C_gatherFrom kw_C_gatherFrom { frames := 3, cells := 0, slots := 0, locals := 69 } (pw_P D cI cL cZ tb [(h0, .inr (4, [.ref hw, .ref hm, .ref ha, .ref c1, .ref c2, .int (nI L.length)])), (hm, .inr (2, [.ref m1, .ref m2, .ref m3, .ref m4, .int (nI nm)])), (m1, .inl (cI, 64, .inl ho)), (m2, .inl (cI, 64, .inl nn)), (m3, .inl (cI, 64, .inl si)), (m4, .inl (cI, 64, .inl ty)), (ha, .inr (3, [.ref hw, .ref a1, .ref a2, .ref a3, .int (nI nar)])), (a1, .inl (cI, 4, .inl kn)), (a2, .inl (cI, 4, .inl so)), (a3, .inl (cL, 4, .inr (.inl bi))), (hw, .inr (1, [.ref b1, .ref b2, .int (nI nc), .int (nI no)])), (b1, .inl (cI, 16, .inl pa)), (b2, .inl (cI, 64, .inl co)), (c1, .inl (cI, 64, .inl (cf_ L ca)))] sz [.ref h0, .int k, .int n, .int (nI N)]) (hx_QW D none [(h0, .inr (4, [.ref hw, .ref hm, .ref ha, .ref c1, .ref c2, .int (nI (gf_ (fun m => mi_ ho nn si k n (nI N) m && ft_ (fun i t => wf_ pa co (kn i) (so i) (bi i) t) (ty m) N) (hd_ ty) nm 0 L).length)])), (hm, .inr (2, [.ref m1, .ref m2, .ref m3, .ref m4, .int (nI nm)])), (m1, .inl (cI, 64, .inl ho)), (m2, .inl (cI, 64, .inl nn)), (m3, .inl (cI, 64, .inl si)), (m4, .inl (cI, 64, .inl ty)), (ha, .inr (3, [.ref hw, .ref a1, .ref a2, .ref a3, .int (nI nar)])), (a1, .inl (cI, 4, .inl kn)), (a2, .inl (cI, 4, .inl so)), (a3, .inl (cL, 4, .inr (.inl bi))), (hw, .inr (1, [.ref b1, .ref b2, .int (nI nc), .int (nI no)])), (b1, .inl (cI, 16, .inl pa)), (b2, .inl (cI, 64, .inl co)), (c1, .inl (cI, 64, .inl (cf_ (gf_ (fun m => mi_ ho nn si k n (nI N) m && ft_ (fun i t => wf_ pa co (kn i) (so i) (bi i) t) (ty m) N) (hd_ ty) nm 0 L) ca)))] (va_A [(h0, .inr (4, [.ref hw, .ref hm, .ref ha, .ref c1, .ref c2, .int (nI L.length)])), (hm, .inr (2, [.ref m1, .ref m2, .ref m3, .ref m4, .int (nI nm)])), (m1, .inl (cI, 64, .inl ho)), (m2, .inl (cI, 64, .inl nn)), (m3, .inl (cI, 64, .inl si)), (m4, .inl (cI, 64, .inl ty)), (ha, .inr (3, [.ref hw, .ref a1, .ref a2, .ref a3, .int (nI nar)])), (a1, .inl (cI, 4, .inl kn)), (a2, .inl (cI, 4, .inl so)), (a3, .inl (cL, 4, .inr (.inl bi))), (hw, .inr (1, [.ref b1, .ref b2, .int (nI nc), .int (nI no)])), (b1, .inl (cI, 16, .inl pa)), (b2, .inl (cI, 64, .inl co)), (c1, .inl (cI, 64, .inl (cf_ L ca)))] sz)) 0 0 (va_A [(h0, .inr (4, [.ref hw, .ref hm, .ref ha, .ref c1, .ref c2, .int (nI L.length)])), (hm, .inr (2, [.ref m1, .ref m2, .ref m3, .ref m4, .int (nI nm)])), (m1, .inl (cI, 64, .inl ho)), (m2, .inl (cI, 64, .inl nn)), (m3, .inl (cI, 64, .inl si)), (m4, .inl (cI, 64, .inl ty)), (ha, .inr (3, [.ref hw, .ref a1, .ref a2, .ref a3, .int (nI nar)])), (a1, .inl (cI, 4, .inl kn)), (a2, .inl (cI, 4, .inl so)), (a3, .inl (cL, 4, .inr (.inl bi))), (hw, .inr (1, [.ref b1, .ref b2, .int (nI nc), .int (nI no)])), (b1, .inl (cI, 16, .inl pa)), (b2, .inl (cI, 64, .inl co)), (c1, .inl (cI, 64, .inl (cf_ L ca)))] sz) := by
  refine Met.ofW (cc := kc_C_gatherFrom) (maxL := 5) (ret := none) (by decide) rfl ?_
  intro p e s m args below meth c s₁ B hml hv
  obtain ⟨rfl, hsz, hC, hP, hD0⟩ := hv
  have hx := B.exec
  have hb := B.bytes
  have hr := B.returns
  have hlocks := B.notSynchronized
  have hown : s.vm.findClass "HostBridge$Choice" = some m.cls := findClass_of_methodNamed B.named
  subst hsz
  have hD := hD0.self (sz := s.heap.size)
  generalize hAe : va_A [(h0, .inr (4, [.ref hw, .ref hm, .ref ha, .ref c1, .ref c2, .int (nI L.length)])), (hm, .inr (2, [.ref m1, .ref m2, .ref m3, .ref m4, .int (nI nm)])), (m1, .inl (cI, 64, .inl ho)), (m2, .inl (cI, 64, .inl nn)), (m3, .inl (cI, 64, .inl si)), (m4, .inl (cI, 64, .inl ty)), (ha, .inr (3, [.ref hw, .ref a1, .ref a2, .ref a3, .int (nI nar)])), (a1, .inl (cI, 4, .inl kn)), (a2, .inl (cI, 4, .inl so)), (a3, .inl (cL, 4, .inr (.inl bi))), (hw, .inr (1, [.ref b1, .ref b2, .int (nI nc), .int (nI no)])), (b1, .inl (cI, 16, .inl pa)), (b2, .inl (cI, 64, .inl co)), (c1, .inl (cI, 64, .inl (cf_ L ca)))] s.heap.size = A at hD hC ⊢
  have hA : ∀ q : Nat, s.heap.size ≤ q → A q := fun q h => by rw [← hAe]; exact Or.inr h
  have hS : va_S A s.heap s.heap [] := va_S.rf
  have hK := hC.K
  have hts := hC.ts [.ref h0, .int k, .int n, .int (nI N)].toArray
  have hl := lv_entry ([.ref h0, .int k, .int n, .int (nI N)]) (n := 5) (Nat.le_of_ble_eq_true rfl)
  rw [lg_entry_eq]
  generalize (lg_sl ([.ref h0, .int k, .int n, .int (nI N)]) ++ List.replicate (5 - (lg_sl ([.ref h0, .int k, .int n, .int (nI N)])).length) Slot.unset).toArray = ls at hl ⊢
  have hl : lv_has ls 5 [(0, .ref h0), (1, .int k), (2, .int n), (3, .int (nI N))] := hl
  refine lv_iconst (v := 0) hx hb kd_C_gatherFrom_0 (by decide) ?_
  refine lv_istore (lv' := [(4, .int 0), (0, .ref h0), (1, .int k), (2, .int n), (3, .int (nI N))]) hx hb kd_C_gatherFrom_1 hl (by decide) rfl (fun ls hl => ?_)
  refine hx_loopW (σ := Nat × List Nat) (I := fun x ls H locs => lv_has ls 5 [(0, .ref h0), (1, .int k), (2, .int n), (3, .int (nI N)), (4, .int (nI x.1))] ∧ va_P D cl_all [(h0, .inr (4, [.ref hw, .ref hm, .ref ha, .ref c1, .ref c2, .int (nI x.2.length)])), (hm, .inr (2, [.ref m1, .ref m2, .ref m3, .ref m4, .int (nI nm)])), (m1, .inl (cI, 64, .inl ho)), (m2, .inl (cI, 64, .inl nn)), (m3, .inl (cI, 64, .inl si)), (m4, .inl (cI, 64, .inl ty)), (ha, .inr (3, [.ref hw, .ref a1, .ref a2, .ref a3, .int (nI nar)])), (a1, .inl (cI, 4, .inl kn)), (a2, .inl (cI, 4, .inl so)), (a3, .inl (cL, 4, .inr (.inl bi))), (hw, .inr (1, [.ref b1, .ref b2, .int (nI nc), .int (nI no)])), (b1, .inl (cI, 16, .inl pa)), (b2, .inl (cI, 64, .inl co)), (c1, .inl (cI, 64, .inl (cf_ x.2 ca)))] H ∧ va_D A [(h0, .inr (4, [.ref hw, .ref hm, .ref ha, .ref c1, .ref c2, .int (nI x.2.length)])), (hm, .inr (2, [.ref m1, .ref m2, .ref m3, .ref m4, .int (nI nm)])), (m1, .inl (cI, 64, .inl ho)), (m2, .inl (cI, 64, .inl nn)), (m3, .inl (cI, 64, .inl si)), (m4, .inl (cI, 64, .inl ty)), (ha, .inr (3, [.ref hw, .ref a1, .ref a2, .ref a3, .int (nI nar)])), (a1, .inl (cI, 4, .inl kn)), (a2, .inl (cI, 4, .inl so)), (a3, .inl (cL, 4, .inr (.inl bi))), (hw, .inr (1, [.ref b1, .ref b2, .int (nI nc), .int (nI no)])), (b1, .inl (cI, 16, .inl pa)), (b2, .inl (cI, 64, .inl co)), (c1, .inl (cI, 64, .inl (cf_ x.2 ca)))] ∧ va_S A s.heap H locs ∧ x.1 ≤ nm ∧ (∀ c ∈ x.2, c < 64) ∧ x.2.length ≤ 64 ∧ gf_ (fun m => mi_ ho nn si k n (nI N) m && ft_ (fun i t => wf_ pa co (kn i) (so i) (bi i) t) (ty m) N) (hd_ ty) (nm - x.1) x.1 x.2 = gf_ (fun m => mi_ ho nn si k n (nI N) m && ft_ (fun i t => wf_ pa co (kn i) (so i) (bi i) t) (ty m) N) (hd_ ty) nm 0 L) (μ := fun x => nm - x.1) ?_ (0, L) ⟨lv_sub hl [1, 2, 3, 4, 0] rfl, hP, hD, hS, Nat.zero_le _, hL, hLl, rfl⟩
  intro x ls H locs hI ih3
  obtain ⟨m9, q⟩ := x
  obtain ⟨hl, hP, hD, hS, hm9, hq, hql, hd⟩ := hI
  dsimp only at hl hP hD hm9 hq hql hd ih3
  refine lv_iload hx hb kd_C_gatherFrom_3 (lv_at hl 4 rfl) ?_
  refine lv_aload_n hx hb kd_C_gatherFrom_5 rfl (lv_at hl 0 rfl) ?_
  refine va_get (D := D) (ci := 4) (v := .ref hm) (C := "HostBridge$Choice") (T := ct_C) (N := 6) hx hb hts cw_C hown hK hP 0 rfl rfl 1 (by decide) (hts _ km_109) (fun _ h9 => h9) rfl kd_C_gatherFrom_6 ?_
  refine va_getN (host := "HostBridge") (D := D) (ci := 2) (v := .int (nI nm)) (C := "HostBridge$Methods") (T := ct_M) (N := 5) hx hb hts cw_M hown hK hP 1 rfl rfl 4 (by decide) (hts _ km_66) (fun _ h9 => h9) rfl kd_C_gatherFrom_9 ?_
  refine lv_icmp_ge (tgt := 96) hx hb kd_C_gatherFrom_12 (by decide) (fun c_12 => ?_) (fun c_12 => ?_)
  · skip
    have hin : m9 = nm := by rw [nI_leI (by omega) (by omega)] at c_12; omega
    exact hx_vretW hx hb hr hlocks (by rw [← hd, hin, Nat.sub_self]; exact hP) hS kd_C_gatherFrom_96
  · skip
    have hin : m9 < nm := by rw [nI_leI (by omega) (by omega)] at c_12; omega
    have hf : nm - m9 = (nm - (m9 + 1)) + 1 := by omega
    refine lv_aload_n hx hb kd_C_gatherFrom_15 rfl (lv_at hl 0 rfl) ?_
    refine va_get (D := D) (ci := 4) (v := .int (nI q.length)) (C := "HostBridge$Choice") (T := ct_C) (N := 6) hx hb hts cw_C hown hK hP 0 rfl rfl 5 (by decide) (hts _ km_113) (fun _ h9 => h9) rfl kd_C_gatherFrom_16 ?_
    refine lv_bipush (v := 64) hx hb kd_C_gatherFrom_19 (by decide) ?_
    refine lv_icmp_ge (tgt := 96) hx hb kd_C_gatherFrom_21 (by decide) (fun c_21 => ?_) (fun c_21 => ?_)
    · skip
      have h64 : ¬ q.length < 64 := by
        have h9 : nI 64 ≤ nI q.length := c_21
        rw [nI_leI (by decide) (by omega)] at h9; omega
      exact hx_vretW hx hb hr hlocks (by rw [← hd, hf]; simp only [gf_]; rw [if_neg h64]; exact hP) hS kd_C_gatherFrom_96
    · skip
      have h64 : q.length < 64 := by
        have h9 : ¬ nI 64 ≤ nI q.length := c_21
        rw [nI_leI (by decide) (by omega)] at h9; omega
      refine lv_aload_n hx hb kd_C_gatherFrom_24 rfl (lv_at hl 0 rfl) ?_
      refine va_get (D := D) (ci := 4) (v := .ref hm) (C := "HostBridge$Choice") (T := ct_C) (N := 6) hx hb hts cw_C hown hK hP 0 rfl rfl 1 (by decide) (hts _ km_109) (fun _ h9 => h9) rfl kd_C_gatherFrom_25 ?_
      refine lv_iload hx hb kd_C_gatherFrom_28 (lv_at hl 4 rfl) ?_
      refine lv_iload_n hx hb kd_C_gatherFrom_30 rfl (lv_at hl 1 rfl) ?_
      refine lv_iload_n hx hb kd_C_gatherFrom_31 rfl (lv_at hl 2 rfl) ?_
      refine lv_iload_n hx hb kd_C_gatherFrom_32 rfl (lv_at hl 3 rfl) ?_
      refine hx_callRi (va_runV (As := [.int (nI m9), .int k, .int n, .int (nI N)]) (rest := []) ⟨hx, hb, hml, hown, hts⟩ (mc_M_isCalled hm m1 m2 m3 m4 nm ho nn si ty m9 k n (nI N) (by omega)) (cwV 4 hts (goodIn_sub (hx_m5 km_439 km_328 km_329 km_3 km_330) (by decide +kernel)) rfl rfl rfl (by decide +kernel) ⟨Nat.le_of_ble_eq_true rfl, Nat.le_of_ble_eq_true rfl⟩) (pr_V (hC.S hS) hP [1, 2, 3, 4] rfl (ci := 2) rfl (q0 := 0) rfl) rfl rfl hl.1 rfl (lv_room (Nat.le_of_ble_eq_true rfl)) kd_C_gatherFrom_33 ⟨Nat.le_of_ble_eq_true rfl, Nat.le_of_ble_eq_true rfl⟩) ?_
      refine lv_if_eq (tgt := 90) hx hb kd_C_gatherFrom_36 (by decide) (fun c_36 => ?_) (fun c_36 => ?_)
      · skip
        have h21 := b2_f c_36
        refine lv_iinc (v := nI (m9 + 1)) (lv' := [(4, .int (nI (m9 + 1))), (0, .ref h0), (1, .int k), (2, .int n), (3, .int (nI N))]) hx hb kd_C_gatherFrom_90 hl (k := 4) rfl (nI_1 m9) (by decide) rfl (fun ls hl => ?_)
        refine lv_goto (tgt := 3) hx hb kd_C_gatherFrom_93 (by decide) ?_
        exact ih3 (m9 + 1, q) _ _ _ (by dsimp only; omega) ⟨lv_sub hl [1, 2, 3, 4, 0] rfl, hP, hD, hS, by dsimp only; omega, hq, hql, by dsimp only; rw [← hd, hf]; simp only [gf_]; rw [if_pos h64, if_neg (fun h => by rw [h21] at h; exact absurd h.1 (by simp))]⟩
      · skip
        have h21 := b2_t c_36
        refine lv_aload_n hx hb kd_C_gatherFrom_39 rfl (lv_at hl 0 rfl) ?_
        refine va_get (D := D) (ci := 4) (v := .ref ha) (C := "HostBridge$Choice") (T := ct_C) (N := 6) hx hb hts cw_C hown hK hP 0 rfl rfl 2 (by decide) (hts _ km_110) (fun _ h9 => h9) rfl kd_C_gatherFrom_40 ?_
        refine lv_iload_n hx hb kd_C_gatherFrom_43 rfl (lv_at hl 3 rfl) ?_
        refine lv_aload_n hx hb kd_C_gatherFrom_44 rfl (lv_at hl 0 rfl) ?_
        refine va_get (D := D) (ci := 4) (v := .ref hm) (C := "HostBridge$Choice") (T := ct_C) (N := 6) hx hb hts cw_C hown hK hP 0 rfl rfl 1 (by decide) (hts _ km_109) (fun _ h9 => h9) rfl kd_C_gatherFrom_45 ?_
        refine va_getN (host := "HostBridge") (D := D) (ci := 2) (v := .ref m4) (C := "HostBridge$Methods") (T := ct_M) (N := 5) hx hb hts cw_M hown hK hP 1 rfl rfl 3 (by decide) (hts _ km_62) (fun _ h9 => h9) rfl kd_C_gatherFrom_48 ?_
        refine lv_iload hx hb kd_C_gatherFrom_51 (lv_at hl 4 rfl) ?_
        refine hx_iald (j := m9) hx hb hK hP 5 rfl (rfl) (by omega) (by decide) kd_C_gatherFrom_53 ?_
        refine hx_callRi (va_runV (As := [.int (nI N), .int (ty m9)]) (rest := []) ⟨hx, hb, hml, hown, hts⟩ (mc_A_fit ha hw a1 a2 a3 b1 b2 nar nc no kn so pa co bi N (ty m9) hn hok hln hno hco) (cwV 2 hts (goodIn_sub (hx_m5 km_440 km_441 km_442 km_4 km_443) (by decide +kernel)) rfl rfl rfl (by decide +kernel) ⟨Nat.le_of_ble_eq_true rfl, Nat.le_of_ble_eq_true rfl⟩) (pr_V (hC.S hS) hP [6, 7, 8, 9, 10, 11, 12] rfl (ci := 3) rfl (q0 := 0) rfl) rfl rfl hl.1 rfl (lv_room (Nat.le_of_ble_eq_true rfl)) kd_C_gatherFrom_54 ⟨Nat.le_of_ble_eq_true rfl, Nat.le_of_ble_eq_true rfl⟩) ?_
        refine lv_if_eq (tgt := 90) hx hb kd_C_gatherFrom_57 (by decide) (fun c_57 => ?_) (fun c_57 => ?_)
        · skip
          have h36 := b2_f c_57
          refine lv_iinc (v := nI (m9 + 1)) (lv' := [(4, .int (nI (m9 + 1))), (0, .ref h0), (1, .int k), (2, .int n), (3, .int (nI N))]) hx hb kd_C_gatherFrom_90 hl (k := 4) rfl (nI_1 m9) (by decide) rfl (fun ls hl => ?_)
          refine lv_goto (tgt := 3) hx hb kd_C_gatherFrom_93 (by decide) ?_
          exact ih3 (m9 + 1, q) _ _ _ (by dsimp only; omega) ⟨lv_sub hl [1, 2, 3, 4, 0] rfl, hP, hD, hS, by dsimp only; omega, hq, hql, by dsimp only; rw [← hd, hf]; simp only [gf_]; rw [if_pos h64, if_neg (fun h => by rw [h36] at h; exact absurd h.1 (by simp))]⟩
        · skip
          have h36 := b2_t c_57
          refine lv_aload_n hx hb kd_C_gatherFrom_60 rfl (lv_at hl 0 rfl) ?_
          refine lv_iload hx hb kd_C_gatherFrom_61 (lv_at hl 4 rfl) ?_
          refine hx_callRi (va_runV (As := [.int (nI m9)]) (rest := []) ⟨hx, hb, hml, hown, hts⟩ (mc_C_isHidden h0 hw hm ha b1 b2 m1 m2 m3 m4 a1 a2 a3 c1 c2 nc no nm nar pa co ho nn si ty kn so ca ca bi q m9 (by omega) hq hql) (cwV 1 hts (goodIn_sub (hx_m5 km_446 km_448 kv_C_isHidden km_5 km_449) (by decide +kernel)) rfl rfl rfl (by decide +kernel) ⟨Nat.le_of_ble_eq_true rfl, Nat.le_of_ble_eq_true rfl⟩) (pr_V (hC.S hS) hP [0, 1, 5, 13] rfl (ci := 4) rfl (q0 := 0) rfl) rfl rfl hl.1 rfl (lv_room (Nat.le_of_ble_eq_true rfl)) kd_C_gatherFrom_63 ⟨Nat.le_of_ble_eq_true rfl, Nat.le_of_ble_eq_true rfl⟩) ?_
          refine lv_if_ne (tgt := 90) hx hb kd_C_gatherFrom_66 (by decide) (fun c_66 => ?_) (fun c_66 => ?_)
          · skip
            have h66 := b2_t c_66
            refine lv_iinc (v := nI (m9 + 1)) (lv' := [(4, .int (nI (m9 + 1))), (0, .ref h0), (1, .int k), (2, .int n), (3, .int (nI N))]) hx hb kd_C_gatherFrom_90 hl (k := 4) rfl (nI_1 m9) (by decide) rfl (fun ls hl => ?_)
            refine lv_goto (tgt := 3) hx hb kd_C_gatherFrom_93 (by decide) ?_
            exact ih3 (m9 + 1, q) _ _ _ (by dsimp only; omega) ⟨lv_sub hl [1, 2, 3, 4, 0] rfl, hP, hD, hS, by dsimp only; omega, hq, hql, by dsimp only; rw [← hd, hf]; simp only [gf_]; rw [if_pos h64, if_neg (fun h => by rw [h66] at h; exact absurd h.2 (by simp))]⟩
          · skip
            have h66 := b2_f c_66
            refine lv_aload_n hx hb kd_C_gatherFrom_69 rfl (lv_at hl 0 rfl) ?_
            refine va_get (D := D) (ci := 4) (v := .ref c1) (C := "HostBridge$Choice") (T := ct_C) (N := 6) hx hb hts cw_C hown hK hP 0 rfl rfl 3 (by decide) (hts _ km_111) (fun _ h9 => h9) rfl kd_C_gatherFrom_70 ?_
            refine lv_aload_n hx hb kd_C_gatherFrom_73 rfl (lv_at hl 0 rfl) ?_
            refine va_get (D := D) (ci := 4) (v := .int (nI q.length)) (C := "HostBridge$Choice") (T := ct_C) (N := 6) hx hb hts cw_C hown hK hP 0 rfl rfl 5 (by decide) (hts _ km_113) (fun _ h9 => h9) rfl kd_C_gatherFrom_74 ?_
            refine lv_iload hx hb kd_C_gatherFrom_77 (lv_at hl 4 rfl) ?_
            refine hx_iast (j := q.length) hx hb hK hP hD hS 13 rfl (rfl) (h64) (by decide) kd_C_gatherFrom_79 (fun H locs hP hD hS => ?_)
            have hP : va_P D cl_all [(h0, .inr (4, [.ref hw, .ref hm, .ref ha, .ref c1, .ref c2, .int (nI q.length)])), (hm, .inr (2, [.ref m1, .ref m2, .ref m3, .ref m4, .int (nI nm)])), (m1, .inl (cI, 64, .inl ho)), (m2, .inl (cI, 64, .inl nn)), (m3, .inl (cI, 64, .inl si)), (m4, .inl (cI, 64, .inl ty)), (ha, .inr (3, [.ref hw, .ref a1, .ref a2, .ref a3, .int (nI nar)])), (a1, .inl (cI, 4, .inl kn)), (a2, .inl (cI, 4, .inl so)), (a3, .inl (cL, 4, .inr (.inl bi))), (hw, .inr (1, [.ref b1, .ref b2, .int (nI nc), .int (nI no)])), (b1, .inl (cI, 16, .inl pa)), (b2, .inl (cI, 64, .inl co)), (c1, .inl (cI, 64, .inl (upd (cf_ q ca) q.length (nI m9))))] H := hP
            have hD : va_D A [(h0, .inr (4, [.ref hw, .ref hm, .ref ha, .ref c1, .ref c2, .int (nI q.length)])), (hm, .inr (2, [.ref m1, .ref m2, .ref m3, .ref m4, .int (nI nm)])), (m1, .inl (cI, 64, .inl ho)), (m2, .inl (cI, 64, .inl nn)), (m3, .inl (cI, 64, .inl si)), (m4, .inl (cI, 64, .inl ty)), (ha, .inr (3, [.ref hw, .ref a1, .ref a2, .ref a3, .int (nI nar)])), (a1, .inl (cI, 4, .inl kn)), (a2, .inl (cI, 4, .inl so)), (a3, .inl (cL, 4, .inr (.inl bi))), (hw, .inr (1, [.ref b1, .ref b2, .int (nI nc), .int (nI no)])), (b1, .inl (cI, 16, .inl pa)), (b2, .inl (cI, 64, .inl co)), (c1, .inl (cI, 64, .inl (upd (cf_ q ca) q.length (nI m9))))] := hD
            rw [cf_push] at hP hD
            refine lv_aload_n hx hb kd_C_gatherFrom_80 rfl (lv_at hl 0 rfl) ?_
            refine lv_dup hx hb kd_C_gatherFrom_81 rfl ?_
            refine va_get (D := D) (ci := 4) (v := .int (nI q.length)) (C := "HostBridge$Choice") (T := ct_C) (N := 6) hx hb hts cw_C hown hK hP 0 rfl rfl 5 (by decide) (hts _ km_113) (fun _ h9 => h9) rfl kd_C_gatherFrom_82 ?_
            refine lv_iconst (v := 1) hx hb kd_C_gatherFrom_85 (by decide) ?_
            refine lv_iadd hx hb kd_C_gatherFrom_86 ?_
            refine hx_topi (y := nI (q ++ [m9]).length) (by rw [nI_1, List.length_append]; rfl) ?_
            refine va_put (D := D) (ci := 4) (v := .int (nI (q ++ [m9]).length)) (ty := .int) (C := "HostBridge$Choice") (T := ct_C) (N := 6) hx hb hts cw_C cy_C cp_C cn_C hown hK hP hD hS 0 rfl rfl 5 (by decide) (hts _ km_113) (fun _ h9 => h9) rfl (by decide +kernel) rfl rfl (Nat.le_of_ble_eq_true rfl) kd_C_gatherFrom_87 (fun H locs hP hD hS => ?_)
            have hP : va_P D cl_all [(h0, .inr (4, [.ref hw, .ref hm, .ref ha, .ref c1, .ref c2, .int (nI (q ++ [m9]).length)])), (hm, .inr (2, [.ref m1, .ref m2, .ref m3, .ref m4, .int (nI nm)])), (m1, .inl (cI, 64, .inl ho)), (m2, .inl (cI, 64, .inl nn)), (m3, .inl (cI, 64, .inl si)), (m4, .inl (cI, 64, .inl ty)), (ha, .inr (3, [.ref hw, .ref a1, .ref a2, .ref a3, .int (nI nar)])), (a1, .inl (cI, 4, .inl kn)), (a2, .inl (cI, 4, .inl so)), (a3, .inl (cL, 4, .inr (.inl bi))), (hw, .inr (1, [.ref b1, .ref b2, .int (nI nc), .int (nI no)])), (b1, .inl (cI, 16, .inl pa)), (b2, .inl (cI, 64, .inl co)), (c1, .inl (cI, 64, .inl (cf_ (q ++ [m9]) ca)))] H := hP
            have hD : va_D A [(h0, .inr (4, [.ref hw, .ref hm, .ref ha, .ref c1, .ref c2, .int (nI (q ++ [m9]).length)])), (hm, .inr (2, [.ref m1, .ref m2, .ref m3, .ref m4, .int (nI nm)])), (m1, .inl (cI, 64, .inl ho)), (m2, .inl (cI, 64, .inl nn)), (m3, .inl (cI, 64, .inl si)), (m4, .inl (cI, 64, .inl ty)), (ha, .inr (3, [.ref hw, .ref a1, .ref a2, .ref a3, .int (nI nar)])), (a1, .inl (cI, 4, .inl kn)), (a2, .inl (cI, 4, .inl so)), (a3, .inl (cL, 4, .inr (.inl bi))), (hw, .inr (1, [.ref b1, .ref b2, .int (nI nc), .int (nI no)])), (b1, .inl (cI, 16, .inl pa)), (b2, .inl (cI, 64, .inl co)), (c1, .inl (cI, 64, .inl (cf_ (q ++ [m9]) ca)))] := hD
            refine lv_iinc (v := nI (m9 + 1)) (lv' := [(4, .int (nI (m9 + 1))), (0, .ref h0), (1, .int k), (2, .int n), (3, .int (nI N))]) hx hb kd_C_gatherFrom_90 hl (k := 4) rfl (nI_1 m9) (by decide) rfl (fun ls hl => ?_)
            refine lv_goto (tgt := 3) hx hb kd_C_gatherFrom_93 (by decide) ?_
            exact ih3 (m9 + 1, q ++ [m9]) _ _ _ (by dsimp only; omega) ⟨lv_sub hl [1, 2, 3, 4, 0] rfl, hP, hD, hS, by dsimp only; omega, fun c hc => (List.mem_append.mp hc).elim (hq c) (fun h => by rw [List.mem_singleton.mp h]; omega), by dsimp only; rw [List.length_append]; exact Nat.succ_le_of_lt h64, by dsimp only; rw [← hd, hf]; simp only [gf_]; rw [if_pos h64, if_pos ⟨by rw [h21, h36]; rfl, h66⟩]⟩

set_option maxHeartbeats 4000000 in
set_option maxRecDepth 100000 in
theorem mc_C_gather {l : Launch} {D : va_G} {cI cL cZ : ClassId} {tb : Nat} (h0 hw hm ha b1 b2 m1 m2 m3 m4 a1 a2 a3 c1 c2 nc no nm nar : Nat) (pa co ho nn si ty kn so ca : Nat → Int32) (bi : Nat → Int64) (ck k0 n : Int32) (N : Nat) (hn : N ≤ 4) (hok : ∀ i, i < N → ar_ok no (kn i) (so i) (bi i)) (hln : ln_ok nc pa) (hno : no ≤ 64) (hco : ∀ j, j < no → ∃ q : Nat, q < nc ∧ co j = nI q) (hnm : nm ≤ 64) (hk0 : ln_k nc k0) (sz : Nat) : Met l ky_C_gather kw_C_gather { frames := 4, cells := 0, slots := 0, locals := 93 } (pw_P D cI cL cZ tb [(h0, .inr (4, [.ref hw, .ref hm, .ref ha, .ref c1, .ref c2, .int ck])), (hm, .inr (2, [.ref m1, .ref m2, .ref m3, .ref m4, .int (nI nm)])), (m1, .inl (cI, 64, .inl ho)), (m2, .inl (cI, 64, .inl nn)), (m3, .inl (cI, 64, .inl si)), (m4, .inl (cI, 64, .inl ty)), (ha, .inr (3, [.ref hw, .ref a1, .ref a2, .ref a3, .int (nI nar)])), (a1, .inl (cI, 4, .inl kn)), (a2, .inl (cI, 4, .inl so)), (a3, .inl (cL, 4, .inr (.inl bi))), (hw, .inr (1, [.ref b1, .ref b2, .int (nI nc), .int (nI no)])), (b1, .inl (cI, 16, .inl pa)), (b2, .inl (cI, 64, .inl co)), (c1, .inl (cI, 64, .inl ca))] sz [.ref h0, .int k0, .int n, .int (nI N)]) (hx_QW D none [(h0, .inr (4, [.ref hw, .ref hm, .ref ha, .ref c1, .ref c2, .int (nI (ga_ (fun k L => gf_ (fun m => mi_ ho nn si k n (nI N) m && ft_ (fun i t => wf_ pa co (kn i) (so i) (bi i) t) (ty m) N) (hd_ ty) nm 0 L) pa 16 k0 []).length)])), (hm, .inr (2, [.ref m1, .ref m2, .ref m3, .ref m4, .int (nI nm)])), (m1, .inl (cI, 64, .inl ho)), (m2, .inl (cI, 64, .inl nn)), (m3, .inl (cI, 64, .inl si)), (m4, .inl (cI, 64, .inl ty)), (ha, .inr (3, [.ref hw, .ref a1, .ref a2, .ref a3, .int (nI nar)])), (a1, .inl (cI, 4, .inl kn)), (a2, .inl (cI, 4, .inl so)), (a3, .inl (cL, 4, .inr (.inl bi))), (hw, .inr (1, [.ref b1, .ref b2, .int (nI nc), .int (nI no)])), (b1, .inl (cI, 16, .inl pa)), (b2, .inl (cI, 64, .inl co)), (c1, .inl (cI, 64, .inl (cf_ (ga_ (fun k L => gf_ (fun m => mi_ ho nn si k n (nI N) m && ft_ (fun i t => wf_ pa co (kn i) (so i) (bi i) t) (ty m) N) (hd_ ty) nm 0 L) pa 16 k0 []) ca)))] (va_A [(h0, .inr (4, [.ref hw, .ref hm, .ref ha, .ref c1, .ref c2, .int ck])), (hm, .inr (2, [.ref m1, .ref m2, .ref m3, .ref m4, .int (nI nm)])), (m1, .inl (cI, 64, .inl ho)), (m2, .inl (cI, 64, .inl nn)), (m3, .inl (cI, 64, .inl si)), (m4, .inl (cI, 64, .inl ty)), (ha, .inr (3, [.ref hw, .ref a1, .ref a2, .ref a3, .int (nI nar)])), (a1, .inl (cI, 4, .inl kn)), (a2, .inl (cI, 4, .inl so)), (a3, .inl (cL, 4, .inr (.inl bi))), (hw, .inr (1, [.ref b1, .ref b2, .int (nI nc), .int (nI no)])), (b1, .inl (cI, 16, .inl pa)), (b2, .inl (cI, 64, .inl co)), (c1, .inl (cI, 64, .inl ca))] sz)) 0 0 (va_A [(h0, .inr (4, [.ref hw, .ref hm, .ref ha, .ref c1, .ref c2, .int ck])), (hm, .inr (2, [.ref m1, .ref m2, .ref m3, .ref m4, .int (nI nm)])), (m1, .inl (cI, 64, .inl ho)), (m2, .inl (cI, 64, .inl nn)), (m3, .inl (cI, 64, .inl si)), (m4, .inl (cI, 64, .inl ty)), (ha, .inr (3, [.ref hw, .ref a1, .ref a2, .ref a3, .int (nI nar)])), (a1, .inl (cI, 4, .inl kn)), (a2, .inl (cI, 4, .inl so)), (a3, .inl (cL, 4, .inr (.inl bi))), (hw, .inr (1, [.ref b1, .ref b2, .int (nI nc), .int (nI no)])), (b1, .inl (cI, 16, .inl pa)), (b2, .inl (cI, 64, .inl co)), (c1, .inl (cI, 64, .inl ca))] sz) := by
  refine Met.ofW (cc := kc_C_gather) (maxL := 6) (ret := none) (by decide) rfl ?_
  intro p e s m args below meth c s₁ B hml hv
  obtain ⟨rfl, hsz, hC, hP, hD0⟩ := hv
  have hx := B.exec
  have hb := B.bytes
  have hr := B.returns
  have hlocks := B.notSynchronized
  have hown : s.vm.findClass "HostBridge$Choice" = some m.cls := findClass_of_methodNamed B.named
  subst hsz
  have hD := hD0.self (sz := s.heap.size)
  generalize hAe : va_A [(h0, .inr (4, [.ref hw, .ref hm, .ref ha, .ref c1, .ref c2, .int ck])), (hm, .inr (2, [.ref m1, .ref m2, .ref m3, .ref m4, .int (nI nm)])), (m1, .inl (cI, 64, .inl ho)), (m2, .inl (cI, 64, .inl nn)), (m3, .inl (cI, 64, .inl si)), (m4, .inl (cI, 64, .inl ty)), (ha, .inr (3, [.ref hw, .ref a1, .ref a2, .ref a3, .int (nI nar)])), (a1, .inl (cI, 4, .inl kn)), (a2, .inl (cI, 4, .inl so)), (a3, .inl (cL, 4, .inr (.inl bi))), (hw, .inr (1, [.ref b1, .ref b2, .int (nI nc), .int (nI no)])), (b1, .inl (cI, 16, .inl pa)), (b2, .inl (cI, 64, .inl co)), (c1, .inl (cI, 64, .inl ca))] s.heap.size = A at hD hC ⊢
  have hA : ∀ q : Nat, s.heap.size ≤ q → A q := fun q h => by rw [← hAe]; exact Or.inr h
  have hS : va_S A s.heap s.heap [] := va_S.rf
  have hK := hC.K
  have hts := hC.ts [.ref h0, .int k0, .int n, .int (nI N)].toArray
  have hl := lv_entry ([.ref h0, .int k0, .int n, .int (nI N)]) (n := 6) (Nat.le_of_ble_eq_true rfl)
  rw [lg_entry_eq]
  generalize (lg_sl ([.ref h0, .int k0, .int n, .int (nI N)]) ++ List.replicate (6 - (lg_sl ([.ref h0, .int k0, .int n, .int (nI N)])).length) Slot.unset).toArray = ls at hl ⊢
  have hl : lv_has ls 6 [(0, .ref h0), (1, .int k0), (2, .int n), (3, .int (nI N))] := hl
  refine lv_aload_n hx hb kd_C_gather_0 rfl (lv_at hl 0 rfl) ?_
  refine lv_iconst (v := 0) hx hb kd_C_gather_1 (by decide) ?_
  refine hx_topi (y := nI ([] : List Nat).length) (rfl) ?_
  refine va_put (D := D) (ci := 4) (v := .int (nI ([] : List Nat).length)) (ty := .int) (C := "HostBridge$Choice") (T := ct_C) (N := 6) hx hb hts cw_C cy_C cp_C cn_C hown hK hP hD hS 0 rfl rfl 5 (by decide) (hts _ km_113) (fun _ h9 => h9) rfl (by decide +kernel) rfl rfl (Nat.le_of_ble_eq_true rfl) kd_C_gather_2 (fun H locs hP hD hS => ?_)
  have hP : va_P D cl_all [(h0, .inr (4, [.ref hw, .ref hm, .ref ha, .ref c1, .ref c2, .int (nI ([] : List Nat).length)])), (hm, .inr (2, [.ref m1, .ref m2, .ref m3, .ref m4, .int (nI nm)])), (m1, .inl (cI, 64, .inl ho)), (m2, .inl (cI, 64, .inl nn)), (m3, .inl (cI, 64, .inl si)), (m4, .inl (cI, 64, .inl ty)), (ha, .inr (3, [.ref hw, .ref a1, .ref a2, .ref a3, .int (nI nar)])), (a1, .inl (cI, 4, .inl kn)), (a2, .inl (cI, 4, .inl so)), (a3, .inl (cL, 4, .inr (.inl bi))), (hw, .inr (1, [.ref b1, .ref b2, .int (nI nc), .int (nI no)])), (b1, .inl (cI, 16, .inl pa)), (b2, .inl (cI, 64, .inl co)), (c1, .inl (cI, 64, .inl ca))] H := hP
  have hD : va_D A [(h0, .inr (4, [.ref hw, .ref hm, .ref ha, .ref c1, .ref c2, .int (nI ([] : List Nat).length)])), (hm, .inr (2, [.ref m1, .ref m2, .ref m3, .ref m4, .int (nI nm)])), (m1, .inl (cI, 64, .inl ho)), (m2, .inl (cI, 64, .inl nn)), (m3, .inl (cI, 64, .inl si)), (m4, .inl (cI, 64, .inl ty)), (ha, .inr (3, [.ref hw, .ref a1, .ref a2, .ref a3, .int (nI nar)])), (a1, .inl (cI, 4, .inl kn)), (a2, .inl (cI, 4, .inl so)), (a3, .inl (cL, 4, .inr (.inl bi))), (hw, .inr (1, [.ref b1, .ref b2, .int (nI nc), .int (nI no)])), (b1, .inl (cI, 16, .inl pa)), (b2, .inl (cI, 64, .inl co)), (c1, .inl (cI, 64, .inl ca))] := hD
  have hP : va_P D cl_all [(h0, .inr (4, [.ref hw, .ref hm, .ref ha, .ref c1, .ref c2, .int (nI ([] : List Nat).length)])), (hm, .inr (2, [.ref m1, .ref m2, .ref m3, .ref m4, .int (nI nm)])), (m1, .inl (cI, 64, .inl ho)), (m2, .inl (cI, 64, .inl nn)), (m3, .inl (cI, 64, .inl si)), (m4, .inl (cI, 64, .inl ty)), (ha, .inr (3, [.ref hw, .ref a1, .ref a2, .ref a3, .int (nI nar)])), (a1, .inl (cI, 4, .inl kn)), (a2, .inl (cI, 4, .inl so)), (a3, .inl (cL, 4, .inr (.inl bi))), (hw, .inr (1, [.ref b1, .ref b2, .int (nI nc), .int (nI no)])), (b1, .inl (cI, 16, .inl pa)), (b2, .inl (cI, 64, .inl co)), (c1, .inl (cI, 64, .inl (cf_ [] ca)))] H := by rw [cf_nil]; exact hP
  have hD : va_D A [(h0, .inr (4, [.ref hw, .ref hm, .ref ha, .ref c1, .ref c2, .int (nI ([] : List Nat).length)])), (hm, .inr (2, [.ref m1, .ref m2, .ref m3, .ref m4, .int (nI nm)])), (m1, .inl (cI, 64, .inl ho)), (m2, .inl (cI, 64, .inl nn)), (m3, .inl (cI, 64, .inl si)), (m4, .inl (cI, 64, .inl ty)), (ha, .inr (3, [.ref hw, .ref a1, .ref a2, .ref a3, .int (nI nar)])), (a1, .inl (cI, 4, .inl kn)), (a2, .inl (cI, 4, .inl so)), (a3, .inl (cL, 4, .inr (.inl bi))), (hw, .inr (1, [.ref b1, .ref b2, .int (nI nc), .int (nI no)])), (b1, .inl (cI, 16, .inl pa)), (b2, .inl (cI, 64, .inl co)), (c1, .inl (cI, 64, .inl (cf_ [] ca)))] := by rw [cf_nil]; exact hD
  refine lv_iload_n hx hb kd_C_gather_5 rfl (lv_at hl 1 rfl) ?_
  refine lv_istore (lv' := [(4, .int k0), (0, .ref h0), (1, .int k0), (2, .int n), (3, .int (nI N))]) hx hb kd_C_gather_6 hl (by decide) rfl (fun ls hl => ?_)
  refine lv_iconst (v := 0) hx hb kd_C_gather_8 (by decide) ?_
  refine lv_istore (lv' := [(5, .int 0), (4, .int k0), (0, .ref h0), (1, .int k0), (2, .int n), (3, .int (nI N))]) hx hb kd_C_gather_9 hl (by decide) rfl (fun ls hl => ?_)
  refine hx_loopW (σ := Nat × Int32 × List Nat) (I := fun x ls H locs => lv_has ls 6 [(0, .ref h0), (2, .int n), (3, .int (nI N)), (4, .int x.2.1), (5, .int (nI x.1))] ∧ va_P D cl_all [(h0, .inr (4, [.ref hw, .ref hm, .ref ha, .ref c1, .ref c2, .int (nI x.2.2.length)])), (hm, .inr (2, [.ref m1, .ref m2, .ref m3, .ref m4, .int (nI nm)])), (m1, .inl (cI, 64, .inl ho)), (m2, .inl (cI, 64, .inl nn)), (m3, .inl (cI, 64, .inl si)), (m4, .inl (cI, 64, .inl ty)), (ha, .inr (3, [.ref hw, .ref a1, .ref a2, .ref a3, .int (nI nar)])), (a1, .inl (cI, 4, .inl kn)), (a2, .inl (cI, 4, .inl so)), (a3, .inl (cL, 4, .inr (.inl bi))), (hw, .inr (1, [.ref b1, .ref b2, .int (nI nc), .int (nI no)])), (b1, .inl (cI, 16, .inl pa)), (b2, .inl (cI, 64, .inl co)), (c1, .inl (cI, 64, .inl (cf_ x.2.2 ca)))] H ∧ va_D A [(h0, .inr (4, [.ref hw, .ref hm, .ref ha, .ref c1, .ref c2, .int (nI x.2.2.length)])), (hm, .inr (2, [.ref m1, .ref m2, .ref m3, .ref m4, .int (nI nm)])), (m1, .inl (cI, 64, .inl ho)), (m2, .inl (cI, 64, .inl nn)), (m3, .inl (cI, 64, .inl si)), (m4, .inl (cI, 64, .inl ty)), (ha, .inr (3, [.ref hw, .ref a1, .ref a2, .ref a3, .int (nI nar)])), (a1, .inl (cI, 4, .inl kn)), (a2, .inl (cI, 4, .inl so)), (a3, .inl (cL, 4, .inr (.inl bi))), (hw, .inr (1, [.ref b1, .ref b2, .int (nI nc), .int (nI no)])), (b1, .inl (cI, 16, .inl pa)), (b2, .inl (cI, 64, .inl co)), (c1, .inl (cI, 64, .inl (cf_ x.2.2 ca)))] ∧ va_S A s.heap H locs ∧ x.1 ≤ 16 ∧ ln_k nc x.2.1 ∧ (∀ c ∈ x.2.2, c < 64) ∧ x.2.2.length ≤ 64 ∧ ga_ (fun k L => gf_ (fun m => mi_ ho nn si k n (nI N) m && ft_ (fun i t => wf_ pa co (kn i) (so i) (bi i) t) (ty m) N) (hd_ ty) nm 0 L) pa (16 - x.1) x.2.1 x.2.2 = ga_ (fun k L => gf_ (fun m => mi_ ho nn si k n (nI N) m && ft_ (fun i t => wf_ pa co (kn i) (so i) (bi i) t) (ty m) N) (hd_ ty) nm 0 L) pa 16 k0 []) (μ := fun x => 16 - x.1) ?_ (0, k0, []) ⟨lv_sub hl [2, 4, 5, 1, 0] rfl, hP, hD, hS, Nat.zero_le _, hk0, fun c h => absurd h List.not_mem_nil, Nat.zero_le _, rfl⟩
  intro x ls H locs hI ih11
  obtain ⟨z, k, q⟩ := x
  obtain ⟨hl, hP, hD, hS, hz, hk, hq, hql, hd⟩ := hI
  dsimp only at hl hP hD hz hk hq hql hd ih11
  refine lv_iload hx hb kd_C_gather_11 (lv_at hl 4 rfl) ?_
  refine lv_bipush (v := 16) hx hb kd_C_gather_13 (by decide) ?_
  refine lv_icmp_ge (tgt := 50) hx hb kd_C_gather_15 (by decide) (fun c_15 => ?_) (fun c_15 => ?_)
  · skip
    have h16 : z = 16 := by
      have h9 : nI 16 ≤ nI z := c_15
      rw [nI_leI (by decide) (by omega)] at h9; omega
    exact hx_vretW hx hb hr hlocks (by rw [← hd, h16]; exact hP) hS kd_C_gather_50
  · skip
    have h16 : z < 16 := by
      have h9 : ¬ nI 16 ≤ nI z := c_15
      rw [nI_leI (by decide) (by omega)] at h9; omega
    have hf : 16 - z = (15 - z) + 1 := by omega
    refine lv_iload hx hb kd_C_gather_18 (lv_at hl 3 rfl) ?_
    refine lv_iconst (v := -1) hx hb kd_C_gather_20 (by decide) ?_
    refine lv_icmp_eq (tgt := 50) hx hb kd_C_gather_21 (by decide) (fun c_21 => ?_) (fun c_21 => ?_)
    · skip
      exact hx_vretW hx hb hr hlocks (by rw [← hd, hf]; simp only [ga_]; rw [if_pos c_21]; exact hP) hS kd_C_gather_50
    · skip
      obtain ⟨j, hj, rfl⟩ := hk.resolve_left c_21
      refine lv_aload_n hx hb kd_C_gather_24 rfl (lv_at hl 0 rfl) ?_
      refine lv_iload hx hb kd_C_gather_25 (lv_at hl 3 rfl) ?_
      refine lv_iload_n hx hb kd_C_gather_27 rfl (lv_at hl 1 rfl) ?_
      refine lv_iload_n hx hb kd_C_gather_28 rfl (lv_at hl 2 rfl) ?_
      refine hx_callWv (va_runV (As := [.int (nI j), .int n, .int (nI N)]) (rest := []) ⟨hx, hb, hml, hown, hts⟩ (mc_C_gatherFrom h0 hw hm ha b1 b2 m1 m2 m3 m4 a1 a2 a3 c1 c2 nc no nm nar pa co ho nn si ty kn so ca bi (nI j) n N q hn hok hln hno hco hnm hq hql _) (cwV 3 hts (goodIn_sub (hx_m5 km_435 km_437 kv_C_gatherFrom km_5 km_438) (by decide +kernel)) rfl rfl rfl (by decide +kernel) ⟨Nat.le_of_ble_eq_true rfl, Nat.le_of_ble_eq_true rfl⟩) (pw_V (hC.S hS) hP hD hS hA [0, 1, 2, 3, 4, 5, 6, 7, 8, 9, 10, 11, 12, 13] (by decide) rfl (ci := 4) rfl (q0 := 0) rfl) rfl rfl hl.1 rfl (lv_room (Nat.le_of_ble_eq_true rfl)) kd_C_gather_29 ⟨Nat.le_of_ble_eq_true rfl, Nat.le_of_ble_eq_true rfl⟩) hP hD hS hA [0, 1, 2, 3, 4, 5, 6, 7, 8, 9, 10, 11, 12, 13] rfl rfl (fun H locs hP hD hS hF => ?_)
      have hP : va_P D cl_all [(h0, .inr (4, [.ref hw, .ref hm, .ref ha, .ref c1, .ref c2, .int (nI (gf_ (fun m => mi_ ho nn si (nI j) n (nI N) m && ft_ (fun i t => wf_ pa co (kn i) (so i) (bi i) t) (ty m) N) (hd_ ty) nm 0 q).length)])), (hm, .inr (2, [.ref m1, .ref m2, .ref m3, .ref m4, .int (nI nm)])), (m1, .inl (cI, 64, .inl ho)), (m2, .inl (cI, 64, .inl nn)), (m3, .inl (cI, 64, .inl si)), (m4, .inl (cI, 64, .inl ty)), (ha, .inr (3, [.ref hw, .ref a1, .ref a2, .ref a3, .int (nI nar)])), (a1, .inl (cI, 4, .inl kn)), (a2, .inl (cI, 4, .inl so)), (a3, .inl (cL, 4, .inr (.inl bi))), (hw, .inr (1, [.ref b1, .ref b2, .int (nI nc), .int (nI no)])), (b1, .inl (cI, 16, .inl pa)), (b2, .inl (cI, 64, .inl co)), (c1, .inl (cI, 64, .inl (cf_ (gf_ (fun m => mi_ ho nn si (nI j) n (nI N) m && ft_ (fun i t => wf_ pa co (kn i) (so i) (bi i) t) (ty m) N) (hd_ ty) nm 0 q) ca)))] H := hP
      have hD : va_D A [(h0, .inr (4, [.ref hw, .ref hm, .ref ha, .ref c1, .ref c2, .int (nI (gf_ (fun m => mi_ ho nn si (nI j) n (nI N) m && ft_ (fun i t => wf_ pa co (kn i) (so i) (bi i) t) (ty m) N) (hd_ ty) nm 0 q).length)])), (hm, .inr (2, [.ref m1, .ref m2, .ref m3, .ref m4, .int (nI nm)])), (m1, .inl (cI, 64, .inl ho)), (m2, .inl (cI, 64, .inl nn)), (m3, .inl (cI, 64, .inl si)), (m4, .inl (cI, 64, .inl ty)), (ha, .inr (3, [.ref hw, .ref a1, .ref a2, .ref a3, .int (nI nar)])), (a1, .inl (cI, 4, .inl kn)), (a2, .inl (cI, 4, .inl so)), (a3, .inl (cL, 4, .inr (.inl bi))), (hw, .inr (1, [.ref b1, .ref b2, .int (nI nc), .int (nI no)])), (b1, .inl (cI, 16, .inl pa)), (b2, .inl (cI, 64, .inl co)), (c1, .inl (cI, 64, .inl (cf_ (gf_ (fun m => mi_ ho nn si (nI j) n (nI N) m && ft_ (fun i t => wf_ pa co (kn i) (so i) (bi i) t) (ty m) N) (hd_ ty) nm 0 q) ca)))] := hD
      refine lv_aload_n hx hb kd_C_gather_32 rfl (lv_at hl 0 rfl) ?_
      refine va_get (D := D) (ci := 4) (v := .ref hw) (C := "HostBridge$Choice") (T := ct_C) (N := 6) hx hb hts cw_C hown hK hP 0 rfl rfl 0 (by decide) (hts _ km_108) (fun _ h9 => h9) rfl kd_C_gather_33 ?_
      refine va_getN (host := "HostBridge") (D := D) (ci := 1) (v := .ref b1) (C := "HostBridge$World") (T := ct_W) (N := 4) hx hb hts cw_W hown hK hP 10 rfl rfl 0 (by decide) (hts _ km_33) (fun _ h9 => h9) rfl kd_C_gather_36 ?_
      refine lv_iload hx hb kd_C_gather_39 (lv_at hl 3 rfl) ?_
      refine hx_iald (j := j) hx hb hK hP 11 rfl (rfl) (by have := hln.1; omega) (by decide) kd_C_gather_41 ?_
      refine lv_istore (lv' := [(4, .int (pa j)), (0, .ref h0), (2, .int n), (3, .int (nI N)), (5, .int (nI z))]) hx hb kd_C_gather_42 hl (by decide) rfl (fun ls hl => ?_)
      refine lv_iinc (v := nI (z + 1)) (lv' := [(5, .int (nI (z + 1))), (4, .int (pa j)), (0, .ref h0), (2, .int n), (3, .int (nI N))]) hx hb kd_C_gather_44 hl (k := 4) rfl (nI_1 z) (by decide) rfl (fun ls hl => ?_)
      refine lv_goto (tgt := 11) hx hb kd_C_gather_47 (by decide) ?_
      exact ih11 (z + 1, pa j, gf_ (fun m => mi_ ho nn si (nI j) n (nI N) m && ft_ (fun i t => wf_ pa co (kn i) (so i) (bi i) t) (ty m) N) (hd_ ty) nm 0 q) _ _ _ (by dsimp only; omega) ⟨lv_sub hl [2, 3, 4, 1, 0] rfl, hP, hD, hS, by dsimp only; omega, hln.at hj, gf_in hq (by omega), gf_len hql, by dsimp only; rw [← hd, hf, show 16 - (z + 1) = 15 - z by omega]; simp only [ga_]; rw [if_neg c_21, nI_clamp (by have := hln.1; omega)]⟩

set_option maxHeartbeats 4000000 in
set_option maxRecDepth 100000 in
theorem mc_C_best {l : Launch} {D : va_G} {cI cL cZ : ClassId} {tb : Nat} (h0 hw hm ha b1 b2 m1 m2 m3 m4 a1 a2 a3 c1 c2 nc no nm nar : Nat) (pa co ho nn si ty kn so ca lo : Nat → Int32) (bi : Nat → Int64) (L : List Nat) (n : Nat) (hn : n ≤ 4) (hok : ∀ i, i < n → ar_ok no (kn i) (so i) (bi i)) (hln : ln_ok nc pa) (hno : no ≤ 64) (hco : ∀ j, j < no → ∃ q : Nat, q < nc ∧ co j = nI q) (hL : ∀ c ∈ L, c < 64) (hLl : L.length ≤ 64) (hL0 : 0 < L.length) (sz : Nat) : Met l ky_C_best kw_C_best { frames := 4, cells := 0, slots := 0, locals := 93 } (pw_P D cI cL cZ tb [(h0, .inr (4, [.ref hw, .ref hm, .ref ha, .ref c1, .ref c2, .int (nI L.length)])), (hm, .inr (2, [.ref m1, .ref m2, .ref m3, .ref m4, .int (nI nm)])), (m4, .inl (cI, 64, .inl ty)), (ha, .inr (3, [.ref hw, .ref a1, .ref a2, .ref a3, .int (nI nar)])), (a1, .inl (cI, 4, .inl kn)), (a2, .inl (cI, 4, .inl so)), (a3, .inl (cL, 4, .inr (.inl bi))), (hw, .inr (1, [.ref b1, .ref b2, .int (nI nc), .int (nI no)])), (b1, .inl (cI, 16, .inl pa)), (b2, .inl (cI, 64, .inl co)), (c1, .inl (cI, 64, .inl (cf_ L ca))), (c2, .inl (cI, 4, .inl lo))] sz [.ref h0, .int (nI n)]) (hx_QW D (some (.int (bb_ (fun j => il_ (wg_ pa co kn so bi ty n) (lf_ (fun i => lw_ (fun j => wg_ pa co kn so bi ty n j i) L) lo n) n j) L (-1)))) [(h0, .inr (4, [.ref hw, .ref hm, .ref ha, .ref c1, .ref c2, .int (nI L.length)])), (hm, .inr (2, [.ref m1, .ref m2, .ref m3, .ref m4, .int (nI nm)])), (m4, .inl (cI, 64, .inl ty)), (ha, .inr (3, [.ref hw, .ref a1, .ref a2, .ref a3, .int (nI nar)])), (a1, .inl (cI, 4, .inl kn)), (a2, .inl (cI, 4, .inl so)), (a3, .inl (cL, 4, .inr (.inl bi))), (hw, .inr (1, [.ref b1, .ref b2, .int (nI nc), .int (nI no)])), (b1, .inl (cI, 16, .inl pa)), (b2, .inl (cI, 64, .inl co)), (c1, .inl (cI, 64, .inl (cf_ L ca))), (c2, .inl (cI, 4, .inl (lf_ (fun i => lw_ (fun j => wg_ pa co kn so bi ty n j i) L) lo n)))] (va_A [(h0, .inr (4, [.ref hw, .ref hm, .ref ha, .ref c1, .ref c2, .int (nI L.length)])), (hm, .inr (2, [.ref m1, .ref m2, .ref m3, .ref m4, .int (nI nm)])), (m4, .inl (cI, 64, .inl ty)), (ha, .inr (3, [.ref hw, .ref a1, .ref a2, .ref a3, .int (nI nar)])), (a1, .inl (cI, 4, .inl kn)), (a2, .inl (cI, 4, .inl so)), (a3, .inl (cL, 4, .inr (.inl bi))), (hw, .inr (1, [.ref b1, .ref b2, .int (nI nc), .int (nI no)])), (b1, .inl (cI, 16, .inl pa)), (b2, .inl (cI, 64, .inl co)), (c1, .inl (cI, 64, .inl (cf_ L ca))), (c2, .inl (cI, 4, .inl lo))] sz)) 0 0 (va_A [(h0, .inr (4, [.ref hw, .ref hm, .ref ha, .ref c1, .ref c2, .int (nI L.length)])), (hm, .inr (2, [.ref m1, .ref m2, .ref m3, .ref m4, .int (nI nm)])), (m4, .inl (cI, 64, .inl ty)), (ha, .inr (3, [.ref hw, .ref a1, .ref a2, .ref a3, .int (nI nar)])), (a1, .inl (cI, 4, .inl kn)), (a2, .inl (cI, 4, .inl so)), (a3, .inl (cL, 4, .inr (.inl bi))), (hw, .inr (1, [.ref b1, .ref b2, .int (nI nc), .int (nI no)])), (b1, .inl (cI, 16, .inl pa)), (b2, .inl (cI, 64, .inl co)), (c1, .inl (cI, 64, .inl (cf_ L ca))), (c2, .inl (cI, 4, .inl lo))] sz) := by
  refine Met.ofW (cc := kc_C_best) (maxL := 4) (ret := (some .int)) (by decide) rfl ?_
  intro p e s m args below meth c s₁ B hml hv
  obtain ⟨rfl, hsz, hC, hP, hD0⟩ := hv
  have hx := B.exec
  have hb := B.bytes
  have hr := B.returns
  have hlocks := B.notSynchronized
  have hown : s.vm.findClass "HostBridge$Choice" = some m.cls := findClass_of_methodNamed B.named
  subst hsz
  have hD := hD0.self (sz := s.heap.size)
  generalize hAe : va_A [(h0, .inr (4, [.ref hw, .ref hm, .ref ha, .ref c1, .ref c2, .int (nI L.length)])), (hm, .inr (2, [.ref m1, .ref m2, .ref m3, .ref m4, .int (nI nm)])), (m4, .inl (cI, 64, .inl ty)), (ha, .inr (3, [.ref hw, .ref a1, .ref a2, .ref a3, .int (nI nar)])), (a1, .inl (cI, 4, .inl kn)), (a2, .inl (cI, 4, .inl so)), (a3, .inl (cL, 4, .inr (.inl bi))), (hw, .inr (1, [.ref b1, .ref b2, .int (nI nc), .int (nI no)])), (b1, .inl (cI, 16, .inl pa)), (b2, .inl (cI, 64, .inl co)), (c1, .inl (cI, 64, .inl (cf_ L ca))), (c2, .inl (cI, 4, .inl lo))] s.heap.size = A at hD hC ⊢
  have hA : ∀ q : Nat, s.heap.size ≤ q → A q := fun q h => by rw [← hAe]; exact Or.inr h
  have hS : va_S A s.heap s.heap [] := va_S.rf
  have hK := hC.K
  have hts := hC.ts [.ref h0, .int (nI n)].toArray
  have hl := lv_entry ([.ref h0, .int (nI n)]) (n := 4) (Nat.le_of_ble_eq_true rfl)
  rw [lg_entry_eq]
  generalize (lg_sl ([.ref h0, .int (nI n)]) ++ List.replicate (4 - (lg_sl ([.ref h0, .int (nI n)])).length) Slot.unset).toArray = ls at hl ⊢
  have hl : lv_has ls 4 [(0, .ref h0), (1, .int (nI n))] := hl
  refine lv_iconst (v := 0) hx hb kd_C_best_0 (by decide) ?_
  refine lv_istore_n (lv' := [(2, .int 0), (0, .ref h0), (1, .int (nI n))]) hx hb kd_C_best_1 rfl hl (by decide) rfl (fun ls hl => ?_)
  refine hx_loopW (σ := Nat) (I := fun i ls H locs => lv_has ls 4 [(0, .ref h0), (1, .int (nI n)), (2, .int (nI i))] ∧ va_P D cl_all [(h0, .inr (4, [.ref hw, .ref hm, .ref ha, .ref c1, .ref c2, .int (nI L.length)])), (hm, .inr (2, [.ref m1, .ref m2, .ref m3, .ref m4, .int (nI nm)])), (m4, .inl (cI, 64, .inl ty)), (ha, .inr (3, [.ref hw, .ref a1, .ref a2, .ref a3, .int (nI nar)])), (a1, .inl (cI, 4, .inl kn)), (a2, .inl (cI, 4, .inl so)), (a3, .inl (cL, 4, .inr (.inl bi))), (hw, .inr (1, [.ref b1, .ref b2, .int (nI nc), .int (nI no)])), (b1, .inl (cI, 16, .inl pa)), (b2, .inl (cI, 64, .inl co)), (c1, .inl (cI, 64, .inl (cf_ L ca))), (c2, .inl (cI, 4, .inl (lf_ (fun i => lw_ (fun j => wg_ pa co kn so bi ty n j i) L) lo i)))] H ∧ va_D A [(h0, .inr (4, [.ref hw, .ref hm, .ref ha, .ref c1, .ref c2, .int (nI L.length)])), (hm, .inr (2, [.ref m1, .ref m2, .ref m3, .ref m4, .int (nI nm)])), (m4, .inl (cI, 64, .inl ty)), (ha, .inr (3, [.ref hw, .ref a1, .ref a2, .ref a3, .int (nI nar)])), (a1, .inl (cI, 4, .inl kn)), (a2, .inl (cI, 4, .inl so)), (a3, .inl (cL, 4, .inr (.inl bi))), (hw, .inr (1, [.ref b1, .ref b2, .int (nI nc), .int (nI no)])), (b1, .inl (cI, 16, .inl pa)), (b2, .inl (cI, 64, .inl co)), (c1, .inl (cI, 64, .inl (cf_ L ca))), (c2, .inl (cI, 4, .inl (lf_ (fun i => lw_ (fun j => wg_ pa co kn so bi ty n j i) L) lo i)))] ∧ va_S A s.heap H locs ∧ i ≤ n) (μ := fun i => n - i) ?_ 0 ⟨lv_sub hl [1, 2, 0] rfl, by rw [lf_0]; exact hP, by rw [lf_0]; exact hD, hS, Nat.zero_le _⟩
  intro i ls H locs hI ih2
  obtain ⟨hl, hP, hD, hS, hi⟩ := hI
  refine lv_iload_n hx hb kd_C_best_2 rfl (lv_at hl 2 rfl) ?_
  refine lv_iload_n hx hb kd_C_best_3 rfl (lv_at hl 1 rfl) ?_
  refine lv_icmp_ge (tgt := 25) hx hb kd_C_best_4 (by decide) (fun c_4 => ?_) (fun c_4 => ?_)
  · skip
    have hin : i = n := by rw [nI_leI (by omega) (by omega)] at c_4; omega
    rw [hin] at hP hD
    refine lv_iconst (v := -1) hx hb kd_C_best_25 (by decide) ?_
    refine lv_istore_n (lv' := [(2, .int (-1)), (0, .ref h0), (1, .int (nI n))]) hx hb kd_C_best_26 rfl hl (by decide) rfl (fun ls hl => ?_)
    refine lv_iconst (v := 0) hx hb kd_C_best_27 (by decide) ?_
    refine lv_istore_n (lv' := [(3, .int 0), (2, .int (-1)), (0, .ref h0), (1, .int (nI n))]) hx hb kd_C_best_28 rfl hl (by decide) rfl (fun ls hl => ?_)
    refine hx_loopR (σ := Nat × Int32) (I := fun x ls => lv_has ls 4 [(0, .ref h0), (1, .int (nI n)), (2, .int x.2), (3, .int (nI x.1))] ∧ x.1 ≤ L.length ∧ bb_ (fun j => il_ (wg_ pa co kn so bi ty n) (lf_ (fun i => lw_ (fun j => wg_ pa co kn so bi ty n j i) L) lo n) n j) (L.drop x.1) x.2 = bb_ (fun j => il_ (wg_ pa co kn so bi ty n) (lf_ (fun i => lw_ (fun j => wg_ pa co kn so bi ty n j i) L) lo n) n j) L (-1)) (μ := fun x => L.length - x.1) ?_ (0, -1) ⟨lv_sub hl [2, 3, 1, 0] rfl, Nat.zero_le _, rfl⟩
    intro x ls hI ih29
    obtain ⟨c9, b9⟩ := x
    obtain ⟨hl, hc, hd⟩ := hI
    dsimp only at hl hc hd ih29
    refine lv_iload_n hx hb kd_C_best_29 rfl (lv_at hl 3 rfl) ?_
    refine lv_aload_n hx hb kd_C_best_30 rfl (lv_at hl 0 rfl) ?_
    refine va_get (D := D) (ci := 4) (v := .int (nI L.length)) (C := "HostBridge$Choice") (T := ct_C) (N := 6) hx hb hts cw_C hown hK hP 0 rfl rfl 5 (by decide) (hts _ km_113) (fun _ h9 => h9) rfl kd_C_best_31 ?_
    refine lv_icmp_ge (tgt := 71) hx hb kd_C_best_34 (by decide) (fun c_34 => ?_) (fun c_34 => ?_)
    · skip
      have hc9 : c9 = L.length := by rw [nI_leI (by omega) (by omega)] at c_34; omega
      refine lv_iload_n hx hb kd_C_best_71 rfl (lv_at hl 2 rfl) ?_
      exact hx_iretW hx hb hr hlocks (by rw [← hd, hc9, List.drop_length]; rfl) (hP) hS kd_C_best_72
    · skip
      have hc9 : c9 < L.length := by rw [nI_leI (by omega) (by omega)] at c_34; omega
      refine lv_aload_n hx hb kd_C_best_37 rfl (lv_at hl 0 rfl) ?_
      refine lv_aload_n hx hb kd_C_best_38 rfl (lv_at hl 0 rfl) ?_
      refine va_get (D := D) (ci := 4) (v := .ref c1) (C := "HostBridge$Choice") (T := ct_C) (N := 6) hx hb hts cw_C hown hK hP 0 rfl rfl 3 (by decide) (hts _ km_111) (fun _ h9 => h9) rfl kd_C_best_39 ?_
      refine lv_iload_n hx hb kd_C_best_42 rfl (lv_at hl 3 rfl) ?_
      refine hx_iald (j := c9) hx hb hK hP 10 rfl (rfl) (by omega) (by decide) kd_C_best_43 ?_
      refine hx_topi (y := nI (L[c9])) (cf_at hc9) ?_
      refine lv_iload_n hx hb kd_C_best_44 rfl (lv_at hl 1 rfl) ?_
      refine hx_callRi (va_runV (As := [.int (nI (L[c9])), .int (nI n)]) (rest := []) ⟨hx, hb, hml, hown, hts⟩ (mc_C_isLowest h0 hw hm ha b1 b2 m1 m2 m3 m4 a1 a2 a3 c1 c2 nc no nm nar pa co ho nn si ty kn so ca (lf_ (fun i => lw_ (fun j => wg_ pa co kn so bi ty n j i) L) lo n) bi L n (L[c9]) hn hok hln hno hco (hL _ (List.getElem_mem hc9))) (cwV 2 hts (goodIn_sub (hx_m5 km_483 km_485 kv_C_isLowest km_5 km_486) (by decide +kernel)) rfl rfl rfl (by decide +kernel) ⟨Nat.le_of_ble_eq_true rfl, Nat.le_of_ble_eq_true rfl⟩) (pr_V (hC.S hS) hP [0, 1, 2, 3, 4, 5, 6, 7, 8, 9, 11] rfl (ci := 4) rfl (q0 := 0) rfl) rfl rfl hl.1 rfl (lv_room (Nat.le_of_ble_eq_true rfl)) kd_C_best_45 ⟨Nat.le_of_ble_eq_true rfl, Nat.le_of_ble_eq_true rfl⟩) ?_
      refine lv_if_eq (tgt := 65) hx hb kd_C_best_48 (by decide) (fun c_48 => ?_) (fun c_48 => ?_)
      · skip
        have h48 := b2_f c_48
        refine lv_iinc (v := nI (c9 + 1)) (lv' := [(3, .int (nI (c9 + 1))), (0, .ref h0), (1, .int (nI n)), (2, .int b9)]) hx hb kd_C_best_65 hl (k := 3) rfl (nI_1 c9) (by decide) rfl (fun ls hl => ?_)
        refine lv_goto (tgt := 29) hx hb kd_C_best_68 (by decide) ?_
        exact ih29 (c9 + 1, b9) _ (by dsimp only; omega) ⟨lv_sub hl [1, 2, 3, 0] rfl, by dsimp only; omega, by dsimp only; rw [← hd, dr_at hc9]; simp only [bb_]; rw [if_neg (by rw [h48]; simp)]⟩
      · skip
        have h48 := b2_t c_48
        refine lv_iload_n hx hb kd_C_best_51 rfl (lv_at hl 2 rfl) ?_
        refine lv_iconst (v := -1) hx hb kd_C_best_52 (by decide) ?_
        refine lv_icmp_eq (tgt := 58) hx hb kd_C_best_53 (by decide) (fun c_53 => ?_) (fun c_53 => ?_)
        · skip
          refine lv_aload_n hx hb kd_C_best_58 rfl (lv_at hl 0 rfl) ?_
          refine va_get (D := D) (ci := 4) (v := .ref c1) (C := "HostBridge$Choice") (T := ct_C) (N := 6) hx hb hts cw_C hown hK hP 0 rfl rfl 3 (by decide) (hts _ km_111) (fun _ h9 => h9) rfl kd_C_best_59 ?_
          refine lv_iload_n hx hb kd_C_best_62 rfl (lv_at hl 3 rfl) ?_
          refine hx_iald (j := c9) hx hb hK hP 10 rfl (rfl) (by omega) (by decide) kd_C_best_63 ?_
          refine hx_topi (y := nI (L[c9])) (cf_at hc9) ?_
          refine lv_istore_n (lv' := [(2, .int (nI (L[c9]))), (0, .ref h0), (1, .int (nI n)), (3, .int (nI c9))]) hx hb kd_C_best_64 rfl hl (by decide) rfl (fun ls hl => ?_)
          refine lv_iinc (v := nI (c9 + 1)) (lv' := [(3, .int (nI (c9 + 1))), (2, .int (nI (L[c9]))), (0, .ref h0), (1, .int (nI n))]) hx hb kd_C_best_65 hl (k := 3) rfl (nI_1 c9) (by decide) rfl (fun ls hl => ?_)
          refine lv_goto (tgt := 29) hx hb kd_C_best_68 (by decide) ?_
          exact ih29 (c9 + 1, nI (L[c9])) _ (by dsimp only; omega) ⟨lv_sub hl [2, 3, 1, 0] rfl, by dsimp only; omega, by dsimp only; rw [← hd, dr_at hc9]; simp only [bb_]; rw [if_pos h48, if_pos c_53]⟩
        · skip
          refine lv_iconst (v := -1) hx hb kd_C_best_56 (by decide) ?_
          exact hx_iretW hx hb hr hlocks (by rw [← hd, dr_at hc9]; simp only [bb_]; rw [if_pos h48, if_neg c_53]) (hP) hS kd_C_best_57
  · skip
    have hin : i < n := by rw [nI_leI (by omega) (by omega)] at c_4; omega
    refine lv_aload_n hx hb kd_C_best_7 rfl (lv_at hl 0 rfl) ?_
    refine va_get (D := D) (ci := 4) (v := .ref c2) (C := "HostBridge$Choice") (T := ct_C) (N := 6) hx hb hts cw_C hown hK hP 0 rfl rfl 4 (by decide) (hts _ km_112) (fun _ h9 => h9) rfl kd_C_best_8 ?_
    refine lv_iload_n hx hb kd_C_best_11 rfl (lv_at hl 2 rfl) ?_
    refine lv_aload_n hx hb kd_C_best_12 rfl (lv_at hl 0 rfl) ?_
    refine lv_iload_n hx hb kd_C_best_13 rfl (lv_at hl 2 rfl) ?_
    refine lv_iload_n hx hb kd_C_best_14 rfl (lv_at hl 1 rfl) ?_
    refine hx_callRi (va_runV (As := [.int (nI i), .int (nI n)]) (rest := [.int (nI i), .ref c2]) ⟨hx, hb, hml, hown, hts⟩ (mc_C_lowestWeight h0 hw hm ha b1 b2 m1 m2 m3 m4 a1 a2 a3 c1 c2 nc no nm nar pa co ho nn si ty kn so ca lo bi L n i hn hok hln hno hco hin hL hLl hL0) (cwV 2 hts (goodIn_sub (hx_m5 km_470 km_472 kv_C_lowestWeight km_5 km_473) (by decide +kernel)) rfl rfl rfl (by decide +kernel) ⟨Nat.le_of_ble_eq_true rfl, Nat.le_of_ble_eq_true rfl⟩) (pr_V (hC.S hS) hP [0, 1, 2, 3, 4, 5, 6, 7, 8, 9, 10] rfl (ci := 4) rfl (q0 := 0) rfl) rfl rfl hl.1 rfl (lv_room (Nat.le_of_ble_eq_true rfl)) kd_C_best_15 ⟨Nat.le_of_ble_eq_true rfl, Nat.le_of_ble_eq_true rfl⟩) ?_
    refine hx_iast (j := i) hx hb hK hP hD hS 11 rfl (rfl) (by omega) (by decide) kd_C_best_18 (fun H locs hP hD hS => ?_)
    have hP : va_P D cl_all [(h0, .inr (4, [.ref hw, .ref hm, .ref ha, .ref c1, .ref c2, .int (nI L.length)])), (hm, .inr (2, [.ref m1, .ref m2, .ref m3, .ref m4, .int (nI nm)])), (m4, .inl (cI, 64, .inl ty)), (ha, .inr (3, [.ref hw, .ref a1, .ref a2, .ref a3, .int (nI nar)])), (a1, .inl (cI, 4, .inl kn)), (a2, .inl (cI, 4, .inl so)), (a3, .inl (cL, 4, .inr (.inl bi))), (hw, .inr (1, [.ref b1, .ref b2, .int (nI nc), .int (nI no)])), (b1, .inl (cI, 16, .inl pa)), (b2, .inl (cI, 64, .inl co)), (c1, .inl (cI, 64, .inl (cf_ L ca))), (c2, .inl (cI, 4, .inl (upd (lf_ (fun i => lw_ (fun j => wg_ pa co kn so bi ty n j i) L) lo i) i (lw_ (fun j => wg_ pa co kn so bi ty n j i) L))))] H := hP
    have hD : va_D A [(h0, .inr (4, [.ref hw, .ref hm, .ref ha, .ref c1, .ref c2, .int (nI L.length)])), (hm, .inr (2, [.ref m1, .ref m2, .ref m3, .ref m4, .int (nI nm)])), (m4, .inl (cI, 64, .inl ty)), (ha, .inr (3, [.ref hw, .ref a1, .ref a2, .ref a3, .int (nI nar)])), (a1, .inl (cI, 4, .inl kn)), (a2, .inl (cI, 4, .inl so)), (a3, .inl (cL, 4, .inr (.inl bi))), (hw, .inr (1, [.ref b1, .ref b2, .int (nI nc), .int (nI no)])), (b1, .inl (cI, 16, .inl pa)), (b2, .inl (cI, 64, .inl co)), (c1, .inl (cI, 64, .inl (cf_ L ca))), (c2, .inl (cI, 4, .inl (upd (lf_ (fun i => lw_ (fun j => wg_ pa co kn so bi ty n j i) L) lo i) i (lw_ (fun j => wg_ pa co kn so bi ty n j i) L))))] := hD
    rw [lf_s (fun i => lw_ (fun j => wg_ pa co kn so bi ty n j i) L) lo i] at hP hD
    refine lv_iinc (v := nI (i + 1)) (lv' := [(2, .int (nI (i + 1))), (0, .ref h0), (1, .int (nI n))]) hx hb kd_C_best_19 hl (k := 2) rfl (nI_1 i) (by decide) rfl (fun ls hl => ?_)
    refine lv_goto (tgt := 2) hx hb kd_C_best_22 (by decide) ?_
    exact ih2 (i + 1) _ _ _ (by omega) ⟨lv_sub hl [1, 2, 0] rfl, hP, hD, hS, by omega⟩

set_option maxHeartbeats 4000000 in
set_option maxRecDepth 100000 in
theorem mc_C_gather' {l : Launch} {D : va_G} {cI cL cZ : ClassId} {tb : Nat} (h0 hw hm ha b1 b2 m1 m2 m3 m4 a1 a2 a3 c1 c2 nc no nm nar : Nat) (pa co ho nn si ty kn so ca : Nat → Int32) (bi : Nat → Int64) (ck k0 n : Int32) (N : Nat) (hn : N ≤ 4) (hok : ∀ i, i < N → ar_ok no (kn i) (so i) (bi i)) (hln : ln_ok nc pa) (hno : no ≤ 64) (hco : ∀ j, j < no → ∃ q : Nat, q < nc ∧ co j = nI q) (hnm : nm ≤ 64) (hk0 : ln_k nc k0) (L : List Nat) (hL : ga_ (fun k L => gf_ (fun m => mi_ ho nn si k n (nI N) m && ft_ (fun i t => wf_ pa co (kn i) (so i) (bi i) t) (ty m) N) (hd_ ty) nm 0 L) pa 16 k0 [] = L) (sz : Nat) : Met l ky_C_gather kw_C_gather { frames := 4, cells := 0, slots := 0, locals := 93 } (pw_P D cI cL cZ tb [(h0, .inr (4, [.ref hw, .ref hm, .ref ha, .ref c1, .ref c2, .int ck])), (hm, .inr (2, [.ref m1, .ref m2, .ref m3, .ref m4, .int (nI nm)])), (m1, .inl (cI, 64, .inl ho)), (m2, .inl (cI, 64, .inl nn)), (m3, .inl (cI, 64, .inl si)), (m4, .inl (cI, 64, .inl ty)), (ha, .inr (3, [.ref hw, .ref a1, .ref a2, .ref a3, .int (nI nar)])), (a1, .inl (cI, 4, .inl kn)), (a2, .inl (cI, 4, .inl so)), (a3, .inl (cL, 4, .inr (.inl bi))), (hw, .inr (1, [.ref b1, .ref b2, .int (nI nc), .int (nI no)])), (b1, .inl (cI, 16, .inl pa)), (b2, .inl (cI, 64, .inl co)), (c1, .inl (cI, 64, .inl ca))] sz [.ref h0, .int k0, .int n, .int (nI N)]) (hx_QW D none [(h0, .inr (4, [.ref hw, .ref hm, .ref ha, .ref c1, .ref c2, .int (nI L.length)])), (hm, .inr (2, [.ref m1, .ref m2, .ref m3, .ref m4, .int (nI nm)])), (m1, .inl (cI, 64, .inl ho)), (m2, .inl (cI, 64, .inl nn)), (m3, .inl (cI, 64, .inl si)), (m4, .inl (cI, 64, .inl ty)), (ha, .inr (3, [.ref hw, .ref a1, .ref a2, .ref a3, .int (nI nar)])), (a1, .inl (cI, 4, .inl kn)), (a2, .inl (cI, 4, .inl so)), (a3, .inl (cL, 4, .inr (.inl bi))), (hw, .inr (1, [.ref b1, .ref b2, .int (nI nc), .int (nI no)])), (b1, .inl (cI, 16, .inl pa)), (b2, .inl (cI, 64, .inl co)), (c1, .inl (cI, 64, .inl (cf_ L ca)))] (va_A [(h0, .inr (4, [.ref hw, .ref hm, .ref ha, .ref c1, .ref c2, .int ck])), (hm, .inr (2, [.ref m1, .ref m2, .ref m3, .ref m4, .int (nI nm)])), (m1, .inl (cI, 64, .inl ho)), (m2, .inl (cI, 64, .inl nn)), (m3, .inl (cI, 64, .inl si)), (m4, .inl (cI, 64, .inl ty)), (ha, .inr (3, [.ref hw, .ref a1, .ref a2, .ref a3, .int (nI nar)])), (a1, .inl (cI, 4, .inl kn)), (a2, .inl (cI, 4, .inl so)), (a3, .inl (cL, 4, .inr (.inl bi))), (hw, .inr (1, [.ref b1, .ref b2, .int (nI nc), .int (nI no)])), (b1, .inl (cI, 16, .inl pa)), (b2, .inl (cI, 64, .inl co)), (c1, .inl (cI, 64, .inl ca))] sz)) 0 0 (va_A [(h0, .inr (4, [.ref hw, .ref hm, .ref ha, .ref c1, .ref c2, .int ck])), (hm, .inr (2, [.ref m1, .ref m2, .ref m3, .ref m4, .int (nI nm)])), (m1, .inl (cI, 64, .inl ho)), (m2, .inl (cI, 64, .inl nn)), (m3, .inl (cI, 64, .inl si)), (m4, .inl (cI, 64, .inl ty)), (ha, .inr (3, [.ref hw, .ref a1, .ref a2, .ref a3, .int (nI nar)])), (a1, .inl (cI, 4, .inl kn)), (a2, .inl (cI, 4, .inl so)), (a3, .inl (cL, 4, .inr (.inl bi))), (hw, .inr (1, [.ref b1, .ref b2, .int (nI nc), .int (nI no)])), (b1, .inl (cI, 16, .inl pa)), (b2, .inl (cI, 64, .inl co)), (c1, .inl (cI, 64, .inl ca))] sz) := by
  subst hL
  exact mc_C_gather h0 hw hm ha b1 b2 m1 m2 m3 m4 a1 a2 a3 c1 c2 nc no nm nar pa co ho nn si ty kn so ca bi ck k0 n N hn hok hln hno hco hnm hk0 sz

set_option maxHeartbeats 4000000 in
set_option maxRecDepth 100000 in
theorem mc_C_best' {l : Launch} {D : va_G} {cI cL cZ : ClassId} {tb : Nat} (h0 hw hm ha b1 b2 m1 m2 m3 m4 a1 a2 a3 c1 c2 nc no nm nar : Nat) (pa co ho nn si ty kn so ca lo : Nat → Int32) (bi : Nat → Int64) (L : List Nat) (n : Nat) (hn : n ≤ 4) (hok : ∀ i, i < n → ar_ok no (kn i) (so i) (bi i)) (hln : ln_ok nc pa) (hno : no ≤ 64) (hco : ∀ j, j < no → ∃ q : Nat, q < nc ∧ co j = nI q) (hL : ∀ c ∈ L, c < 64) (hLl : L.length ≤ 64) (hL0 : 0 < L.length) (lo2 : Nat → Int32) (r : Int32) (h1 : lf_ (fun i => lw_ (fun j => wg_ pa co kn so bi ty n j i) L) lo n = lo2) (h2 : bb_ (fun j => il_ (wg_ pa co kn so bi ty n) lo2 n j) L (-1) = r) (sz : Nat) : Met l ky_C_best kw_C_best { frames := 4, cells := 0, slots := 0, locals := 93 } (pw_P D cI cL cZ tb [(h0, .inr (4, [.ref hw, .ref hm, .ref ha, .ref c1, .ref c2, .int (nI L.length)])), (hm, .inr (2, [.ref m1, .ref m2, .ref m3, .ref m4, .int (nI nm)])), (m4, .inl (cI, 64, .inl ty)), (ha, .inr (3, [.ref hw, .ref a1, .ref a2, .ref a3, .int (nI nar)])), (a1, .inl (cI, 4, .inl kn)), (a2, .inl (cI, 4, .inl so)), (a3, .inl (cL, 4, .inr (.inl bi))), (hw, .inr (1, [.ref b1, .ref b2, .int (nI nc), .int (nI no)])), (b1, .inl (cI, 16, .inl pa)), (b2, .inl (cI, 64, .inl co)), (c1, .inl (cI, 64, .inl (cf_ L ca))), (c2, .inl (cI, 4, .inl lo))] sz [.ref h0, .int (nI n)]) (hx_QW D (some (.int r)) [(h0, .inr (4, [.ref hw, .ref hm, .ref ha, .ref c1, .ref c2, .int (nI L.length)])), (hm, .inr (2, [.ref m1, .ref m2, .ref m3, .ref m4, .int (nI nm)])), (m4, .inl (cI, 64, .inl ty)), (ha, .inr (3, [.ref hw, .ref a1, .ref a2, .ref a3, .int (nI nar)])), (a1, .inl (cI, 4, .inl kn)), (a2, .inl (cI, 4, .inl so)), (a3, .inl (cL, 4, .inr (.inl bi))), (hw, .inr (1, [.ref b1, .ref b2, .int (nI nc), .int (nI no)])), (b1, .inl (cI, 16, .inl pa)), (b2, .inl (cI, 64, .inl co)), (c1, .inl (cI, 64, .inl (cf_ L ca))), (c2, .inl (cI, 4, .inl lo2))] (va_A [(h0, .inr (4, [.ref hw, .ref hm, .ref ha, .ref c1, .ref c2, .int (nI L.length)])), (hm, .inr (2, [.ref m1, .ref m2, .ref m3, .ref m4, .int (nI nm)])), (m4, .inl (cI, 64, .inl ty)), (ha, .inr (3, [.ref hw, .ref a1, .ref a2, .ref a3, .int (nI nar)])), (a1, .inl (cI, 4, .inl kn)), (a2, .inl (cI, 4, .inl so)), (a3, .inl (cL, 4, .inr (.inl bi))), (hw, .inr (1, [.ref b1, .ref b2, .int (nI nc), .int (nI no)])), (b1, .inl (cI, 16, .inl pa)), (b2, .inl (cI, 64, .inl co)), (c1, .inl (cI, 64, .inl (cf_ L ca))), (c2, .inl (cI, 4, .inl lo))] sz)) 0 0 (va_A [(h0, .inr (4, [.ref hw, .ref hm, .ref ha, .ref c1, .ref c2, .int (nI L.length)])), (hm, .inr (2, [.ref m1, .ref m2, .ref m3, .ref m4, .int (nI nm)])), (m4, .inl (cI, 64, .inl ty)), (ha, .inr (3, [.ref hw, .ref a1, .ref a2, .ref a3, .int (nI nar)])), (a1, .inl (cI, 4, .inl kn)), (a2, .inl (cI, 4, .inl so)), (a3, .inl (cL, 4, .inr (.inl bi))), (hw, .inr (1, [.ref b1, .ref b2, .int (nI nc), .int (nI no)])), (b1, .inl (cI, 16, .inl pa)), (b2, .inl (cI, 64, .inl co)), (c1, .inl (cI, 64, .inl (cf_ L ca))), (c2, .inl (cI, 4, .inl lo))] sz) := by
  subst h1
  subst h2
  exact mc_C_best h0 hw hm ha b1 b2 m1 m2 m3 m4 a1 a2 a3 c1 c2 nc no nm nar pa co ho nn si ty kn so ca lo bi L n hn hok hln hno hco hL hLl hL0 sz
