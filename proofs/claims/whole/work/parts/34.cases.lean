/-! THE LAW'S WALK: each case of its switch -/
def lw_A (s : State) : Nat → Prop := fun q => s.heap.size ≤ q
/-- what stays along the law's walk -/
def lw_C (l : Launch) (p : Program) (s : State) (m : MethodId) (c : Code) (b L : Nat) (xs : Nat → Int32) (D : va_G) (cI cL cZ : ClassId) (tb : Nat) : Prop :=
  l.stackTraces = false ∧ p.tables.exec = Jvm.exec ∧ c.code = code ∧ c.maxLocals = 8 ∧ s.vm.findClass R_law = some m.cls ∧ va_X b L xs s s.heap ∧ b < s.heap.size ∧ L ≤ 3072 ∧ cx D cI cL cZ tb (lw_A s) s s.heap ∧ xc_N s
/-- what holds at the head of the loop, after t calls -/
def lw_I (D : va_G) (cI cL cZ : ClassId) (q r : Nat → Nat) (qo t : Nat) (s : State) (H : Heap) (locs : List Loc) : Prop :=
  ∃ (wb wm : va_W) (ov : Nat → Int64), va_P D cl_all (ou_ cL qo ov :: wb) H ∧ va_P D cl_all wm H ∧ va_D (lw_A s) (ou_ cL qo ov :: wb) ∧ va_D (lw_A s) wm ∧ sg_ap (ou_ cL qo ov :: wb) wm ∧ va_S (lw_A s) s.heap H locs ∧ inv_ cI cL cZ q r t wb wm
theorem inv_mono {cI cL cZ : ClassId} {q r : Nat → Nat} {d : Nat} {wb wm : va_W} (h : inv_ cI cL cZ q r d wb wm) : inv_ cI cL cZ q r (d + 1) wb wm := by
  obtain ⟨nc, no, nm, nar, nd, sa, nw, ck, th, lg, pa, co, ho, nn, si, ty, rt, kn, so, ca, lo, fo, fm, fs, aq, cd, bi, fv, wa, an, h1, h2, hv⟩ := h
  exact ⟨nc, no, nm, nar, nd, sa, nw, ck, th, lg, pa, co, ho, nn, si, ty, rt, kn, so, ca, lo, fo, fm, fs, aq, cd, bi, fv, wa, an, h1, h2, iv_mono hv⟩
theorem inv_b {cI cL cZ : ClassId} {q r : Nat → Nat} {d : Nat} {wb wm : va_W} (h : inv_ cI cL cZ q r d wb wm) : ∃ fs, wb[0]? = some (q 0, .inr (0, fs)) := by
  obtain ⟨nc, no, nm, nar, nd, sa, nw, ck, th, lg, pa, co, ho, nn, si, ty, rt, kn, so, ca, lo, fo, fm, fs, aq, cd, bi, fv, wa, an, rfl, h2, hv⟩ := h
  exact ⟨_, rfl⟩
theorem inv_m {cI cL cZ : ClassId} {q r : Nat → Nat} {d : Nat} {wb wm : va_W} (h : inv_ cI cL cZ q r d wb wm) : ∃ fs, wm[0]? = some (r 0, .inr (7, fs)) := by
  obtain ⟨nc, no, nm, nar, nd, sa, nw, ck, th, lg, pa, co, ho, nn, si, ty, rt, kn, so, ca, lo, fo, fm, fs, aq, cd, bi, fv, wa, an, h1, rfl, hv⟩ := h
  exact ⟨_, rfl⟩
theorem lw_I.next {D : va_G} {cI cL cZ : ClassId} {q r : Nat → Nat} {qo t : Nat} {s : State} {H : Heap} {locs : List Loc} (h : lw_I D cI cL cZ q r qo t s H locs) : lw_I D cI cL cZ q r qo (t + 1) s H locs := by
  obtain ⟨wb, wm, ov, h1, h2, h3, h4, h5, h6, h7⟩ := h
  exact ⟨wb, wm, ov, h1, h2, h3, h4, h5, h6, inv_mono h7⟩
theorem sg_one {w : va_W} {y : Nat × va_E} (h : w[0]? = some y) : [0].filterMap (fun i => w[i]?) = [y] := by
  simp only [List.filterMap_cons, h, List.filterMap_nil]
theorem sg_mapc {y z : Nat × va_E} {u v : va_W} (h0 : y.1 = z.1) (h : u.map (fun q => q.1) = v.map (fun q => q.1)) : (y :: u).map (fun q => q.1) = (z :: v).map (fun q => q.1) := by
  rw [List.map_cons, List.map_cons, h0, h]
section LS
variable {p : Program} {l : Launch} {e : Env} {R : Room} {s : State} {m : MethodId} {args : Array Value} {below : List Frame} {meth : Method} {c : Code} {H H0 : Heap} {locs : List Loc} {cells slots : Nat} {Q : State → Prop} {pc : Nat} {ls : Array Slot} {rest : List Value} {cc : ByteArray} {A : Nat → Prop}
theorem hx_sld (hexec : p.tables.exec = Jvm.exec) (hb : c.code = cc) {b L : Nat} {xs : Nat → Int32} (hX : va_X b L xs s H0) (hbl : b < H0.size) (hbA : ¬ A b) (hS : va_S A H0 H locs) (hL : L < 2 ^ 31) {i : Int32} {j : Nat} (hi : i = nI j) (hj : j < L) (hdg : decode cc pc = .ok (.iaload, 1))
    (kk : W p l e R s m args below meth c H locs cells slots Q (F0 m (pc + 1) ls (.int (xs j) :: rest))) : W p l e R s m args below meth c H locs cells slots Q (F0 m pc ls (.int i :: .ref b :: rest)) := by
  subst hi
  refine va_sld hexec hb hX hbl hbA hS (vp_in_nI hj hL) hdg ?_
  rw [nI_clamp (n := j) (by omega)]
  exact kk
end LS

set_option maxHeartbeats 4000000 in
set_option maxRecDepth 100000 in
theorem lc_klass {p : Program} {l : Launch} {e : Env} {s : State} {m : MethodId} {below : List Frame} {meth : Method} {c : Code} {b L : Nat} {xs : Nat → Int32} {D : va_G} {cI cL cZ : ClassId} {tb : Nat} {q r : Nat → Nat} {qo t : Nat} {Q : State → Prop} (hc : lw_C l p s m c b L xs D cI cL cZ tb) (h6 : 6 * t + 6 ≤ L) {ls : Array Slot} {H : Heap} {locs : List Loc} (hl : lv_has ls 8 [(0, .ref b), (1, .ref (q 0)), (2, .ref (r 0)), (3, .ref qo), (4, .int (nI (6 * t)))]) (hst : lw_I D cI cL cZ q r qo t s H locs) (back : ∀ (ls : Array Slot) (H : Heap) (locs : List Loc), lv_has ls 8 [(0, .ref b), (1, .ref (q 0)), (2, .ref (r 0)), (3, .ref qo), (4, .int (nI (6 * t)))] → lw_I D cI cL cZ q r qo (t + 1) s H locs → W p l e room_1 s m #[Value.ref b] below meth c H locs (40 + t + 1) (2103 + 6 * t + 6) Q (F0 m 895 ls [])) : W p l e room_1 s m #[Value.ref b] below meth c H locs (40 + t) (2103 + 6 * t) Q (F0 m 104 ls []) := by
  obtain ⟨htr, hx, hb, hml, hown, hX, hbl, hL, hC, hN⟩ := hc
  have hown : s.vm.findClass "HostBridgeLaw" = some m.cls := hown
  have hA : ∀ q : Nat, s.heap.size ≤ q → lw_A s q := fun _ h => h
  have hbA : ¬ lw_A s b := Nat.not_le.mpr hbl
  have hK := hC.K
  have hts := hC.ts #[Value.ref b]
  obtain ⟨wb, wm, ov, hPb, hPm, hDb, hDm, hap, hS, hI⟩ := hst
  obtain ⟨fr0, hm0⟩ := inv_m hI
  obtain ⟨kk, rr, ov1, heq, wb1, wm1, fr, rm2, hM1, hrm, hM2, hwb, hwm, h0m, hM3, hI1⟩ := op_klass (l := l) (D := D) (tb := tb) htr (show t < 1000 by omega) hI qo ov (xs (6 * t + 1))
  refine lv_aload_n hx hb kd_L_law_104 rfl (lv_at hl 1 rfl) ?_
  refine lv_aload_n hx hb kd_L_law_105 rfl (lv_at hl 0 rfl) ?_
  refine lv_iload hx hb kd_L_law_106 (lv_at hl 4 rfl) ?_
  refine lv_iconst (v := 1) hx hb kd_L_law_108 (by decide) ?_
  refine lv_iadd hx hb kd_L_law_109 ?_
  refine hx_topi (y := nI (6 * t + 1)) (nI_add (6 * t) 1) ?_
  refine hx_sld (j := 6 * t + 1) hx hb hX hbl hbA hS (by omega) rfl (by omega) kd_L_law_110 ?_
  refine lv_aload_n hx hb kd_L_law_111 rfl (lv_at hl 3 rfl) ?_
  refine sg_call (vx_runSW (As := [.ref (q 0), .int (xs (6 * t + 1)), .ref qo]) (rest := []) ⟨hx, hb, hml, hown, hts⟩ (hM1 _) (vx_cwSW 3 hts (goodIn_sub (hx_m4 km_195 km_196 km_0 km_197) (by decide +kernel)) rfl rfl rfl (by decide +kernel) ⟨Nat.le_of_ble_eq_true rfl, Nat.le_of_ble_eq_true rfl⟩) (sg_S (hC.S hS) hN hPb hDb hS hA) rfl rfl hl.1 rfl (lv_room (Nat.le_of_ble_eq_true rfl)) kd_L_law_112 ⟨show 40 + t + 1 ≤ 1093 by omega, show 2103 + 6 * t + 6 ≤ 10469 by omega⟩) hDb hS hA (sg_mapc rfl hwb) hap hPm (fun H locs hPb hDb hPm hS => ?_)
  refine lv_istore (lv' := [(5, .int kk), (0, .ref b), (1, .ref (q 0)), (2, .ref (r 0)), (3, .ref qo), (4, .int (nI (6 * t)))]) hx hb kd_L_law_115 hl (by decide) rfl (fun ls hl => ?_)
  have hap : sg_ap (ou_ cL qo ov1 :: wb1) wm := hap.new (sg_mapc rfl hwb) rfl
  refine lv_aload_n hx hb kd_L_law_117 rfl (lv_at hl 3 rfl) ?_
  refine lv_aload_n hx hb kd_L_law_118 rfl (lv_at hl 1 rfl) ?_
  refine lv_iload hx hb kd_L_law_119 (lv_at hl 5 rfl) ?_
  refine lv_iconst (v := 1) hx hb kd_L_law_121 (by decide) ?_
  refine lv_iadd hx hb kd_L_law_122 ?_
  refine hx_topi (y := nI (6 * t + 1)) (nI_add (6 * t) 1) ?_
  refine hx_sld (j := 6 * t + 1) hx hb hX hbl hbA hS (by omega) rfl (by omega) kd_L_law_123 ?_
  refine sg_call (va_runV (As := [.int (xs (6 * t + 1))]) (rest := []) ⟨hx, hb, hml, hown, hts⟩ (hM2 _) (cwV 1 hts (goodIn_sub (hx_m5 km_696 km_697 km_698 km_8 km_699) (by decide +kernel)) rfl hrm.2.2.1 hrm.2.2.2 (by decide +kernel) ⟨show rm2.frames + 1 ≤ 10 by omega, show 8 + (3 + 11) + rm2.locals ≤ 368 by omega⟩) (sg_V (hC.S hS) hPm hDm hS hA (ci := 7) rfl hm0) rfl rfl hl.1 rfl (lv_room (Nat.le_of_ble_eq_true rfl)) kd_L_law_124 ⟨show 40 + t + 1 + 0 ≤ 1093 by omega, show 2103 + 6 * t + 6 + 0 ≤ 10469 by omega⟩) hDm hS hA hwm hap.symm hPb (fun H locs hPm hDm hPb hS => ?_)
  have hap : sg_ap (ou_ cL qo ov1 :: wb1) wm1 := hap.new rfl hwm
  refine lv_istore (lv' := [(6, .int rr), (5, .int kk), (0, .ref b), (1, .ref (q 0)), (2, .ref (r 0)), (3, .ref qo), (4, .int (nI (6 * t)))]) hx hb kd_L_law_127 hl (by decide) rfl (fun ls hl => ?_)
  refine lv_aload_n hx hb kd_L_law_129 rfl (lv_at hl 4 rfl) ?_
  refine hx_callRi (va_runV (As := []) (rest := []) ⟨hx, hb, hml, hown, hts⟩ hM3 (cwV 0 hts (goodIn_sub (hx_m5 km_692 km_693 km_694 km_8 km_695) (by decide +kernel)) rfl rfl rfl (by decide +kernel) ⟨Nat.le_of_ble_eq_true rfl, Nat.le_of_ble_eq_true rfl⟩) (pr_V (hC.S hS) hPm [0] (sg_one h0m) (ci := 7) rfl (q0 := 0) rfl) rfl rfl hl.1 rfl (lv_room (Nat.le_of_ble_eq_true rfl)) kd_L_law_130 ⟨show 40 + t + 1 + 0 ≤ 1093 by omega, show 2103 + 6 * t + 6 + 0 ≤ 10469 by omega⟩) ?_
  refine lv_iload hx hb kd_L_law_133 (lv_at hl 1 rfl) ?_
  refine lv_icmp_eq (tgt := 140) hx hb kd_L_law_135 (by decide) (fun _ => ?_) (fun c9 => absurd rfl c9)
  refine lv_iload hx hb kd_L_law_140 (lv_at hl 1 rfl) ?_
  refine lv_if_ne (tgt := 157) hx hb kd_L_law_142 (by decide) (fun c9 => ?_) (fun c9 => ?_)
  · refine lv_goto (tgt := 895) hx hb kd_L_law_157 (by decide) ?_
    exact back _ _ _ (lv_sub hl [2, 3, 4, 5, 6] rfl) ⟨wb1, wm1, ov1, hPb, hPm, hDb, hDm, hap, hS, hI1⟩
  · skip
    refine lv_aload_n hx hb kd_L_law_145 rfl (lv_at hl 5 rfl) ?_
    refine lv_iconst (v := 0) hx hb kd_L_law_146 (by decide) ?_
    refine hx_lald (j := 0) hx hb hK hPb 0 rfl rfl (by decide) (by decide) kd_L_law_147 ?_
    refine lv_iload hx hb kd_L_law_148 (lv_at hl 0 rfl) ?_
    refine lv_i2l hx hb kd_L_law_150 rfl ?_
    refine W.lcmp hx hb kd_L_law_151 ?_
    refine lv_if_eq (tgt := 157) hx hb kd_L_law_152 (by decide) (fun _ => ?_) (fun c8 => absurd ((lg_cmp_eq _ _).mpr (heq c9)) c8)
    refine lv_goto (tgt := 895) hx hb kd_L_law_157 (by decide) ?_
    exact back _ _ _ (lv_sub hl [2, 3, 4, 5, 6] rfl) ⟨wb1, wm1, ov1, hPb, hPm, hDb, hDm, hap, hS, hI1⟩

set_option maxHeartbeats 4000000 in
set_option maxRecDepth 100000 in
theorem lc_method {p : Program} {l : Launch} {e : Env} {s : State} {m : MethodId} {below : List Frame} {meth : Method} {c : Code} {b L : Nat} {xs : Nat → Int32} {D : va_G} {cI cL cZ : ClassId} {tb : Nat} {q r : Nat → Nat} {qo t : Nat} {Q : State → Prop} (hc : lw_C l p s m c b L xs D cI cL cZ tb) (h6 : 6 * t + 6 ≤ L) {ls : Array Slot} {H : Heap} {locs : List Loc} (hl : lv_has ls 8 [(0, .ref b), (1, .ref (q 0)), (2, .ref (r 0)), (3, .ref qo), (4, .int (nI (6 * t)))]) (hst : lw_I D cI cL cZ q r qo t s H locs) (back : ∀ (ls : Array Slot) (H : Heap) (locs : List Loc), lv_has ls 8 [(0, .ref b), (1, .ref (q 0)), (2, .ref (r 0)), (3, .ref qo), (4, .int (nI (6 * t)))] → lw_I D cI cL cZ q r qo (t + 1) s H locs → W p l e room_1 s m #[Value.ref b] below meth c H locs (40 + t + 1) (2103 + 6 * t + 6) Q (F0 m 895 ls [])) : W p l e room_1 s m #[Value.ref b] below meth c H locs (40 + t) (2103 + 6 * t) Q (F0 m 160 ls []) := by
  obtain ⟨htr, hx, hb, hml, hown, hX, hbl, hL, hC, hN⟩ := hc
  have hown : s.vm.findClass "HostBridgeLaw" = some m.cls := hown
  have hA : ∀ q : Nat, s.heap.size ≤ q → lw_A s q := fun _ h => h
  have hbA : ¬ lw_A s b := Nat.not_le.mpr hbl
  have hK := hC.K
  have hts := hC.ts #[Value.ref b]
  obtain ⟨wb, wm, ov, hPb, hPm, hDb, hDm, hap, hS, hI⟩ := hst
  obtain ⟨fr0, hm0⟩ := inv_m hI
  obtain ⟨kk, rr, ov1, heq, wb1, wm1, fr, rm2, hM1, hrm, hM2, hwb, hwm, h0m, hM3, hI1⟩ := op_method (l := l) (D := D) (tb := tb) htr (show t < 1000 by omega) hI qo ov (xs (6 * t + 1)) (xs (6 * t + 2)) (xs (6 * t + 3)) (xs (6 * t + 4)) (xs (6 * t + 5))
  refine lv_aload_n hx hb kd_L_law_160 rfl (lv_at hl 1 rfl) ?_
  refine lv_aload_n hx hb kd_L_law_161 rfl (lv_at hl 0 rfl) ?_
  refine lv_iload hx hb kd_L_law_162 (lv_at hl 4 rfl) ?_
  refine lv_iconst (v := 1) hx hb kd_L_law_164 (by decide) ?_
  refine lv_iadd hx hb kd_L_law_165 ?_
  refine hx_topi (y := nI (6 * t + 1)) (nI_add (6 * t) 1) ?_
  refine hx_sld (j := 6 * t + 1) hx hb hX hbl hbA hS (by omega) rfl (by omega) kd_L_law_166 ?_
  refine lv_aload_n hx hb kd_L_law_167 rfl (lv_at hl 0 rfl) ?_
  refine lv_iload hx hb kd_L_law_168 (lv_at hl 4 rfl) ?_
  refine lv_iconst (v := 2) hx hb kd_L_law_170 (by decide) ?_
  refine lv_iadd hx hb kd_L_law_171 ?_
  refine hx_topi (y := nI (6 * t + 2)) (nI_add (6 * t) 2) ?_
  refine hx_sld (j := 6 * t + 2) hx hb hX hbl hbA hS (by omega) rfl (by omega) kd_L_law_172 ?_
  refine lv_aload_n hx hb kd_L_law_173 rfl (lv_at hl 0 rfl) ?_
  refine lv_iload hx hb kd_L_law_174 (lv_at hl 4 rfl) ?_
  refine lv_iconst (v := 3) hx hb kd_L_law_176 (by decide) ?_
  refine lv_iadd hx hb kd_L_law_177 ?_
  refine hx_topi (y := nI (6 * t + 3)) (nI_add (6 * t) 3) ?_
  refine hx_sld (j := 6 * t + 3) hx hb hX hbl hbA hS (by omega) rfl (by omega) kd_L_law_178 ?_
  refine lv_aload_n hx hb kd_L_law_179 rfl (lv_at hl 0 rfl) ?_
  refine lv_iload hx hb kd_L_law_180 (lv_at hl 4 rfl) ?_
  refine lv_iconst (v := 4) hx hb kd_L_law_182 (by decide) ?_
  refine lv_iadd hx hb kd_L_law_183 ?_
  refine hx_topi (y := nI (6 * t + 4)) (nI_add (6 * t) 4) ?_
  refine hx_sld (j := 6 * t + 4) hx hb hX hbl hbA hS (by omega) rfl (by omega) kd_L_law_184 ?_
  refine lv_aload_n hx hb kd_L_law_185 rfl (lv_at hl 0 rfl) ?_
  refine lv_iload hx hb kd_L_law_186 (lv_at hl 4 rfl) ?_
  refine lv_iconst (v := 5) hx hb kd_L_law_188 (by decide) ?_
  refine lv_iadd hx hb kd_L_law_189 ?_
  refine hx_topi (y := nI (6 * t + 5)) (nI_add (6 * t) 5) ?_
  refine hx_sld (j := 6 * t + 5) hx hb hX hbl hbA hS (by omega) rfl (by omega) kd_L_law_190 ?_
  refine lv_aload_n hx hb kd_L_law_191 rfl (lv_at hl 3 rfl) ?_
  refine sg_call (vx_runSW (As := [.ref (q 0), .int (xs (6 * t + 1)), .int (xs (6 * t + 2)), .int (xs (6 * t + 3)), .int (xs (6 * t + 4)), .int (xs (6 * t + 5)), .ref qo]) (rest := []) ⟨hx, hb, hml, hown, hts⟩ (hM1 _) (vx_cwSW 7 hts (goodIn_sub (hx_m4 km_297 km_298 km_0 km_299) (by decide +kernel)) rfl rfl rfl (by decide +kernel) ⟨Nat.le_of_ble_eq_true rfl, Nat.le_of_ble_eq_true rfl⟩) (sg_S (hC.S hS) hN hPb hDb hS hA) rfl rfl hl.1 rfl (lv_room (Nat.le_of_ble_eq_true rfl)) kd_L_law_192 ⟨show 40 + t + 1 ≤ 1093 by omega, show 2103 + 6 * t + 6 ≤ 10469 by omega⟩) hDb hS hA (sg_mapc rfl hwb) hap hPm (fun H locs hPb hDb hPm hS => ?_)
  refine lv_istore (lv' := [(5, .int kk), (0, .ref b), (1, .ref (q 0)), (2, .ref (r 0)), (3, .ref qo), (4, .int (nI (6 * t)))]) hx hb kd_L_law_195 hl (by decide) rfl (fun ls hl => ?_)
  have hap : sg_ap (ou_ cL qo ov1 :: wb1) wm := hap.new (sg_mapc rfl hwb) rfl
  refine lv_aload_n hx hb kd_L_law_197 rfl (lv_at hl 3 rfl) ?_
  refine lv_aload_n hx hb kd_L_law_198 rfl (lv_at hl 1 rfl) ?_
  refine lv_iload hx hb kd_L_law_199 (lv_at hl 5 rfl) ?_
  refine lv_iconst (v := 1) hx hb kd_L_law_201 (by decide) ?_
  refine lv_iadd hx hb kd_L_law_202 ?_
  refine hx_topi (y := nI (6 * t + 1)) (nI_add (6 * t) 1) ?_
  refine hx_sld (j := 6 * t + 1) hx hb hX hbl hbA hS (by omega) rfl (by omega) kd_L_law_203 ?_
  refine lv_aload_n hx hb kd_L_law_204 rfl (lv_at hl 1 rfl) ?_
  refine lv_iload hx hb kd_L_law_205 (lv_at hl 5 rfl) ?_
  refine lv_iconst (v := 2) hx hb kd_L_law_207 (by decide) ?_
  refine lv_iadd hx hb kd_L_law_208 ?_
  refine hx_topi (y := nI (6 * t + 2)) (nI_add (6 * t) 2) ?_
  refine hx_sld (j := 6 * t + 2) hx hb hX hbl hbA hS (by omega) rfl (by omega) kd_L_law_209 ?_
  refine lv_aload_n hx hb kd_L_law_210 rfl (lv_at hl 1 rfl) ?_
  refine lv_iload hx hb kd_L_law_211 (lv_at hl 5 rfl) ?_
  refine lv_iconst (v := 3) hx hb kd_L_law_213 (by decide) ?_
  refine lv_iadd hx hb kd_L_law_214 ?_
  refine hx_topi (y := nI (6 * t + 3)) (nI_add (6 * t) 3) ?_
  refine hx_sld (j := 6 * t + 3) hx hb hX hbl hbA hS (by omega) rfl (by omega) kd_L_law_215 ?_
  refine lv_aload_n hx hb kd_L_law_216 rfl (lv_at hl 1 rfl) ?_
  refine lv_iload hx hb kd_L_law_217 (lv_at hl 5 rfl) ?_
  refine lv_iconst (v := 4) hx hb kd_L_law_219 (by decide) ?_
  refine lv_iadd hx hb kd_L_law_220 ?_
  refine hx_topi (y := nI (6 * t + 4)) (nI_add (6 * t) 4) ?_
  refine hx_sld (j := 6 * t + 4) hx hb hX hbl hbA hS (by omega) rfl (by omega) kd_L_law_221 ?_
  refine lv_aload_n hx hb kd_L_law_222 rfl (lv_at hl 1 rfl) ?_
  refine lv_iload hx hb kd_L_law_223 (lv_at hl 5 rfl) ?_
  refine lv_iconst (v := 5) hx hb kd_L_law_225 (by decide) ?_
  refine lv_iadd hx hb kd_L_law_226 ?_
  refine hx_topi (y := nI (6 * t + 5)) (nI_add (6 * t) 5) ?_
  refine hx_sld (j := 6 * t + 5) hx hb hX hbl hbA hS (by omega) rfl (by omega) kd_L_law_227 ?_
  refine sg_call (va_runV (As := [.int (xs (6 * t + 1)), .int (xs (6 * t + 2)), .int (xs (6 * t + 3)), .int (xs (6 * t + 4)), .int (xs (6 * t + 5))]) (rest := []) ⟨hx, hb, hml, hown, hts⟩ (hM2 _) (cwV 5 hts (goodIn_sub (hx_m5 km_707 km_708 km_709 km_8 km_710) (by decide +kernel)) rfl hrm.2.2.1 hrm.2.2.2 (by decide +kernel) ⟨show rm2.frames + 1 ≤ 10 by omega, show 8 + (9 + 11) + rm2.locals ≤ 368 by omega⟩) (sg_V (hC.S hS) hPm hDm hS hA (ci := 7) rfl hm0) rfl rfl hl.1 rfl (lv_room (Nat.le_of_ble_eq_true rfl)) kd_L_law_228 ⟨show 40 + t + 1 + 0 ≤ 1093 by omega, show 2103 + 6 * t + 6 + 0 ≤ 10469 by omega⟩) hDm hS hA hwm hap.symm hPb (fun H locs hPm hDm hPb hS => ?_)
  have hap : sg_ap (ou_ cL qo ov1 :: wb1) wm1 := hap.new rfl hwm
  refine lv_istore (lv' := [(6, .int rr), (5, .int kk), (0, .ref b), (1, .ref (q 0)), (2, .ref (r 0)), (3, .ref qo), (4, .int (nI (6 * t)))]) hx hb kd_L_law_231 hl (by decide) rfl (fun ls hl => ?_)
  refine lv_aload_n hx hb kd_L_law_233 rfl (lv_at hl 4 rfl) ?_
  refine hx_callRi (va_runV (As := []) (rest := []) ⟨hx, hb, hml, hown, hts⟩ hM3 (cwV 0 hts (goodIn_sub (hx_m5 km_692 km_693 km_694 km_8 km_695) (by decide +kernel)) rfl rfl rfl (by decide +kernel) ⟨Nat.le_of_ble_eq_true rfl, Nat.le_of_ble_eq_true rfl⟩) (pr_V (hC.S hS) hPm [0] (sg_one h0m) (ci := 7) rfl (q0 := 0) rfl) rfl rfl hl.1 rfl (lv_room (Nat.le_of_ble_eq_true rfl)) kd_L_law_234 ⟨show 40 + t + 1 + 0 ≤ 1093 by omega, show 2103 + 6 * t + 6 + 0 ≤ 10469 by omega⟩) ?_
  refine lv_iload hx hb kd_L_law_237 (lv_at hl 1 rfl) ?_
  refine lv_icmp_eq (tgt := 244) hx hb kd_L_law_239 (by decide) (fun _ => ?_) (fun c9 => absurd rfl c9)
  refine lv_iload hx hb kd_L_law_244 (lv_at hl 1 rfl) ?_
  refine lv_if_ne (tgt := 261) hx hb kd_L_law_246 (by decide) (fun c9 => ?_) (fun c9 => ?_)
  · refine lv_goto (tgt := 895) hx hb kd_L_law_261 (by decide) ?_
    exact back _ _ _ (lv_sub hl [2, 3, 4, 5, 6] rfl) ⟨wb1, wm1, ov1, hPb, hPm, hDb, hDm, hap, hS, hI1⟩
  · skip
    refine lv_aload_n hx hb kd_L_law_249 rfl (lv_at hl 5 rfl) ?_
    refine lv_iconst (v := 0) hx hb kd_L_law_250 (by decide) ?_
    refine hx_lald (j := 0) hx hb hK hPb 0 rfl rfl (by decide) (by decide) kd_L_law_251 ?_
    refine lv_iload hx hb kd_L_law_252 (lv_at hl 0 rfl) ?_
    refine lv_i2l hx hb kd_L_law_254 rfl ?_
    refine W.lcmp hx hb kd_L_law_255 ?_
    refine lv_if_eq (tgt := 261) hx hb kd_L_law_256 (by decide) (fun _ => ?_) (fun c8 => absurd ((lg_cmp_eq _ _).mpr (heq c9)) c8)
    refine lv_goto (tgt := 895) hx hb kd_L_law_261 (by decide) ?_
    exact back _ _ _ (lv_sub hl [2, 3, 4, 5, 6] rfl) ⟨wb1, wm1, ov1, hPb, hPm, hDb, hDm, hap, hS, hI1⟩

set_option maxHeartbeats 4000000 in
set_option maxRecDepth 100000 in
theorem lc_object {p : Program} {l : Launch} {e : Env} {s : State} {m : MethodId} {below : List Frame} {meth : Method} {c : Code} {b L : Nat} {xs : Nat → Int32} {D : va_G} {cI cL cZ : ClassId} {tb : Nat} {q r : Nat → Nat} {qo t : Nat} {Q : State → Prop} (hc : lw_C l p s m c b L xs D cI cL cZ tb) (h6 : 6 * t + 6 ≤ L) {ls : Array Slot} {H : Heap} {locs : List Loc} (hl : lv_has ls 8 [(0, .ref b), (1, .ref (q 0)), (2, .ref (r 0)), (3, .ref qo), (4, .int (nI (6 * t)))]) (hst : lw_I D cI cL cZ q r qo t s H locs) (back : ∀ (ls : Array Slot) (H : Heap) (locs : List Loc), lv_has ls 8 [(0, .ref b), (1, .ref (q 0)), (2, .ref (r 0)), (3, .ref qo), (4, .int (nI (6 * t)))] → lw_I D cI cL cZ q r qo (t + 1) s H locs → W p l e room_1 s m #[Value.ref b] below meth c H locs (40 + t + 1) (2103 + 6 * t + 6) Q (F0 m 895 ls [])) : W p l e room_1 s m #[Value.ref b] below meth c H locs (40 + t) (2103 + 6 * t) Q (F0 m 264 ls []) := by
  obtain ⟨htr, hx, hb, hml, hown, hX, hbl, hL, hC, hN⟩ := hc
  have hown : s.vm.findClass "HostBridgeLaw" = some m.cls := hown
  have hA : ∀ q : Nat, s.heap.size ≤ q → lw_A s q := fun _ h => h
  have hbA : ¬ lw_A s b := Nat.not_le.mpr hbl
  have hK := hC.K
  have hts := hC.ts #[Value.ref b]
  obtain ⟨wb, wm, ov, hPb, hPm, hDb, hDm, hap, hS, hI⟩ := hst
  obtain ⟨fr0, hm0⟩ := inv_m hI
  obtain ⟨kk, rr, ov1, heq, wb1, wm1, fr, rm2, hM1, hrm, hM2, hwb, hwm, h0m, hM3, hI1⟩ := op_object (l := l) (D := D) (tb := tb) htr (show t < 1000 by omega) hI qo ov (xs (6 * t + 1))
  refine lv_aload_n hx hb kd_L_law_264 rfl (lv_at hl 1 rfl) ?_
  refine lv_aload_n hx hb kd_L_law_265 rfl (lv_at hl 0 rfl) ?_
  refine lv_iload hx hb kd_L_law_266 (lv_at hl 4 rfl) ?_
  refine lv_iconst (v := 1) hx hb kd_L_law_268 (by decide) ?_
  refine lv_iadd hx hb kd_L_law_269 ?_
  refine hx_topi (y := nI (6 * t + 1)) (nI_add (6 * t) 1) ?_
  refine hx_sld (j := 6 * t + 1) hx hb hX hbl hbA hS (by omega) rfl (by omega) kd_L_law_270 ?_
  refine lv_aload_n hx hb kd_L_law_271 rfl (lv_at hl 3 rfl) ?_
  refine sg_call (vx_runSW (As := [.ref (q 0), .int (xs (6 * t + 1)), .ref qo]) (rest := []) ⟨hx, hb, hml, hown, hts⟩ (hM1 _) (vx_cwSW 3 hts (goodIn_sub (hx_m4 km_337 km_338 km_0 km_339) (by decide +kernel)) rfl rfl rfl (by decide +kernel) ⟨Nat.le_of_ble_eq_true rfl, Nat.le_of_ble_eq_true rfl⟩) (sg_S (hC.S hS) hN hPb hDb hS hA) rfl rfl hl.1 rfl (lv_room (Nat.le_of_ble_eq_true rfl)) kd_L_law_272 ⟨show 40 + t + 1 ≤ 1093 by omega, show 2103 + 6 * t + 6 ≤ 10469 by omega⟩) hDb hS hA (sg_mapc rfl hwb) hap hPm (fun H locs hPb hDb hPm hS => ?_)
  refine lv_istore (lv' := [(5, .int kk), (0, .ref b), (1, .ref (q 0)), (2, .ref (r 0)), (3, .ref qo), (4, .int (nI (6 * t)))]) hx hb kd_L_law_275 hl (by decide) rfl (fun ls hl => ?_)
  have hap : sg_ap (ou_ cL qo ov1 :: wb1) wm := hap.new (sg_mapc rfl hwb) rfl
  refine lv_aload_n hx hb kd_L_law_277 rfl (lv_at hl 3 rfl) ?_
  refine lv_aload_n hx hb kd_L_law_278 rfl (lv_at hl 1 rfl) ?_
  refine lv_iload hx hb kd_L_law_279 (lv_at hl 5 rfl) ?_
  refine lv_iconst (v := 1) hx hb kd_L_law_281 (by decide) ?_
  refine lv_iadd hx hb kd_L_law_282 ?_
  refine hx_topi (y := nI (6 * t + 1)) (nI_add (6 * t) 1) ?_
  refine hx_sld (j := 6 * t + 1) hx hb hX hbl hbA hS (by omega) rfl (by omega) kd_L_law_283 ?_
  refine sg_call (va_runV (As := [.int (xs (6 * t + 1))]) (rest := []) ⟨hx, hb, hml, hown, hts⟩ (hM2 _) (cwV 1 hts (goodIn_sub (hx_m5 km_719 km_720 km_721 km_8 km_722) (by decide +kernel)) rfl hrm.2.2.1 hrm.2.2.2 (by decide +kernel) ⟨show rm2.frames + 1 ≤ 10 by omega, show 8 + (3 + 11) + rm2.locals ≤ 368 by omega⟩) (sg_V (hC.S hS) hPm hDm hS hA (ci := 7) rfl hm0) rfl rfl hl.1 rfl (lv_room (Nat.le_of_ble_eq_true rfl)) kd_L_law_284 ⟨show 40 + t + 1 + 0 ≤ 1093 by omega, show 2103 + 6 * t + 6 + 0 ≤ 10469 by omega⟩) hDm hS hA hwm hap.symm hPb (fun H locs hPm hDm hPb hS => ?_)
  have hap : sg_ap (ou_ cL qo ov1 :: wb1) wm1 := hap.new rfl hwm
  refine lv_istore (lv' := [(6, .int rr), (5, .int kk), (0, .ref b), (1, .ref (q 0)), (2, .ref (r 0)), (3, .ref qo), (4, .int (nI (6 * t)))]) hx hb kd_L_law_287 hl (by decide) rfl (fun ls hl => ?_)
  refine lv_aload_n hx hb kd_L_law_289 rfl (lv_at hl 4 rfl) ?_
  refine hx_callRi (va_runV (As := []) (rest := []) ⟨hx, hb, hml, hown, hts⟩ hM3 (cwV 0 hts (goodIn_sub (hx_m5 km_692 km_693 km_694 km_8 km_695) (by decide +kernel)) rfl rfl rfl (by decide +kernel) ⟨Nat.le_of_ble_eq_true rfl, Nat.le_of_ble_eq_true rfl⟩) (pr_V (hC.S hS) hPm [0] (sg_one h0m) (ci := 7) rfl (q0 := 0) rfl) rfl rfl hl.1 rfl (lv_room (Nat.le_of_ble_eq_true rfl)) kd_L_law_290 ⟨show 40 + t + 1 + 0 ≤ 1093 by omega, show 2103 + 6 * t + 6 + 0 ≤ 10469 by omega⟩) ?_
  refine lv_iload hx hb kd_L_law_293 (lv_at hl 1 rfl) ?_
  refine lv_icmp_eq (tgt := 300) hx hb kd_L_law_295 (by decide) (fun _ => ?_) (fun c9 => absurd rfl c9)
  refine lv_iload hx hb kd_L_law_300 (lv_at hl 1 rfl) ?_
  refine lv_if_ne (tgt := 317) hx hb kd_L_law_302 (by decide) (fun c9 => ?_) (fun c9 => ?_)
  · refine lv_goto (tgt := 895) hx hb kd_L_law_317 (by decide) ?_
    exact back _ _ _ (lv_sub hl [2, 3, 4, 5, 6] rfl) ⟨wb1, wm1, ov1, hPb, hPm, hDb, hDm, hap, hS, hI1⟩
  · skip
    refine lv_aload_n hx hb kd_L_law_305 rfl (lv_at hl 5 rfl) ?_
    refine lv_iconst (v := 0) hx hb kd_L_law_306 (by decide) ?_
    refine hx_lald (j := 0) hx hb hK hPb 0 rfl rfl (by decide) (by decide) kd_L_law_307 ?_
    refine lv_iload hx hb kd_L_law_308 (lv_at hl 0 rfl) ?_
    refine lv_i2l hx hb kd_L_law_310 rfl ?_
    refine W.lcmp hx hb kd_L_law_311 ?_
    refine lv_if_eq (tgt := 317) hx hb kd_L_law_312 (by decide) (fun _ => ?_) (fun c8 => absurd ((lg_cmp_eq _ _).mpr (heq c9)) c8)
    refine lv_goto (tgt := 895) hx hb kd_L_law_317 (by decide) ?_
    exact back _ _ _ (lv_sub hl [2, 3, 4, 5, 6] rfl) ⟨wb1, wm1, ov1, hPb, hPm, hDb, hDm, hap, hS, hI1⟩

set_option maxHeartbeats 4000000 in
set_option maxRecDepth 100000 in
theorem lc_argument {p : Program} {l : Launch} {e : Env} {s : State} {m : MethodId} {below : List Frame} {meth : Method} {c : Code} {b L : Nat} {xs : Nat → Int32} {D : va_G} {cI cL cZ : ClassId} {tb : Nat} {q r : Nat → Nat} {qo t : Nat} {Q : State → Prop} (hc : lw_C l p s m c b L xs D cI cL cZ tb) (h6 : 6 * t + 6 ≤ L) {ls : Array Slot} {H : Heap} {locs : List Loc} (hl : lv_has ls 8 [(0, .ref b), (1, .ref (q 0)), (2, .ref (r 0)), (3, .ref qo), (4, .int (nI (6 * t)))]) (hst : lw_I D cI cL cZ q r qo t s H locs) (back : ∀ (ls : Array Slot) (H : Heap) (locs : List Loc), lv_has ls 8 [(0, .ref b), (1, .ref (q 0)), (2, .ref (r 0)), (3, .ref qo), (4, .int (nI (6 * t)))] → lw_I D cI cL cZ q r qo (t + 1) s H locs → W p l e room_1 s m #[Value.ref b] below meth c H locs (40 + t + 1) (2103 + 6 * t + 6) Q (F0 m 895 ls [])) : W p l e room_1 s m #[Value.ref b] below meth c H locs (40 + t) (2103 + 6 * t) Q (F0 m 320 ls []) := by
  obtain ⟨htr, hx, hb, hml, hown, hX, hbl, hL, hC, hN⟩ := hc
  have hown : s.vm.findClass "HostBridgeLaw" = some m.cls := hown
  have hA : ∀ q : Nat, s.heap.size ≤ q → lw_A s q := fun _ h => h
  have hbA : ¬ lw_A s b := Nat.not_le.mpr hbl
  have hK := hC.K
  have hts := hC.ts #[Value.ref b]
  obtain ⟨wb, wm, ov, hPb, hPm, hDb, hDm, hap, hS, hI⟩ := hst
  obtain ⟨fr0, hm0⟩ := inv_m hI
  obtain ⟨b1, hb1⟩ : ∃ y : Int64, y = (((xs (6 * t + 2)).toInt64) <<< ((32 : Int32).toInt64 &&& 63)) ||| (((xs (6 * t + 3)).toInt64) &&& 4294967295) := ⟨_, rfl⟩
  obtain ⟨kk, rr, ov1, heq, wb1, wm1, fr, rm2, hM1, hrm, hM2, hwb, hwm, h0m, hM3, hI1⟩ := op_argument (l := l) (D := D) (tb := tb) htr (show t < 1000 by omega) hI qo ov (xs (6 * t + 1)) b1
  refine lv_aload_n hx hb kd_L_law_320 rfl (lv_at hl 1 rfl) ?_
  refine lv_aload_n hx hb kd_L_law_321 rfl (lv_at hl 0 rfl) ?_
  refine lv_iload hx hb kd_L_law_322 (lv_at hl 4 rfl) ?_
  refine lv_iconst (v := 1) hx hb kd_L_law_324 (by decide) ?_
  refine lv_iadd hx hb kd_L_law_325 ?_
  refine hx_topi (y := nI (6 * t + 1)) (nI_add (6 * t) 1) ?_
  refine hx_sld (j := 6 * t + 1) hx hb hX hbl hbA hS (by omega) rfl (by omega) kd_L_law_326 ?_
  refine lv_aload_n hx hb kd_L_law_327 rfl (lv_at hl 0 rfl) ?_
  refine lv_iload hx hb kd_L_law_328 (lv_at hl 4 rfl) ?_
  refine lv_iconst (v := 2) hx hb kd_L_law_330 (by decide) ?_
  refine lv_iadd hx hb kd_L_law_331 ?_
  refine hx_topi (y := nI (6 * t + 2)) (nI_add (6 * t) 2) ?_
  refine hx_sld (j := 6 * t + 2) hx hb hX hbl hbA hS (by omega) rfl (by omega) kd_L_law_332 ?_
  refine lv_i2l hx hb kd_L_law_333 rfl ?_
  refine lv_bipush (v := 32) hx hb kd_L_law_334 (by decide) ?_
  refine lv_lshl hx hb kd_L_law_336 rfl ?_
  refine lv_aload_n hx hb kd_L_law_337 rfl (lv_at hl 0 rfl) ?_
  refine lv_iload hx hb kd_L_law_338 (lv_at hl 4 rfl) ?_
  refine lv_iconst (v := 3) hx hb kd_L_law_340 (by decide) ?_
  refine lv_iadd hx hb kd_L_law_341 ?_
  refine hx_topi (y := nI (6 * t + 3)) (nI_add (6 * t) 3) ?_
  refine hx_sld (j := 6 * t + 3) hx hb hX hbl hbA hS (by omega) rfl (by omega) kd_L_law_342 ?_
  refine lv_i2l hx hb kd_L_law_343 rfl ?_
  refine lv_ldc2 (v := 4294967295) hx hb hown (hts _ km_815) kd_L_law_344 ?_
  refine lv_land hx hb kd_L_law_347 ?_
  refine lv_lor hx hb kd_L_law_348 ?_
  refine hx_topl (y := b1) hb1.symm ?_
  refine lv_aload_n hx hb kd_L_law_349 rfl (lv_at hl 3 rfl) ?_
  refine sg_call (vx_runSW (As := [.ref (q 0), .int (xs (6 * t + 1)), .long b1, .ref qo]) (rest := []) ⟨hx, hb, hml, hown, hts⟩ (hM1 _) (vx_cwSW 4 hts (goodIn_sub (hx_m4 km_349 km_350 km_0 km_351) (by decide +kernel)) rfl rfl rfl (by decide +kernel) ⟨Nat.le_of_ble_eq_true rfl, Nat.le_of_ble_eq_true rfl⟩) (sg_S (hC.S hS) hN hPb hDb hS hA) rfl rfl hl.1 rfl (lv_room (Nat.le_of_ble_eq_true rfl)) kd_L_law_350 ⟨show 40 + t + 1 ≤ 1093 by omega, show 2103 + 6 * t + 6 ≤ 10469 by omega⟩) hDb hS hA (sg_mapc rfl hwb) hap hPm (fun H locs hPb hDb hPm hS => ?_)
  refine lv_istore (lv' := [(5, .int kk), (0, .ref b), (1, .ref (q 0)), (2, .ref (r 0)), (3, .ref qo), (4, .int (nI (6 * t)))]) hx hb kd_L_law_353 hl (by decide) rfl (fun ls hl => ?_)
  have hap : sg_ap (ou_ cL qo ov1 :: wb1) wm := hap.new (sg_mapc rfl hwb) rfl
  refine lv_aload_n hx hb kd_L_law_355 rfl (lv_at hl 3 rfl) ?_
  refine lv_aload_n hx hb kd_L_law_356 rfl (lv_at hl 1 rfl) ?_
  refine lv_iload hx hb kd_L_law_357 (lv_at hl 5 rfl) ?_
  refine lv_iconst (v := 1) hx hb kd_L_law_359 (by decide) ?_
  refine lv_iadd hx hb kd_L_law_360 ?_
  refine hx_topi (y := nI (6 * t + 1)) (nI_add (6 * t) 1) ?_
  refine hx_sld (j := 6 * t + 1) hx hb hX hbl hbA hS (by omega) rfl (by omega) kd_L_law_361 ?_
  refine lv_aload_n hx hb kd_L_law_362 rfl (lv_at hl 1 rfl) ?_
  refine lv_iload hx hb kd_L_law_363 (lv_at hl 5 rfl) ?_
  refine lv_iconst (v := 2) hx hb kd_L_law_365 (by decide) ?_
  refine lv_iadd hx hb kd_L_law_366 ?_
  refine hx_topi (y := nI (6 * t + 2)) (nI_add (6 * t) 2) ?_
  refine hx_sld (j := 6 * t + 2) hx hb hX hbl hbA hS (by omega) rfl (by omega) kd_L_law_367 ?_
  refine lv_i2l hx hb kd_L_law_368 rfl ?_
  refine lv_bipush (v := 32) hx hb kd_L_law_369 (by decide) ?_
  refine lv_lshl hx hb kd_L_law_371 rfl ?_
  refine lv_aload_n hx hb kd_L_law_372 rfl (lv_at hl 1 rfl) ?_
  refine lv_iload hx hb kd_L_law_373 (lv_at hl 5 rfl) ?_
  refine lv_iconst (v := 3) hx hb kd_L_law_375 (by decide) ?_
  refine lv_iadd hx hb kd_L_law_376 ?_
  refine hx_topi (y := nI (6 * t + 3)) (nI_add (6 * t) 3) ?_
  refine hx_sld (j := 6 * t + 3) hx hb hX hbl hbA hS (by omega) rfl (by omega) kd_L_law_377 ?_
  refine lv_i2l hx hb kd_L_law_378 rfl ?_
  refine lv_ldc2 (v := 4294967295) hx hb hown (hts _ km_815) kd_L_law_379 ?_
  refine lv_land hx hb kd_L_law_382 ?_
  refine lv_lor hx hb kd_L_law_383 ?_
  refine hx_topl (y := b1) hb1.symm ?_
  refine sg_call (va_runV (As := [.int (xs (6 * t + 1)), .long b1]) (rest := []) ⟨hx, hb, hml, hown, hts⟩ (hM2 _) (cwV 2 hts (goodIn_sub (hx_m5 km_723 km_724 km_725 km_8 km_726) (by decide +kernel)) rfl hrm.2.2.1 hrm.2.2.2 (by decide +kernel) ⟨show rm2.frames + 1 ≤ 10 by omega, show 8 + (5 + 11) + rm2.locals ≤ 368 by omega⟩) (sg_V (hC.S hS) hPm hDm hS hA (ci := 7) rfl hm0) rfl rfl hl.1 rfl (lv_room (Nat.le_of_ble_eq_true rfl)) kd_L_law_384 ⟨show 40 + t + 1 + 0 ≤ 1093 by omega, show 2103 + 6 * t + 6 + 0 ≤ 10469 by omega⟩) hDm hS hA hwm hap.symm hPb (fun H locs hPm hDm hPb hS => ?_)
  have hap : sg_ap (ou_ cL qo ov1 :: wb1) wm1 := hap.new rfl hwm
  refine lv_istore (lv' := [(6, .int rr), (5, .int kk), (0, .ref b), (1, .ref (q 0)), (2, .ref (r 0)), (3, .ref qo), (4, .int (nI (6 * t)))]) hx hb kd_L_law_387 hl (by decide) rfl (fun ls hl => ?_)
  refine lv_aload_n hx hb kd_L_law_389 rfl (lv_at hl 4 rfl) ?_
  refine hx_callRi (va_runV (As := []) (rest := []) ⟨hx, hb, hml, hown, hts⟩ hM3 (cwV 0 hts (goodIn_sub (hx_m5 km_692 km_693 km_694 km_8 km_695) (by decide +kernel)) rfl rfl rfl (by decide +kernel) ⟨Nat.le_of_ble_eq_true rfl, Nat.le_of_ble_eq_true rfl⟩) (pr_V (hC.S hS) hPm [0] (sg_one h0m) (ci := 7) rfl (q0 := 0) rfl) rfl rfl hl.1 rfl (lv_room (Nat.le_of_ble_eq_true rfl)) kd_L_law_390 ⟨show 40 + t + 1 + 0 ≤ 1093 by omega, show 2103 + 6 * t + 6 + 0 ≤ 10469 by omega⟩) ?_
  refine lv_iload hx hb kd_L_law_393 (lv_at hl 1 rfl) ?_
  refine lv_icmp_eq (tgt := 400) hx hb kd_L_law_395 (by decide) (fun _ => ?_) (fun c9 => absurd rfl c9)
  refine lv_iload hx hb kd_L_law_400 (lv_at hl 1 rfl) ?_
  refine lv_if_ne (tgt := 417) hx hb kd_L_law_402 (by decide) (fun c9 => ?_) (fun c9 => ?_)
  · refine lv_goto (tgt := 895) hx hb kd_L_law_417 (by decide) ?_
    exact back _ _ _ (lv_sub hl [2, 3, 4, 5, 6] rfl) ⟨wb1, wm1, ov1, hPb, hPm, hDb, hDm, hap, hS, hI1⟩
  · skip
    refine lv_aload_n hx hb kd_L_law_405 rfl (lv_at hl 5 rfl) ?_
    refine lv_iconst (v := 0) hx hb kd_L_law_406 (by decide) ?_
    refine hx_lald (j := 0) hx hb hK hPb 0 rfl rfl (by decide) (by decide) kd_L_law_407 ?_
    refine lv_iload hx hb kd_L_law_408 (lv_at hl 0 rfl) ?_
    refine lv_i2l hx hb kd_L_law_410 rfl ?_
    refine W.lcmp hx hb kd_L_law_411 ?_
    refine lv_if_eq (tgt := 417) hx hb kd_L_law_412 (by decide) (fun _ => ?_) (fun c8 => absurd ((lg_cmp_eq _ _).mpr (heq c9)) c8)
    refine lv_goto (tgt := 895) hx hb kd_L_law_417 (by decide) ?_
    exact back _ _ _ (lv_sub hl [2, 3, 4, 5, 6] rfl) ⟨wb1, wm1, ov1, hPb, hPm, hDb, hDm, hap, hS, hI1⟩

set_option maxHeartbeats 4000000 in
set_option maxRecDepth 100000 in
theorem lc_weight {p : Program} {l : Launch} {e : Env} {s : State} {m : MethodId} {below : List Frame} {meth : Method} {c : Code} {b L : Nat} {xs : Nat → Int32} {D : va_G} {cI cL cZ : ClassId} {tb : Nat} {q r : Nat → Nat} {qo t : Nat} {Q : State → Prop} (hc : lw_C l p s m c b L xs D cI cL cZ tb) (h6 : 6 * t + 6 ≤ L) {ls : Array Slot} {H : Heap} {locs : List Loc} (hl : lv_has ls 8 [(0, .ref b), (1, .ref (q 0)), (2, .ref (r 0)), (3, .ref qo), (4, .int (nI (6 * t)))]) (hst : lw_I D cI cL cZ q r qo t s H locs) (back : ∀ (ls : Array Slot) (H : Heap) (locs : List Loc), lv_has ls 8 [(0, .ref b), (1, .ref (q 0)), (2, .ref (r 0)), (3, .ref qo), (4, .int (nI (6 * t)))] → lw_I D cI cL cZ q r qo (t + 1) s H locs → W p l e room_1 s m #[Value.ref b] below meth c H locs (40 + t + 1) (2103 + 6 * t + 6) Q (F0 m 895 ls [])) : W p l e room_1 s m #[Value.ref b] below meth c H locs (40 + t) (2103 + 6 * t) Q (F0 m 420 ls []) := by
  obtain ⟨htr, hx, hb, hml, hown, hX, hbl, hL, hC, hN⟩ := hc
  have hown : s.vm.findClass "HostBridgeLaw" = some m.cls := hown
  have hA : ∀ q : Nat, s.heap.size ≤ q → lw_A s q := fun _ h => h
  have hbA : ¬ lw_A s b := Nat.not_le.mpr hbl
  have hK := hC.K
  have hts := hC.ts #[Value.ref b]
  obtain ⟨wb, wm, ov, hPb, hPm, hDb, hDm, hap, hS, hI⟩ := hst
  obtain ⟨fr0, hm0⟩ := inv_m hI
  obtain ⟨kk, rr, ov1, heq, wb1, wm1, fr, rm2, hM1, hrm, hM2, hwb, hwm, h0m, hM3, hI1⟩ := op_weight (l := l) (D := D) (tb := tb) htr (show t < 1000 by omega) hI qo ov (xs (6 * t + 1)) (xs (6 * t + 2))
  refine lv_aload_n hx hb kd_L_law_420 rfl (lv_at hl 1 rfl) ?_
  refine lv_aload_n hx hb kd_L_law_421 rfl (lv_at hl 0 rfl) ?_
  refine lv_iload hx hb kd_L_law_422 (lv_at hl 4 rfl) ?_
  refine lv_iconst (v := 1) hx hb kd_L_law_424 (by decide) ?_
  refine lv_iadd hx hb kd_L_law_425 ?_
  refine hx_topi (y := nI (6 * t + 1)) (nI_add (6 * t) 1) ?_
  refine hx_sld (j := 6 * t + 1) hx hb hX hbl hbA hS (by omega) rfl (by omega) kd_L_law_426 ?_
  refine lv_aload_n hx hb kd_L_law_427 rfl (lv_at hl 0 rfl) ?_
  refine lv_iload hx hb kd_L_law_428 (lv_at hl 4 rfl) ?_
  refine lv_iconst (v := 2) hx hb kd_L_law_430 (by decide) ?_
  refine lv_iadd hx hb kd_L_law_431 ?_
  refine hx_topi (y := nI (6 * t + 2)) (nI_add (6 * t) 2) ?_
  refine hx_sld (j := 6 * t + 2) hx hb hX hbl hbA hS (by omega) rfl (by omega) kd_L_law_432 ?_
  refine lv_aload_n hx hb kd_L_law_433 rfl (lv_at hl 3 rfl) ?_
  refine sg_call (vx_runSW (As := [.ref (q 0), .int (xs (6 * t + 1)), .int (xs (6 * t + 2)), .ref qo]) (rest := []) ⟨hx, hb, hml, hown, hts⟩ (hM1 _) (vx_cwSW 4 hts (goodIn_sub (hx_m4 km_396 km_397 km_0 km_398) (by decide +kernel)) rfl rfl rfl (by decide +kernel) ⟨Nat.le_of_ble_eq_true rfl, Nat.le_of_ble_eq_true rfl⟩) (sg_S (hC.S hS) hN hPb hDb hS hA) rfl rfl hl.1 rfl (lv_room (Nat.le_of_ble_eq_true rfl)) kd_L_law_434 ⟨show 40 + t + 1 ≤ 1093 by omega, show 2103 + 6 * t + 6 ≤ 10469 by omega⟩) hDb hS hA (sg_mapc rfl hwb) hap hPm (fun H locs hPb hDb hPm hS => ?_)
  refine lv_istore (lv' := [(5, .int kk), (0, .ref b), (1, .ref (q 0)), (2, .ref (r 0)), (3, .ref qo), (4, .int (nI (6 * t)))]) hx hb kd_L_law_437 hl (by decide) rfl (fun ls hl => ?_)
  have hap : sg_ap (ou_ cL qo ov1 :: wb1) wm := hap.new (sg_mapc rfl hwb) rfl
  refine lv_aload_n hx hb kd_L_law_439 rfl (lv_at hl 3 rfl) ?_
  refine lv_aload_n hx hb kd_L_law_440 rfl (lv_at hl 1 rfl) ?_
  refine lv_iload hx hb kd_L_law_441 (lv_at hl 5 rfl) ?_
  refine lv_iconst (v := 1) hx hb kd_L_law_443 (by decide) ?_
  refine lv_iadd hx hb kd_L_law_444 ?_
  refine hx_topi (y := nI (6 * t + 1)) (nI_add (6 * t) 1) ?_
  refine hx_sld (j := 6 * t + 1) hx hb hX hbl hbA hS (by omega) rfl (by omega) kd_L_law_445 ?_
  refine lv_aload_n hx hb kd_L_law_446 rfl (lv_at hl 1 rfl) ?_
  refine lv_iload hx hb kd_L_law_447 (lv_at hl 5 rfl) ?_
  refine lv_iconst (v := 2) hx hb kd_L_law_449 (by decide) ?_
  refine lv_iadd hx hb kd_L_law_450 ?_
  refine hx_topi (y := nI (6 * t + 2)) (nI_add (6 * t) 2) ?_
  refine hx_sld (j := 6 * t + 2) hx hb hX hbl hbA hS (by omega) rfl (by omega) kd_L_law_451 ?_
  refine sg_call (va_runV (As := [.int (xs (6 * t + 1)), .int (xs (6 * t + 2))]) (rest := []) ⟨hx, hb, hml, hown, hts⟩ (hM2 _) (cwV 2 hts (goodIn_sub (hx_m5 km_727 km_728 km_729 km_8 km_730) (by decide +kernel)) rfl hrm.2.2.1 hrm.2.2.2 (by decide +kernel) ⟨show rm2.frames + 1 ≤ 10 by omega, show 8 + (3 + 11) + rm2.locals ≤ 368 by omega⟩) (sg_V (hC.S hS) hPm hDm hS hA (ci := 7) rfl hm0) rfl rfl hl.1 rfl (lv_room (Nat.le_of_ble_eq_true rfl)) kd_L_law_452 ⟨show 40 + t + 1 + 0 ≤ 1093 by omega, show 2103 + 6 * t + 6 + 0 ≤ 10469 by omega⟩) hDm hS hA hwm hap.symm hPb (fun H locs hPm hDm hPb hS => ?_)
  have hap : sg_ap (ou_ cL qo ov1 :: wb1) wm1 := hap.new rfl hwm
  refine lv_istore (lv' := [(6, .int rr), (5, .int kk), (0, .ref b), (1, .ref (q 0)), (2, .ref (r 0)), (3, .ref qo), (4, .int (nI (6 * t)))]) hx hb kd_L_law_455 hl (by decide) rfl (fun ls hl => ?_)
  refine lv_aload_n hx hb kd_L_law_457 rfl (lv_at hl 4 rfl) ?_
  refine hx_callRi (va_runV (As := []) (rest := []) ⟨hx, hb, hml, hown, hts⟩ hM3 (cwV 0 hts (goodIn_sub (hx_m5 km_692 km_693 km_694 km_8 km_695) (by decide +kernel)) rfl rfl rfl (by decide +kernel) ⟨Nat.le_of_ble_eq_true rfl, Nat.le_of_ble_eq_true rfl⟩) (pr_V (hC.S hS) hPm [0] (sg_one h0m) (ci := 7) rfl (q0 := 0) rfl) rfl rfl hl.1 rfl (lv_room (Nat.le_of_ble_eq_true rfl)) kd_L_law_458 ⟨show 40 + t + 1 + 0 ≤ 1093 by omega, show 2103 + 6 * t + 6 + 0 ≤ 10469 by omega⟩) ?_
  refine lv_iload hx hb kd_L_law_461 (lv_at hl 1 rfl) ?_
  refine lv_icmp_eq (tgt := 468) hx hb kd_L_law_463 (by decide) (fun _ => ?_) (fun c9 => absurd rfl c9)
  refine lv_iload hx hb kd_L_law_468 (lv_at hl 1 rfl) ?_
  refine lv_if_ne (tgt := 485) hx hb kd_L_law_470 (by decide) (fun c9 => ?_) (fun c9 => ?_)
  · refine lv_goto (tgt := 895) hx hb kd_L_law_485 (by decide) ?_
    exact back _ _ _ (lv_sub hl [2, 3, 4, 5, 6] rfl) ⟨wb1, wm1, ov1, hPb, hPm, hDb, hDm, hap, hS, hI1⟩
  · skip
    refine lv_aload_n hx hb kd_L_law_473 rfl (lv_at hl 5 rfl) ?_
    refine lv_iconst (v := 0) hx hb kd_L_law_474 (by decide) ?_
    refine hx_lald (j := 0) hx hb hK hPb 0 rfl rfl (by decide) (by decide) kd_L_law_475 ?_
    refine lv_iload hx hb kd_L_law_476 (lv_at hl 0 rfl) ?_
    refine lv_i2l hx hb kd_L_law_478 rfl ?_
    refine W.lcmp hx hb kd_L_law_479 ?_
    refine lv_if_eq (tgt := 485) hx hb kd_L_law_480 (by decide) (fun _ => ?_) (fun c8 => absurd ((lg_cmp_eq _ _).mpr (heq c9)) c8)
    refine lv_goto (tgt := 895) hx hb kd_L_law_485 (by decide) ?_
    exact back _ _ _ (lv_sub hl [2, 3, 4, 5, 6] rfl) ⟨wb1, wm1, ov1, hPb, hPm, hDb, hDm, hap, hS, hI1⟩

set_option maxHeartbeats 4000000 in
set_option maxRecDepth 100000 in
theorem lc_call {p : Program} {l : Launch} {e : Env} {s : State} {m : MethodId} {below : List Frame} {meth : Method} {c : Code} {b L : Nat} {xs : Nat → Int32} {D : va_G} {cI cL cZ : ClassId} {tb : Nat} {q r : Nat → Nat} {qo t : Nat} {Q : State → Prop} (hc : lw_C l p s m c b L xs D cI cL cZ tb) (h6 : 6 * t + 6 ≤ L) {ls : Array Slot} {H : Heap} {locs : List Loc} (hl : lv_has ls 8 [(0, .ref b), (1, .ref (q 0)), (2, .ref (r 0)), (3, .ref qo), (4, .int (nI (6 * t)))]) (hst : lw_I D cI cL cZ q r qo t s H locs) (back : ∀ (ls : Array Slot) (H : Heap) (locs : List Loc), lv_has ls 8 [(0, .ref b), (1, .ref (q 0)), (2, .ref (r 0)), (3, .ref qo), (4, .int (nI (6 * t)))] → lw_I D cI cL cZ q r qo (t + 1) s H locs → W p l e room_1 s m #[Value.ref b] below meth c H locs (40 + t + 1) (2103 + 6 * t + 6) Q (F0 m 895 ls [])) : W p l e room_1 s m #[Value.ref b] below meth c H locs (40 + t) (2103 + 6 * t) Q (F0 m 488 ls []) := by
  obtain ⟨htr, hx, hb, hml, hown, hX, hbl, hL, hC, hN⟩ := hc
  have hown : s.vm.findClass "HostBridgeLaw" = some m.cls := hown
  have hA : ∀ q : Nat, s.heap.size ≤ q → lw_A s q := fun _ h => h
  have hbA : ¬ lw_A s b := Nat.not_le.mpr hbl
  have hK := hC.K
  have hts := hC.ts #[Value.ref b]
  obtain ⟨wb, wm, ov, hPb, hPm, hDb, hDm, hap, hS, hI⟩ := hst
  obtain ⟨fr0, hm0⟩ := inv_m hI
  obtain ⟨kk, rr, ov1, heq, wb1, wm1, fr, rm2, hM1, hrm, hM2, hwb, hwm, h0m, hM3, hI1⟩ := op_call (l := l) (D := D) (tb := tb) htr (show t < 1000 by omega) hI qo ov (xs (6 * t + 1)) (xs (6 * t + 2))
  refine lv_aload_n hx hb kd_L_law_488 rfl (lv_at hl 1 rfl) ?_
  refine lv_aload_n hx hb kd_L_law_489 rfl (lv_at hl 0 rfl) ?_
  refine lv_iload hx hb kd_L_law_490 (lv_at hl 4 rfl) ?_
  refine lv_iconst (v := 1) hx hb kd_L_law_492 (by decide) ?_
  refine lv_iadd hx hb kd_L_law_493 ?_
  refine hx_topi (y := nI (6 * t + 1)) (nI_add (6 * t) 1) ?_
  refine hx_sld (j := 6 * t + 1) hx hb hX hbl hbA hS (by omega) rfl (by omega) kd_L_law_494 ?_
  refine lv_aload_n hx hb kd_L_law_495 rfl (lv_at hl 0 rfl) ?_
  refine lv_iload hx hb kd_L_law_496 (lv_at hl 4 rfl) ?_
  refine lv_iconst (v := 2) hx hb kd_L_law_498 (by decide) ?_
  refine lv_iadd hx hb kd_L_law_499 ?_
  refine hx_topi (y := nI (6 * t + 2)) (nI_add (6 * t) 2) ?_
  refine hx_sld (j := 6 * t + 2) hx hb hX hbl hbA hS (by omega) rfl (by omega) kd_L_law_500 ?_
  refine lv_aload_n hx hb kd_L_law_501 rfl (lv_at hl 3 rfl) ?_
  refine sg_call (vx_runSW (As := [.ref (q 0), .int (xs (6 * t + 1)), .int (xs (6 * t + 2)), .ref qo]) (rest := []) ⟨hx, hb, hml, hown, hts⟩ (hM1 _) (vx_cwSW 4 hts (goodIn_sub (hx_m4 km_414 km_415 km_0 km_416) (by decide +kernel)) rfl rfl rfl (by decide +kernel) ⟨Nat.le_of_ble_eq_true rfl, Nat.le_of_ble_eq_true rfl⟩) (sg_S (hC.S hS) hN hPb hDb hS hA) rfl rfl hl.1 rfl (lv_room (Nat.le_of_ble_eq_true rfl)) kd_L_law_502 ⟨show 40 + t + 1 ≤ 1093 by omega, show 2103 + 6 * t + 6 ≤ 10469 by omega⟩) hDb hS hA (sg_mapc rfl hwb) hap hPm (fun H locs hPb hDb hPm hS => ?_)
  refine lv_istore (lv' := [(5, .int kk), (0, .ref b), (1, .ref (q 0)), (2, .ref (r 0)), (3, .ref qo), (4, .int (nI (6 * t)))]) hx hb kd_L_law_505 hl (by decide) rfl (fun ls hl => ?_)
  have hap : sg_ap (ou_ cL qo ov1 :: wb1) wm := hap.new (sg_mapc rfl hwb) rfl
  refine lv_aload_n hx hb kd_L_law_507 rfl (lv_at hl 3 rfl) ?_
  refine lv_aload_n hx hb kd_L_law_508 rfl (lv_at hl 1 rfl) ?_
  refine lv_iload hx hb kd_L_law_509 (lv_at hl 5 rfl) ?_
  refine lv_iconst (v := 1) hx hb kd_L_law_511 (by decide) ?_
  refine lv_iadd hx hb kd_L_law_512 ?_
  refine hx_topi (y := nI (6 * t + 1)) (nI_add (6 * t) 1) ?_
  refine hx_sld (j := 6 * t + 1) hx hb hX hbl hbA hS (by omega) rfl (by omega) kd_L_law_513 ?_
  refine lv_aload_n hx hb kd_L_law_514 rfl (lv_at hl 1 rfl) ?_
  refine lv_iload hx hb kd_L_law_515 (lv_at hl 5 rfl) ?_
  refine lv_iconst (v := 2) hx hb kd_L_law_517 (by decide) ?_
  refine lv_iadd hx hb kd_L_law_518 ?_
  refine hx_topi (y := nI (6 * t + 2)) (nI_add (6 * t) 2) ?_
  refine hx_sld (j := 6 * t + 2) hx hb hX hbl hbA hS (by omega) rfl (by omega) kd_L_law_519 ?_
  refine sg_call (va_runV (As := [.int (xs (6 * t + 1)), .int (xs (6 * t + 2))]) (rest := []) ⟨hx, hb, hml, hown, hts⟩ (hM2 _) (cwV 2 hts (goodIn_sub (hx_m5 km_753 km_754 km_755 km_8 km_756) (by decide +kernel)) rfl hrm.2.2.1 hrm.2.2.2 (by decide +kernel) ⟨show rm2.frames + 1 ≤ 10 by omega, show 8 + (8 + 11) + rm2.locals ≤ 368 by omega⟩) (sg_V (hC.S hS) hPm hDm hS hA (ci := 7) rfl hm0) rfl rfl hl.1 rfl (lv_room (Nat.le_of_ble_eq_true rfl)) kd_L_law_520 ⟨show 40 + t + 1 + 0 ≤ 1093 by omega, show 2103 + 6 * t + 6 + 0 ≤ 10469 by omega⟩) hDm hS hA hwm hap.symm hPb (fun H locs hPm hDm hPb hS => ?_)
  have hap : sg_ap (ou_ cL qo ov1 :: wb1) wm1 := hap.new rfl hwm
  refine lv_istore (lv' := [(6, .int rr), (5, .int kk), (0, .ref b), (1, .ref (q 0)), (2, .ref (r 0)), (3, .ref qo), (4, .int (nI (6 * t)))]) hx hb kd_L_law_523 hl (by decide) rfl (fun ls hl => ?_)
  refine lv_aload_n hx hb kd_L_law_525 rfl (lv_at hl 4 rfl) ?_
  refine hx_callRi (va_runV (As := []) (rest := []) ⟨hx, hb, hml, hown, hts⟩ hM3 (cwV 0 hts (goodIn_sub (hx_m5 km_692 km_693 km_694 km_8 km_695) (by decide +kernel)) rfl rfl rfl (by decide +kernel) ⟨Nat.le_of_ble_eq_true rfl, Nat.le_of_ble_eq_true rfl⟩) (pr_V (hC.S hS) hPm [0] (sg_one h0m) (ci := 7) rfl (q0 := 0) rfl) rfl rfl hl.1 rfl (lv_room (Nat.le_of_ble_eq_true rfl)) kd_L_law_526 ⟨show 40 + t + 1 + 0 ≤ 1093 by omega, show 2103 + 6 * t + 6 + 0 ≤ 10469 by omega⟩) ?_
  refine lv_iload hx hb kd_L_law_529 (lv_at hl 1 rfl) ?_
  refine lv_icmp_eq (tgt := 536) hx hb kd_L_law_531 (by decide) (fun _ => ?_) (fun c9 => absurd rfl c9)
  refine lv_iload hx hb kd_L_law_536 (lv_at hl 1 rfl) ?_
  refine lv_if_ne (tgt := 553) hx hb kd_L_law_538 (by decide) (fun c9 => ?_) (fun c9 => ?_)
  · refine lv_goto (tgt := 895) hx hb kd_L_law_553 (by decide) ?_
    exact back _ _ _ (lv_sub hl [2, 3, 4, 5, 6] rfl) ⟨wb1, wm1, ov1, hPb, hPm, hDb, hDm, hap, hS, hI1⟩
  · skip
    refine lv_aload_n hx hb kd_L_law_541 rfl (lv_at hl 5 rfl) ?_
    refine lv_iconst (v := 0) hx hb kd_L_law_542 (by decide) ?_
    refine hx_lald (j := 0) hx hb hK hPb 0 rfl rfl (by decide) (by decide) kd_L_law_543 ?_
    refine lv_iload hx hb kd_L_law_544 (lv_at hl 0 rfl) ?_
    refine lv_i2l hx hb kd_L_law_546 rfl ?_
    refine W.lcmp hx hb kd_L_law_547 ?_
    refine lv_if_eq (tgt := 553) hx hb kd_L_law_548 (by decide) (fun _ => ?_) (fun c8 => absurd ((lg_cmp_eq _ _).mpr (heq c9)) c8)
    refine lv_goto (tgt := 895) hx hb kd_L_law_553 (by decide) ?_
    exact back _ _ _ (lv_sub hl [2, 3, 4, 5, 6] rfl) ⟨wb1, wm1, ov1, hPb, hPm, hDb, hDm, hap, hS, hI1⟩

set_option maxHeartbeats 4000000 in
set_option maxRecDepth 100000 in
theorem lc_exact {p : Program} {l : Launch} {e : Env} {s : State} {m : MethodId} {below : List Frame} {meth : Method} {c : Code} {b L : Nat} {xs : Nat → Int32} {D : va_G} {cI cL cZ : ClassId} {tb : Nat} {q r : Nat → Nat} {qo t : Nat} {Q : State → Prop} (hc : lw_C l p s m c b L xs D cI cL cZ tb) (h6 : 6 * t + 6 ≤ L) {ls : Array Slot} {H : Heap} {locs : List Loc} (hl : lv_has ls 8 [(0, .ref b), (1, .ref (q 0)), (2, .ref (r 0)), (3, .ref qo), (4, .int (nI (6 * t)))]) (hst : lw_I D cI cL cZ q r qo t s H locs) (back : ∀ (ls : Array Slot) (H : Heap) (locs : List Loc), lv_has ls 8 [(0, .ref b), (1, .ref (q 0)), (2, .ref (r 0)), (3, .ref qo), (4, .int (nI (6 * t)))] → lw_I D cI cL cZ q r qo (t + 1) s H locs → W p l e room_1 s m #[Value.ref b] below meth c H locs (40 + t + 1) (2103 + 6 * t + 6) Q (F0 m 895 ls [])) : W p l e room_1 s m #[Value.ref b] below meth c H locs (40 + t) (2103 + 6 * t) Q (F0 m 556 ls []) := by
  obtain ⟨htr, hx, hb, hml, hown, hX, hbl, hL, hC, hN⟩ := hc
  have hown : s.vm.findClass "HostBridgeLaw" = some m.cls := hown
  have hA : ∀ q : Nat, s.heap.size ≤ q → lw_A s q := fun _ h => h
  have hbA : ¬ lw_A s b := Nat.not_le.mpr hbl
  have hK := hC.K
  have hts := hC.ts #[Value.ref b]
  obtain ⟨wb, wm, ov, hPb, hPm, hDb, hDm, hap, hS, hI⟩ := hst
  obtain ⟨fr0, hm0⟩ := inv_m hI
  obtain ⟨kk, rr, ov1, heq, wb1, wm1, fr, rm2, hM1, hrm, hM2, hwb, hwm, h0m, hM3, hI1⟩ := op_exact (l := l) (D := D) (tb := tb) htr (show t < 1000 by omega) hI qo ov (xs (6 * t + 1)) (xs (6 * t + 2)) (xs (6 * t + 3))
  refine lv_aload_n hx hb kd_L_law_556 rfl (lv_at hl 1 rfl) ?_
  refine lv_aload_n hx hb kd_L_law_557 rfl (lv_at hl 0 rfl) ?_
  refine lv_iload hx hb kd_L_law_558 (lv_at hl 4 rfl) ?_
  refine lv_iconst (v := 1) hx hb kd_L_law_560 (by decide) ?_
  refine lv_iadd hx hb kd_L_law_561 ?_
  refine hx_topi (y := nI (6 * t + 1)) (nI_add (6 * t) 1) ?_
  refine hx_sld (j := 6 * t + 1) hx hb hX hbl hbA hS (by omega) rfl (by omega) kd_L_law_562 ?_
  refine lv_aload_n hx hb kd_L_law_563 rfl (lv_at hl 0 rfl) ?_
  refine lv_iload hx hb kd_L_law_564 (lv_at hl 4 rfl) ?_
  refine lv_iconst (v := 2) hx hb kd_L_law_566 (by decide) ?_
  refine lv_iadd hx hb kd_L_law_567 ?_
  refine hx_topi (y := nI (6 * t + 2)) (nI_add (6 * t) 2) ?_
  refine hx_sld (j := 6 * t + 2) hx hb hX hbl hbA hS (by omega) rfl (by omega) kd_L_law_568 ?_
  refine lv_aload_n hx hb kd_L_law_569 rfl (lv_at hl 0 rfl) ?_
  refine lv_iload hx hb kd_L_law_570 (lv_at hl 4 rfl) ?_
  refine lv_iconst (v := 3) hx hb kd_L_law_572 (by decide) ?_
  refine lv_iadd hx hb kd_L_law_573 ?_
  refine hx_topi (y := nI (6 * t + 3)) (nI_add (6 * t) 3) ?_
  refine hx_sld (j := 6 * t + 3) hx hb hX hbl hbA hS (by omega) rfl (by omega) kd_L_law_574 ?_
  refine lv_aload_n hx hb kd_L_law_575 rfl (lv_at hl 3 rfl) ?_
  refine sg_call (vx_runSW (As := [.ref (q 0), .int (xs (6 * t + 1)), .int (xs (6 * t + 2)), .int (xs (6 * t + 3)), .ref qo]) (rest := []) ⟨hx, hb, hml, hown, hts⟩ (hM1 _) (vx_cwSW 5 hts (goodIn_sub (hx_m4 km_528 km_529 km_0 km_530) (by decide +kernel)) rfl rfl rfl (by decide +kernel) ⟨Nat.le_of_ble_eq_true rfl, Nat.le_of_ble_eq_true rfl⟩) (sg_S (hC.S hS) hN hPb hDb hS hA) rfl rfl hl.1 rfl (lv_room (Nat.le_of_ble_eq_true rfl)) kd_L_law_576 ⟨show 40 + t + 1 ≤ 1093 by omega, show 2103 + 6 * t + 6 ≤ 10469 by omega⟩) hDb hS hA (sg_mapc rfl hwb) hap hPm (fun H locs hPb hDb hPm hS => ?_)
  refine lv_istore (lv' := [(5, .int kk), (0, .ref b), (1, .ref (q 0)), (2, .ref (r 0)), (3, .ref qo), (4, .int (nI (6 * t)))]) hx hb kd_L_law_579 hl (by decide) rfl (fun ls hl => ?_)
  have hap : sg_ap (ou_ cL qo ov1 :: wb1) wm := hap.new (sg_mapc rfl hwb) rfl
  refine lv_aload_n hx hb kd_L_law_581 rfl (lv_at hl 3 rfl) ?_
  refine lv_aload_n hx hb kd_L_law_582 rfl (lv_at hl 1 rfl) ?_
  refine lv_iload hx hb kd_L_law_583 (lv_at hl 5 rfl) ?_
  refine lv_iconst (v := 1) hx hb kd_L_law_585 (by decide) ?_
  refine lv_iadd hx hb kd_L_law_586 ?_
  refine hx_topi (y := nI (6 * t + 1)) (nI_add (6 * t) 1) ?_
  refine hx_sld (j := 6 * t + 1) hx hb hX hbl hbA hS (by omega) rfl (by omega) kd_L_law_587 ?_
  refine lv_aload_n hx hb kd_L_law_588 rfl (lv_at hl 1 rfl) ?_
  refine lv_iload hx hb kd_L_law_589 (lv_at hl 5 rfl) ?_
  refine lv_iconst (v := 2) hx hb kd_L_law_591 (by decide) ?_
  refine lv_iadd hx hb kd_L_law_592 ?_
  refine hx_topi (y := nI (6 * t + 2)) (nI_add (6 * t) 2) ?_
  refine hx_sld (j := 6 * t + 2) hx hb hX hbl hbA hS (by omega) rfl (by omega) kd_L_law_593 ?_
  refine lv_aload_n hx hb kd_L_law_594 rfl (lv_at hl 1 rfl) ?_
  refine lv_iload hx hb kd_L_law_595 (lv_at hl 5 rfl) ?_
  refine lv_iconst (v := 3) hx hb kd_L_law_597 (by decide) ?_
  refine lv_iadd hx hb kd_L_law_598 ?_
  refine hx_topi (y := nI (6 * t + 3)) (nI_add (6 * t) 3) ?_
  refine hx_sld (j := 6 * t + 3) hx hb hX hbl hbA hS (by omega) rfl (by omega) kd_L_law_599 ?_
  refine sg_call (va_runV (As := [.int (xs (6 * t + 1)), .int (xs (6 * t + 2)), .int (xs (6 * t + 3))]) (rest := []) ⟨hx, hb, hml, hown, hts⟩ (hM2 _) (cwV 3 hts (goodIn_sub (hx_m5 km_787 km_788 km_789 km_8 km_790) (by decide +kernel)) rfl hrm.2.2.1 hrm.2.2.2 (by decide +kernel) ⟨show rm2.frames + 1 ≤ 10 by omega, show 8 + (7 + 11) + rm2.locals ≤ 368 by omega⟩) (sg_V (hC.S hS) hPm hDm hS hA (ci := 7) rfl hm0) rfl rfl hl.1 rfl (lv_room (Nat.le_of_ble_eq_true rfl)) kd_L_law_600 ⟨show 40 + t + 1 + 0 ≤ 1093 by omega, show 2103 + 6 * t + 6 + 0 ≤ 10469 by omega⟩) hDm hS hA hwm hap.symm hPb (fun H locs hPm hDm hPb hS => ?_)
  have hap : sg_ap (ou_ cL qo ov1 :: wb1) wm1 := hap.new rfl hwm
  refine lv_istore (lv' := [(6, .int rr), (5, .int kk), (0, .ref b), (1, .ref (q 0)), (2, .ref (r 0)), (3, .ref qo), (4, .int (nI (6 * t)))]) hx hb kd_L_law_603 hl (by decide) rfl (fun ls hl => ?_)
  refine lv_aload_n hx hb kd_L_law_605 rfl (lv_at hl 4 rfl) ?_
  refine hx_callRi (va_runV (As := []) (rest := []) ⟨hx, hb, hml, hown, hts⟩ hM3 (cwV 0 hts (goodIn_sub (hx_m5 km_692 km_693 km_694 km_8 km_695) (by decide +kernel)) rfl rfl rfl (by decide +kernel) ⟨Nat.le_of_ble_eq_true rfl, Nat.le_of_ble_eq_true rfl⟩) (pr_V (hC.S hS) hPm [0] (sg_one h0m) (ci := 7) rfl (q0 := 0) rfl) rfl rfl hl.1 rfl (lv_room (Nat.le_of_ble_eq_true rfl)) kd_L_law_606 ⟨show 40 + t + 1 + 0 ≤ 1093 by omega, show 2103 + 6 * t + 6 + 0 ≤ 10469 by omega⟩) ?_
  refine lv_iload hx hb kd_L_law_609 (lv_at hl 1 rfl) ?_
  refine lv_icmp_eq (tgt := 616) hx hb kd_L_law_611 (by decide) (fun _ => ?_) (fun c9 => absurd rfl c9)
  refine lv_iload hx hb kd_L_law_616 (lv_at hl 1 rfl) ?_
  refine lv_if_ne (tgt := 633) hx hb kd_L_law_618 (by decide) (fun c9 => ?_) (fun c9 => ?_)
  · refine lv_goto (tgt := 895) hx hb kd_L_law_633 (by decide) ?_
    exact back _ _ _ (lv_sub hl [2, 3, 4, 5, 6] rfl) ⟨wb1, wm1, ov1, hPb, hPm, hDb, hDm, hap, hS, hI1⟩
  · skip
    refine lv_aload_n hx hb kd_L_law_621 rfl (lv_at hl 5 rfl) ?_
    refine lv_iconst (v := 0) hx hb kd_L_law_622 (by decide) ?_
    refine hx_lald (j := 0) hx hb hK hPb 0 rfl rfl (by decide) (by decide) kd_L_law_623 ?_
    refine lv_iload hx hb kd_L_law_624 (lv_at hl 0 rfl) ?_
    refine lv_i2l hx hb kd_L_law_626 rfl ?_
    refine W.lcmp hx hb kd_L_law_627 ?_
    refine lv_if_eq (tgt := 633) hx hb kd_L_law_628 (by decide) (fun _ => ?_) (fun c8 => absurd ((lg_cmp_eq _ _).mpr (heq c9)) c8)
    refine lv_goto (tgt := 895) hx hb kd_L_law_633 (by decide) ?_
    exact back _ _ _ (lv_sub hl [2, 3, 4, 5, 6] rfl) ⟨wb1, wm1, ov1, hPb, hPm, hDb, hDm, hap, hS, hI1⟩

set_option maxHeartbeats 4000000 in
set_option maxRecDepth 100000 in
theorem lc_answer {p : Program} {l : Launch} {e : Env} {s : State} {m : MethodId} {below : List Frame} {meth : Method} {c : Code} {b L : Nat} {xs : Nat → Int32} {D : va_G} {cI cL cZ : ClassId} {tb : Nat} {q r : Nat → Nat} {qo t : Nat} {Q : State → Prop} (hc : lw_C l p s m c b L xs D cI cL cZ tb) (h6 : 6 * t + 6 ≤ L) {ls : Array Slot} {H : Heap} {locs : List Loc} (hl : lv_has ls 8 [(0, .ref b), (1, .ref (q 0)), (2, .ref (r 0)), (3, .ref qo), (4, .int (nI (6 * t)))]) (hst : lw_I D cI cL cZ q r qo t s H locs) (back : ∀ (ls : Array Slot) (H : Heap) (locs : List Loc), lv_has ls 8 [(0, .ref b), (1, .ref (q 0)), (2, .ref (r 0)), (3, .ref qo), (4, .int (nI (6 * t)))] → lw_I D cI cL cZ q r qo (t + 1) s H locs → W p l e room_1 s m #[Value.ref b] below meth c H locs (40 + t + 1) (2103 + 6 * t + 6) Q (F0 m 895 ls [])) : W p l e room_1 s m #[Value.ref b] below meth c H locs (40 + t) (2103 + 6 * t) Q (F0 m 636 ls []) := by
  obtain ⟨htr, hx, hb, hml, hown, hX, hbl, hL, hC, hN⟩ := hc
  have hown : s.vm.findClass "HostBridgeLaw" = some m.cls := hown
  have hA : ∀ q : Nat, s.heap.size ≤ q → lw_A s q := fun _ h => h
  have hbA : ¬ lw_A s b := Nat.not_le.mpr hbl
  have hK := hC.K
  have hts := hC.ts #[Value.ref b]
  obtain ⟨wb, wm, ov, hPb, hPm, hDb, hDm, hap, hS, hI⟩ := hst
  obtain ⟨fr0, hm0⟩ := inv_m hI
  obtain ⟨b1, hb1⟩ : ∃ y : Int64, y = (((xs (6 * t + 1)).toInt64) <<< ((32 : Int32).toInt64 &&& 63)) ||| (((xs (6 * t + 2)).toInt64) &&& 4294967295) := ⟨_, rfl⟩
  obtain ⟨kk, ov1, wb1, wm1, fr, rm2, hM1, hrm, hM2, hwb, hwm, h0m, hM3, hI1⟩ := op_answer (l := l) (D := D) (tb := tb) htr (show t < 1000 by omega) hI qo ov b1
  refine lv_aload_n hx hb kd_L_law_636 rfl (lv_at hl 1 rfl) ?_
  refine lv_aload_n hx hb kd_L_law_637 rfl (lv_at hl 0 rfl) ?_
  refine lv_iload hx hb kd_L_law_638 (lv_at hl 4 rfl) ?_
  refine lv_iconst (v := 1) hx hb kd_L_law_640 (by decide) ?_
  refine lv_iadd hx hb kd_L_law_641 ?_
  refine hx_topi (y := nI (6 * t + 1)) (nI_add (6 * t) 1) ?_
  refine hx_sld (j := 6 * t + 1) hx hb hX hbl hbA hS (by omega) rfl (by omega) kd_L_law_642 ?_
  refine lv_i2l hx hb kd_L_law_643 rfl ?_
  refine lv_bipush (v := 32) hx hb kd_L_law_644 (by decide) ?_
  refine lv_lshl hx hb kd_L_law_646 rfl ?_
  refine lv_aload_n hx hb kd_L_law_647 rfl (lv_at hl 0 rfl) ?_
  refine lv_iload hx hb kd_L_law_648 (lv_at hl 4 rfl) ?_
  refine lv_iconst (v := 2) hx hb kd_L_law_650 (by decide) ?_
  refine lv_iadd hx hb kd_L_law_651 ?_
  refine hx_topi (y := nI (6 * t + 2)) (nI_add (6 * t) 2) ?_
  refine hx_sld (j := 6 * t + 2) hx hb hX hbl hbA hS (by omega) rfl (by omega) kd_L_law_652 ?_
  refine lv_i2l hx hb kd_L_law_653 rfl ?_
  refine lv_ldc2 (v := 4294967295) hx hb hown (hts _ km_815) kd_L_law_654 ?_
  refine lv_land hx hb kd_L_law_657 ?_
  refine lv_lor hx hb kd_L_law_658 ?_
  refine hx_topl (y := b1) hb1.symm ?_
  refine sg_call (vx_runSW (As := [.ref (q 0), .long b1]) (rest := []) ⟨hx, hb, hml, hown, hts⟩ (hM1 _) (vx_cwSW 2 hts (goodIn_sub (hx_m4 km_543 km_544 km_0 km_545) (by decide +kernel)) rfl rfl rfl (by decide +kernel) ⟨Nat.le_of_ble_eq_true rfl, Nat.le_of_ble_eq_true rfl⟩) (sg_S (hC.S hS) hN hPb hDb hS hA) rfl rfl hl.1 rfl (lv_room (Nat.le_of_ble_eq_true rfl)) kd_L_law_659 ⟨show 40 + t + 1 ≤ 1093 by omega, show 2103 + 6 * t + 6 ≤ 10469 by omega⟩) hDb hS hA (sg_mapc rfl hwb) hap hPm (fun H locs hPb hDb hPm hS => ?_)
  refine lv_istore (lv' := [(5, .int kk), (0, .ref b), (1, .ref (q 0)), (2, .ref (r 0)), (3, .ref qo), (4, .int (nI (6 * t)))]) hx hb kd_L_law_662 hl (by decide) rfl (fun ls hl => ?_)
  have hap : sg_ap (ou_ cL qo ov1 :: wb1) wm := hap.new (sg_mapc rfl hwb) rfl
  refine lv_aload_n hx hb kd_L_law_664 rfl (lv_at hl 3 rfl) ?_
  refine lv_aload_n hx hb kd_L_law_665 rfl (lv_at hl 1 rfl) ?_
  refine lv_iload hx hb kd_L_law_666 (lv_at hl 5 rfl) ?_
  refine lv_iconst (v := 1) hx hb kd_L_law_668 (by decide) ?_
  refine lv_iadd hx hb kd_L_law_669 ?_
  refine hx_topi (y := nI (6 * t + 1)) (nI_add (6 * t) 1) ?_
  refine hx_sld (j := 6 * t + 1) hx hb hX hbl hbA hS (by omega) rfl (by omega) kd_L_law_670 ?_
  refine lv_i2l hx hb kd_L_law_671 rfl ?_
  refine lv_bipush (v := 32) hx hb kd_L_law_672 (by decide) ?_
  refine lv_lshl hx hb kd_L_law_674 rfl ?_
  refine lv_aload_n hx hb kd_L_law_675 rfl (lv_at hl 1 rfl) ?_
  refine lv_iload hx hb kd_L_law_676 (lv_at hl 5 rfl) ?_
  refine lv_iconst (v := 2) hx hb kd_L_law_678 (by decide) ?_
  refine lv_iadd hx hb kd_L_law_679 ?_
  refine hx_topi (y := nI (6 * t + 2)) (nI_add (6 * t) 2) ?_
  refine hx_sld (j := 6 * t + 2) hx hb hX hbl hbA hS (by omega) rfl (by omega) kd_L_law_680 ?_
  refine lv_i2l hx hb kd_L_law_681 rfl ?_
  refine lv_ldc2 (v := 4294967295) hx hb hown (hts _ km_815) kd_L_law_682 ?_
  refine lv_land hx hb kd_L_law_685 ?_
  refine lv_lor hx hb kd_L_law_686 ?_
  refine hx_topl (y := b1) hb1.symm ?_
  refine sg_call (va_runV (As := [.long b1]) (rest := []) ⟨hx, hb, hml, hown, hts⟩ (hM2 _) (cwV 1 hts (goodIn_sub (hx_m5 km_791 km_792 km_793 km_8 km_794) (by decide +kernel)) rfl hrm.2.2.1 hrm.2.2.2 (by decide +kernel) ⟨show rm2.frames + 1 ≤ 10 by omega, show 8 + (3 + 11) + rm2.locals ≤ 368 by omega⟩) (sg_V (hC.S hS) hPm hDm hS hA (ci := 7) rfl hm0) rfl rfl hl.1 rfl (lv_room (Nat.le_of_ble_eq_true rfl)) kd_L_law_687 ⟨show 40 + t + 1 + 0 ≤ 1093 by omega, show 2103 + 6 * t + 6 + 0 ≤ 10469 by omega⟩) hDm hS hA hwm hap.symm hPb (fun H locs hPm hDm hPb hS => ?_)
  have hap : sg_ap (ou_ cL qo ov1 :: wb1) wm1 := hap.new rfl hwm
  refine lv_aload_n hx hb kd_L_law_690 rfl (lv_at hl 3 rfl) ?_
  refine hx_callRi (va_runV (As := []) (rest := []) ⟨hx, hb, hml, hown, hts⟩ hM3 (cwV 0 hts (goodIn_sub (hx_m5 km_692 km_693 km_694 km_8 km_695) (by decide +kernel)) rfl rfl rfl (by decide +kernel) ⟨Nat.le_of_ble_eq_true rfl, Nat.le_of_ble_eq_true rfl⟩) (pr_V (hC.S hS) hPm [0] (sg_one h0m) (ci := 7) rfl (q0 := 0) rfl) rfl rfl hl.1 rfl (lv_room (Nat.le_of_ble_eq_true rfl)) kd_L_law_691 ⟨show 40 + t + 1 + 0 ≤ 1093 by omega, show 2103 + 6 * t + 6 + 0 ≤ 10469 by omega⟩) ?_
  refine lv_iload hx hb kd_L_law_694 (lv_at hl 0 rfl) ?_
  refine lv_icmp_eq (tgt := 701) hx hb kd_L_law_696 (by decide) (fun _ => ?_) (fun c9 => absurd rfl c9)
  refine lv_goto (tgt := 895) hx hb kd_L_law_701 (by decide) ?_
  exact back _ _ _ (lv_sub hl [1, 2, 3, 4, 5] rfl) ⟨wb1, wm1, ov1, hPb, hPm, hDb, hDm, hap, hS, hI1⟩

set_option maxHeartbeats 4000000 in
set_option maxRecDepth 100000 in
theorem lc_given {p : Program} {l : Launch} {e : Env} {s : State} {m : MethodId} {below : List Frame} {meth : Method} {c : Code} {b L : Nat} {xs : Nat → Int32} {D : va_G} {cI cL cZ : ClassId} {tb : Nat} {q r : Nat → Nat} {qo t : Nat} {Q : State → Prop} (hc : lw_C l p s m c b L xs D cI cL cZ tb) (h6 : 6 * t + 6 ≤ L) {ls : Array Slot} {H : Heap} {locs : List Loc} (hl : lv_has ls 8 [(0, .ref b), (1, .ref (q 0)), (2, .ref (r 0)), (3, .ref qo), (4, .int (nI (6 * t)))]) (hst : lw_I D cI cL cZ q r qo t s H locs) (back : ∀ (ls : Array Slot) (H : Heap) (locs : List Loc), lv_has ls 8 [(0, .ref b), (1, .ref (q 0)), (2, .ref (r 0)), (3, .ref qo), (4, .int (nI (6 * t)))] → lw_I D cI cL cZ q r qo (t + 1) s H locs → W p l e room_1 s m #[Value.ref b] below meth c H locs (40 + t + 1) (2103 + 6 * t + 6) Q (F0 m 895 ls [])) : W p l e room_1 s m #[Value.ref b] below meth c H locs (40 + t) (2103 + 6 * t) Q (F0 m 704 ls []) := by
  obtain ⟨htr, hx, hb, hml, hown, hX, hbl, hL, hC, hN⟩ := hc
  have hown : s.vm.findClass "HostBridgeLaw" = some m.cls := hown
  have hA : ∀ q : Nat, s.heap.size ≤ q → lw_A s q := fun _ h => h
  have hbA : ¬ lw_A s b := Nat.not_le.mpr hbl
  have hK := hC.K
  have hts := hC.ts #[Value.ref b]
  obtain ⟨wb, wm, ov, hPb, hPm, hDb, hDm, hap, hS, hI⟩ := hst
  obtain ⟨fr0, hm0⟩ := inv_m hI
  obtain ⟨kk, rr, ov1, heq, wb1, wm1, fr, rm2, hM1, hrm, hM2, hwb, hwm, h0m, hM3, hI1⟩ := op_given (l := l) (D := D) (tb := tb) htr (show t < 1000 by omega) hI qo ov 
  refine lv_aload_n hx hb kd_L_law_704 rfl (lv_at hl 1 rfl) ?_
  refine lv_aload_n hx hb kd_L_law_705 rfl (lv_at hl 3 rfl) ?_
  refine sg_call (vx_runSW (As := [.ref (q 0), .ref qo]) (rest := []) ⟨hx, hb, hml, hown, hts⟩ (hM1 _) (vx_cwSW 2 hts (goodIn_sub (hx_m4 km_555 km_556 km_0 km_557) (by decide +kernel)) rfl rfl rfl (by decide +kernel) ⟨Nat.le_of_ble_eq_true rfl, Nat.le_of_ble_eq_true rfl⟩) (sg_S (hC.S hS) hN hPb hDb hS hA) rfl rfl hl.1 rfl (lv_room (Nat.le_of_ble_eq_true rfl)) kd_L_law_706 ⟨show 40 + t + 1 ≤ 1093 by omega, show 2103 + 6 * t + 6 ≤ 10469 by omega⟩) hDb hS hA (sg_mapc rfl hwb) hap hPm (fun H locs hPb hDb hPm hS => ?_)
  refine lv_istore (lv' := [(5, .int kk), (0, .ref b), (1, .ref (q 0)), (2, .ref (r 0)), (3, .ref qo), (4, .int (nI (6 * t)))]) hx hb kd_L_law_709 hl (by decide) rfl (fun ls hl => ?_)
  have hap : sg_ap (ou_ cL qo ov1 :: wb1) wm := hap.new (sg_mapc rfl hwb) rfl
  refine lv_aload_n hx hb kd_L_law_711 rfl (lv_at hl 3 rfl) ?_
  refine sg_call (va_runV (As := []) (rest := []) ⟨hx, hb, hml, hown, hts⟩ (hM2 _) (cwV 0 hts (goodIn_sub (hx_m5 km_795 km_796 km_797 km_8 km_798) (by decide +kernel)) rfl hrm.2.2.1 hrm.2.2.2 (by decide +kernel) ⟨show rm2.frames + 1 ≤ 10 by omega, show 8 + (1 + 11) + rm2.locals ≤ 368 by omega⟩) (sg_V (hC.S hS) hPm hDm hS hA (ci := 7) rfl hm0) rfl rfl hl.1 rfl (lv_room (Nat.le_of_ble_eq_true rfl)) kd_L_law_712 ⟨show 40 + t + 1 + 0 ≤ 1093 by omega, show 2103 + 6 * t + 6 + 0 ≤ 10469 by omega⟩) hDm hS hA hwm hap.symm hPb (fun H locs hPm hDm hPb hS => ?_)
  have hap : sg_ap (ou_ cL qo ov1 :: wb1) wm1 := hap.new rfl hwm
  refine lv_lstore (lv' := [(6, .long rr), (5, .int kk), (0, .ref b), (1, .ref (q 0)), (2, .ref (r 0)), (3, .ref qo), (4, .int (nI (6 * t)))]) hx hb kd_L_law_715 hl (by decide) rfl (fun ls hl => ?_)
  refine lv_aload_n hx hb kd_L_law_717 rfl (lv_at hl 4 rfl) ?_
  refine hx_callRi (va_runV (As := []) (rest := []) ⟨hx, hb, hml, hown, hts⟩ hM3 (cwV 0 hts (goodIn_sub (hx_m5 km_692 km_693 km_694 km_8 km_695) (by decide +kernel)) rfl rfl rfl (by decide +kernel) ⟨Nat.le_of_ble_eq_true rfl, Nat.le_of_ble_eq_true rfl⟩) (pr_V (hC.S hS) hPm [0] (sg_one h0m) (ci := 7) rfl (q0 := 0) rfl) rfl rfl hl.1 rfl (lv_room (Nat.le_of_ble_eq_true rfl)) kd_L_law_718 ⟨show 40 + t + 1 + 0 ≤ 1093 by omega, show 2103 + 6 * t + 6 + 0 ≤ 10469 by omega⟩) ?_
  refine lv_iload hx hb kd_L_law_721 (lv_at hl 1 rfl) ?_
  refine lv_icmp_eq (tgt := 728) hx hb kd_L_law_723 (by decide) (fun _ => ?_) (fun c9 => absurd rfl c9)
  refine lv_iload hx hb kd_L_law_728 (lv_at hl 1 rfl) ?_
  refine lv_if_ne (tgt := 744) hx hb kd_L_law_730 (by decide) (fun c9 => ?_) (fun c9 => ?_)
  · refine lv_goto (tgt := 895) hx hb kd_L_law_744 (by decide) ?_
    exact back _ _ _ (lv_sub hl [2, 3, 4, 5, 6] rfl) ⟨wb1, wm1, ov1, hPb, hPm, hDb, hDm, hap, hS, hI1⟩
  · skip
    refine lv_aload_n hx hb kd_L_law_733 rfl (lv_at hl 5 rfl) ?_
    refine lv_iconst (v := 0) hx hb kd_L_law_734 (by decide) ?_
    refine hx_lald (j := 0) hx hb hK hPb 0 rfl rfl (by decide) (by decide) kd_L_law_735 ?_
    refine lv_lload hx hb kd_L_law_736 (lv_at hl 0 rfl) ?_
    refine W.lcmp hx hb kd_L_law_738 ?_
    refine lv_if_eq (tgt := 744) hx hb kd_L_law_739 (by decide) (fun _ => ?_) (fun c8 => absurd ((lg_cmp_eq _ _).mpr (heq c9)) c8)
    refine lv_goto (tgt := 895) hx hb kd_L_law_744 (by decide) ?_
    exact back _ _ _ (lv_sub hl [2, 3, 4, 5, 6] rfl) ⟨wb1, wm1, ov1, hPb, hPm, hDb, hDm, hap, hS, hI1⟩

set_option maxHeartbeats 4000000 in
set_option maxRecDepth 100000 in
theorem lc_look {p : Program} {l : Launch} {e : Env} {s : State} {m : MethodId} {below : List Frame} {meth : Method} {c : Code} {b L : Nat} {xs : Nat → Int32} {D : va_G} {cI cL cZ : ClassId} {tb : Nat} {q r : Nat → Nat} {qo t : Nat} {Q : State → Prop} (hc : lw_C l p s m c b L xs D cI cL cZ tb) (h6 : 6 * t + 6 ≤ L) {ls : Array Slot} {H : Heap} {locs : List Loc} (hl : lv_has ls 8 [(0, .ref b), (1, .ref (q 0)), (2, .ref (r 0)), (3, .ref qo), (4, .int (nI (6 * t)))]) (hst : lw_I D cI cL cZ q r qo t s H locs) (back : ∀ (ls : Array Slot) (H : Heap) (locs : List Loc), lv_has ls 8 [(0, .ref b), (1, .ref (q 0)), (2, .ref (r 0)), (3, .ref qo), (4, .int (nI (6 * t)))] → lw_I D cI cL cZ q r qo (t + 1) s H locs → W p l e room_1 s m #[Value.ref b] below meth c H locs (40 + t + 1) (2103 + 6 * t + 6) Q (F0 m 895 ls [])) : W p l e room_1 s m #[Value.ref b] below meth c H locs (40 + t) (2103 + 6 * t) Q (F0 m 760 ls []) := by
  obtain ⟨htr, hx, hb, hml, hown, hX, hbl, hL, hC, hN⟩ := hc
  have hown : s.vm.findClass "HostBridgeLaw" = some m.cls := hown
  have hA : ∀ q : Nat, s.heap.size ≤ q → lw_A s q := fun _ h => h
  have hbA : ¬ lw_A s b := Nat.not_le.mpr hbl
  have hK := hC.K
  have hts := hC.ts #[Value.ref b]
  obtain ⟨wb, wm, ov, hPb, hPm, hDb, hDm, hap, hS, hI⟩ := hst
  obtain ⟨fr0, hm0⟩ := inv_m hI
  obtain ⟨kk, rr, ov1, heq, wb1, wm1, fr, rm2, hM1, hrm, hM2, hwb, hwm, h0m, hM3, hI1⟩ := op_look (l := l) (D := D) (tb := tb) htr (show t < 1000 by omega) hI qo ov (xs (6 * t + 1)) (xs (6 * t + 2))
  refine lv_aload_n hx hb kd_L_law_760 rfl (lv_at hl 1 rfl) ?_
  refine lv_aload_n hx hb kd_L_law_761 rfl (lv_at hl 0 rfl) ?_
  refine lv_iload hx hb kd_L_law_762 (lv_at hl 4 rfl) ?_
  refine lv_iconst (v := 1) hx hb kd_L_law_764 (by decide) ?_
  refine lv_iadd hx hb kd_L_law_765 ?_
  refine hx_topi (y := nI (6 * t + 1)) (nI_add (6 * t) 1) ?_
  refine hx_sld (j := 6 * t + 1) hx hb hX hbl hbA hS (by omega) rfl (by omega) kd_L_law_766 ?_
  refine lv_aload_n hx hb kd_L_law_767 rfl (lv_at hl 0 rfl) ?_
  refine lv_iload hx hb kd_L_law_768 (lv_at hl 4 rfl) ?_
  refine lv_iconst (v := 2) hx hb kd_L_law_770 (by decide) ?_
  refine lv_iadd hx hb kd_L_law_771 ?_
  refine hx_topi (y := nI (6 * t + 2)) (nI_add (6 * t) 2) ?_
  refine hx_sld (j := 6 * t + 2) hx hb hX hbl hbA hS (by omega) rfl (by omega) kd_L_law_772 ?_
  refine lv_aload_n hx hb kd_L_law_773 rfl (lv_at hl 3 rfl) ?_
  refine sg_call (vx_runSW (As := [.ref (q 0), .int (xs (6 * t + 1)), .int (xs (6 * t + 2)), .ref qo]) (rest := []) ⟨hx, hb, hml, hown, hts⟩ (hM1 _) (vx_cwSW 4 hts (goodIn_sub (hx_m4 km_563 km_564 km_0 km_565) (by decide +kernel)) rfl rfl rfl (by decide +kernel) ⟨Nat.le_of_ble_eq_true rfl, Nat.le_of_ble_eq_true rfl⟩) (sg_S (hC.S hS) hN hPb hDb hS hA) rfl rfl hl.1 rfl (lv_room (Nat.le_of_ble_eq_true rfl)) kd_L_law_774 ⟨show 40 + t + 1 ≤ 1093 by omega, show 2103 + 6 * t + 6 ≤ 10469 by omega⟩) hDb hS hA (sg_mapc rfl hwb) hap hPm (fun H locs hPb hDb hPm hS => ?_)
  refine lv_istore (lv' := [(5, .int kk), (0, .ref b), (1, .ref (q 0)), (2, .ref (r 0)), (3, .ref qo), (4, .int (nI (6 * t)))]) hx hb kd_L_law_777 hl (by decide) rfl (fun ls hl => ?_)
  have hap : sg_ap (ou_ cL qo ov1 :: wb1) wm := hap.new (sg_mapc rfl hwb) rfl
  refine lv_aload_n hx hb kd_L_law_779 rfl (lv_at hl 3 rfl) ?_
  refine lv_aload_n hx hb kd_L_law_780 rfl (lv_at hl 1 rfl) ?_
  refine lv_iload hx hb kd_L_law_781 (lv_at hl 5 rfl) ?_
  refine lv_iconst (v := 1) hx hb kd_L_law_783 (by decide) ?_
  refine lv_iadd hx hb kd_L_law_784 ?_
  refine hx_topi (y := nI (6 * t + 1)) (nI_add (6 * t) 1) ?_
  refine hx_sld (j := 6 * t + 1) hx hb hX hbl hbA hS (by omega) rfl (by omega) kd_L_law_785 ?_
  refine lv_aload_n hx hb kd_L_law_786 rfl (lv_at hl 1 rfl) ?_
  refine lv_iload hx hb kd_L_law_787 (lv_at hl 5 rfl) ?_
  refine lv_iconst (v := 2) hx hb kd_L_law_789 (by decide) ?_
  refine lv_iadd hx hb kd_L_law_790 ?_
  refine hx_topi (y := nI (6 * t + 2)) (nI_add (6 * t) 2) ?_
  refine hx_sld (j := 6 * t + 2) hx hb hX hbl hbA hS (by omega) rfl (by omega) kd_L_law_791 ?_
  refine sg_call (va_runV (As := [.int (xs (6 * t + 1)), .int (xs (6 * t + 2))]) (rest := []) ⟨hx, hb, hml, hown, hts⟩ (hM2 _) (cwV 2 hts (goodIn_sub (hx_m5 km_803 km_804 km_805 km_8 km_806) (by decide +kernel)) rfl hrm.2.2.1 hrm.2.2.2 (by decide +kernel) ⟨show rm2.frames + 1 ≤ 10 by omega, show 8 + (4 + 11) + rm2.locals ≤ 368 by omega⟩) (sg_V (hC.S hS) hPm hDm hS hA (ci := 7) rfl hm0) rfl rfl hl.1 rfl (lv_room (Nat.le_of_ble_eq_true rfl)) kd_L_law_792 ⟨show 40 + t + 1 + 0 ≤ 1093 by omega, show 2103 + 6 * t + 6 + 0 ≤ 10469 by omega⟩) hDm hS hA hwm hap.symm hPb (fun H locs hPm hDm hPb hS => ?_)
  have hap : sg_ap (ou_ cL qo ov1 :: wb1) wm1 := hap.new rfl hwm
  refine lv_istore (lv' := [(6, .int rr), (5, .int kk), (0, .ref b), (1, .ref (q 0)), (2, .ref (r 0)), (3, .ref qo), (4, .int (nI (6 * t)))]) hx hb kd_L_law_795 hl (by decide) rfl (fun ls hl => ?_)
  refine lv_aload_n hx hb kd_L_law_797 rfl (lv_at hl 4 rfl) ?_
  refine hx_callRi (va_runV (As := []) (rest := []) ⟨hx, hb, hml, hown, hts⟩ hM3 (cwV 0 hts (goodIn_sub (hx_m5 km_692 km_693 km_694 km_8 km_695) (by decide +kernel)) rfl rfl rfl (by decide +kernel) ⟨Nat.le_of_ble_eq_true rfl, Nat.le_of_ble_eq_true rfl⟩) (pr_V (hC.S hS) hPm [0] (sg_one h0m) (ci := 7) rfl (q0 := 0) rfl) rfl rfl hl.1 rfl (lv_room (Nat.le_of_ble_eq_true rfl)) kd_L_law_798 ⟨show 40 + t + 1 + 0 ≤ 1093 by omega, show 2103 + 6 * t + 6 + 0 ≤ 10469 by omega⟩) ?_
  refine lv_iload hx hb kd_L_law_801 (lv_at hl 1 rfl) ?_
  refine lv_icmp_eq (tgt := 808) hx hb kd_L_law_803 (by decide) (fun _ => ?_) (fun c9 => absurd rfl c9)
  refine lv_iload hx hb kd_L_law_808 (lv_at hl 1 rfl) ?_
  refine lv_if_ne (tgt := 825) hx hb kd_L_law_810 (by decide) (fun c9 => ?_) (fun c9 => ?_)
  · refine lv_goto (tgt := 895) hx hb kd_L_law_825 (by decide) ?_
    exact back _ _ _ (lv_sub hl [2, 3, 4, 5, 6] rfl) ⟨wb1, wm1, ov1, hPb, hPm, hDb, hDm, hap, hS, hI1⟩
  · skip
    refine lv_aload_n hx hb kd_L_law_813 rfl (lv_at hl 5 rfl) ?_
    refine lv_iconst (v := 0) hx hb kd_L_law_814 (by decide) ?_
    refine hx_lald (j := 0) hx hb hK hPb 0 rfl rfl (by decide) (by decide) kd_L_law_815 ?_
    refine lv_iload hx hb kd_L_law_816 (lv_at hl 0 rfl) ?_
    refine lv_i2l hx hb kd_L_law_818 rfl ?_
    refine W.lcmp hx hb kd_L_law_819 ?_
    refine lv_if_eq (tgt := 825) hx hb kd_L_law_820 (by decide) (fun _ => ?_) (fun c8 => absurd ((lg_cmp_eq _ _).mpr (heq c9)) c8)
    refine lv_goto (tgt := 895) hx hb kd_L_law_825 (by decide) ?_
    exact back _ _ _ (lv_sub hl [2, 3, 4, 5, 6] rfl) ⟨wb1, wm1, ov1, hPb, hPm, hDb, hDm, hap, hS, hI1⟩

set_option maxHeartbeats 4000000 in
set_option maxRecDepth 100000 in
theorem lc_converted {p : Program} {l : Launch} {e : Env} {s : State} {m : MethodId} {below : List Frame} {meth : Method} {c : Code} {b L : Nat} {xs : Nat → Int32} {D : va_G} {cI cL cZ : ClassId} {tb : Nat} {q r : Nat → Nat} {qo t : Nat} {Q : State → Prop} (hc : lw_C l p s m c b L xs D cI cL cZ tb) (h6 : 6 * t + 6 ≤ L) {ls : Array Slot} {H : Heap} {locs : List Loc} (hl : lv_has ls 8 [(0, .ref b), (1, .ref (q 0)), (2, .ref (r 0)), (3, .ref qo), (4, .int (nI (6 * t)))]) (hst : lw_I D cI cL cZ q r qo t s H locs) (back : ∀ (ls : Array Slot) (H : Heap) (locs : List Loc), lv_has ls 8 [(0, .ref b), (1, .ref (q 0)), (2, .ref (r 0)), (3, .ref qo), (4, .int (nI (6 * t)))] → lw_I D cI cL cZ q r qo (t + 1) s H locs → W p l e room_1 s m #[Value.ref b] below meth c H locs (40 + t + 1) (2103 + 6 * t + 6) Q (F0 m 895 ls [])) : W p l e room_1 s m #[Value.ref b] below meth c H locs (40 + t) (2103 + 6 * t) Q (F0 m 828 ls []) := by
  obtain ⟨htr, hx, hb, hml, hown, hX, hbl, hL, hC, hN⟩ := hc
  have hown : s.vm.findClass "HostBridgeLaw" = some m.cls := hown
  have hA : ∀ q : Nat, s.heap.size ≤ q → lw_A s q := fun _ h => h
  have hbA : ¬ lw_A s b := Nat.not_le.mpr hbl
  have hK := hC.K
  have hts := hC.ts #[Value.ref b]
  obtain ⟨wb, wm, ov, hPb, hPm, hDb, hDm, hap, hS, hI⟩ := hst
  obtain ⟨fr0, hm0⟩ := inv_m hI
  obtain ⟨kk, rr, ov1, heq, wb1, wm1, fr, rm2, hM1, hrm, hM2, hwb, hwm, h0m, hM3, hI1⟩ := op_converted (l := l) (D := D) (tb := tb) htr (show t < 1000 by omega) hI qo ov (xs (6 * t + 1)) (xs (6 * t + 2))
  refine lv_aload_n hx hb kd_L_law_828 rfl (lv_at hl 1 rfl) ?_
  refine lv_aload_n hx hb kd_L_law_829 rfl (lv_at hl 0 rfl) ?_
  refine lv_iload hx hb kd_L_law_830 (lv_at hl 4 rfl) ?_
  refine lv_iconst (v := 1) hx hb kd_L_law_832 (by decide) ?_
  refine lv_iadd hx hb kd_L_law_833 ?_
  refine hx_topi (y := nI (6 * t + 1)) (nI_add (6 * t) 1) ?_
  refine hx_sld (j := 6 * t + 1) hx hb hX hbl hbA hS (by omega) rfl (by omega) kd_L_law_834 ?_
  refine lv_aload_n hx hb kd_L_law_835 rfl (lv_at hl 0 rfl) ?_
  refine lv_iload hx hb kd_L_law_836 (lv_at hl 4 rfl) ?_
  refine lv_iconst (v := 2) hx hb kd_L_law_838 (by decide) ?_
  refine lv_iadd hx hb kd_L_law_839 ?_
  refine hx_topi (y := nI (6 * t + 2)) (nI_add (6 * t) 2) ?_
  refine hx_sld (j := 6 * t + 2) hx hb hX hbl hbA hS (by omega) rfl (by omega) kd_L_law_840 ?_
  refine lv_aload_n hx hb kd_L_law_841 rfl (lv_at hl 3 rfl) ?_
  refine sg_call (vx_runSW (As := [.ref (q 0), .int (xs (6 * t + 1)), .int (xs (6 * t + 2)), .ref qo]) (rest := []) ⟨hx, hb, hml, hown, hts⟩ (hM1 _) (vx_cwSW 4 hts (goodIn_sub (hx_m4 km_604 km_605 km_0 km_606) (by decide +kernel)) rfl rfl rfl (by decide +kernel) ⟨Nat.le_of_ble_eq_true rfl, Nat.le_of_ble_eq_true rfl⟩) (sg_S (hC.S hS) hN hPb hDb hS hA) rfl rfl hl.1 rfl (lv_room (Nat.le_of_ble_eq_true rfl)) kd_L_law_842 ⟨show 40 + t + 1 ≤ 1093 by omega, show 2103 + 6 * t + 6 ≤ 10469 by omega⟩) hDb hS hA (sg_mapc rfl hwb) hap hPm (fun H locs hPb hDb hPm hS => ?_)
  refine lv_istore (lv' := [(5, .int kk), (0, .ref b), (1, .ref (q 0)), (2, .ref (r 0)), (3, .ref qo), (4, .int (nI (6 * t)))]) hx hb kd_L_law_845 hl (by decide) rfl (fun ls hl => ?_)
  have hap : sg_ap (ou_ cL qo ov1 :: wb1) wm := hap.new (sg_mapc rfl hwb) rfl
  refine lv_aload_n hx hb kd_L_law_847 rfl (lv_at hl 3 rfl) ?_
  refine lv_aload_n hx hb kd_L_law_848 rfl (lv_at hl 1 rfl) ?_
  refine lv_iload hx hb kd_L_law_849 (lv_at hl 5 rfl) ?_
  refine lv_iconst (v := 1) hx hb kd_L_law_851 (by decide) ?_
  refine lv_iadd hx hb kd_L_law_852 ?_
  refine hx_topi (y := nI (6 * t + 1)) (nI_add (6 * t) 1) ?_
  refine hx_sld (j := 6 * t + 1) hx hb hX hbl hbA hS (by omega) rfl (by omega) kd_L_law_853 ?_
  refine lv_aload_n hx hb kd_L_law_854 rfl (lv_at hl 1 rfl) ?_
  refine lv_iload hx hb kd_L_law_855 (lv_at hl 5 rfl) ?_
  refine lv_iconst (v := 2) hx hb kd_L_law_857 (by decide) ?_
  refine lv_iadd hx hb kd_L_law_858 ?_
  refine hx_topi (y := nI (6 * t + 2)) (nI_add (6 * t) 2) ?_
  refine hx_sld (j := 6 * t + 2) hx hb hX hbl hbA hS (by omega) rfl (by omega) kd_L_law_859 ?_
  refine sg_call (va_runV (As := [.int (xs (6 * t + 1)), .int (xs (6 * t + 2))]) (rest := []) ⟨hx, hb, hml, hown, hts⟩ (hM2 _) (cwV 2 hts (goodIn_sub (hx_m5 km_811 km_812 km_813 km_8 km_814) (by decide +kernel)) rfl hrm.2.2.1 hrm.2.2.2 (by decide +kernel) ⟨show rm2.frames + 1 ≤ 10 by omega, show 8 + (3 + 11) + rm2.locals ≤ 368 by omega⟩) (sg_V (hC.S hS) hPm hDm hS hA (ci := 7) rfl hm0) rfl rfl hl.1 rfl (lv_room (Nat.le_of_ble_eq_true rfl)) kd_L_law_860 ⟨show 40 + t + 1 + 0 ≤ 1093 by omega, show 2103 + 6 * t + 6 + 0 ≤ 10469 by omega⟩) hDm hS hA hwm hap.symm hPb (fun H locs hPm hDm hPb hS => ?_)
  have hap : sg_ap (ou_ cL qo ov1 :: wb1) wm1 := hap.new rfl hwm
  refine lv_lstore (lv' := [(6, .long rr), (5, .int kk), (0, .ref b), (1, .ref (q 0)), (2, .ref (r 0)), (3, .ref qo), (4, .int (nI (6 * t)))]) hx hb kd_L_law_863 hl (by decide) rfl (fun ls hl => ?_)
  refine lv_aload_n hx hb kd_L_law_865 rfl (lv_at hl 4 rfl) ?_
  refine hx_callRi (va_runV (As := []) (rest := []) ⟨hx, hb, hml, hown, hts⟩ hM3 (cwV 0 hts (goodIn_sub (hx_m5 km_692 km_693 km_694 km_8 km_695) (by decide +kernel)) rfl rfl rfl (by decide +kernel) ⟨Nat.le_of_ble_eq_true rfl, Nat.le_of_ble_eq_true rfl⟩) (pr_V (hC.S hS) hPm [0] (sg_one h0m) (ci := 7) rfl (q0 := 0) rfl) rfl rfl hl.1 rfl (lv_room (Nat.le_of_ble_eq_true rfl)) kd_L_law_866 ⟨show 40 + t + 1 + 0 ≤ 1093 by omega, show 2103 + 6 * t + 6 + 0 ≤ 10469 by omega⟩) ?_
  refine lv_iload hx hb kd_L_law_869 (lv_at hl 1 rfl) ?_
  refine lv_icmp_eq (tgt := 876) hx hb kd_L_law_871 (by decide) (fun _ => ?_) (fun c9 => absurd rfl c9)
  refine lv_iload hx hb kd_L_law_876 (lv_at hl 1 rfl) ?_
  refine lv_if_ne (tgt := 892) hx hb kd_L_law_878 (by decide) (fun c9 => ?_) (fun c9 => ?_)
  · refine lv_goto (tgt := 895) hx hb kd_L_law_892 (by decide) ?_
    exact back _ _ _ (lv_sub hl [2, 3, 4, 5, 6] rfl) ⟨wb1, wm1, ov1, hPb, hPm, hDb, hDm, hap, hS, hI1⟩
  · skip
    refine lv_aload_n hx hb kd_L_law_881 rfl (lv_at hl 5 rfl) ?_
    refine lv_iconst (v := 0) hx hb kd_L_law_882 (by decide) ?_
    refine hx_lald (j := 0) hx hb hK hPb 0 rfl rfl (by decide) (by decide) kd_L_law_883 ?_
    refine lv_lload hx hb kd_L_law_884 (lv_at hl 0 rfl) ?_
    refine W.lcmp hx hb kd_L_law_886 ?_
    refine lv_if_eq (tgt := 892) hx hb kd_L_law_887 (by decide) (fun _ => ?_) (fun c8 => absurd ((lg_cmp_eq _ _).mpr (heq c9)) c8)
    refine lv_goto (tgt := 895) hx hb kd_L_law_892 (by decide) ?_
    exact back _ _ _ (lv_sub hl [2, 3, 4, 5, 6] rfl) ⟨wb1, wm1, ov1, hPb, hPm, hDb, hDm, hap, hS, hI1⟩

theorem op_calls {l : Launch} {D : va_G} {cI cL cZ : ClassId} {tb : Nat} {q r : Nat → Nat} {d : Nat} {wb wm : va_W} (hI : inv_ cI cL cZ q r d wb wm) : ∃ (v : Int32) (wm1 : va_W), (∀ sz, Met l ky_B_calls kw_B_calls { frames := 0, cells := 0, slots := 0, locals := 0 } (pw_P D cI cL cZ tb wb sz [.ref (q 0)]) (hx_QW D (some (.int v)) wb (va_A wb sz)) 0 0 (va_A wb sz)) ∧ (∀ sz, Met l ky_R_calls kw_R_calls { frames := 0, cells := 0, slots := 0, locals := 0 } (pw_P D cI cL cZ tb wm sz [.ref (r 0)]) (hx_QW D (some (.int v)) wm1 (va_A wm sz)) 0 0 (va_A wm sz)) ∧ wm1.map (fun q => q.1) = wm.map (fun q => q.1) ∧ inv_ cI cL cZ q r (d + 1) wb wm1 := by
  obtain ⟨nc, no, nm, nar, nd, sa, nw, ck, th, lg, pa, co, ho, nn, si, ty, rt, kn, so, ca, lo, fo, fm, fs, aq, cd, bi, fv, wa, an, rfl, rfl, hv⟩ := hI
  exact ⟨nI nd, _, fun sz => mc_B_calls q nc no nm nar nd sa nw ck lg pa co ho nn si ty kn so ca lo fo fm fs bi fv wa sz, fun sz => mr_calls r nc no nm nar nd nw th lg pa co ho nn si rt kn aq cd fo fm fs bi fv an sz, rfl, nc, no, nm, nar, nd, sa, nw, ck, 0, lg, pa, co, ho, nn, si, ty, rt, kn, so, ca, lo, fo, fm, fs, aq, cd, bi, fv, wa, an, rfl, rfl, iv_mono hv⟩

set_option maxHeartbeats 4000000 in
set_option maxRecDepth 100000 in
theorem lc_calls {p : Program} {l : Launch} {e : Env} {s : State} {m : MethodId} {below : List Frame} {meth : Method} {c : Code} {b L : Nat} {xs : Nat → Int32} {D : va_G} {cI cL cZ : ClassId} {tb : Nat} {q r : Nat → Nat} {qo t : Nat} {Q : State → Prop} (hc : lw_C l p s m c b L xs D cI cL cZ tb) (h6 : 6 * t + 6 ≤ L) {ls : Array Slot} {H : Heap} {locs : List Loc} (hl : lv_has ls 8 [(0, .ref b), (1, .ref (q 0)), (2, .ref (r 0)), (3, .ref qo), (4, .int (nI (6 * t)))]) (hst : lw_I D cI cL cZ q r qo t s H locs) (back : ∀ (ls : Array Slot) (H : Heap) (locs : List Loc), lv_has ls 8 [(0, .ref b), (1, .ref (q 0)), (2, .ref (r 0)), (3, .ref qo), (4, .int (nI (6 * t)))] → lw_I D cI cL cZ q r qo (t + 1) s H locs → W p l e room_1 s m #[Value.ref b] below meth c H locs (40 + t + 1) (2103 + 6 * t + 6) Q (F0 m 895 ls [])) : W p l e room_1 s m #[Value.ref b] below meth c H locs (40 + t) (2103 + 6 * t) Q (F0 m 747 ls []) := by
  obtain ⟨htr, hx, hb, hml, hown, hX, hbl, hL, hC, hN⟩ := hc
  have hown : s.vm.findClass "HostBridgeLaw" = some m.cls := hown
  have hA : ∀ q : Nat, s.heap.size ≤ q → lw_A s q := fun _ h => h
  have hbA : ¬ lw_A s b := Nat.not_le.mpr hbl
  have hK := hC.K
  have hts := hC.ts #[Value.ref b]
  obtain ⟨wb, wm, ov, hPb, hPm, hDb, hDm, hap, hS, hI⟩ := hst
  obtain ⟨fr0, hm0⟩ := inv_m hI
  obtain ⟨fb0, hb0⟩ := inv_b hI
  obtain ⟨v, wm1, hM1, hM2, hwm, hI1⟩ := op_calls (l := l) (D := D) (tb := tb) hI
  obtain ⟨hDo, hDw, hap0⟩ := sg_Dt hDb
  obtain ⟨hPo, hPw⟩ := sg_cons.mp hPb
  have hPo0 := hPo
  refine lv_aload_n hx hb kd_L_law_747 rfl (lv_at hl 1 rfl) ?_
  have hapw : sg_ap wb (ou_ cL qo ov :: wm) := fun i j y z hi hj => by
    cases j with
    | zero => exact fun e9 => hap0 0 i _ _ hj hi e9.symm
    | succ j => exact hap (i + 1) j _ _ hi hj
  refine sg_call (va_runV (As := []) (rest := []) ⟨hx, hb, hml, hown, hts⟩ (hM1 _) (cwV 0 hts (goodIn_sub (hx_m5 km_191 km_192 km_193 km_1 km_194) (by decide +kernel)) rfl rfl rfl (by decide +kernel) ⟨Nat.le_of_ble_eq_true rfl, Nat.le_of_ble_eq_true rfl⟩) (sg_V (hC.S hS) hPw hDw hS hA (ci := 0) rfl hb0) rfl rfl hl.1 rfl (lv_room (Nat.le_of_ble_eq_true rfl)) kd_L_law_748 ⟨show 40 + t + 0 ≤ 1093 by omega, show 2103 + 6 * t + 0 ≤ 10469 by omega⟩) hDw hS hA rfl hapw (sg_cons.mpr ⟨hPo, hPm⟩) (fun H locs hPw hDw hPom hS => ?_)
  obtain ⟨hPo, hPm⟩ := sg_cons.mp hPom
  refine lv_aload_n hx hb kd_L_law_751 rfl (lv_at hl 2 rfl) ?_
  refine sg_call (va_runV (As := []) (rest := [.int v]) ⟨hx, hb, hml, hown, hts⟩ (hM2 _) (cwV 0 hts (goodIn_sub (hx_m5 km_799 km_800 km_801 km_8 km_802) (by decide +kernel)) rfl rfl rfl (by decide +kernel) ⟨Nat.le_of_ble_eq_true rfl, Nat.le_of_ble_eq_true rfl⟩) (sg_V (hC.S hS) hPm hDm hS hA (ci := 7) rfl hm0) rfl rfl hl.1 rfl (lv_room (Nat.le_of_ble_eq_true rfl)) kd_L_law_752 ⟨show 40 + t + 0 ≤ 1093 by omega, show 2103 + 6 * t + 0 ≤ 10469 by omega⟩) hDm hS hA hwm hap.symm (sg_cons.mpr ⟨hPo, hPw⟩) (fun H locs hPm hDm hPb hS => ?_)
  refine lv_icmp_eq (tgt := 895) hx hb kd_L_law_755 (by decide) (fun _ => ?_) (fun c9 => absurd rfl c9)
  refine W.widen (k := 40 + t + 1) (n := 2103 + 6 * t + 6) (by omega) (by omega) ?_
  exact back _ _ _ hl ⟨wb, wm1, ov, hPb, hPm, hDb, hDm, hap.new rfl hwm, hS, hI1⟩
