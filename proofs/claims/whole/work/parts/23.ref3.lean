/-! THE REFERENCE: what is hidden, which is best, the methods that write -/
section ZA
variable {p : Program} {l : Launch} {e : Env} {R : Room} {s : State} {m : MethodId} {args : Array Value} {below : List Frame} {meth : Method} {c : Code} {H : Heap} {locs : List Loc} {cells slots : Nat} {Q : State → Prop}
variable {pc : Nat} {ls : Array Slot} {rest : List Value} {cc : ByteArray} {D : va_G} {cI cL cZ : ClassId} {ws : va_W} {A : Nat → Prop}
theorem hx_zast (hexec : p.tables.exec = Jvm.exec) (hb : c.code = cc) (hK : va_K D cl_all (cx_ty cI cL cZ) s) (hP : va_P D cl_all ws H) (hD : va_D A ws) (hS : va_S A s.heap H locs) (q0 : Nat) {b n : Nat} {f : Nat → Int32} (ha : ws[q0]? = some (b, .inl (cZ, n, .inl f))) {i x : Int32} {j : Nat} (hj : i = nI j) (hlt : j < n) (hn : n < 2 ^ 31) (hx0 : vp_nar .boolean x = x) (hdg : decode cc pc = .ok (.bastore, 1))
    (kk : ∀ (H1 : Heap) (locs1 : List Loc), va_P D cl_all (ws.set q0 (b, .inl (cZ, n, .inl (upd f j x)))) H1 → va_D A (ws.set q0 (b, .inl (cZ, n, .inl (upd f j x)))) → va_S A s.heap H1 locs1 → W p l e R s m args below meth c H1 locs1 cells slots Q (F0 m (pc + 1) ls rest)) : W p l e R s m args below meth c H locs cells slots Q (F0 m pc ls (.int x :: .int i :: .ref b :: rest)) := by
  subst hj
  refine va_zast hexec hb hK hP hD hS q0 2 ha rfl (vp_in_nI hlt hn) hdg ?_
  rw [nI_clamp (Nat.lt_trans hlt hn), hx0]
  exact kk
theorem b2_vn (b : Bool) : vp_nar .boolean (b2_ b) = b2_ b := by cases b <;> rfl
end ZA

/-- method w hides method y -/
def hs_ (rp rk ow rn ct rt : Nat → Int32) (o n y w : Nat) : Bool := decide (rn w = rn y) && decide (ct w = ct y) && !decide (fa_ rp rk o (ow y) ≤ fa_ rp rk o (ow w)) && al_ (fun i => decide (rt (4 * w + i) = rt (4 * y + i))) n

set_option maxHeartbeats 4000000 in
set_option maxRecDepth 100000 in
theorem mr_isHidden {l : Launch} {D : va_G} {cI cL cZ : ClassId} {tb : Nat} (r : Nat → Nat) (rc ro rm ra rl rw : Nat) (th : Int32) (gv : Int64) (rp rk ow rn ct rt ki aq cd g1 g2 g3 : Nat → Int32) (rb gw an : Nat → Int64) (o n y : Nat) (ho : o < ro) (hy : y < 64) (hrm : rm ≤ 64) (hn : n ≤ 4) (hcy : ct y = nI n) (hln : ln_ok rc rp) (hno : ro ≤ 64) (hco : ∀ j, j < ro → ∃ q : Nat, q < rc ∧ rk j = nI q) : Met l ky_R_isHidden kw_R_isHidden { frames := 1, cells := 0, slots := 0, locals := 24 } (pr_P D cI cL cZ tb [((r 0), .inr (7, [.int th, .int (nI rc), .ref (r 1), .int (nI ro), .ref (r 2), .int (nI rm), .ref (r 3), .ref (r 4), .ref (r 5), .ref (r 6), .int (nI ra), .ref (r 7), .ref (r 8), .ref (r 9), .ref (r 10), .int (nI rl), .ref (r 11), .ref (r 12), .ref (r 13), .ref (r 14), .int (nI rw), .ref (r 15), .long gv])), ((r 1), .inl (cI, 16, .inl rp)), ((r 2), .inl (cI, 64, .inl rk)), ((r 3), .inl (cI, 64, .inl ow)), ((r 4), .inl (cI, 64, .inl rn)), ((r 5), .inl (cI, 64, .inl ct)), ((r 6), .inl (cI, 256, .inl rt)), ((r 7), .inl (cI, 4, .inl ki)), ((r 8), .inl (cL, 4, .inr (.inl rb))), ((r 9), .inl (cI, 4, .inl aq)), ((r 10), .inl (cZ, 64, .inl cd)), ((r 11), .inl (cI, 64, .inl g1)), ((r 12), .inl (cI, 64, .inl g2)), ((r 13), .inl (cI, 64, .inl g3)), ((r 14), .inl (cL, 256, .inr (.inl gw))), ((r 15), .inl (cL, 64, .inr (.inl an)))] [.ref (r 0), .int (nI o), .int (nI y)]) (hx_QR (some (.int (b2_ (an_ (hs_ rp rk ow rn ct rt o n y) rm))))) 0 0 (fun _ => False) := by
  refine Met.ofW (cc := kc_R_isHidden) (maxL := 7) (ret := (some .boolean)) (by decide) rfl ?_
  intro p e s m args below meth c s₁ B hml hv
  obtain ⟨rfl, hC, hP⟩ := hv
  have hx := B.exec
  have hb := B.bytes
  have hr := B.returns
  have hlocks := B.notSynchronized
  have hown : s.vm.findClass "HostBridgeModel" = some m.cls := findClass_of_methodNamed B.named
  have hS : va_S (fun _ => False) s.heap s.heap [] := va_S.rf
  have hK := hC.K
  have hts := hC.ts [.ref (r 0), .int (nI o), .int (nI y)].toArray
  have hl := lv_entry ([.ref (r 0), .int (nI o), .int (nI y)]) (n := 7) (Nat.le_of_ble_eq_true rfl)
  rw [lg_entry_eq]
  generalize (lg_sl ([.ref (r 0), .int (nI o), .int (nI y)]) ++ List.replicate (7 - (lg_sl ([.ref (r 0), .int (nI o), .int (nI y)])).length) Slot.unset).toArray = ls at hl ⊢
  have hl : lv_has ls 7 [(0, .ref (r 0)), (1, .int (nI o)), (2, .int (nI y))] := hl
  refine lv_iconst (v := 0) hx hb kd_R_isHidden_0 (by decide) ?_
  refine hx_topi (y := b2_ (an_ (hs_ rp rk ow rn ct rt o n y) 0)) (by rw [an_0]; rfl) ?_
  refine lv_istore_n (lv' := [(3, .int (b2_ (an_ (hs_ rp rk ow rn ct rt o n y) 0))), (0, .ref (r 0)), (1, .int (nI o)), (2, .int (nI y))]) hx hb kd_R_isHidden_1 rfl hl (by decide) rfl (fun ls hl => ?_)
  refine lv_iconst (v := 0) hx hb kd_R_isHidden_2 (by decide) ?_
  refine hx_topi (y := nI 0) (rfl) ?_
  refine lv_istore (lv' := [(4, .int (nI 0)), (3, .int (b2_ (an_ (hs_ rp rk ow rn ct rt o n y) 0))), (0, .ref (r 0)), (1, .int (nI o)), (2, .int (nI y))]) hx hb kd_R_isHidden_3 hl (by decide) rfl (fun ls hl => ?_)
  refine hx_loopR (σ := Nat) (I := fun w ls => lv_has ls 7 [(0, .ref (r 0)), (1, .int (nI o)), (2, .int (nI y)), (3, .int (b2_ (an_ (hs_ rp rk ow rn ct rt o n y) w))), (4, .int (nI w))] ∧ w ≤ rm) (μ := fun w => rm - w) ?_ 0 ⟨lv_sub hl [2, 3, 4, 1, 0] rfl, Nat.zero_le _⟩
  intro w ls hI ih5
  obtain ⟨hl, hw⟩ := hI
  refine lv_iload hx hb kd_R_isHidden_5 (lv_at hl 4 rfl) ?_
  refine lv_aload_n hx hb kd_R_isHidden_7 rfl (lv_at hl 0 rfl) ?_
  refine va_get (D := D) (ci := 7) (v := .int (nI rm)) (C := "HostBridgeModel") (T := ct_R) (N := 23) hx hb hts cw_R hown hK hP 0 rfl rfl 5 (by decide) (hts _ km_626) (fun _ h9 => h9) rfl kd_R_isHidden_8 ?_
  refine lv_icmp_ge (tgt := 158) hx hb kd_R_isHidden_11 (by decide) (fun c_11 => ?_) (fun c_11 => ?_)
  · skip
    have hin : w = rm := by rw [nI_leI (by omega) (by omega)] at c_11; omega
    refine lv_iload_n hx hb kd_R_isHidden_158 rfl (lv_at hl 3 rfl) ?_
    exact hx_zretR hx hb hr hlocks (by rw [hin]) kd_R_isHidden_159
  · skip
    have hin : w < rm := by rw [nI_leI (by omega) (by omega)] at c_11; omega
    refine hx_cut (pc2 := 77) (ls2 := ls) (rest2 := []) (P := fun x => x = b2_ (decide (rn w = rn y) && decide (ct w = ct y) && !decide (fa_ rp rk o (ow y) ≤ fa_ rp rk o (ow w)))) ?_ (fun hj1 => ?_)
    · intro x2 e3
      subst e3
      refine lv_istore (lv' := [(5, .int (b2_ (decide (rn w = rn y) && decide (ct w = ct y) && !decide (fa_ rp rk o (ow y) ≤ fa_ rp rk o (ow w))))), (0, .ref (r 0)), (1, .int (nI o)), (2, .int (nI y)), (3, .int (b2_ (an_ (hs_ rp rk ow rn ct rt o n y) w))), (4, .int (nI w))]) hx hb kd_R_isHidden_77 hl (by decide) rfl (fun ls hl => ?_)
      refine lv_iconst (v := 0) hx hb kd_R_isHidden_79 (by decide) ?_
      refine hx_topi (y := nI 0) (rfl) ?_
      refine lv_istore (lv' := [(6, .int (nI 0)), (5, .int (b2_ (decide (rn w = rn y) && decide (ct w = ct y) && !decide (fa_ rp rk o (ow y) ≤ fa_ rp rk o (ow w))))), (0, .ref (r 0)), (1, .int (nI o)), (2, .int (nI y)), (3, .int (b2_ (an_ (hs_ rp rk ow rn ct rt o n y) w))), (4, .int (nI w))]) hx hb kd_R_isHidden_80 hl (by decide) rfl (fun ls hl => ?_)
      refine hx_loopR (σ := Nat × Bool) (I := fun x ls => lv_has ls 7 [(0, .ref (r 0)), (1, .int (nI o)), (2, .int (nI y)), (3, .int (b2_ (an_ (hs_ rp rk ow rn ct rt o n y) w))), (4, .int (nI w)), (5, .int (b2_ x.2)), (6, .int (nI x.1))] ∧ x.1 ≤ n ∧ x.2 = (decide (rn w = rn y) && decide (ct w = ct y) && !decide (fa_ rp rk o (ow y) ≤ fa_ rp rk o (ow w)) && al_ (fun i => decide (rt (4 * w + i) = rt (4 * y + i))) x.1)) (μ := fun x => n - x.1) ?_ (0, decide (rn w = rn y) && decide (ct w = ct y) && !decide (fa_ rp rk o (ow y) ≤ fa_ rp rk o (ow w))) ⟨lv_sub hl [2, 3, 4, 5, 6, 1, 0] rfl, Nat.zero_le _, by dsimp only; rw [al_0, Bool.and_true]⟩
      intro x ls hI ih82
      obtain ⟨i, g⟩ := x
      obtain ⟨hl, hi, hg⟩ := hI
      dsimp only at hl hi hg ih82
      refine lv_iload hx hb kd_R_isHidden_82 (lv_at hl 6 rfl) ?_
      refine lv_aload_n hx hb kd_R_isHidden_84 rfl (lv_at hl 0 rfl) ?_
      refine va_get (D := D) (ci := 7) (v := .ref (r 5)) (C := "HostBridgeModel") (T := ct_R) (N := 23) hx hb hts cw_R hown hK hP 0 rfl rfl 8 (by decide) (hts _ km_629) (fun _ h9 => h9) rfl kd_R_isHidden_85 ?_
      refine lv_iload_n hx hb kd_R_isHidden_88 rfl (lv_at hl 2 rfl) ?_
      refine hx_iald (j := y) hx hb hK hP 5 rfl (rfl) (by omega) (by decide) kd_R_isHidden_89 ?_
      refine hx_topi (y := nI n) (hcy) ?_
      refine lv_icmp_ge (tgt := 137) hx hb kd_R_isHidden_90 (by decide) (fun c_90 => ?_) (fun c_90 => ?_)
      · skip
        have hin : i = n := by rw [nI_leI (by omega) (by omega)] at c_90; omega
        have hsg : hs_ rp rk ow rn ct rt o n y w = g := by rw [hs_, hg, hin]
        refine hx_cut (pc2 := 151) (ls2 := ls) (rest2 := []) (P := fun x => x = b2_ (an_ (hs_ rp rk ow rn ct rt o n y) (w + 1))) ?_ (fun hj4 => ?_)
        · intro x5 e6
          subst e6
          refine lv_istore_n (lv' := [(3, .int (b2_ (an_ (hs_ rp rk ow rn ct rt o n y) (w + 1)))), (0, .ref (r 0)), (1, .int (nI o)), (2, .int (nI y)), (4, .int (nI w)), (5, .int (b2_ g)), (6, .int (nI i))]) hx hb kd_R_isHidden_151 rfl hl (by decide) rfl (fun ls hl => ?_)
          refine lv_iinc (v := nI (w + 1)) (lv' := [(4, .int (nI (w + 1))), (3, .int (b2_ (an_ (hs_ rp rk ow rn ct rt o n y) (w + 1)))), (0, .ref (r 0)), (1, .int (nI o)), (2, .int (nI y)), (5, .int (b2_ g)), (6, .int (nI i))]) hx hb kd_R_isHidden_152 hl (k := 4) rfl (nI_1 w) (by decide) rfl (fun ls hl => ?_)
          refine lv_goto (tgt := 5) hx hb kd_R_isHidden_155 (by decide) ?_
          exact ih5 (w + 1) _ (by omega) ⟨lv_sub hl [2, 3, 4, 1, 0] rfl, by omega⟩
        · skip
          refine lv_iload_n hx hb kd_R_isHidden_137 rfl (lv_at hl 3 rfl) ?_
          refine lv_if_ne (tgt := 146) hx hb kd_R_isHidden_138 (by decide) (fun c_138 => ?_) (fun c_138 => ?_)
          · skip
            refine lv_iconst (v := 1) hx hb kd_R_isHidden_146 (by decide) ?_
            refine lv_goto (tgt := 151) hx hb kd_R_isHidden_147 (by decide) ?_
            exact hj4 _ (by rw [an_s, hsg]; simp [b2_, b2_t c_138])
          · skip
            refine lv_iload hx hb kd_R_isHidden_141 (lv_at hl 5 rfl) ?_
            refine lv_if_eq (tgt := 150) hx hb kd_R_isHidden_143 (by decide) (fun c_143 => ?_) (fun c_143 => ?_)
            · skip
              refine lv_iconst (v := 0) hx hb kd_R_isHidden_150 (by decide) ?_
              exact hj4 _ (by rw [an_s, hsg]; simp [b2_, b2_f c_138, b2_f c_143])
            · skip
              refine lv_iconst (v := 1) hx hb kd_R_isHidden_146 (by decide) ?_
              refine lv_goto (tgt := 151) hx hb kd_R_isHidden_147 (by decide) ?_
              exact hj4 _ (by rw [an_s, hsg]; simp [b2_, b2_f c_138, b2_t c_143])
      · skip
        have hin : i < n := by rw [nI_leI (by omega) (by omega)] at c_90; omega
        refine hx_cut (pc2 := 129) (ls2 := ls) (rest2 := []) (P := fun x => x = b2_ (decide (rn w = rn y) && decide (ct w = ct y) && !decide (fa_ rp rk o (ow y) ≤ fa_ rp rk o (ow w)) && al_ (fun i => decide (rt (4 * w + i) = rt (4 * y + i))) (i + 1))) ?_ (fun hj7 => ?_)
        · intro x8 e9
          subst e9
          refine lv_istore (lv' := [(5, .int (b2_ (decide (rn w = rn y) && decide (ct w = ct y) && !decide (fa_ rp rk o (ow y) ≤ fa_ rp rk o (ow w)) && al_ (fun i => decide (rt (4 * w + i) = rt (4 * y + i))) (i + 1)))), (0, .ref (r 0)), (1, .int (nI o)), (2, .int (nI y)), (3, .int (b2_ (an_ (hs_ rp rk ow rn ct rt o n y) w))), (4, .int (nI w)), (6, .int (nI i))]) hx hb kd_R_isHidden_129 hl (by decide) rfl (fun ls hl => ?_)
          refine lv_iinc (v := nI (i + 1)) (lv' := [(6, .int (nI (i + 1))), (5, .int (b2_ (decide (rn w = rn y) && decide (ct w = ct y) && !decide (fa_ rp rk o (ow y) ≤ fa_ rp rk o (ow w)) && al_ (fun i => decide (rt (4 * w + i) = rt (4 * y + i))) (i + 1)))), (0, .ref (r 0)), (1, .int (nI o)), (2, .int (nI y)), (3, .int (b2_ (an_ (hs_ rp rk ow rn ct rt o n y) w))), (4, .int (nI w))]) hx hb kd_R_isHidden_131 hl (k := 6) rfl (nI_1 i) (by decide) rfl (fun ls hl => ?_)
          refine lv_goto (tgt := 82) hx hb kd_R_isHidden_134 (by decide) ?_
          exact ih82 (i + 1, decide (rn w = rn y) && decide (ct w = ct y) && !decide (fa_ rp rk o (ow y) ≤ fa_ rp rk o (ow w)) && al_ (fun i => decide (rt (4 * w + i) = rt (4 * y + i))) (i + 1)) _ (by dsimp only; omega) ⟨lv_sub hl [2, 3, 4, 5, 6, 1, 0] rfl, by dsimp only; omega, rfl⟩
        · skip
          refine lv_iload hx hb kd_R_isHidden_93 (lv_at hl 5 rfl) ?_
          refine lv_if_eq (tgt := 128) hx hb kd_R_isHidden_95 (by decide) (fun c_95 => ?_) (fun c_95 => ?_)
          · skip
            refine lv_iconst (v := 0) hx hb kd_R_isHidden_128 (by decide) ?_
            exact hj7 _ (by rw [al_s, ← Bool.and_assoc, ← hg, b2_f c_95]; simp [b2_])
          · skip
            refine lv_aload_n hx hb kd_R_isHidden_98 rfl (lv_at hl 0 rfl) ?_
            refine va_get (D := D) (ci := 7) (v := .ref (r 6)) (C := "HostBridgeModel") (T := ct_R) (N := 23) hx hb hts cw_R hown hK hP 0 rfl rfl 9 (by decide) (hts _ km_630) (fun _ h9 => h9) rfl kd_R_isHidden_99 ?_
            refine lv_iconst (v := 4) hx hb kd_R_isHidden_102 (by decide) ?_
            refine lv_iload hx hb kd_R_isHidden_103 (lv_at hl 4 rfl) ?_
            refine lv_imul hx hb kd_R_isHidden_105 ?_
            refine hx_topi (y := nI (4 * w)) (by rw [show (4 : Int32) = nI 4 from rfl, pk_mul]) ?_
            refine lv_iload hx hb kd_R_isHidden_106 (lv_at hl 6 rfl) ?_
            refine lv_iadd hx hb kd_R_isHidden_108 ?_
            refine hx_topi (y := nI (4 * w + i)) (nI_add _ _) ?_
            refine hx_iald (j := 4 * w + i) hx hb hK hP 6 rfl (rfl) (by omega) (by decide) kd_R_isHidden_109 ?_
            refine lv_aload_n hx hb kd_R_isHidden_110 rfl (lv_at hl 0 rfl) ?_
            refine va_get (D := D) (ci := 7) (v := .ref (r 6)) (C := "HostBridgeModel") (T := ct_R) (N := 23) hx hb hts cw_R hown hK hP 0 rfl rfl 9 (by decide) (hts _ km_630) (fun _ h9 => h9) rfl kd_R_isHidden_111 ?_
            refine lv_iconst (v := 4) hx hb kd_R_isHidden_114 (by decide) ?_
            refine lv_iload_n hx hb kd_R_isHidden_115 rfl (lv_at hl 2 rfl) ?_
            refine lv_imul hx hb kd_R_isHidden_116 ?_
            refine hx_topi (y := nI (4 * y)) (by rw [show (4 : Int32) = nI 4 from rfl, pk_mul]) ?_
            refine lv_iload hx hb kd_R_isHidden_117 (lv_at hl 6 rfl) ?_
            refine lv_iadd hx hb kd_R_isHidden_119 ?_
            refine hx_topi (y := nI (4 * y + i)) (nI_add _ _) ?_
            refine hx_iald (j := 4 * y + i) hx hb hK hP 6 rfl (rfl) (by omega) (by decide) kd_R_isHidden_120 ?_
            refine lv_icmp_ne (tgt := 128) hx hb kd_R_isHidden_121 (by decide) (fun c_121 => ?_) (fun c_121 => ?_)
            · skip
              refine lv_iconst (v := 0) hx hb kd_R_isHidden_128 (by decide) ?_
              exact hj7 _ (by rw [al_s, ← Bool.and_assoc, ← hg, b2_t c_95]; simp [b2_, c_121])
            · skip
              refine lv_iconst (v := 1) hx hb kd_R_isHidden_124 (by decide) ?_
              refine lv_goto (tgt := 129) hx hb kd_R_isHidden_125 (by decide) ?_
              exact hj7 _ (by rw [al_s, ← Bool.and_assoc, ← hg, b2_t c_95]; simp [b2_, c_121])
    · skip
      refine lv_aload_n hx hb kd_R_isHidden_14 rfl (lv_at hl 0 rfl) ?_
      refine va_get (D := D) (ci := 7) (v := .ref (r 4)) (C := "HostBridgeModel") (T := ct_R) (N := 23) hx hb hts cw_R hown hK hP 0 rfl rfl 7 (by decide) (hts _ km_628) (fun _ h9 => h9) rfl kd_R_isHidden_15 ?_
      refine lv_iload hx hb kd_R_isHidden_18 (lv_at hl 4 rfl) ?_
      refine hx_iald (j := w) hx hb hK hP 4 rfl (rfl) (by omega) (by decide) kd_R_isHidden_20 ?_
      refine lv_aload_n hx hb kd_R_isHidden_21 rfl (lv_at hl 0 rfl) ?_
      refine va_get (D := D) (ci := 7) (v := .ref (r 4)) (C := "HostBridgeModel") (T := ct_R) (N := 23) hx hb hts cw_R hown hK hP 0 rfl rfl 7 (by decide) (hts _ km_628) (fun _ h9 => h9) rfl kd_R_isHidden_22 ?_
      refine lv_iload_n hx hb kd_R_isHidden_25 rfl (lv_at hl 2 rfl) ?_
      refine hx_iald (j := y) hx hb hK hP 4 rfl (rfl) (by omega) (by decide) kd_R_isHidden_26 ?_
      refine lv_icmp_ne (tgt := 76) hx hb kd_R_isHidden_27 (by decide) (fun c_27 => ?_) (fun c_27 => ?_)
      · skip
        refine lv_iconst (v := 0) hx hb kd_R_isHidden_76 (by decide) ?_
        exact hj1 _ (by simp [b2_, c_27])
      · skip
        refine lv_aload_n hx hb kd_R_isHidden_30 rfl (lv_at hl 0 rfl) ?_
        refine va_get (D := D) (ci := 7) (v := .ref (r 5)) (C := "HostBridgeModel") (T := ct_R) (N := 23) hx hb hts cw_R hown hK hP 0 rfl rfl 8 (by decide) (hts _ km_629) (fun _ h9 => h9) rfl kd_R_isHidden_31 ?_
        refine lv_iload hx hb kd_R_isHidden_34 (lv_at hl 4 rfl) ?_
        refine hx_iald (j := w) hx hb hK hP 5 rfl (rfl) (by omega) (by decide) kd_R_isHidden_36 ?_
        refine lv_aload_n hx hb kd_R_isHidden_37 rfl (lv_at hl 0 rfl) ?_
        refine va_get (D := D) (ci := 7) (v := .ref (r 5)) (C := "HostBridgeModel") (T := ct_R) (N := 23) hx hb hts cw_R hown hK hP 0 rfl rfl 8 (by decide) (hts _ km_629) (fun _ h9 => h9) rfl kd_R_isHidden_38 ?_
        refine lv_iload_n hx hb kd_R_isHidden_41 rfl (lv_at hl 2 rfl) ?_
        refine hx_iald (j := y) hx hb hK hP 5 rfl (rfl) (by omega) (by decide) kd_R_isHidden_42 ?_
        refine lv_icmp_ne (tgt := 76) hx hb kd_R_isHidden_43 (by decide) (fun c_43 => ?_) (fun c_43 => ?_)
        · skip
          refine lv_iconst (v := 0) hx hb kd_R_isHidden_76 (by decide) ?_
          exact hj1 _ (by simp [b2_, c_27, c_43])
        · skip
          refine lv_aload_n hx hb kd_R_isHidden_46 rfl (lv_at hl 0 rfl) ?_
          refine lv_iload_n hx hb kd_R_isHidden_47 rfl (lv_at hl 1 rfl) ?_
          refine lv_aload_n hx hb kd_R_isHidden_48 rfl (lv_at hl 0 rfl) ?_
          refine va_get (D := D) (ci := 7) (v := .ref (r 3)) (C := "HostBridgeModel") (T := ct_R) (N := 23) hx hb hts cw_R hown hK hP 0 rfl rfl 6 (by decide) (hts _ km_627) (fun _ h9 => h9) rfl kd_R_isHidden_49 ?_
          refine lv_iload hx hb kd_R_isHidden_52 (lv_at hl 4 rfl) ?_
          refine hx_iald (j := w) hx hb hK hP 3 rfl (rfl) (by omega) (by decide) kd_R_isHidden_54 ?_
          refine hx_callRi (va_runV (As := [.int (nI o), .int (ow w)]) (rest := []) ⟨hx, hb, hml, hown, hts⟩ (mr_far r rc ro rm ra rl rw th gv rp rk ow rn ct rt ki aq cd g1 g2 g3 rb gw an o (ow w) ho hln hno hco) (cwV 2 hts (goodIn_sub (hx_m5 km_757 km_759 kv_R_far km_8 km_760) (by decide +kernel)) rfl rfl rfl (by decide +kernel) ⟨Nat.le_of_ble_eq_true rfl, Nat.le_of_ble_eq_true rfl⟩) (pr_V (hC.S hS) hP [0, 1, 2, 3, 4, 5, 6, 7, 8, 9, 10, 11, 12, 13, 14, 15] rfl (ci := 7) rfl (q0 := 0) rfl) rfl rfl hl.1 rfl (lv_room (Nat.le_of_ble_eq_true rfl)) kd_R_isHidden_55 ⟨Nat.le_of_ble_eq_true rfl, Nat.le_of_ble_eq_true rfl⟩) ?_
          refine lv_aload_n hx hb kd_R_isHidden_58 rfl (lv_at hl 0 rfl) ?_
          refine lv_iload_n hx hb kd_R_isHidden_59 rfl (lv_at hl 1 rfl) ?_
          refine lv_aload_n hx hb kd_R_isHidden_60 rfl (lv_at hl 0 rfl) ?_
          refine va_get (D := D) (ci := 7) (v := .ref (r 3)) (C := "HostBridgeModel") (T := ct_R) (N := 23) hx hb hts cw_R hown hK hP 0 rfl rfl 6 (by decide) (hts _ km_627) (fun _ h9 => h9) rfl kd_R_isHidden_61 ?_
          refine lv_iload_n hx hb kd_R_isHidden_64 rfl (lv_at hl 2 rfl) ?_
          refine hx_iald (j := y) hx hb hK hP 3 rfl (rfl) (by omega) (by decide) kd_R_isHidden_65 ?_
          refine hx_callRi (va_runV (As := [.int (nI o), .int (ow y)]) (rest := [.int (fa_ rp rk o (ow w))]) ⟨hx, hb, hml, hown, hts⟩ (mr_far r rc ro rm ra rl rw th gv rp rk ow rn ct rt ki aq cd g1 g2 g3 rb gw an o (ow y) ho hln hno hco) (cwV 2 hts (goodIn_sub (hx_m5 km_757 km_759 kv_R_far km_8 km_760) (by decide +kernel)) rfl rfl rfl (by decide +kernel) ⟨Nat.le_of_ble_eq_true rfl, Nat.le_of_ble_eq_true rfl⟩) (pr_V (hC.S hS) hP [0, 1, 2, 3, 4, 5, 6, 7, 8, 9, 10, 11, 12, 13, 14, 15] rfl (ci := 7) rfl (q0 := 0) rfl) rfl rfl hl.1 rfl (lv_room (Nat.le_of_ble_eq_true rfl)) kd_R_isHidden_66 ⟨Nat.le_of_ble_eq_true rfl, Nat.le_of_ble_eq_true rfl⟩) ?_
          refine lv_icmp_ge (tgt := 76) hx hb kd_R_isHidden_69 (by decide) (fun c_69 => ?_) (fun c_69 => ?_)
          · skip
            refine lv_iconst (v := 0) hx hb kd_R_isHidden_76 (by decide) ?_
            exact hj1 _ (by simp [b2_, c_27, c_43, c_69])
          · skip
            refine lv_iconst (v := 1) hx hb kd_R_isHidden_72 (by decide) ?_
            refine lv_goto (tgt := 77) hx hb kd_R_isHidden_73 (by decide) ?_
            exact hj1 _ (by simp [b2_, c_27, c_43, c_69])

/-- method y is no heavier than method w, where that is a candidate -/
def bw_ (rp rk ki : Nat → Int32) (rb : Nat → Int64) (rt : Nat → Int32) (C : Nat → Bool) (ra y w : Nat) : Bool := !C w || al_ (fun i => decide (rw_ rp rk ki rb i (rt (4 * y + i)) ≤ rw_ rp rk ki rb i (rt (4 * w + i)))) ra

set_option maxHeartbeats 4000000 in
set_option maxRecDepth 100000 in
theorem mr_isBest {l : Launch} {D : va_G} {cI cL cZ : ClassId} {tb : Nat} (r : Nat → Nat) (rc ro rm ra rl rw : Nat) (th : Int32) (gv : Int64) (rp rk ow rn ct rt ki aq cd g1 g2 g3 : Nat → Int32) (rb gw an : Nat → Int64) (C : Nat → Bool) (y : Nat) (hy : y < rm) (hrm : rm ≤ 64) (hra : ra ≤ 4) (hcd : ∀ z, z < rm → cd z = b2_ (C z)) (hok : ∀ i, i < ra → ki i = 5 → ∃ o : Nat, o < ro ∧ rb i = lN o) (hln : ln_ok rc rp) (hno : ro ≤ 64) (hco : ∀ j, j < ro → ∃ q : Nat, q < rc ∧ rk j = nI q) : Met l ky_R_isBest kw_R_isBest { frames := 3, cells := 0, slots := 0, locals := 76 } (pr_P D cI cL cZ tb [((r 0), .inr (7, [.int th, .int (nI rc), .ref (r 1), .int (nI ro), .ref (r 2), .int (nI rm), .ref (r 3), .ref (r 4), .ref (r 5), .ref (r 6), .int (nI ra), .ref (r 7), .ref (r 8), .ref (r 9), .ref (r 10), .int (nI rl), .ref (r 11), .ref (r 12), .ref (r 13), .ref (r 14), .int (nI rw), .ref (r 15), .long gv])), ((r 1), .inl (cI, 16, .inl rp)), ((r 2), .inl (cI, 64, .inl rk)), ((r 3), .inl (cI, 64, .inl ow)), ((r 4), .inl (cI, 64, .inl rn)), ((r 5), .inl (cI, 64, .inl ct)), ((r 6), .inl (cI, 256, .inl rt)), ((r 7), .inl (cI, 4, .inl ki)), ((r 8), .inl (cL, 4, .inr (.inl rb))), ((r 9), .inl (cI, 4, .inl aq)), ((r 10), .inl (cZ, 64, .inl cd)), ((r 11), .inl (cI, 64, .inl g1)), ((r 12), .inl (cI, 64, .inl g2)), ((r 13), .inl (cI, 64, .inl g3)), ((r 14), .inl (cL, 256, .inr (.inl gw))), ((r 15), .inl (cL, 64, .inr (.inl an)))] [.ref (r 0), .int (nI y)]) (hx_QR (some (.int (b2_ (C y && al_ (bw_ rp rk ki rb rt C ra y) rm))))) 0 0 (fun _ => False) := by
  refine Met.ofW (cc := kc_R_isBest) (maxL := 5) (ret := (some .boolean)) (by decide) rfl ?_
  intro p e s m args below meth c s₁ B hml hv
  obtain ⟨rfl, hC, hP⟩ := hv
  have hx := B.exec
  have hb := B.bytes
  have hr := B.returns
  have hlocks := B.notSynchronized
  have hown : s.vm.findClass "HostBridgeModel" = some m.cls := findClass_of_methodNamed B.named
  have hS : va_S (fun _ => False) s.heap s.heap [] := va_S.rf
  have hK := hC.K
  have hts := hC.ts [.ref (r 0), .int (nI y)].toArray
  have hl := lv_entry ([.ref (r 0), .int (nI y)]) (n := 5) (Nat.le_of_ble_eq_true rfl)
  rw [lg_entry_eq]
  generalize (lg_sl ([.ref (r 0), .int (nI y)]) ++ List.replicate (5 - (lg_sl ([.ref (r 0), .int (nI y)])).length) Slot.unset).toArray = ls at hl ⊢
  have hl : lv_has ls 5 [(0, .ref (r 0)), (1, .int (nI y))] := hl
  refine lv_aload_n hx hb kd_R_isBest_0 rfl (lv_at hl 0 rfl) ?_
  refine va_get (D := D) (ci := 7) (v := .ref (r 10)) (C := "HostBridgeModel") (T := ct_R) (N := 23) hx hb hts cw_R hown hK hP 0 rfl rfl 14 (by decide) (hts _ km_635) (fun _ h9 => h9) rfl kd_R_isBest_1 ?_
  refine lv_iload_n hx hb kd_R_isBest_4 rfl (lv_at hl 1 rfl) ?_
  refine hx_zald (j := y) hx hb hK hP 10 rfl (rfl) (by omega) (by decide) kd_R_isBest_5 ?_
  refine hx_topi (y := b2_ (C y && al_ (bw_ rp rk ki rb rt C ra y) 0)) (by rw [hcd y hy, al_0, Bool.and_true]) ?_
  refine lv_istore_n (lv' := [(2, .int (b2_ (C y && al_ (bw_ rp rk ki rb rt C ra y) 0))), (0, .ref (r 0)), (1, .int (nI y))]) hx hb kd_R_isBest_6 rfl hl (by decide) rfl (fun ls hl => ?_)
  refine lv_iconst (v := 0) hx hb kd_R_isBest_7 (by decide) ?_
  refine hx_topi (y := nI 0) (rfl) ?_
  refine lv_istore_n (lv' := [(3, .int (nI 0)), (2, .int (b2_ (C y && al_ (bw_ rp rk ki rb rt C ra y) 0))), (0, .ref (r 0)), (1, .int (nI y))]) hx hb kd_R_isBest_8 rfl hl (by decide) rfl (fun ls hl => ?_)
  refine hx_loopR (σ := Nat × Bool) (I := fun x ls => lv_has ls 5 [(0, .ref (r 0)), (1, .int (nI y)), (2, .int (b2_ x.2)), (3, .int (nI x.1))] ∧ x.1 ≤ rm ∧ x.2 = (C y && al_ (bw_ rp rk ki rb rt C ra y) x.1)) (μ := fun x => rm - x.1) ?_ (0, C y && al_ (bw_ rp rk ki rb rt C ra y) 0) ⟨lv_sub hl [2, 3, 1, 0] rfl, Nat.zero_le _, rfl⟩
  intro x ls hI ih9
  obtain ⟨w, g0⟩ := x
  obtain ⟨hl, hw, hg0⟩ := hI
  dsimp only at hl hw hg0 ih9
  refine lv_iload_n hx hb kd_R_isBest_9 rfl (lv_at hl 3 rfl) ?_
  refine lv_aload_n hx hb kd_R_isBest_10 rfl (lv_at hl 0 rfl) ?_
  refine va_get (D := D) (ci := 7) (v := .int (nI rm)) (C := "HostBridgeModel") (T := ct_R) (N := 23) hx hb hts cw_R hown hK hP 0 rfl rfl 5 (by decide) (hts _ km_626) (fun _ h9 => h9) rfl kd_R_isBest_11 ?_
  refine lv_icmp_ge (tgt := 97) hx hb kd_R_isBest_14 (by decide) (fun c_14 => ?_) (fun c_14 => ?_)
  · skip
    have hin : w = rm := by rw [nI_leI (by omega) (by omega)] at c_14; omega
    refine lv_iload_n hx hb kd_R_isBest_97 rfl (lv_at hl 2 rfl) ?_
    exact hx_zretR hx hb hr hlocks (by rw [hg0, hin]) kd_R_isBest_98
  · skip
    have hin : w < rm := by rw [nI_leI (by omega) (by omega)] at c_14; omega
    refine lv_iconst (v := 0) hx hb kd_R_isBest_17 (by decide) ?_
    refine hx_topi (y := nI 0) (rfl) ?_
    refine lv_istore (lv' := [(4, .int (nI 0)), (0, .ref (r 0)), (1, .int (nI y)), (2, .int (b2_ g0)), (3, .int (nI w))]) hx hb kd_R_isBest_18 hl (by decide) rfl (fun ls hl => ?_)
    refine hx_loopR (σ := Nat × Bool) (I := fun x ls => lv_has ls 5 [(0, .ref (r 0)), (1, .int (nI y)), (2, .int (b2_ x.2)), (3, .int (nI w)), (4, .int (nI x.1))] ∧ x.1 ≤ ra ∧ x.2 = (g0 && al_ (fun i => decide (rw_ rp rk ki rb i (rt (4 * y + i)) ≤ rw_ rp rk ki rb i (rt (4 * w + i)))) x.1) ∧ (C w = false → x.1 = 0)) (μ := fun x => ra - x.1) ?_ (0, g0) ⟨lv_sub hl [1, 2, 3, 4, 0] rfl, Nat.zero_le _, by dsimp only; rw [al_0, Bool.and_true], fun _ => rfl⟩
    intro x ls hI ih20
    obtain ⟨i, g⟩ := x
    obtain ⟨hl, hi, hg, hi0⟩ := hI
    dsimp only at hl hi hg hi0 ih20
    have hbig : (i = ra ∨ C w = false) → g = (C y && al_ (bw_ rp rk ki rb rt C ra y) (w + 1)) := by
      intro h9
      rw [hg, hg0, al_s, Bool.and_assoc, bw_]
      cases hCw : C w with
      | false => rw [hi0 hCw, al_0]; simp
      | true => rcases h9 with h9 | h9
                · rw [h9]; simp [Bool.and_assoc]
                · rw [hCw] at h9; cases h9
    refine lv_iload hx hb kd_R_isBest_20 (lv_at hl 4 rfl) ?_
    refine lv_aload_n hx hb kd_R_isBest_22 rfl (lv_at hl 0 rfl) ?_
    refine va_get (D := D) (ci := 7) (v := .int (nI ra)) (C := "HostBridgeModel") (T := ct_R) (N := 23) hx hb hts cw_R hown hK hP 0 rfl rfl 10 (by decide) (hts _ km_631) (fun _ h9 => h9) rfl kd_R_isBest_23 ?_
    refine lv_icmp_ge (tgt := 91) hx hb kd_R_isBest_26 (by decide) (fun c_26 => ?_) (fun c_26 => ?_)
    · skip
      have hin : i = ra := by rw [nI_leI (by omega) (by omega)] at c_26; omega
      refine lv_iinc (v := nI (w + 1)) (lv' := [(3, .int (nI (w + 1))), (0, .ref (r 0)), (1, .int (nI y)), (2, .int (b2_ g)), (4, .int (nI i))]) hx hb kd_R_isBest_91 hl (k := 3) rfl (nI_1 w) (by decide) rfl (fun ls hl => ?_)
      refine lv_goto (tgt := 9) hx hb kd_R_isBest_94 (by decide) ?_
      exact ih9 (w + 1, g) _ (by dsimp only; omega) ⟨lv_sub hl [1, 2, 3, 0] rfl, by dsimp only; omega, hbig (Or.inl hin)⟩
    · skip
      have hin : i < ra := by rw [nI_leI (by omega) (by omega)] at c_26; omega
      refine lv_aload_n hx hb kd_R_isBest_29 rfl (lv_at hl 0 rfl) ?_
      refine va_get (D := D) (ci := 7) (v := .ref (r 10)) (C := "HostBridgeModel") (T := ct_R) (N := 23) hx hb hts cw_R hown hK hP 0 rfl rfl 14 (by decide) (hts _ km_635) (fun _ h9 => h9) rfl kd_R_isBest_30 ?_
      refine lv_iload_n hx hb kd_R_isBest_33 rfl (lv_at hl 3 rfl) ?_
      refine hx_zald (j := w) hx hb hK hP 10 rfl (rfl) (by omega) (by decide) kd_R_isBest_34 ?_
      refine hx_topi (y := b2_ (C w)) (hcd w (by omega)) ?_
      refine lv_if_eq (tgt := 91) hx hb kd_R_isBest_35 (by decide) (fun c_35 => ?_) (fun c_35 => ?_)
      · skip
        have h35 := b2_f c_35
        refine lv_iinc (v := nI (w + 1)) (lv' := [(3, .int (nI (w + 1))), (0, .ref (r 0)), (1, .int (nI y)), (2, .int (b2_ g)), (4, .int (nI i))]) hx hb kd_R_isBest_91 hl (k := 3) rfl (nI_1 w) (by decide) rfl (fun ls hl => ?_)
        refine lv_goto (tgt := 9) hx hb kd_R_isBest_94 (by decide) ?_
        exact ih9 (w + 1, g) _ (by dsimp only; omega) ⟨lv_sub hl [1, 2, 3, 0] rfl, by dsimp only; omega, hbig (Or.inr h35)⟩
      · skip
        have h35 := b2_t c_35
        refine hx_cut (pc2 := 84) (ls2 := ls) (rest2 := []) (P := fun x => x = b2_ (g0 && al_ (fun i => decide (rw_ rp rk ki rb i (rt (4 * y + i)) ≤ rw_ rp rk ki rb i (rt (4 * w + i)))) (i + 1))) ?_ (fun hj1 => ?_)
        · intro x2 e3
          subst e3
          refine lv_istore_n (lv' := [(2, .int (b2_ (g0 && al_ (fun i => decide (rw_ rp rk ki rb i (rt (4 * y + i)) ≤ rw_ rp rk ki rb i (rt (4 * w + i)))) (i + 1)))), (0, .ref (r 0)), (1, .int (nI y)), (3, .int (nI w)), (4, .int (nI i))]) hx hb kd_R_isBest_84 rfl hl (by decide) rfl (fun ls hl => ?_)
          refine lv_iinc (v := nI (i + 1)) (lv' := [(4, .int (nI (i + 1))), (2, .int (b2_ (g0 && al_ (fun i => decide (rw_ rp rk ki rb i (rt (4 * y + i)) ≤ rw_ rp rk ki rb i (rt (4 * w + i)))) (i + 1)))), (0, .ref (r 0)), (1, .int (nI y)), (3, .int (nI w))]) hx hb kd_R_isBest_85 hl (k := 4) rfl (nI_1 i) (by decide) rfl (fun ls hl => ?_)
          refine lv_goto (tgt := 20) hx hb kd_R_isBest_88 (by decide) ?_
          exact ih20 (i + 1, g0 && al_ (fun i => decide (rw_ rp rk ki rb i (rt (4 * y + i)) ≤ rw_ rp rk ki rb i (rt (4 * w + i)))) (i + 1)) _ (by dsimp only; omega) ⟨lv_sub hl [2, 3, 1, 4, 0] rfl, by dsimp only; omega, rfl, fun h9 => by rw [h35] at h9; cases h9⟩
        · skip
          refine lv_iload_n hx hb kd_R_isBest_38 rfl (lv_at hl 2 rfl) ?_
          refine lv_if_eq (tgt := 83) hx hb kd_R_isBest_39 (by decide) (fun c_39 => ?_) (fun c_39 => ?_)
          · skip
            refine lv_iconst (v := 0) hx hb kd_R_isBest_83 (by decide) ?_
            exact hj1 _ (by rw [al_s, ← Bool.and_assoc, ← hg, b2_f c_39]; simp [b2_])
          · skip
            refine lv_aload_n hx hb kd_R_isBest_42 rfl (lv_at hl 0 rfl) ?_
            refine lv_iload hx hb kd_R_isBest_43 (lv_at hl 4 rfl) ?_
            refine lv_aload_n hx hb kd_R_isBest_45 rfl (lv_at hl 0 rfl) ?_
            refine va_get (D := D) (ci := 7) (v := .ref (r 6)) (C := "HostBridgeModel") (T := ct_R) (N := 23) hx hb hts cw_R hown hK hP 0 rfl rfl 9 (by decide) (hts _ km_630) (fun _ h9 => h9) rfl kd_R_isBest_46 ?_
            refine lv_iconst (v := 4) hx hb kd_R_isBest_49 (by decide) ?_
            refine lv_iload_n hx hb kd_R_isBest_50 rfl (lv_at hl 1 rfl) ?_
            refine lv_imul hx hb kd_R_isBest_51 ?_
            refine hx_topi (y := nI (4 * y)) (by rw [show (4 : Int32) = nI 4 from rfl, pk_mul]) ?_
            refine lv_iload hx hb kd_R_isBest_52 (lv_at hl 4 rfl) ?_
            refine lv_iadd hx hb kd_R_isBest_54 ?_
            refine hx_topi (y := nI (4 * y + i)) (nI_add _ _) ?_
            refine hx_iald (j := 4 * y + i) hx hb hK hP 6 rfl (rfl) (by omega) (by decide) kd_R_isBest_55 ?_
            refine hx_callRi (va_runV (As := [.int (nI i), .int (rt (4 * y + i))]) (rest := []) ⟨hx, hb, hml, hown, hts⟩ (mr_weightOf r rc ro rm ra rl rw th gv rp rk ow rn ct rt ki aq cd g1 g2 g3 rb gw an i (rt (4 * y + i)) (by omega) (hok i (by omega)) hln hno hco) (cwV 2 hts (goodIn_sub (hx_m5 km_731 km_733 kv_R_weightOf km_8 km_734) (by decide +kernel)) rfl rfl rfl (by decide +kernel) ⟨Nat.le_of_ble_eq_true rfl, Nat.le_of_ble_eq_true rfl⟩) (pr_V (hC.S hS) hP [0, 1, 2, 3, 4, 5, 6, 7, 8, 9, 10, 11, 12, 13, 14, 15] rfl (ci := 7) rfl (q0 := 0) rfl) rfl rfl hl.1 rfl (lv_room (Nat.le_of_ble_eq_true rfl)) kd_R_isBest_56 ⟨Nat.le_of_ble_eq_true rfl, Nat.le_of_ble_eq_true rfl⟩) ?_
            refine lv_aload_n hx hb kd_R_isBest_59 rfl (lv_at hl 0 rfl) ?_
            refine lv_iload hx hb kd_R_isBest_60 (lv_at hl 4 rfl) ?_
            refine lv_aload_n hx hb kd_R_isBest_62 rfl (lv_at hl 0 rfl) ?_
            refine va_get (D := D) (ci := 7) (v := .ref (r 6)) (C := "HostBridgeModel") (T := ct_R) (N := 23) hx hb hts cw_R hown hK hP 0 rfl rfl 9 (by decide) (hts _ km_630) (fun _ h9 => h9) rfl kd_R_isBest_63 ?_
            refine lv_iconst (v := 4) hx hb kd_R_isBest_66 (by decide) ?_
            refine lv_iload_n hx hb kd_R_isBest_67 rfl (lv_at hl 3 rfl) ?_
            refine lv_imul hx hb kd_R_isBest_68 ?_
            refine hx_topi (y := nI (4 * w)) (by rw [show (4 : Int32) = nI 4 from rfl, pk_mul]) ?_
            refine lv_iload hx hb kd_R_isBest_69 (lv_at hl 4 rfl) ?_
            refine lv_iadd hx hb kd_R_isBest_71 ?_
            refine hx_topi (y := nI (4 * w + i)) (nI_add _ _) ?_
            refine hx_iald (j := 4 * w + i) hx hb hK hP 6 rfl (rfl) (by omega) (by decide) kd_R_isBest_72 ?_
            refine hx_callRi (va_runV (As := [.int (nI i), .int (rt (4 * w + i))]) (rest := [.int (rw_ rp rk ki rb i (rt (4 * y + i)))]) ⟨hx, hb, hml, hown, hts⟩ (mr_weightOf r rc ro rm ra rl rw th gv rp rk ow rn ct rt ki aq cd g1 g2 g3 rb gw an i (rt (4 * w + i)) (by omega) (hok i (by omega)) hln hno hco) (cwV 2 hts (goodIn_sub (hx_m5 km_731 km_733 kv_R_weightOf km_8 km_734) (by decide +kernel)) rfl rfl rfl (by decide +kernel) ⟨Nat.le_of_ble_eq_true rfl, Nat.le_of_ble_eq_true rfl⟩) (pr_V (hC.S hS) hP [0, 1, 2, 3, 4, 5, 6, 7, 8, 9, 10, 11, 12, 13, 14, 15] rfl (ci := 7) rfl (q0 := 0) rfl) rfl rfl hl.1 rfl (lv_room (Nat.le_of_ble_eq_true rfl)) kd_R_isBest_73 ⟨Nat.le_of_ble_eq_true rfl, Nat.le_of_ble_eq_true rfl⟩) ?_
            refine lv_icmp_gt (tgt := 83) hx hb kd_R_isBest_76 (by decide) (fun c_76 => ?_) (fun c_76 => ?_)
            · skip
              refine lv_iconst (v := 0) hx hb kd_R_isBest_83 (by decide) ?_
              exact hj1 _ (by rw [al_s, ← Bool.and_assoc, ← hg, b2_t c_39]; simp [b2_, Int32.not_le.mpr c_76])
            · skip
              refine lv_iconst (v := 1) hx hb kd_R_isBest_79 (by decide) ?_
              refine lv_goto (tgt := 84) hx hb kd_R_isBest_80 (by decide) ?_
              exact hj1 _ (by rw [al_s, ← Bool.and_assoc, ← hg, b2_t c_39]; simp [b2_, Int32.not_lt.mp c_76])

/-- byte i of a word, the highest first -/
def by_ (w : Int32) (i : Nat) : Nat := w.toBitVec.toNat / 2 ^ (8 * (3 - i)) % 256
def gk_ (rc : Nat) (w : Int32) (N i : Nat) : Bool := if i + N < 4 then decide (by_ w i = 0) else decide (by_ w i < 6 + rc)
theorem gk_t (rc : Nat) (w : Int32) {N : Nat} (hN : N ≤ 4) : al_ (gk_ rc w N) 4 = ty_ok rc w N := by
  have hw : w.toBitVec.toNat < 4294967296 := w.toBitVec.isLt
  apply Bool.eq_iff_iff.mpr
  rw [al_iff, ty_ok, Bool.and_eq_true, decide_eq_true_iff, decide_eq_true_iff]
  generalize hx : w.toBitVec.toNat = x at hw
  have hN5 : N = 0 ∨ N = 1 ∨ N = 2 ∨ N = 3 ∨ N = 4 := by omega
  constructor
  · intro h
    have h0 := h 0 (by decide)
    have h1 := h 1 (by decide)
    have h2 := h 2 (by decide)
    have h3 := h 3 (by decide)
    rcases hN5 with rfl | rfl | rfl | rfl | rfl <;> simp [gk_, by_, hx] at h0 h1 h2 h3 <;> refine ⟨by omega, fun i hi => ?_⟩
    · omega
    · obtain rfl : i = 0 := by omega
      simp [ty_N, hx]; omega
    · have : i = 0 ∨ i = 1 := by omega
      rcases this with rfl | rfl <;> simp [ty_N, hx] <;> omega
    · have : i = 0 ∨ i = 1 ∨ i = 2 := by omega
      rcases this with rfl | rfl | rfl <;> simp [ty_N, hx] <;> omega
    · have : i = 0 ∨ i = 1 ∨ i = 2 ∨ i = 3 := by omega
      rcases this with rfl | rfl | rfl | rfl <;> simp [ty_N, hx] <;> omega
  · rintro ⟨h9, h⟩ i hi
    have hi4 : i = 0 ∨ i = 1 ∨ i = 2 ∨ i = 3 := by omega
    rcases hN5 with rfl | rfl | rfl | rfl | rfl
    · rcases hi4 with rfl | rfl | rfl | rfl <;> simp [gk_, by_, hx] <;> omega
    · have k0 := h 0 (by decide)
      simp [ty_N, hx] at k0
      rcases hi4 with rfl | rfl | rfl | rfl <;> simp [gk_, by_, hx] <;> omega
    · have k0 := h 0 (by decide)
      have k1 := h 1 (by decide)
      simp [ty_N, hx] at k0 k1
      rcases hi4 with rfl | rfl | rfl | rfl <;> simp [gk_, by_, hx] <;> omega
    · have k0 := h 0 (by decide)
      have k1 := h 1 (by decide)
      have k2 := h 2 (by decide)
      simp [ty_N, hx] at k0 k1 k2
      rcases hi4 with rfl | rfl | rfl | rfl <;> simp [gk_, by_, hx] <;> omega
    · have k0 := h 0 (by decide)
      have k1 := h 1 (by decide)
      have k2 := h 2 (by decide)
      have k3 := h 3 (by decide)
      simp [ty_N, hx] at k0 k1 k2 k3
      rcases hi4 with rfl | rfl | rfl | rfl <;> simp [gk_, by_, hx] <;> omega
theorem by_t {w : Int32} {N i : Nat} (h : 4 - N ≤ i) (hi : i < 4) (hN : N ≤ 4) : by_ w i = ty_N w N (i - (4 - N)) := by
  rw [by_, ty_N, show 8 * (N - 1 - (i - (4 - N))) = 8 * (3 - i) by omega]
/-- the words asked for -/
def as_ (w : Int32) (N : Nat) : Nat → Int32 := fun z => nI (ty_N w N z)

set_option maxHeartbeats 4000000 in
set_option maxRecDepth 100000 in
theorem mr_asks {l : Launch} {D : va_G} {cI cL cZ : ClassId} {tb : Nat} (r : Nat → Nat) (rc ro rm ra rl rw : Nat) (th : Int32) (gv : Int64) (rp rk ow rn ct rt ki aq cd g1 g2 g3 : Nat → Int32) (rb gw an : Nat → Int64) (N : Nat) (w : Int32) (hN : N ≤ 4) (hrc : rc ≤ 16) (sz : Nat) : Met l ky_R_asks kw_R_asks { frames := 0, cells := 0, slots := 0, locals := 0 } (pw_P D cI cL cZ tb [((r 0), .inr (7, [.int th, .int (nI rc), .ref (r 1), .int (nI ro), .ref (r 2), .int (nI rm), .ref (r 3), .ref (r 4), .ref (r 5), .ref (r 6), .int (nI ra), .ref (r 7), .ref (r 8), .ref (r 9), .ref (r 10), .int (nI rl), .ref (r 11), .ref (r 12), .ref (r 13), .ref (r 14), .int (nI rw), .ref (r 15), .long gv])), ((r 1), .inl (cI, 16, .inl rp)), ((r 2), .inl (cI, 64, .inl rk)), ((r 3), .inl (cI, 64, .inl ow)), ((r 4), .inl (cI, 64, .inl rn)), ((r 5), .inl (cI, 64, .inl ct)), ((r 6), .inl (cI, 256, .inl rt)), ((r 7), .inl (cI, 4, .inl ki)), ((r 8), .inl (cL, 4, .inr (.inl rb))), ((r 9), .inl (cI, 4, .inl aq)), ((r 10), .inl (cZ, 64, .inl cd)), ((r 11), .inl (cI, 64, .inl g1)), ((r 12), .inl (cI, 64, .inl g2)), ((r 13), .inl (cI, 64, .inl g3)), ((r 14), .inl (cL, 256, .inr (.inl gw))), ((r 15), .inl (cL, 64, .inr (.inl an)))] sz [.ref (r 0), .int (nI N), .int w]) (hx_QW D (some (.int (b2_ (ty_ok rc w N)))) [((r 0), .inr (7, [.int th, .int (nI rc), .ref (r 1), .int (nI ro), .ref (r 2), .int (nI rm), .ref (r 3), .ref (r 4), .ref (r 5), .ref (r 6), .int (nI ra), .ref (r 7), .ref (r 8), .ref (r 9), .ref (r 10), .int (nI rl), .ref (r 11), .ref (r 12), .ref (r 13), .ref (r 14), .int (nI rw), .ref (r 15), .long gv])), ((r 1), .inl (cI, 16, .inl rp)), ((r 2), .inl (cI, 64, .inl rk)), ((r 3), .inl (cI, 64, .inl ow)), ((r 4), .inl (cI, 64, .inl rn)), ((r 5), .inl (cI, 64, .inl ct)), ((r 6), .inl (cI, 256, .inl rt)), ((r 7), .inl (cI, 4, .inl ki)), ((r 8), .inl (cL, 4, .inr (.inl rb))), ((r 9), .inl (cI, 4, .inl (lf_ (as_ w N) aq N))), ((r 10), .inl (cZ, 64, .inl cd)), ((r 11), .inl (cI, 64, .inl g1)), ((r 12), .inl (cI, 64, .inl g2)), ((r 13), .inl (cI, 64, .inl g3)), ((r 14), .inl (cL, 256, .inr (.inl gw))), ((r 15), .inl (cL, 64, .inr (.inl an)))] (va_A [((r 0), .inr (7, [.int th, .int (nI rc), .ref (r 1), .int (nI ro), .ref (r 2), .int (nI rm), .ref (r 3), .ref (r 4), .ref (r 5), .ref (r 6), .int (nI ra), .ref (r 7), .ref (r 8), .ref (r 9), .ref (r 10), .int (nI rl), .ref (r 11), .ref (r 12), .ref (r 13), .ref (r 14), .int (nI rw), .ref (r 15), .long gv])), ((r 1), .inl (cI, 16, .inl rp)), ((r 2), .inl (cI, 64, .inl rk)), ((r 3), .inl (cI, 64, .inl ow)), ((r 4), .inl (cI, 64, .inl rn)), ((r 5), .inl (cI, 64, .inl ct)), ((r 6), .inl (cI, 256, .inl rt)), ((r 7), .inl (cI, 4, .inl ki)), ((r 8), .inl (cL, 4, .inr (.inl rb))), ((r 9), .inl (cI, 4, .inl aq)), ((r 10), .inl (cZ, 64, .inl cd)), ((r 11), .inl (cI, 64, .inl g1)), ((r 12), .inl (cI, 64, .inl g2)), ((r 13), .inl (cI, 64, .inl g3)), ((r 14), .inl (cL, 256, .inr (.inl gw))), ((r 15), .inl (cL, 64, .inr (.inl an)))] sz)) 0 0 (va_A [((r 0), .inr (7, [.int th, .int (nI rc), .ref (r 1), .int (nI ro), .ref (r 2), .int (nI rm), .ref (r 3), .ref (r 4), .ref (r 5), .ref (r 6), .int (nI ra), .ref (r 7), .ref (r 8), .ref (r 9), .ref (r 10), .int (nI rl), .ref (r 11), .ref (r 12), .ref (r 13), .ref (r 14), .int (nI rw), .ref (r 15), .long gv])), ((r 1), .inl (cI, 16, .inl rp)), ((r 2), .inl (cI, 64, .inl rk)), ((r 3), .inl (cI, 64, .inl ow)), ((r 4), .inl (cI, 64, .inl rn)), ((r 5), .inl (cI, 64, .inl ct)), ((r 6), .inl (cI, 256, .inl rt)), ((r 7), .inl (cI, 4, .inl ki)), ((r 8), .inl (cL, 4, .inr (.inl rb))), ((r 9), .inl (cI, 4, .inl aq)), ((r 10), .inl (cZ, 64, .inl cd)), ((r 11), .inl (cI, 64, .inl g1)), ((r 12), .inl (cI, 64, .inl g2)), ((r 13), .inl (cI, 64, .inl g3)), ((r 14), .inl (cL, 256, .inr (.inl gw))), ((r 15), .inl (cL, 64, .inr (.inl an)))] sz) := by
  refine Met.ofW (cc := kc_R_asks) (maxL := 7) (ret := (some .boolean)) (by decide) rfl ?_
  intro p e s m args below meth c s₁ B hml hv
  obtain ⟨rfl, hsz, hC, hP, hD0⟩ := hv
  have hx := B.exec
  have hb := B.bytes
  have hr := B.returns
  have hlocks := B.notSynchronized
  have hown : s.vm.findClass "HostBridgeModel" = some m.cls := findClass_of_methodNamed B.named
  subst hsz
  have hD := hD0.self (sz := s.heap.size)
  generalize hAe : va_A [((r 0), .inr (7, [.int th, .int (nI rc), .ref (r 1), .int (nI ro), .ref (r 2), .int (nI rm), .ref (r 3), .ref (r 4), .ref (r 5), .ref (r 6), .int (nI ra), .ref (r 7), .ref (r 8), .ref (r 9), .ref (r 10), .int (nI rl), .ref (r 11), .ref (r 12), .ref (r 13), .ref (r 14), .int (nI rw), .ref (r 15), .long gv])), ((r 1), .inl (cI, 16, .inl rp)), ((r 2), .inl (cI, 64, .inl rk)), ((r 3), .inl (cI, 64, .inl ow)), ((r 4), .inl (cI, 64, .inl rn)), ((r 5), .inl (cI, 64, .inl ct)), ((r 6), .inl (cI, 256, .inl rt)), ((r 7), .inl (cI, 4, .inl ki)), ((r 8), .inl (cL, 4, .inr (.inl rb))), ((r 9), .inl (cI, 4, .inl aq)), ((r 10), .inl (cZ, 64, .inl cd)), ((r 11), .inl (cI, 64, .inl g1)), ((r 12), .inl (cI, 64, .inl g2)), ((r 13), .inl (cI, 64, .inl g3)), ((r 14), .inl (cL, 256, .inr (.inl gw))), ((r 15), .inl (cL, 64, .inr (.inl an)))] s.heap.size = A at hD hC ⊢
  have hA : ∀ q : Nat, s.heap.size ≤ q → A q := fun q h => by rw [← hAe]; exact Or.inr h
  have hS : va_S A s.heap s.heap [] := va_S.rf
  have hK := hC.K
  have hts := hC.ts [.ref (r 0), .int (nI N), .int w].toArray
  have hl := lv_entry ([.ref (r 0), .int (nI N), .int w]) (n := 7) (Nat.le_of_ble_eq_true rfl)
  rw [lg_entry_eq]
  generalize (lg_sl ([.ref (r 0), .int (nI N), .int w]) ++ List.replicate (7 - (lg_sl ([.ref (r 0), .int (nI N), .int w])).length) Slot.unset).toArray = ls at hl ⊢
  have hl : lv_has ls 7 [(0, .ref (r 0)), (1, .int (nI N)), (2, .int w)] := hl
  refine lv_iconst (v := 1) hx hb kd_R_asks_0 (by decide) ?_
  refine hx_topi (y := b2_ (al_ (gk_ rc w N) 0)) (by rw [al_0]; rfl) ?_
  refine lv_istore_n (lv' := [(3, .int (b2_ (al_ (gk_ rc w N) 0))), (0, .ref (r 0)), (1, .int (nI N)), (2, .int w)]) hx hb kd_R_asks_1 rfl hl (by decide) rfl (fun ls hl => ?_)
  refine lv_iconst (v := 0) hx hb kd_R_asks_2 (by decide) ?_
  refine hx_topi (y := nI 0) (rfl) ?_
  refine lv_istore (lv' := [(4, .int (nI 0)), (3, .int (b2_ (al_ (gk_ rc w N) 0))), (0, .ref (r 0)), (1, .int (nI N)), (2, .int w)]) hx hb kd_R_asks_3 hl (by decide) rfl (fun ls hl => ?_)
  refine hx_loopW (σ := Nat) (I := fun i ls H locs => lv_has ls 7 [(0, .ref (r 0)), (1, .int (nI N)), (2, .int w), (3, .int (b2_ (al_ (gk_ rc w N) i))), (4, .int (nI i))] ∧ va_P D cl_all [((r 0), .inr (7, [.int th, .int (nI rc), .ref (r 1), .int (nI ro), .ref (r 2), .int (nI rm), .ref (r 3), .ref (r 4), .ref (r 5), .ref (r 6), .int (nI ra), .ref (r 7), .ref (r 8), .ref (r 9), .ref (r 10), .int (nI rl), .ref (r 11), .ref (r 12), .ref (r 13), .ref (r 14), .int (nI rw), .ref (r 15), .long gv])), ((r 1), .inl (cI, 16, .inl rp)), ((r 2), .inl (cI, 64, .inl rk)), ((r 3), .inl (cI, 64, .inl ow)), ((r 4), .inl (cI, 64, .inl rn)), ((r 5), .inl (cI, 64, .inl ct)), ((r 6), .inl (cI, 256, .inl rt)), ((r 7), .inl (cI, 4, .inl ki)), ((r 8), .inl (cL, 4, .inr (.inl rb))), ((r 9), .inl (cI, 4, .inl (lf_ (as_ w N) aq (i - (4 - N))))), ((r 10), .inl (cZ, 64, .inl cd)), ((r 11), .inl (cI, 64, .inl g1)), ((r 12), .inl (cI, 64, .inl g2)), ((r 13), .inl (cI, 64, .inl g3)), ((r 14), .inl (cL, 256, .inr (.inl gw))), ((r 15), .inl (cL, 64, .inr (.inl an)))] H ∧ va_D A [((r 0), .inr (7, [.int th, .int (nI rc), .ref (r 1), .int (nI ro), .ref (r 2), .int (nI rm), .ref (r 3), .ref (r 4), .ref (r 5), .ref (r 6), .int (nI ra), .ref (r 7), .ref (r 8), .ref (r 9), .ref (r 10), .int (nI rl), .ref (r 11), .ref (r 12), .ref (r 13), .ref (r 14), .int (nI rw), .ref (r 15), .long gv])), ((r 1), .inl (cI, 16, .inl rp)), ((r 2), .inl (cI, 64, .inl rk)), ((r 3), .inl (cI, 64, .inl ow)), ((r 4), .inl (cI, 64, .inl rn)), ((r 5), .inl (cI, 64, .inl ct)), ((r 6), .inl (cI, 256, .inl rt)), ((r 7), .inl (cI, 4, .inl ki)), ((r 8), .inl (cL, 4, .inr (.inl rb))), ((r 9), .inl (cI, 4, .inl (lf_ (as_ w N) aq (i - (4 - N))))), ((r 10), .inl (cZ, 64, .inl cd)), ((r 11), .inl (cI, 64, .inl g1)), ((r 12), .inl (cI, 64, .inl g2)), ((r 13), .inl (cI, 64, .inl g3)), ((r 14), .inl (cL, 256, .inr (.inl gw))), ((r 15), .inl (cL, 64, .inr (.inl an)))] ∧ va_S A s.heap H locs ∧ i ≤ 4) (μ := fun i => 4 - i) ?_ 0 ⟨lv_sub hl [2, 3, 4, 1, 0] rfl, by rw [Nat.zero_sub, lf_0]; exact hP, by rw [Nat.zero_sub, lf_0]; exact hD, hS, by decide⟩
  intro i ls H locs hI ih5
  obtain ⟨hl, hP, hD, hS, hi⟩ := hI
  refine lv_iload hx hb kd_R_asks_5 (lv_at hl 4 rfl) ?_
  refine lv_iconst (v := 4) hx hb kd_R_asks_7 (by decide) ?_
  refine lv_icmp_ge (tgt := 99) hx hb kd_R_asks_8 (by decide) (fun c_8 => ?_) (fun c_8 => ?_)
  · skip
    have h4 : i = 4 := by
      have h9 : nI 4 ≤ nI i := c_8
      rw [nI_leI (by decide) (by omega)] at h9; omega
    rw [h4] at hP hD
    refine lv_iload_n hx hb kd_R_asks_99 rfl (lv_at hl 3 rfl) ?_
    exact hx_zretW hx hb hr hlocks (by rw [h4, gk_t rc w hN]) (by rw [show 4 - (4 - N) = N by omega] at hP; exact hP) hS kd_R_asks_100
  · skip
    have h4 : i < 4 := by
      have h9 : ¬ nI 4 ≤ nI i := c_8
      rw [nI_leI (by decide) (by omega)] at h9; omega
    refine lv_iload_n hx hb kd_R_asks_11 rfl (lv_at hl 2 rfl) ?_
    refine lv_bipush (v := 8) hx hb kd_R_asks_12 (by decide) ?_
    refine lv_iconst (v := 3) hx hb kd_R_asks_14 (by decide) ?_
    refine lv_iload hx hb kd_R_asks_15 (lv_at hl 4 rfl) ?_
    refine lv_isub hx hb kd_R_asks_17 ?_
    refine hx_topi (y := nI (3 - i)) (by rw [show (3 : Int32) = nI 3 from rfl, pk_sub (by omega)]) ?_
    refine lv_imul hx hb kd_R_asks_18 ?_
    refine hx_topi (y := nI (8 * (3 - i))) (by rw [show (8 : Int32) = nI 8 from rfl, pk_mul]) ?_
    refine lv_iushr hx hb kd_R_asks_19 rfl ?_
    refine lv_sipush (v := 255) hx hb kd_R_asks_20 (by decide) ?_
    refine lv_iand hx hb kd_R_asks_23 ?_
    refine hx_topi (y := nI (by_ w i)) (sh_b (by omega) w) ?_
    refine lv_istore (lv' := [(5, .int (nI (by_ w i))), (0, .ref (r 0)), (1, .int (nI N)), (2, .int w), (3, .int (b2_ (al_ (gk_ rc w N) i))), (4, .int (nI i))]) hx hb kd_R_asks_24 hl (by decide) rfl (fun ls hl => ?_)
    refine lv_iload hx hb kd_R_asks_26 (lv_at hl 5 rfl) ?_
    refine lv_iconst (v := 4) hx hb kd_R_asks_28 (by decide) ?_
    refine lv_iload_n hx hb kd_R_asks_29 rfl (lv_at hl 2 rfl) ?_
    refine lv_isub hx hb kd_R_asks_30 ?_
    refine hx_topi (y := nI (4 - N)) (by rw [show (4 : Int32) = nI 4 from rfl, pk_sub (by omega)]) ?_
    refine lv_isub hx hb kd_R_asks_31 ?_
    refine lv_istore (lv' := [(6, .int ((nI i) - (nI (4 - N)))), (5, .int (nI (by_ w i))), (0, .ref (r 0)), (1, .int (nI N)), (2, .int w), (3, .int (b2_ (al_ (gk_ rc w N) i))), (4, .int (nI i))]) hx hb kd_R_asks_32 hl (by decide) rfl (fun ls hl => ?_)
    refine lv_iload hx hb kd_R_asks_34 (lv_at hl 0 rfl) ?_
    refine lv_if_ge (tgt := 57) hx hb kd_R_asks_36 (by decide) (fun c_36 => ?_) (fun c_36 => ?_)
    · skip
      have hge : 4 - N ≤ i := by
        rcases Nat.lt_or_ge i (4 - N) with h9 | h9
        · exact absurd c_36 (Int32.not_le.mpr (pk_sneg (by omega) h9))
        · exact h9
      refine lv_aload_n hx hb kd_R_asks_57 rfl (lv_at hl 2 rfl) ?_
      refine va_get (D := D) (ci := 7) (v := .ref (r 9)) (C := "HostBridgeModel") (T := ct_R) (N := 23) hx hb hts cw_R hown hK hP 0 rfl rfl 13 (by decide) (hts _ km_634) (fun _ h9 => h9) rfl kd_R_asks_58 ?_
      refine lv_iload hx hb kd_R_asks_61 (lv_at hl 0 rfl) ?_
      refine lv_iload hx hb kd_R_asks_63 (lv_at hl 1 rfl) ?_
      refine hx_iast (j := i - (4 - N)) hx hb hK hP hD hS 9 rfl (pk_sub hge) (by omega) (by decide) kd_R_asks_65 (fun H locs hP hD hS => ?_)
      have hP : va_P D cl_all [((r 0), .inr (7, [.int th, .int (nI rc), .ref (r 1), .int (nI ro), .ref (r 2), .int (nI rm), .ref (r 3), .ref (r 4), .ref (r 5), .ref (r 6), .int (nI ra), .ref (r 7), .ref (r 8), .ref (r 9), .ref (r 10), .int (nI rl), .ref (r 11), .ref (r 12), .ref (r 13), .ref (r 14), .int (nI rw), .ref (r 15), .long gv])), ((r 1), .inl (cI, 16, .inl rp)), ((r 2), .inl (cI, 64, .inl rk)), ((r 3), .inl (cI, 64, .inl ow)), ((r 4), .inl (cI, 64, .inl rn)), ((r 5), .inl (cI, 64, .inl ct)), ((r 6), .inl (cI, 256, .inl rt)), ((r 7), .inl (cI, 4, .inl ki)), ((r 8), .inl (cL, 4, .inr (.inl rb))), ((r 9), .inl (cI, 4, .inl (upd (lf_ (as_ w N) aq (i - (4 - N))) (i - (4 - N)) (nI (by_ w i))))), ((r 10), .inl (cZ, 64, .inl cd)), ((r 11), .inl (cI, 64, .inl g1)), ((r 12), .inl (cI, 64, .inl g2)), ((r 13), .inl (cI, 64, .inl g3)), ((r 14), .inl (cL, 256, .inr (.inl gw))), ((r 15), .inl (cL, 64, .inr (.inl an)))] H := hP
      have hD : va_D A [((r 0), .inr (7, [.int th, .int (nI rc), .ref (r 1), .int (nI ro), .ref (r 2), .int (nI rm), .ref (r 3), .ref (r 4), .ref (r 5), .ref (r 6), .int (nI ra), .ref (r 7), .ref (r 8), .ref (r 9), .ref (r 10), .int (nI rl), .ref (r 11), .ref (r 12), .ref (r 13), .ref (r 14), .int (nI rw), .ref (r 15), .long gv])), ((r 1), .inl (cI, 16, .inl rp)), ((r 2), .inl (cI, 64, .inl rk)), ((r 3), .inl (cI, 64, .inl ow)), ((r 4), .inl (cI, 64, .inl rn)), ((r 5), .inl (cI, 64, .inl ct)), ((r 6), .inl (cI, 256, .inl rt)), ((r 7), .inl (cI, 4, .inl ki)), ((r 8), .inl (cL, 4, .inr (.inl rb))), ((r 9), .inl (cI, 4, .inl (upd (lf_ (as_ w N) aq (i - (4 - N))) (i - (4 - N)) (nI (by_ w i))))), ((r 10), .inl (cZ, 64, .inl cd)), ((r 11), .inl (cI, 64, .inl g1)), ((r 12), .inl (cI, 64, .inl g2)), ((r 13), .inl (cI, 64, .inl g3)), ((r 14), .inl (cL, 256, .inr (.inl gw))), ((r 15), .inl (cL, 64, .inr (.inl an)))] := hD
      rw [show nI (by_ w i) = as_ w N (i - (4 - N)) by rw [as_, by_t hge (by omega) hN], lf_s, show i - (4 - N) + 1 = i + 1 - (4 - N) by omega] at hP hD
      have hby : by_ w i < 2 ^ 31 := by have := Nat.mod_lt (w.toBitVec.toNat / 2 ^ (8 * (3 - i))) (show 0 < 256 by decide); unfold by_; omega
      refine hx_cut (pc2 := 92) (ls2 := ls) (rest2 := []) (P := fun x => x = b2_ (al_ (gk_ rc w N) (i + 1))) ?_ (fun hj1 => ?_)
      · intro x2 e3
        subst e3
        refine lv_istore_n (lv' := [(3, .int (b2_ (al_ (gk_ rc w N) (i + 1)))), (6, .int ((nI i) - (nI (4 - N)))), (5, .int (nI (by_ w i))), (0, .ref (r 0)), (1, .int (nI N)), (2, .int w), (4, .int (nI i))]) hx hb kd_R_asks_92 rfl hl (by decide) rfl (fun ls hl => ?_)
        refine lv_iinc (v := nI (i + 1)) (lv' := [(4, .int (nI (i + 1))), (3, .int (b2_ (al_ (gk_ rc w N) (i + 1)))), (6, .int ((nI i) - (nI (4 - N)))), (5, .int (nI (by_ w i))), (0, .ref (r 0)), (1, .int (nI N)), (2, .int w)]) hx hb kd_R_asks_93 hl (k := 6) rfl (nI_1 i) (by decide) rfl (fun ls hl => ?_)
        refine lv_goto (tgt := 5) hx hb kd_R_asks_96 (by decide) ?_
        exact ih5 (i + 1) _ _ _ (by omega) ⟨lv_sub hl [4, 5, 6, 1, 0] rfl, hP, hD, hS, by omega⟩
      · skip
        have hby : by_ w i < 2 ^ 31 := by have := Nat.mod_lt (w.toBitVec.toNat / 2 ^ (8 * (3 - i))) (show 0 < 256 by decide); unfold by_; omega
        refine lv_iload_n hx hb kd_R_asks_66 rfl (lv_at hl 5 rfl) ?_
        refine lv_if_eq (tgt := 91) hx hb kd_R_asks_67 (by decide) (fun c_67 => ?_) (fun c_67 => ?_)
        · skip
          refine lv_iconst (v := 0) hx hb kd_R_asks_91 (by decide) ?_
          exact hj1 _ (by rw [al_s, gk_, if_neg (by omega)]; exact by rw [b2_f c_67]; simp [b2_])
        · skip
          refine lv_iload hx hb kd_R_asks_70 (lv_at hl 0 rfl) ?_
          refine lv_if_lt (tgt := 87) hx hb kd_R_asks_72 (by decide) (fun c_72 => ?_) (fun c_72 => ?_)
          · exact absurd c_72 (Int32.not_lt.mpr c_36)
          · skip
            refine lv_iload hx hb kd_R_asks_75 (lv_at hl 1 rfl) ?_
            refine lv_bipush (v := 6) hx hb kd_R_asks_77 (by decide) ?_
            refine lv_aload_n hx hb kd_R_asks_79 rfl (lv_at hl 2 rfl) ?_
            refine va_get (D := D) (ci := 7) (v := .int (nI rc)) (C := "HostBridgeModel") (T := ct_R) (N := 23) hx hb hts cw_R hown hK hP 0 rfl rfl 1 (by decide) (hts _ km_622) (fun _ h9 => h9) rfl kd_R_asks_80 ?_
            refine lv_iadd hx hb kd_R_asks_83 ?_
            refine hx_topi (y := nI (6 + rc)) (by rw [show (6 : Int32) = nI 6 from rfl, nI_add]) ?_
            refine lv_icmp_ge (tgt := 91) hx hb kd_R_asks_84 (by decide) (fun c_84 => ?_) (fun c_84 => ?_)
            · skip
              refine lv_iconst (v := 0) hx hb kd_R_asks_91 (by decide) ?_
              exact hj1 _ (by rw [al_s, gk_, if_neg (by omega)]; exact by rw [b2_t c_67]; simp [b2_]; rw [nI_leI (by omega) hby] at c_84; omega)
            · skip
              refine lv_iconst (v := 1) hx hb kd_R_asks_87 (by decide) ?_
              refine lv_goto (tgt := 92) hx hb kd_R_asks_88 (by decide) ?_
              exact hj1 _ (by rw [al_s, gk_, if_neg (by omega)]; exact by rw [b2_t c_67]; simp [b2_]; rw [nI_leI (by omega) hby] at c_84; omega)
    · skip
      have hlt : i < 4 - N := by
        rcases Nat.lt_or_ge i (4 - N) with h9 | h9
        · exact h9
        · exact absurd (by rw [pk_sub h9]; exact nI_pos' (by omega)) c_36
      refine hx_cut (pc2 := 53) (ls2 := ls) (rest2 := []) (P := fun x => x = b2_ (al_ (gk_ rc w N) i && decide (by_ w i = 0))) ?_ (fun hj4 => ?_)
      · intro x5 e6
        subst e6
        refine lv_istore_n (lv' := [(3, .int (b2_ (al_ (gk_ rc w N) i && decide (by_ w i = 0)))), (6, .int ((nI i) - (nI (4 - N)))), (5, .int (nI (by_ w i))), (0, .ref (r 0)), (1, .int (nI N)), (2, .int w), (4, .int (nI i))]) hx hb kd_R_asks_53 rfl hl (by decide) rfl (fun ls hl => ?_)
        refine lv_goto (tgt := 66) hx hb kd_R_asks_54 (by decide) ?_
        have hby : by_ w i < 2 ^ 31 := by have := Nat.mod_lt (w.toBitVec.toNat / 2 ^ (8 * (3 - i))) (show 0 < 256 by decide); unfold by_; omega
        refine hx_cut (pc2 := 92) (ls2 := ls) (rest2 := []) (P := fun x => x = b2_ (al_ (gk_ rc w N) (i + 1))) ?_ (fun hj7 => ?_)
        · intro x8 e9
          subst e9
          refine lv_istore_n (lv' := [(3, .int (b2_ (al_ (gk_ rc w N) (i + 1)))), (6, .int ((nI i) - (nI (4 - N)))), (5, .int (nI (by_ w i))), (0, .ref (r 0)), (1, .int (nI N)), (2, .int w), (4, .int (nI i))]) hx hb kd_R_asks_92 rfl hl (by decide) rfl (fun ls hl => ?_)
          refine lv_iinc (v := nI (i + 1)) (lv' := [(4, .int (nI (i + 1))), (3, .int (b2_ (al_ (gk_ rc w N) (i + 1)))), (6, .int ((nI i) - (nI (4 - N)))), (5, .int (nI (by_ w i))), (0, .ref (r 0)), (1, .int (nI N)), (2, .int w)]) hx hb kd_R_asks_93 hl (k := 6) rfl (nI_1 i) (by decide) rfl (fun ls hl => ?_)
          refine lv_goto (tgt := 5) hx hb kd_R_asks_96 (by decide) ?_
          exact ih5 (i + 1) _ _ _ (by omega) ⟨lv_sub hl [4, 5, 6, 1, 0] rfl, by rw [show i + 1 - (4 - N) = i - (4 - N) by omega]; exact hP, by rw [show i + 1 - (4 - N) = i - (4 - N) by omega]; exact hD, hS, by omega⟩
        · skip
          have hby : by_ w i < 2 ^ 31 := by have := Nat.mod_lt (w.toBitVec.toNat / 2 ^ (8 * (3 - i))) (show 0 < 256 by decide); unfold by_; omega
          refine lv_iload_n hx hb kd_R_asks_66 rfl (lv_at hl 0 rfl) ?_
          refine lv_if_eq (tgt := 91) hx hb kd_R_asks_67 (by decide) (fun c_67 => ?_) (fun c_67 => ?_)
          · skip
            refine lv_iconst (v := 0) hx hb kd_R_asks_91 (by decide) ?_
            exact hj7 _ (by rw [al_s, gk_, if_pos (by omega)]; exact by rw [b2_f c_67]; rfl)
          · skip
            refine lv_iload hx hb kd_R_asks_70 (lv_at hl 1 rfl) ?_
            refine lv_if_lt (tgt := 87) hx hb kd_R_asks_72 (by decide) (fun c_72 => ?_) (fun c_72 => ?_)
            · skip
              refine lv_iconst (v := 1) hx hb kd_R_asks_87 (by decide) ?_
              refine lv_goto (tgt := 92) hx hb kd_R_asks_88 (by decide) ?_
              exact hj7 _ (by rw [al_s, gk_, if_pos (by omega)]; exact by rw [b2_t c_67]; rfl)
            · exact absurd c_72 (not_not_intro (Int32.not_le.mp c_36))
      · skip
        refine lv_iload_n hx hb kd_R_asks_39 rfl (lv_at hl 5 rfl) ?_
        refine lv_if_eq (tgt := 52) hx hb kd_R_asks_40 (by decide) (fun c_40 => ?_) (fun c_40 => ?_)
        · skip
          refine lv_iconst (v := 0) hx hb kd_R_asks_52 (by decide) ?_
          exact hj4 _ (by rw [b2_f c_40]; simp [b2_])
        · skip
          refine lv_iload hx hb kd_R_asks_43 (lv_at hl 1 rfl) ?_
          refine lv_if_ne (tgt := 52) hx hb kd_R_asks_45 (by decide) (fun c_45 => ?_) (fun c_45 => ?_)
          · skip
            refine lv_iconst (v := 0) hx hb kd_R_asks_52 (by decide) ?_
            exact hj4 _ (by rw [b2_t c_40]; simp [b2_, show ¬ by_ w i = 0 from fun h9 => c_45 (by rw [h9]; rfl)])
          · skip
            refine lv_iconst (v := 1) hx hb kd_R_asks_48 (by decide) ?_
            refine lv_goto (tgt := 53) hx hb kd_R_asks_49 (by decide) ?_
            exact hj4 _ (by rw [b2_t c_40]; simp [b2_, (nI_eq (b := 0) (by have := Nat.mod_lt (w.toBitVec.toNat / 2 ^ (8 * (3 - i))) (show 0 < 256 by decide); unfold by_; omega) (by decide)).mp c_45])

/-- method y is the one asked for -/
def mq_ (ow rn ct rt aq : Nat → Int32) (c0 n0 : Int32) (N y : Nat) : Bool := decide (ow y = c0) && decide (rn y = n0) && decide (ct y = nI N) && al_ (fun i => decide (rt (4 * y + i) = aq i)) N

set_option maxHeartbeats 4000000 in
set_option maxRecDepth 100000 in
theorem mr_methodOf {l : Launch} {D : va_G} {cI cL cZ : ClassId} {tb : Nat} (r : Nat → Nat) (rc ro rm ra rl rw : Nat) (th : Int32) (gv : Int64) (rp rk ow rn ct rt ki aq cd g1 g2 g3 : Nat → Int32) (rb gw an : Nat → Int64) (c0 n0 : Int32) (N : Nat) (hrm : rm ≤ 64) (hN : N ≤ 4) : Met l ky_R_methodOf kw_R_methodOf { frames := 0, cells := 0, slots := 0, locals := 0 } (pr_P D cI cL cZ tb [((r 0), .inr (7, [.int th, .int (nI rc), .ref (r 1), .int (nI ro), .ref (r 2), .int (nI rm), .ref (r 3), .ref (r 4), .ref (r 5), .ref (r 6), .int (nI ra), .ref (r 7), .ref (r 8), .ref (r 9), .ref (r 10), .int (nI rl), .ref (r 11), .ref (r 12), .ref (r 13), .ref (r 14), .int (nI rw), .ref (r 15), .long gv])), ((r 1), .inl (cI, 16, .inl rp)), ((r 2), .inl (cI, 64, .inl rk)), ((r 3), .inl (cI, 64, .inl ow)), ((r 4), .inl (cI, 64, .inl rn)), ((r 5), .inl (cI, 64, .inl ct)), ((r 6), .inl (cI, 256, .inl rt)), ((r 7), .inl (cI, 4, .inl ki)), ((r 8), .inl (cL, 4, .inr (.inl rb))), ((r 9), .inl (cI, 4, .inl aq)), ((r 10), .inl (cZ, 64, .inl cd)), ((r 11), .inl (cI, 64, .inl g1)), ((r 12), .inl (cI, 64, .inl g2)), ((r 13), .inl (cI, 64, .inl g3)), ((r 14), .inl (cL, 256, .inr (.inl gw))), ((r 15), .inl (cL, 64, .inr (.inl an)))] [.ref (r 0), .int c0, .int n0, .int (nI N)]) (hx_QR (some (.int (la_ (mq_ ow rn ct rt aq c0 n0 N) rm)))) 0 0 (fun _ => False) := by
  refine Met.ofW (cc := kc_R_methodOf) (maxL := 8) (ret := (some .int)) (by decide) rfl ?_
  intro p e s m args below meth c s₁ B hml hv
  obtain ⟨rfl, hC, hP⟩ := hv
  have hx := B.exec
  have hb := B.bytes
  have hr := B.returns
  have hlocks := B.notSynchronized
  have hown : s.vm.findClass "HostBridgeModel" = some m.cls := findClass_of_methodNamed B.named
  have hS : va_S (fun _ => False) s.heap s.heap [] := va_S.rf
  have hK := hC.K
  have hts := hC.ts [.ref (r 0), .int c0, .int n0, .int (nI N)].toArray
  have hl := lv_entry ([.ref (r 0), .int c0, .int n0, .int (nI N)]) (n := 8) (Nat.le_of_ble_eq_true rfl)
  rw [lg_entry_eq]
  generalize (lg_sl ([.ref (r 0), .int c0, .int n0, .int (nI N)]) ++ List.replicate (8 - (lg_sl ([.ref (r 0), .int c0, .int n0, .int (nI N)])).length) Slot.unset).toArray = ls at hl ⊢
  have hl : lv_has ls 8 [(0, .ref (r 0)), (1, .int c0), (2, .int n0), (3, .int (nI N))] := hl
  refine lv_iconst (v := -1) hx hb kd_R_methodOf_0 (by decide) ?_
  refine hx_topi (y := la_ (mq_ ow rn ct rt aq c0 n0 N) 0) (rfl) ?_
  refine lv_istore (lv' := [(4, .int (la_ (mq_ ow rn ct rt aq c0 n0 N) 0)), (0, .ref (r 0)), (1, .int c0), (2, .int n0), (3, .int (nI N))]) hx hb kd_R_methodOf_1 hl (by decide) rfl (fun ls hl => ?_)
  refine lv_iconst (v := 0) hx hb kd_R_methodOf_3 (by decide) ?_
  refine hx_topi (y := nI 0) (rfl) ?_
  refine lv_istore (lv' := [(5, .int (nI 0)), (4, .int (la_ (mq_ ow rn ct rt aq c0 n0 N) 0)), (0, .ref (r 0)), (1, .int c0), (2, .int n0), (3, .int (nI N))]) hx hb kd_R_methodOf_4 hl (by decide) rfl (fun ls hl => ?_)
  refine hx_loopR (σ := Nat) (I := fun y ls => lv_has ls 8 [(0, .ref (r 0)), (1, .int c0), (2, .int n0), (3, .int (nI N)), (4, .int (la_ (mq_ ow rn ct rt aq c0 n0 N) y)), (5, .int (nI y))] ∧ y ≤ rm) (μ := fun y => rm - y) ?_ 0 ⟨lv_sub hl [2, 3, 4, 5, 1, 0] rfl, Nat.zero_le _⟩
  intro y ls hI ih6
  obtain ⟨hl, hy⟩ := hI
  refine lv_iload hx hb kd_R_methodOf_6 (lv_at hl 5 rfl) ?_
  refine lv_aload_n hx hb kd_R_methodOf_8 rfl (lv_at hl 0 rfl) ?_
  refine va_get (D := D) (ci := 7) (v := .int (nI rm)) (C := "HostBridgeModel") (T := ct_R) (N := 23) hx hb hts cw_R hown hK hP 0 rfl rfl 5 (by decide) (hts _ km_626) (fun _ h9 => h9) rfl kd_R_methodOf_9 ?_
  refine lv_icmp_ge (tgt := 124) hx hb kd_R_methodOf_12 (by decide) (fun c_12 => ?_) (fun c_12 => ?_)
  · skip
    have hin : y = rm := by rw [nI_leI (by omega) (by omega)] at c_12; omega
    refine lv_iload hx hb kd_R_methodOf_124 (lv_at hl 4 rfl) ?_
    exact hx_iretR hx hb hr hlocks (by rw [hin]) kd_R_methodOf_126
  · skip
    have hin : y < rm := by rw [nI_leI (by omega) (by omega)] at c_12; omega
    refine hx_cut (pc2 := 53) (ls2 := ls) (rest2 := []) (P := fun x => x = b2_ (decide (ow y = c0) && decide (rn y = n0) && decide (ct y = nI N))) ?_ (fun hj1 => ?_)
    · intro x2 e3
      subst e3
      refine lv_istore (lv' := [(6, .int (b2_ (decide (ow y = c0) && decide (rn y = n0) && decide (ct y = nI N)))), (0, .ref (r 0)), (1, .int c0), (2, .int n0), (3, .int (nI N)), (4, .int (la_ (mq_ ow rn ct rt aq c0 n0 N) y)), (5, .int (nI y))]) hx hb kd_R_methodOf_53 hl (by decide) rfl (fun ls hl => ?_)
      refine lv_iconst (v := 0) hx hb kd_R_methodOf_55 (by decide) ?_
      refine hx_topi (y := nI 0) (rfl) ?_
      refine lv_istore (lv' := [(7, .int (nI 0)), (6, .int (b2_ (decide (ow y = c0) && decide (rn y = n0) && decide (ct y = nI N)))), (0, .ref (r 0)), (1, .int c0), (2, .int n0), (3, .int (nI N)), (4, .int (la_ (mq_ ow rn ct rt aq c0 n0 N) y)), (5, .int (nI y))]) hx hb kd_R_methodOf_56 hl (by decide) rfl (fun ls hl => ?_)
      refine hx_loopR (σ := Nat × Bool) (I := fun x ls => lv_has ls 8 [(0, .ref (r 0)), (1, .int c0), (2, .int n0), (3, .int (nI N)), (4, .int (la_ (mq_ ow rn ct rt aq c0 n0 N) y)), (5, .int (nI y)), (6, .int (b2_ x.2)), (7, .int (nI x.1))] ∧ x.1 ≤ N ∧ x.2 = (decide (ow y = c0) && decide (rn y = n0) && decide (ct y = nI N) && al_ (fun i => decide (rt (4 * y + i) = aq i)) x.1)) (μ := fun x => N - x.1) ?_ (0, decide (ow y = c0) && decide (rn y = n0) && decide (ct y = nI N)) ⟨lv_sub hl [2, 3, 4, 5, 6, 7, 1, 0] rfl, Nat.zero_le _, by dsimp only; rw [al_0, Bool.and_true]⟩
      intro x ls hI ih58
      obtain ⟨i, g⟩ := x
      obtain ⟨hl, hi, hg⟩ := hI
      dsimp only at hl hi hg ih58
      refine lv_iload hx hb kd_R_methodOf_58 (lv_at hl 7 rfl) ?_
      refine lv_iload_n hx hb kd_R_methodOf_60 rfl (lv_at hl 3 rfl) ?_
      refine lv_icmp_ge (tgt := 104) hx hb kd_R_methodOf_61 (by decide) (fun c_61 => ?_) (fun c_61 => ?_)
      · skip
        have hin : i = N := by rw [nI_leI (by omega) (by omega)] at c_61; omega
        have hsg : mq_ ow rn ct rt aq c0 n0 N y = g := by rw [mq_, hg, hin]
        refine hx_cut (pc2 := 116) (ls2 := ls) (rest2 := []) (P := fun x => x = la_ (mq_ ow rn ct rt aq c0 n0 N) (y + 1)) ?_ (fun hj4 => ?_)
        · intro x5 e6
          subst e6
          refine lv_istore (lv' := [(4, .int (la_ (mq_ ow rn ct rt aq c0 n0 N) (y + 1))), (0, .ref (r 0)), (1, .int c0), (2, .int n0), (3, .int (nI N)), (5, .int (nI y)), (6, .int (b2_ g)), (7, .int (nI i))]) hx hb kd_R_methodOf_116 hl (by decide) rfl (fun ls hl => ?_)
          refine lv_iinc (v := nI (y + 1)) (lv' := [(5, .int (nI (y + 1))), (4, .int (la_ (mq_ ow rn ct rt aq c0 n0 N) (y + 1))), (0, .ref (r 0)), (1, .int c0), (2, .int n0), (3, .int (nI N)), (6, .int (b2_ g)), (7, .int (nI i))]) hx hb kd_R_methodOf_118 hl (k := 5) rfl (nI_1 y) (by decide) rfl (fun ls hl => ?_)
          refine lv_goto (tgt := 6) hx hb kd_R_methodOf_121 (by decide) ?_
          exact ih6 (y + 1) _ (by omega) ⟨lv_sub hl [2, 3, 4, 5, 1, 0] rfl, by omega⟩
        · skip
          refine lv_iload hx hb kd_R_methodOf_104 (lv_at hl 6 rfl) ?_
          refine lv_if_eq (tgt := 114) hx hb kd_R_methodOf_106 (by decide) (fun c_106 => ?_) (fun c_106 => ?_)
          · skip
            refine lv_iload hx hb kd_R_methodOf_114 (lv_at hl 4 rfl) ?_
            exact hj4 _ (by simp only [la_]; rw [hsg, b2_f c_106]; rw [if_neg (by decide)])
          · skip
            refine lv_iload hx hb kd_R_methodOf_109 (lv_at hl 5 rfl) ?_
            refine lv_goto (tgt := 116) hx hb kd_R_methodOf_111 (by decide) ?_
            exact hj4 _ (by simp only [la_]; rw [hsg, b2_t c_106, if_pos rfl])
      · skip
        have hin : i < N := by rw [nI_leI (by omega) (by omega)] at c_61; omega
        refine hx_cut (pc2 := 96) (ls2 := ls) (rest2 := []) (P := fun x => x = b2_ (decide (ow y = c0) && decide (rn y = n0) && decide (ct y = nI N) && al_ (fun i => decide (rt (4 * y + i) = aq i)) (i + 1))) ?_ (fun hj7 => ?_)
        · intro x8 e9
          subst e9
          refine lv_istore (lv' := [(6, .int (b2_ (decide (ow y = c0) && decide (rn y = n0) && decide (ct y = nI N) && al_ (fun i => decide (rt (4 * y + i) = aq i)) (i + 1)))), (0, .ref (r 0)), (1, .int c0), (2, .int n0), (3, .int (nI N)), (4, .int (la_ (mq_ ow rn ct rt aq c0 n0 N) y)), (5, .int (nI y)), (7, .int (nI i))]) hx hb kd_R_methodOf_96 hl (by decide) rfl (fun ls hl => ?_)
          refine lv_iinc (v := nI (i + 1)) (lv' := [(7, .int (nI (i + 1))), (6, .int (b2_ (decide (ow y = c0) && decide (rn y = n0) && decide (ct y = nI N) && al_ (fun i => decide (rt (4 * y + i) = aq i)) (i + 1)))), (0, .ref (r 0)), (1, .int c0), (2, .int n0), (3, .int (nI N)), (4, .int (la_ (mq_ ow rn ct rt aq c0 n0 N) y)), (5, .int (nI y))]) hx hb kd_R_methodOf_98 hl (k := 7) rfl (nI_1 i) (by decide) rfl (fun ls hl => ?_)
          refine lv_goto (tgt := 58) hx hb kd_R_methodOf_101 (by decide) ?_
          exact ih58 (i + 1, decide (ow y = c0) && decide (rn y = n0) && decide (ct y = nI N) && al_ (fun i => decide (rt (4 * y + i) = aq i)) (i + 1)) _ (by dsimp only; omega) ⟨lv_sub hl [2, 3, 4, 5, 6, 7, 1, 0] rfl, by dsimp only; omega, rfl⟩
        · skip
          refine lv_iload hx hb kd_R_methodOf_64 (lv_at hl 6 rfl) ?_
          refine lv_if_eq (tgt := 95) hx hb kd_R_methodOf_66 (by decide) (fun c_66 => ?_) (fun c_66 => ?_)
          · skip
            refine lv_iconst (v := 0) hx hb kd_R_methodOf_95 (by decide) ?_
            exact hj7 _ (by rw [al_s, ← Bool.and_assoc, ← hg, b2_f c_66]; simp [b2_])
          · skip
            refine lv_aload_n hx hb kd_R_methodOf_69 rfl (lv_at hl 0 rfl) ?_
            refine va_get (D := D) (ci := 7) (v := .ref (r 6)) (C := "HostBridgeModel") (T := ct_R) (N := 23) hx hb hts cw_R hown hK hP 0 rfl rfl 9 (by decide) (hts _ km_630) (fun _ h9 => h9) rfl kd_R_methodOf_70 ?_
            refine lv_iconst (v := 4) hx hb kd_R_methodOf_73 (by decide) ?_
            refine lv_iload hx hb kd_R_methodOf_74 (lv_at hl 5 rfl) ?_
            refine lv_imul hx hb kd_R_methodOf_76 ?_
            refine hx_topi (y := nI (4 * y)) (by rw [show (4 : Int32) = nI 4 from rfl, pk_mul]) ?_
            refine lv_iload hx hb kd_R_methodOf_77 (lv_at hl 7 rfl) ?_
            refine lv_iadd hx hb kd_R_methodOf_79 ?_
            refine hx_topi (y := nI (4 * y + i)) (nI_add _ _) ?_
            refine hx_iald (j := 4 * y + i) hx hb hK hP 6 rfl (rfl) (by omega) (by decide) kd_R_methodOf_80 ?_
            refine lv_aload_n hx hb kd_R_methodOf_81 rfl (lv_at hl 0 rfl) ?_
            refine va_get (D := D) (ci := 7) (v := .ref (r 9)) (C := "HostBridgeModel") (T := ct_R) (N := 23) hx hb hts cw_R hown hK hP 0 rfl rfl 13 (by decide) (hts _ km_634) (fun _ h9 => h9) rfl kd_R_methodOf_82 ?_
            refine lv_iload hx hb kd_R_methodOf_85 (lv_at hl 7 rfl) ?_
            refine hx_iald (j := i) hx hb hK hP 9 rfl (rfl) (by omega) (by decide) kd_R_methodOf_87 ?_
            refine lv_icmp_ne (tgt := 95) hx hb kd_R_methodOf_88 (by decide) (fun c_88 => ?_) (fun c_88 => ?_)
            · skip
              refine lv_iconst (v := 0) hx hb kd_R_methodOf_95 (by decide) ?_
              exact hj7 _ (by rw [al_s, ← Bool.and_assoc, ← hg, b2_t c_66]; simp [b2_, c_88])
            · skip
              refine lv_iconst (v := 1) hx hb kd_R_methodOf_91 (by decide) ?_
              refine lv_goto (tgt := 96) hx hb kd_R_methodOf_92 (by decide) ?_
              exact hj7 _ (by rw [al_s, ← Bool.and_assoc, ← hg, b2_t c_66]; simp [b2_, c_88])
    · skip
      refine lv_aload_n hx hb kd_R_methodOf_15 rfl (lv_at hl 0 rfl) ?_
      refine va_get (D := D) (ci := 7) (v := .ref (r 3)) (C := "HostBridgeModel") (T := ct_R) (N := 23) hx hb hts cw_R hown hK hP 0 rfl rfl 6 (by decide) (hts _ km_627) (fun _ h9 => h9) rfl kd_R_methodOf_16 ?_
      refine lv_iload hx hb kd_R_methodOf_19 (lv_at hl 5 rfl) ?_
      refine hx_iald (j := y) hx hb hK hP 3 rfl (rfl) (by omega) (by decide) kd_R_methodOf_21 ?_
      refine lv_iload_n hx hb kd_R_methodOf_22 rfl (lv_at hl 1 rfl) ?_
      refine lv_icmp_ne (tgt := 52) hx hb kd_R_methodOf_23 (by decide) (fun c_23 => ?_) (fun c_23 => ?_)
      · skip
        refine lv_iconst (v := 0) hx hb kd_R_methodOf_52 (by decide) ?_
        exact hj1 _ (by simp [b2_, c_23])
      · skip
        refine lv_aload_n hx hb kd_R_methodOf_26 rfl (lv_at hl 0 rfl) ?_
        refine va_get (D := D) (ci := 7) (v := .ref (r 4)) (C := "HostBridgeModel") (T := ct_R) (N := 23) hx hb hts cw_R hown hK hP 0 rfl rfl 7 (by decide) (hts _ km_628) (fun _ h9 => h9) rfl kd_R_methodOf_27 ?_
        refine lv_iload hx hb kd_R_methodOf_30 (lv_at hl 5 rfl) ?_
        refine hx_iald (j := y) hx hb hK hP 4 rfl (rfl) (by omega) (by decide) kd_R_methodOf_32 ?_
        refine lv_iload_n hx hb kd_R_methodOf_33 rfl (lv_at hl 2 rfl) ?_
        refine lv_icmp_ne (tgt := 52) hx hb kd_R_methodOf_34 (by decide) (fun c_34 => ?_) (fun c_34 => ?_)
        · skip
          refine lv_iconst (v := 0) hx hb kd_R_methodOf_52 (by decide) ?_
          exact hj1 _ (by simp [b2_, c_23, c_34])
        · skip
          refine lv_aload_n hx hb kd_R_methodOf_37 rfl (lv_at hl 0 rfl) ?_
          refine va_get (D := D) (ci := 7) (v := .ref (r 5)) (C := "HostBridgeModel") (T := ct_R) (N := 23) hx hb hts cw_R hown hK hP 0 rfl rfl 8 (by decide) (hts _ km_629) (fun _ h9 => h9) rfl kd_R_methodOf_38 ?_
          refine lv_iload hx hb kd_R_methodOf_41 (lv_at hl 5 rfl) ?_
          refine hx_iald (j := y) hx hb hK hP 5 rfl (rfl) (by omega) (by decide) kd_R_methodOf_43 ?_
          refine lv_iload_n hx hb kd_R_methodOf_44 rfl (lv_at hl 3 rfl) ?_
          refine lv_icmp_ne (tgt := 52) hx hb kd_R_methodOf_45 (by decide) (fun c_45 => ?_) (fun c_45 => ?_)
          · skip
            refine lv_iconst (v := 0) hx hb kd_R_methodOf_52 (by decide) ?_
            exact hj1 _ (by simp [b2_, c_23, c_34, c_45])
          · skip
            refine lv_iconst (v := 1) hx hb kd_R_methodOf_48 (by decide) ?_
            refine lv_goto (tgt := 53) hx hb kd_R_methodOf_49 (by decide) ?_
            exact hj1 _ (by simp [b2_, c_23, c_34, c_45])
