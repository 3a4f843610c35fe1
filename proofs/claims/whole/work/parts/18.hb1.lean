/-! THE CLASS ITSELF (HostBridge): its own helpers -/
/-- a value's bits are as its kind asks -/
def vl_ (no : Nat) (k : Int32) (b : Int64) : Bool := fb_in k 7 && (match k.toNatClampNeg with
  | 2 => (if lg_cmp b 0 = 0 then true else if lg_cmp b 1 = 0 then true else false)
  | 4 => (if lg_cmp b 0 < 0 then false else true)
  | 5 => (if lg_cmp b 0 < 0 then false else if 0 ≤ lg_cmp b (nI no).toInt64 then false else true)
  | 6 => (if lg_cmp b 0 < 0 then false else true)
  | _ => true)
theorem vl_no {no : Nat} {k : Int32} {b : Int64} (h : fb_in k 7 = false) : vl_ no k b = false := by rw [vl_, h, Bool.false_and]
/-- places base .. base + i - 1 hold g -/
def wv_ (fv : Nat → Int64) (base : Nat) (g : Nat → Int64) (i : Nat) : Nat → Int64 := fun z => if base ≤ z ∧ z < base + i then g (z - base) else fv z
theorem wv_0 (fv : Nat → Int64) (base : Nat) (g : Nat → Int64) : wv_ fv base g 0 = fv := by
  funext z
  simp only [wv_]
  rw [if_neg (by omega)]
theorem wv_s (fv : Nat → Int64) (base : Nat) (g : Nat → Int64) (i : Nat) : vp_updL (wv_ fv base g i) (base + i) (g i) = wv_ fv base g (i + 1) := by
  funext z
  simp only [vp_updL, wv_]
  by_cases h : z = base + i
  · subst h; rw [if_pos rfl, if_pos (by omega), Nat.add_sub_cancel_left]
  · rw [if_neg h]
    by_cases h2 : base ≤ z ∧ z < base + i
    · rw [if_pos h2, if_pos (by omega)]
    · rw [if_neg h2, if_neg (by omega)]
theorem mc_S_next {l : Launch} {D : va_G} {cI cL cZ : ClassId} {tb : Nat} (h0 w1 sa nw : Nat) (wa : Nat → Int64) (hs : sa < 64) (hn : nw ≤ 64) (sz : Nat) : Met l ky_S_next kw_S_next { frames := 0, cells := 0, slots := 0, locals := 0 } (pw_P D cI cL cZ tb [(h0, .inr (6, [.ref w1, .int (nI sa), .int (nI nw)])), (w1, .inl (cL, 64, .inr (.inl wa)))] sz [.ref h0]) (hx_QW D (some (.long (if nw = 0 then 0 else wa sa))) [(h0, .inr (6, [.ref w1, .int (nI (if nw = 0 then sa else (sa + 1) % 64)), .int (nI (nw - 1))])), (w1, .inl (cL, 64, .inr (.inl wa)))] (va_A [(h0, .inr (6, [.ref w1, .int (nI sa), .int (nI nw)])), (w1, .inl (cL, 64, .inr (.inl wa)))] sz)) 0 0 (va_A [(h0, .inr (6, [.ref w1, .int (nI sa), .int (nI nw)])), (w1, .inl (cL, 64, .inr (.inl wa)))] sz) := by
  cases nw with
  | zero => exact mc_S_next0 h0 w1 sa wa sz
  | succ n =>
    rw [if_neg (Nat.succ_ne_zero n), if_neg (Nat.succ_ne_zero n)]
    exact mc_S_next1 h0 w1 sa n wa hs (by omega) sz

set_option maxHeartbeats 4000000 in
set_option maxRecDepth 100000 in
theorem mc_B_isValue {l : Launch} {D : va_G} {cI cL cZ : ClassId} {tb : Nat} (h0 hw hm ha hc hd hs b1 b2 nc no : Nat) (k : Int32) (b : Int64) : Met l ky_B_isValue kw_B_isValue { frames := 0, cells := 0, slots := 0, locals := 0 } (pr_P D cI cL cZ tb [(h0, .inr (0, [.ref hw, .ref hm, .ref ha, .ref hc, .ref hd, .ref hs])), (hw, .inr (1, [.ref b1, .ref b2, .int (nI nc), .int (nI no)]))] [.ref h0, .int k, .long b]) (hx_QR (some (.int (b2_ (vl_ no k b))))) 0 0 (fun _ => False) := by
  refine Met.ofW (cc := kc_B_isValue) (maxL := 4) (ret := (some .boolean)) (by decide) rfl ?_
  intro p e s m args below meth c s₁ B hml hv
  obtain ⟨rfl, hC, hP⟩ := hv
  have hx := B.exec
  have hb := B.bytes
  have hr := B.returns
  have hlocks := B.notSynchronized
  have hown : s.vm.findClass "HostBridge" = some m.cls := findClass_of_methodNamed B.named
  have hS : va_S (fun _ => False) s.heap s.heap [] := va_S.rf
  have hK := hC.K
  have hts := hC.ts [.ref h0, .int k, .long b].toArray
  have hl := lv_entry ([.ref h0, .int k, .long b]) (n := 4) (Nat.le_of_ble_eq_true rfl)
  rw [lg_entry_eq]
  generalize (lg_sl ([.ref h0, .int k, .long b]) ++ List.replicate (4 - (lg_sl ([.ref h0, .int k, .long b])).length) Slot.unset).toArray = ls at hl ⊢
  have hl : lv_has ls 4 [(0, .ref h0), (1, .int k), (2, .long b)] := hl
  refine lv_iload_n hx hb kd_B_isValue_0 rfl (lv_at hl 1 rfl) ?_
  rcases pk_ix k (n := 7) (by decide) with hk | hk | ⟨j, hj, rfl⟩
  · refine lv_tableOut (tgt := 101) hx hb kd_B_isValue_1 (Or.inl (by simpa using Int32.lt_iff_toInt_lt.mp hk)) (by decide) ?_
    refine lv_iconst (v := 0) hx hb kd_B_isValue_101 (by decide) ?_
    exact hx_zretR hx hb hr hlocks (by rw [vl_no (by simp [fb_in, hk])]; rfl) kd_B_isValue_102
  · refine lv_tableOut (tgt := 101) hx hb kd_B_isValue_1 (Or.inr (by have h9 := Int32.le_iff_toInt_le.mp hk; rw [nI_toInt (by decide)] at h9; omega)) (by decide) ?_
    refine lv_iconst (v := 0) hx hb kd_B_isValue_101 (by decide) ?_
    exact hx_zretR hx hb hr hlocks (by rw [vl_no (by simp [fb_in, hk])]; rfl) kd_B_isValue_102
  · rcases (show j = 0 ∨ j = 1 ∨ j = 2 ∨ j = 3 ∨ j = 4 ∨ j = 5 ∨ j = 6 by omega) with rfl | rfl | rfl | rfl | rfl | rfl | rfl
    · refine lv_tableIn (tgt := 44) (off := 43) hx hb kd_B_isValue_1 (by decide) (by decide) (by decide) (by decide) ?_
      refine lv_iconst (v := 1) hx hb kd_B_isValue_44 (by decide) ?_
      exact hx_zretR hx hb hr hlocks (rfl) kd_B_isValue_45
    · refine lv_tableIn (tgt := 44) (off := 43) hx hb kd_B_isValue_1 (by decide) (by decide) (by decide) (by decide) ?_
      refine lv_iconst (v := 1) hx hb kd_B_isValue_44 (by decide) ?_
      exact hx_zretR hx hb hr hlocks (rfl) kd_B_isValue_45
    · refine lv_tableIn (tgt := 46) (off := 45) hx hb kd_B_isValue_1 (by decide) (by decide) (by decide) (by decide) ?_
      refine lv_lload_n hx hb kd_B_isValue_46 rfl (lv_at hl 2 rfl) ?_
      refine lv_lconst (v := 0) hx hb kd_B_isValue_47 (by decide) ?_
      refine W.lcmp hx hb kd_B_isValue_48 ?_
      refine lv_if_eq (tgt := 58) hx hb kd_B_isValue_49 (by decide) (fun c_49 => ?_) (fun c_49 => ?_)
      · skip
        refine lv_iconst (v := 1) hx hb kd_B_isValue_58 (by decide) ?_
        refine lv_goto (tgt := 63) hx hb kd_B_isValue_59 (by decide) ?_
        exact hx_zretR hx hb hr hlocks (by show (1 : Int32) = b2_ (if lg_cmp b 0 = 0 then true else if lg_cmp b 1 = 0 then true else false); rw [if_pos c_49]; rfl) kd_B_isValue_63
      · skip
        refine lv_lload_n hx hb kd_B_isValue_52 rfl (lv_at hl 2 rfl) ?_
        refine lv_lconst (v := 1) hx hb kd_B_isValue_53 (by decide) ?_
        refine W.lcmp hx hb kd_B_isValue_54 ?_
        refine lv_if_ne (tgt := 62) hx hb kd_B_isValue_55 (by decide) (fun c_55 => ?_) (fun c_55 => ?_)
        · skip
          refine lv_iconst (v := 0) hx hb kd_B_isValue_62 (by decide) ?_
          exact hx_zretR hx hb hr hlocks (by show (0 : Int32) = b2_ (if lg_cmp b 0 = 0 then true else if lg_cmp b 1 = 0 then true else false); rw [if_neg c_49, if_neg c_55]; rfl) kd_B_isValue_63
        · skip
          refine lv_iconst (v := 1) hx hb kd_B_isValue_58 (by decide) ?_
          refine lv_goto (tgt := 63) hx hb kd_B_isValue_59 (by decide) ?_
          exact hx_zretR hx hb hr hlocks (by show (1 : Int32) = b2_ (if lg_cmp b 0 = 0 then true else if lg_cmp b 1 = 0 then true else false); rw [if_neg c_49, if_pos c_55]; rfl) kd_B_isValue_63
    · refine lv_tableIn (tgt := 44) (off := 43) hx hb kd_B_isValue_1 (by decide) (by decide) (by decide) (by decide) ?_
      refine lv_iconst (v := 1) hx hb kd_B_isValue_44 (by decide) ?_
      exact hx_zretR hx hb hr hlocks (rfl) kd_B_isValue_45
    · refine lv_tableIn (tgt := 64) (off := 63) hx hb kd_B_isValue_1 (by decide) (by decide) (by decide) (by decide) ?_
      refine lv_lload_n hx hb kd_B_isValue_64 rfl (lv_at hl 2 rfl) ?_
      refine lv_lconst (v := 0) hx hb kd_B_isValue_65 (by decide) ?_
      refine W.lcmp hx hb kd_B_isValue_66 ?_
      refine lv_if_lt (tgt := 74) hx hb kd_B_isValue_67 (by decide) (fun c_67 => ?_) (fun c_67 => ?_)
      · skip
        refine lv_iconst (v := 0) hx hb kd_B_isValue_74 (by decide) ?_
        exact hx_zretR hx hb hr hlocks (by show (0 : Int32) = b2_ (if lg_cmp b 0 < 0 then false else true); rw [if_pos c_67]; rfl) kd_B_isValue_75
      · skip
        refine lv_iconst (v := 1) hx hb kd_B_isValue_70 (by decide) ?_
        refine lv_goto (tgt := 75) hx hb kd_B_isValue_71 (by decide) ?_
        exact hx_zretR hx hb hr hlocks (by show (1 : Int32) = b2_ (if lg_cmp b 0 < 0 then false else true); rw [if_neg c_67]; rfl) kd_B_isValue_75
    · refine lv_tableIn (tgt := 76) (off := 75) hx hb kd_B_isValue_1 (by decide) (by decide) (by decide) (by decide) ?_
      refine lv_lload_n hx hb kd_B_isValue_76 rfl (lv_at hl 2 rfl) ?_
      refine lv_lconst (v := 0) hx hb kd_B_isValue_77 (by decide) ?_
      refine W.lcmp hx hb kd_B_isValue_78 ?_
      refine lv_if_lt (tgt := 99) hx hb kd_B_isValue_79 (by decide) (fun c_79 => ?_) (fun c_79 => ?_)
      · skip
        refine lv_iconst (v := 0) hx hb kd_B_isValue_99 (by decide) ?_
        exact hx_zretR hx hb hr hlocks (by show (0 : Int32) = b2_ (if lg_cmp b 0 < 0 then false else if 0 ≤ lg_cmp b (nI no).toInt64 then false else true); rw [if_pos c_79]; rfl) kd_B_isValue_100
      · skip
        refine lv_lload_n hx hb kd_B_isValue_82 rfl (lv_at hl 2 rfl) ?_
        refine lv_aload_n hx hb kd_B_isValue_83 rfl (lv_at hl 0 rfl) ?_
        refine va_get (D := D) (ci := 0) (v := .ref hw) (C := "HostBridge") (T := ct_B) (N := 6) hx hb hts cw_B hown hK hP 0 rfl rfl 0 (by decide) (hts _ km_172) (fun _ h9 => h9) rfl kd_B_isValue_84 ?_
        refine va_getN (host := "HostBridge") (D := D) (ci := 1) (v := .int (nI no)) (C := "HostBridge$World") (T := ct_W) (N := 4) hx hb hts cw_W hown hK hP 1 rfl rfl 3 (by decide) (hts _ km_40) (fun _ h9 => h9) rfl kd_B_isValue_87 ?_
        refine lv_i2l hx hb kd_B_isValue_90 rfl ?_
        refine W.lcmp hx hb kd_B_isValue_91 ?_
        refine lv_if_ge (tgt := 99) hx hb kd_B_isValue_92 (by decide) (fun c_92 => ?_) (fun c_92 => ?_)
        · skip
          refine lv_iconst (v := 0) hx hb kd_B_isValue_99 (by decide) ?_
          exact hx_zretR hx hb hr hlocks (by show (0 : Int32) = b2_ (if lg_cmp b 0 < 0 then false else if 0 ≤ lg_cmp b (nI no).toInt64 then false else true); rw [if_neg c_79, if_pos c_92]; rfl) kd_B_isValue_100
        · skip
          refine lv_iconst (v := 1) hx hb kd_B_isValue_95 (by decide) ?_
          refine lv_goto (tgt := 100) hx hb kd_B_isValue_96 (by decide) ?_
          exact hx_zretR hx hb hr hlocks (by show (1 : Int32) = b2_ (if lg_cmp b 0 < 0 then false else if 0 ≤ lg_cmp b (nI no).toInt64 then false else true); rw [if_neg c_79, if_neg c_92]; rfl) kd_B_isValue_100
    · refine lv_tableIn (tgt := 64) (off := 63) hx hb kd_B_isValue_1 (by decide) (by decide) (by decide) (by decide) ?_
      refine lv_lload_n hx hb kd_B_isValue_64 rfl (lv_at hl 2 rfl) ?_
      refine lv_lconst (v := 0) hx hb kd_B_isValue_65 (by decide) ?_
      refine W.lcmp hx hb kd_B_isValue_66 ?_
      refine lv_if_lt (tgt := 74) hx hb kd_B_isValue_67 (by decide) (fun c_67 => ?_) (fun c_67 => ?_)
      · skip
        refine lv_iconst (v := 0) hx hb kd_B_isValue_74 (by decide) ?_
        exact hx_zretR hx hb hr hlocks (by show (0 : Int32) = b2_ (if lg_cmp b 0 < 0 then false else true); rw [if_pos c_67]; rfl) kd_B_isValue_75
      · skip
        refine lv_iconst (v := 1) hx hb kd_B_isValue_70 (by decide) ?_
        refine lv_goto (tgt := 75) hx hb kd_B_isValue_71 (by decide) ?_
        exact hx_zretR hx hb hr hlocks (by show (1 : Int32) = b2_ (if lg_cmp b 0 < 0 then false else true); rw [if_neg c_67]; rfl) kd_B_isValue_75

set_option maxHeartbeats 4000000 in
set_option maxRecDepth 100000 in
theorem mc_B_writeDown {l : Launch} {D : va_G} {cI cL cZ : ClassId} {tb : Nat} (q : Nat → Nat) (nc no nm nar nd sa nw : Nat) (ck : Int32) (lg : Int64) (pa co ho nn si ty kn so ca lo fo fm fs : Nat → Int32) (bi fv wa : Nat → Int64) (j N : Nat) (ob : Int32) (hj : j < 64) (hN : si j = nI N) (hN4 : N ≤ 4) (hnd : nd < 2 ^ 31) (hs : sa < 64) (hw : nw ≤ 64) (sz : Nat) : Met l ky_B_writeDown kw_B_writeDown { frames := 4, cells := 0, slots := 0, locals := 90 } (pw_P D cI cL cZ tb [((q 0), .inr (0, [.ref (q 1), .ref (q 2), .ref (q 3), .ref (q 4), .ref (q 5), .ref (q 6)])), ((q 1), .inr (1, [.ref (q 7), .ref (q 8), .int (nI nc), .int (nI no)])), ((q 2), .inr (2, [.ref (q 9), .ref (q 10), .ref (q 11), .ref (q 12), .int (nI nm)])), ((q 3), .inr (3, [.ref (q 1), .ref (q 13), .ref (q 14), .ref (q 15), .int (nI nar)])), ((q 4), .inr (4, [.ref (q 1), .ref (q 2), .ref (q 3), .ref (q 16), .ref (q 17), .int ck])), ((q 5), .inr (5, [.ref (q 18), .ref (q 19), .ref (q 20), .ref (q 21), .long lg, .int (nI nd)])), ((q 6), .inr (6, [.ref (q 22), .int (nI sa), .int (nI nw)])), ((q 7), .inl (cI, 16, .inl pa)), ((q 8), .inl (cI, 64, .inl co)), ((q 9), .inl (cI, 64, .inl ho)), ((q 10), .inl (cI, 64, .inl nn)), ((q 11), .inl (cI, 64, .inl si)), ((q 12), .inl (cI, 64, .inl ty)), ((q 13), .inl (cI, 4, .inl kn)), ((q 14), .inl (cI, 4, .inl so)), ((q 15), .inl (cL, 4, .inr (.inl bi))), ((q 16), .inl (cI, 64, .inl ca)), ((q 17), .inl (cI, 4, .inl lo)), ((q 18), .inl (cI, 64, .inl fo)), ((q 19), .inl (cI, 64, .inl fm)), ((q 20), .inl (cI, 64, .inl fs)), ((q 21), .inl (cL, 256, .inr (.inl fv))), ((q 22), .inl (cL, 64, .inr (.inl wa)))] sz [.ref (q 0), .int ob, .int (nI j)]) (hx_QW D none [((q 0), .inr (0, [.ref (q 1), .ref (q 2), .ref (q 3), .ref (q 4), .ref (q 5), .ref (q 6)])), ((q 1), .inr (1, [.ref (q 7), .ref (q 8), .int (nI nc), .int (nI no)])), ((q 2), .inr (2, [.ref (q 9), .ref (q 10), .ref (q 11), .ref (q 12), .int (nI nm)])), ((q 3), .inr (3, [.ref (q 1), .ref (q 13), .ref (q 14), .ref (q 15), .int (nI nar)])), ((q 4), .inr (4, [.ref (q 1), .ref (q 2), .ref (q 3), .ref (q 16), .ref (q 17), .int ck])), ((q 5), .inr (5, [.ref (q 18), .ref (q 19), .ref (q 20), .ref (q 21), .long (if nw = 0 then 0 else wa sa), .int (nI (nd + 1))])), ((q 6), .inr (6, [.ref (q 22), .int (nI (if nw = 0 then sa else (sa + 1) % 64)), .int (nI (nw - 1))])), ((q 7), .inl (cI, 16, .inl pa)), ((q 8), .inl (cI, 64, .inl co)), ((q 9), .inl (cI, 64, .inl ho)), ((q 10), .inl (cI, 64, .inl nn)), ((q 11), .inl (cI, 64, .inl si)), ((q 12), .inl (cI, 64, .inl ty)), ((q 13), .inl (cI, 4, .inl kn)), ((q 14), .inl (cI, 4, .inl so)), ((q 15), .inl (cL, 4, .inr (.inl bi))), ((q 16), .inl (cI, 64, .inl ca)), ((q 17), .inl (cI, 4, .inl lo)), ((q 18), .inl (cI, 64, .inl (upd fo (nd % 64) ob))), ((q 19), .inl (cI, 64, .inl (upd fm (nd % 64) (nI j)))), ((q 20), .inl (cI, 64, .inl (upd fs (nd % 64) (nI N)))), ((q 21), .inl (cL, 256, .inr (.inl (wv_ fv (nd % 64 * 4) (fun i => cv_ kn bi i (nI (ty_N (ty j) N i))) N)))), ((q 22), .inl (cL, 64, .inr (.inl wa)))] (va_A [((q 0), .inr (0, [.ref (q 1), .ref (q 2), .ref (q 3), .ref (q 4), .ref (q 5), .ref (q 6)])), ((q 1), .inr (1, [.ref (q 7), .ref (q 8), .int (nI nc), .int (nI no)])), ((q 2), .inr (2, [.ref (q 9), .ref (q 10), .ref (q 11), .ref (q 12), .int (nI nm)])), ((q 3), .inr (3, [.ref (q 1), .ref (q 13), .ref (q 14), .ref (q 15), .int (nI nar)])), ((q 4), .inr (4, [.ref (q 1), .ref (q 2), .ref (q 3), .ref (q 16), .ref (q 17), .int ck])), ((q 5), .inr (5, [.ref (q 18), .ref (q 19), .ref (q 20), .ref (q 21), .long lg, .int (nI nd)])), ((q 6), .inr (6, [.ref (q 22), .int (nI sa), .int (nI nw)])), ((q 7), .inl (cI, 16, .inl pa)), ((q 8), .inl (cI, 64, .inl co)), ((q 9), .inl (cI, 64, .inl ho)), ((q 10), .inl (cI, 64, .inl nn)), ((q 11), .inl (cI, 64, .inl si)), ((q 12), .inl (cI, 64, .inl ty)), ((q 13), .inl (cI, 4, .inl kn)), ((q 14), .inl (cI, 4, .inl so)), ((q 15), .inl (cL, 4, .inr (.inl bi))), ((q 16), .inl (cI, 64, .inl ca)), ((q 17), .inl (cI, 4, .inl lo)), ((q 18), .inl (cI, 64, .inl fo)), ((q 19), .inl (cI, 64, .inl fm)), ((q 20), .inl (cI, 64, .inl fs)), ((q 21), .inl (cL, 256, .inr (.inl fv))), ((q 22), .inl (cL, 64, .inr (.inl wa)))] sz)) 0 0 (va_A [((q 0), .inr (0, [.ref (q 1), .ref (q 2), .ref (q 3), .ref (q 4), .ref (q 5), .ref (q 6)])), ((q 1), .inr (1, [.ref (q 7), .ref (q 8), .int (nI nc), .int (nI no)])), ((q 2), .inr (2, [.ref (q 9), .ref (q 10), .ref (q 11), .ref (q 12), .int (nI nm)])), ((q 3), .inr (3, [.ref (q 1), .ref (q 13), .ref (q 14), .ref (q 15), .int (nI nar)])), ((q 4), .inr (4, [.ref (q 1), .ref (q 2), .ref (q 3), .ref (q 16), .ref (q 17), .int ck])), ((q 5), .inr (5, [.ref (q 18), .ref (q 19), .ref (q 20), .ref (q 21), .long lg, .int (nI nd)])), ((q 6), .inr (6, [.ref (q 22), .int (nI sa), .int (nI nw)])), ((q 7), .inl (cI, 16, .inl pa)), ((q 8), .inl (cI, 64, .inl co)), ((q 9), .inl (cI, 64, .inl ho)), ((q 10), .inl (cI, 64, .inl nn)), ((q 11), .inl (cI, 64, .inl si)), ((q 12), .inl (cI, 64, .inl ty)), ((q 13), .inl (cI, 4, .inl kn)), ((q 14), .inl (cI, 4, .inl so)), ((q 15), .inl (cL, 4, .inr (.inl bi))), ((q 16), .inl (cI, 64, .inl ca)), ((q 17), .inl (cI, 4, .inl lo)), ((q 18), .inl (cI, 64, .inl fo)), ((q 19), .inl (cI, 64, .inl fm)), ((q 20), .inl (cI, 64, .inl fs)), ((q 21), .inl (cL, 256, .inr (.inl fv))), ((q 22), .inl (cL, 64, .inr (.inl wa)))] sz) := by
  refine Met.ofW (cc := kc_B_writeDown) (maxL := 6) (ret := none) (by decide) rfl ?_
  intro p e s m args below meth c s₁ B hml hv
  obtain ⟨rfl, hsz, hC, hP, hD0⟩ := hv
  have hx := B.exec
  have hb := B.bytes
  have hr := B.returns
  have hlocks := B.notSynchronized
  have hown : s.vm.findClass "HostBridge" = some m.cls := findClass_of_methodNamed B.named
  subst hsz
  have hD := hD0.self (sz := s.heap.size)
  generalize hAe : va_A [((q 0), .inr (0, [.ref (q 1), .ref (q 2), .ref (q 3), .ref (q 4), .ref (q 5), .ref (q 6)])), ((q 1), .inr (1, [.ref (q 7), .ref (q 8), .int (nI nc), .int (nI no)])), ((q 2), .inr (2, [.ref (q 9), .ref (q 10), .ref (q 11), .ref (q 12), .int (nI nm)])), ((q 3), .inr (3, [.ref (q 1), .ref (q 13), .ref (q 14), .ref (q 15), .int (nI nar)])), ((q 4), .inr (4, [.ref (q 1), .ref (q 2), .ref (q 3), .ref (q 16), .ref (q 17), .int ck])), ((q 5), .inr (5, [.ref (q 18), .ref (q 19), .ref (q 20), .ref (q 21), .long lg, .int (nI nd)])), ((q 6), .inr (6, [.ref (q 22), .int (nI sa), .int (nI nw)])), ((q 7), .inl (cI, 16, .inl pa)), ((q 8), .inl (cI, 64, .inl co)), ((q 9), .inl (cI, 64, .inl ho)), ((q 10), .inl (cI, 64, .inl nn)), ((q 11), .inl (cI, 64, .inl si)), ((q 12), .inl (cI, 64, .inl ty)), ((q 13), .inl (cI, 4, .inl kn)), ((q 14), .inl (cI, 4, .inl so)), ((q 15), .inl (cL, 4, .inr (.inl bi))), ((q 16), .inl (cI, 64, .inl ca)), ((q 17), .inl (cI, 4, .inl lo)), ((q 18), .inl (cI, 64, .inl fo)), ((q 19), .inl (cI, 64, .inl fm)), ((q 20), .inl (cI, 64, .inl fs)), ((q 21), .inl (cL, 256, .inr (.inl fv))), ((q 22), .inl (cL, 64, .inr (.inl wa)))] s.heap.size = A at hD hC ⊢
  have hA : ∀ q : Nat, s.heap.size ≤ q → A q := fun q h => by rw [← hAe]; exact Or.inr h
  have hS : va_S A s.heap s.heap [] := va_S.rf
  have hK := hC.K
  have hts := hC.ts [.ref (q 0), .int ob, .int (nI j)].toArray
  have hl := lv_entry ([.ref (q 0), .int ob, .int (nI j)]) (n := 6) (Nat.le_of_ble_eq_true rfl)
  rw [lg_entry_eq]
  generalize (lg_sl ([.ref (q 0), .int ob, .int (nI j)]) ++ List.replicate (6 - (lg_sl ([.ref (q 0), .int ob, .int (nI j)])).length) Slot.unset).toArray = ls at hl ⊢
  have hl : lv_has ls 6 [(0, .ref (q 0)), (1, .int ob), (2, .int (nI j))] := hl
  refine lv_aload_n hx hb kd_B_writeDown_0 rfl (lv_at hl 0 rfl) ?_
  refine va_get (D := D) (ci := 0) (v := .ref (q 2)) (C := "HostBridge") (T := ct_B) (N := 6) hx hb hts cw_B hown hK hP 0 rfl rfl 1 (by decide) (hts _ km_173) (fun _ h9 => h9) rfl kd_B_writeDown_1 ?_
  refine va_getN (host := "HostBridge") (D := D) (ci := 2) (v := .ref (q 11)) (C := "HostBridge$Methods") (T := ct_M) (N := 5) hx hb hts cw_M hown hK hP 2 rfl rfl 2 (by decide) (hts _ km_60) (fun _ h9 => h9) rfl kd_B_writeDown_4 ?_
  refine lv_iload_n hx hb kd_B_writeDown_7 rfl (lv_at hl 2 rfl) ?_
  refine hx_iald (j := j) hx hb hK hP 11 rfl (rfl) (hj) (by decide) kd_B_writeDown_8 ?_
  refine hx_topi (y := nI N) (hN) ?_
  refine lv_istore_n (lv' := [(3, .int (nI N)), (0, .ref (q 0)), (1, .int ob), (2, .int (nI j))]) hx hb kd_B_writeDown_9 rfl hl (by decide) rfl (fun ls hl => ?_)
  refine lv_aload_n hx hb kd_B_writeDown_10 rfl (lv_at hl 1 rfl) ?_
  refine va_get (D := D) (ci := 0) (v := .ref (q 2)) (C := "HostBridge") (T := ct_B) (N := 6) hx hb hts cw_B hown hK hP 0 rfl rfl 1 (by decide) (hts _ km_173) (fun _ h9 => h9) rfl kd_B_writeDown_11 ?_
  refine va_getN (host := "HostBridge") (D := D) (ci := 2) (v := .ref (q 12)) (C := "HostBridge$Methods") (T := ct_M) (N := 5) hx hb hts cw_M hown hK hP 2 rfl rfl 3 (by decide) (hts _ km_63) (fun _ h9 => h9) rfl kd_B_writeDown_14 ?_
  refine lv_iload_n hx hb kd_B_writeDown_17 rfl (lv_at hl 3 rfl) ?_
  refine hx_iald (j := j) hx hb hK hP 12 rfl (rfl) (hj) (by decide) kd_B_writeDown_18 ?_
  refine lv_istore (lv' := [(4, .int (ty j)), (3, .int (nI N)), (0, .ref (q 0)), (1, .int ob), (2, .int (nI j))]) hx hb kd_B_writeDown_19 hl (by decide) rfl (fun ls hl => ?_)
  refine lv_aload_n hx hb kd_B_writeDown_21 rfl (lv_at hl 2 rfl) ?_
  refine va_get (D := D) (ci := 0) (v := .ref (q 5)) (C := "HostBridge") (T := ct_B) (N := 6) hx hb hts cw_B hown hK hP 0 rfl rfl 4 (by decide) (hts _ km_176) (fun _ h9 => h9) rfl kd_B_writeDown_22 ?_
  refine lv_iload_n hx hb kd_B_writeDown_25 rfl (lv_at hl 3 rfl) ?_
  refine lv_iload_n hx hb kd_B_writeDown_26 rfl (lv_at hl 4 rfl) ?_
  refine lv_iload_n hx hb kd_B_writeDown_27 rfl (lv_at hl 1 rfl) ?_
  refine hx_callWv (va_runV (As := [.int ob, .int (nI j), .int (nI N)]) (rest := []) ⟨hx, hb, hml, hown, hts⟩ (mc_D_open (q 5) (q 18) (q 19) (q 20) (q 21) nd lg fo fm fs fv ob (nI j) (nI N) hnd _) (cwV 3 hts (goodIn_sub (hx_m5 km_492 km_493 km_494 km_6 km_495) (by decide +kernel)) rfl rfl rfl (by decide +kernel) ⟨Nat.le_of_ble_eq_true rfl, Nat.le_of_ble_eq_true rfl⟩) (pw_V (hC.S hS) hP hD hS hA [5, 18, 19, 20] (by decide) rfl (ci := 5) rfl (q0 := 0) rfl) rfl rfl hl.1 rfl (lv_room (Nat.le_of_ble_eq_true rfl)) kd_B_writeDown_28 ⟨Nat.le_of_ble_eq_true rfl, Nat.le_of_ble_eq_true rfl⟩) hP hD hS hA [5, 18, 19, 20] rfl rfl (fun H locs hP hD hS hF => ?_)
  have hP : va_P D cl_all [((q 0), .inr (0, [.ref (q 1), .ref (q 2), .ref (q 3), .ref (q 4), .ref (q 5), .ref (q 6)])), ((q 1), .inr (1, [.ref (q 7), .ref (q 8), .int (nI nc), .int (nI no)])), ((q 2), .inr (2, [.ref (q 9), .ref (q 10), .ref (q 11), .ref (q 12), .int (nI nm)])), ((q 3), .inr (3, [.ref (q 1), .ref (q 13), .ref (q 14), .ref (q 15), .int (nI nar)])), ((q 4), .inr (4, [.ref (q 1), .ref (q 2), .ref (q 3), .ref (q 16), .ref (q 17), .int ck])), ((q 5), .inr (5, [.ref (q 18), .ref (q 19), .ref (q 20), .ref (q 21), .long lg, .int (nI nd)])), ((q 6), .inr (6, [.ref (q 22), .int (nI sa), .int (nI nw)])), ((q 7), .inl (cI, 16, .inl pa)), ((q 8), .inl (cI, 64, .inl co)), ((q 9), .inl (cI, 64, .inl ho)), ((q 10), .inl (cI, 64, .inl nn)), ((q 11), .inl (cI, 64, .inl si)), ((q 12), .inl (cI, 64, .inl ty)), ((q 13), .inl (cI, 4, .inl kn)), ((q 14), .inl (cI, 4, .inl so)), ((q 15), .inl (cL, 4, .inr (.inl bi))), ((q 16), .inl (cI, 64, .inl ca)), ((q 17), .inl (cI, 4, .inl lo)), ((q 18), .inl (cI, 64, .inl (upd fo (nd % 64) ob))), ((q 19), .inl (cI, 64, .inl (upd fm (nd % 64) (nI j)))), ((q 20), .inl (cI, 64, .inl (upd fs (nd % 64) (nI N)))), ((q 21), .inl (cL, 256, .inr (.inl fv))), ((q 22), .inl (cL, 64, .inr (.inl wa)))] H := hP
  have hD : va_D A [((q 0), .inr (0, [.ref (q 1), .ref (q 2), .ref (q 3), .ref (q 4), .ref (q 5), .ref (q 6)])), ((q 1), .inr (1, [.ref (q 7), .ref (q 8), .int (nI nc), .int (nI no)])), ((q 2), .inr (2, [.ref (q 9), .ref (q 10), .ref (q 11), .ref (q 12), .int (nI nm)])), ((q 3), .inr (3, [.ref (q 1), .ref (q 13), .ref (q 14), .ref (q 15), .int (nI nar)])), ((q 4), .inr (4, [.ref (q 1), .ref (q 2), .ref (q 3), .ref (q 16), .ref (q 17), .int ck])), ((q 5), .inr (5, [.ref (q 18), .ref (q 19), .ref (q 20), .ref (q 21), .long lg, .int (nI nd)])), ((q 6), .inr (6, [.ref (q 22), .int (nI sa), .int (nI nw)])), ((q 7), .inl (cI, 16, .inl pa)), ((q 8), .inl (cI, 64, .inl co)), ((q 9), .inl (cI, 64, .inl ho)), ((q 10), .inl (cI, 64, .inl nn)), ((q 11), .inl (cI, 64, .inl si)), ((q 12), .inl (cI, 64, .inl ty)), ((q 13), .inl (cI, 4, .inl kn)), ((q 14), .inl (cI, 4, .inl so)), ((q 15), .inl (cL, 4, .inr (.inl bi))), ((q 16), .inl (cI, 64, .inl ca)), ((q 17), .inl (cI, 4, .inl lo)), ((q 18), .inl (cI, 64, .inl (upd fo (nd % 64) ob))), ((q 19), .inl (cI, 64, .inl (upd fm (nd % 64) (nI j)))), ((q 20), .inl (cI, 64, .inl (upd fs (nd % 64) (nI N)))), ((q 21), .inl (cL, 256, .inr (.inl fv))), ((q 22), .inl (cL, 64, .inr (.inl wa)))] := hD
  refine lv_iconst (v := 0) hx hb kd_B_writeDown_31 (by decide) ?_
  refine lv_istore (lv' := [(5, .int 0), (4, .int (ty j)), (3, .int (nI N)), (0, .ref (q 0)), (1, .int ob), (2, .int (nI j))]) hx hb kd_B_writeDown_32 hl (by decide) rfl (fun ls hl => ?_)
  refine hx_loopW (σ := Nat) (I := fun i ls H locs => lv_has ls 6 [(0, .ref (q 0)), (3, .int (nI N)), (4, .int (ty j)), (5, .int (nI i))] ∧ va_P D cl_all [((q 0), .inr (0, [.ref (q 1), .ref (q 2), .ref (q 3), .ref (q 4), .ref (q 5), .ref (q 6)])), ((q 1), .inr (1, [.ref (q 7), .ref (q 8), .int (nI nc), .int (nI no)])), ((q 2), .inr (2, [.ref (q 9), .ref (q 10), .ref (q 11), .ref (q 12), .int (nI nm)])), ((q 3), .inr (3, [.ref (q 1), .ref (q 13), .ref (q 14), .ref (q 15), .int (nI nar)])), ((q 4), .inr (4, [.ref (q 1), .ref (q 2), .ref (q 3), .ref (q 16), .ref (q 17), .int ck])), ((q 5), .inr (5, [.ref (q 18), .ref (q 19), .ref (q 20), .ref (q 21), .long lg, .int (nI nd)])), ((q 6), .inr (6, [.ref (q 22), .int (nI sa), .int (nI nw)])), ((q 7), .inl (cI, 16, .inl pa)), ((q 8), .inl (cI, 64, .inl co)), ((q 9), .inl (cI, 64, .inl ho)), ((q 10), .inl (cI, 64, .inl nn)), ((q 11), .inl (cI, 64, .inl si)), ((q 12), .inl (cI, 64, .inl ty)), ((q 13), .inl (cI, 4, .inl kn)), ((q 14), .inl (cI, 4, .inl so)), ((q 15), .inl (cL, 4, .inr (.inl bi))), ((q 16), .inl (cI, 64, .inl ca)), ((q 17), .inl (cI, 4, .inl lo)), ((q 18), .inl (cI, 64, .inl (upd fo (nd % 64) ob))), ((q 19), .inl (cI, 64, .inl (upd fm (nd % 64) (nI j)))), ((q 20), .inl (cI, 64, .inl (upd fs (nd % 64) (nI N)))), ((q 21), .inl (cL, 256, .inr (.inl (wv_ fv (nd % 64 * 4) (fun i => cv_ kn bi i (nI (ty_N (ty j) N i))) i)))), ((q 22), .inl (cL, 64, .inr (.inl wa)))] H ∧ va_D A [((q 0), .inr (0, [.ref (q 1), .ref (q 2), .ref (q 3), .ref (q 4), .ref (q 5), .ref (q 6)])), ((q 1), .inr (1, [.ref (q 7), .ref (q 8), .int (nI nc), .int (nI no)])), ((q 2), .inr (2, [.ref (q 9), .ref (q 10), .ref (q 11), .ref (q 12), .int (nI nm)])), ((q 3), .inr (3, [.ref (q 1), .ref (q 13), .ref (q 14), .ref (q 15), .int (nI nar)])), ((q 4), .inr (4, [.ref (q 1), .ref (q 2), .ref (q 3), .ref (q 16), .ref (q 17), .int ck])), ((q 5), .inr (5, [.ref (q 18), .ref (q 19), .ref (q 20), .ref (q 21), .long lg, .int (nI nd)])), ((q 6), .inr (6, [.ref (q 22), .int (nI sa), .int (nI nw)])), ((q 7), .inl (cI, 16, .inl pa)), ((q 8), .inl (cI, 64, .inl co)), ((q 9), .inl (cI, 64, .inl ho)), ((q 10), .inl (cI, 64, .inl nn)), ((q 11), .inl (cI, 64, .inl si)), ((q 12), .inl (cI, 64, .inl ty)), ((q 13), .inl (cI, 4, .inl kn)), ((q 14), .inl (cI, 4, .inl so)), ((q 15), .inl (cL, 4, .inr (.inl bi))), ((q 16), .inl (cI, 64, .inl ca)), ((q 17), .inl (cI, 4, .inl lo)), ((q 18), .inl (cI, 64, .inl (upd fo (nd % 64) ob))), ((q 19), .inl (cI, 64, .inl (upd fm (nd % 64) (nI j)))), ((q 20), .inl (cI, 64, .inl (upd fs (nd % 64) (nI N)))), ((q 21), .inl (cL, 256, .inr (.inl (wv_ fv (nd % 64 * 4) (fun i => cv_ kn bi i (nI (ty_N (ty j) N i))) i)))), ((q 22), .inl (cL, 64, .inr (.inl wa)))] ∧ va_S A s.heap H locs ∧ i ≤ N) (μ := fun i => N - i) ?_ 0 ⟨lv_sub hl [3, 2, 1, 0] rfl, by rw [wv_0]; exact hP, by rw [wv_0]; exact hD, hS, Nat.zero_le _⟩
  intro i ls H locs hI ih34
  obtain ⟨hl, hP, hD, hS, hi⟩ := hI
  refine lv_iload hx hb kd_B_writeDown_34 (lv_at hl 3 rfl) ?_
  refine lv_iload_n hx hb kd_B_writeDown_36 rfl (lv_at hl 1 rfl) ?_
  refine lv_icmp_ge (tgt := 72) hx hb kd_B_writeDown_37 (by decide) (fun c_37 => ?_) (fun c_37 => ?_)
  · skip
    have hin : i = N := by rw [nI_leI (by omega) (by omega)] at c_37; omega
    rw [hin] at hP hD
    refine lv_aload_n hx hb kd_B_writeDown_72 rfl (lv_at hl 0 rfl) ?_
    refine va_get (D := D) (ci := 0) (v := .ref (q 5)) (C := "HostBridge") (T := ct_B) (N := 6) hx hb hts cw_B hown hK hP 0 rfl rfl 4 (by decide) (hts _ km_176) (fun _ h9 => h9) rfl kd_B_writeDown_73 ?_
    refine lv_aload_n hx hb kd_B_writeDown_76 rfl (lv_at hl 0 rfl) ?_
    refine va_get (D := D) (ci := 0) (v := .ref (q 6)) (C := "HostBridge") (T := ct_B) (N := 6) hx hb hts cw_B hown hK hP 0 rfl rfl 5 (by decide) (hts _ km_177) (fun _ h9 => h9) rfl kd_B_writeDown_77 ?_
    refine hx_callWl (va_runV (As := []) (rest := [.ref (q 5)]) ⟨hx, hb, hml, hown, hts⟩ (mc_S_next (q 6) (q 22) sa nw wa hs hw _) (cwV 0 hts (goodIn_sub (hx_m5 km_520 km_521 km_522 km_7 km_523) (by decide +kernel)) rfl rfl rfl (by decide +kernel) ⟨Nat.le_of_ble_eq_true rfl, Nat.le_of_ble_eq_true rfl⟩) (pw_V (hC.S hS) hP hD hS hA [6, 22] (by decide) rfl (ci := 6) rfl (q0 := 0) rfl) rfl rfl hl.1 rfl (lv_room (Nat.le_of_ble_eq_true rfl)) kd_B_writeDown_80 ⟨Nat.le_of_ble_eq_true rfl, Nat.le_of_ble_eq_true rfl⟩) hP hD hS hA [6, 22] rfl rfl (fun H locs hP hD hS hF => ?_)
    have hP : va_P D cl_all [((q 0), .inr (0, [.ref (q 1), .ref (q 2), .ref (q 3), .ref (q 4), .ref (q 5), .ref (q 6)])), ((q 1), .inr (1, [.ref (q 7), .ref (q 8), .int (nI nc), .int (nI no)])), ((q 2), .inr (2, [.ref (q 9), .ref (q 10), .ref (q 11), .ref (q 12), .int (nI nm)])), ((q 3), .inr (3, [.ref (q 1), .ref (q 13), .ref (q 14), .ref (q 15), .int (nI nar)])), ((q 4), .inr (4, [.ref (q 1), .ref (q 2), .ref (q 3), .ref (q 16), .ref (q 17), .int ck])), ((q 5), .inr (5, [.ref (q 18), .ref (q 19), .ref (q 20), .ref (q 21), .long lg, .int (nI nd)])), ((q 6), .inr (6, [.ref (q 22), .int (nI (if nw = 0 then sa else (sa + 1) % 64)), .int (nI (nw - 1))])), ((q 7), .inl (cI, 16, .inl pa)), ((q 8), .inl (cI, 64, .inl co)), ((q 9), .inl (cI, 64, .inl ho)), ((q 10), .inl (cI, 64, .inl nn)), ((q 11), .inl (cI, 64, .inl si)), ((q 12), .inl (cI, 64, .inl ty)), ((q 13), .inl (cI, 4, .inl kn)), ((q 14), .inl (cI, 4, .inl so)), ((q 15), .inl (cL, 4, .inr (.inl bi))), ((q 16), .inl (cI, 64, .inl ca)), ((q 17), .inl (cI, 4, .inl lo)), ((q 18), .inl (cI, 64, .inl (upd fo (nd % 64) ob))), ((q 19), .inl (cI, 64, .inl (upd fm (nd % 64) (nI j)))), ((q 20), .inl (cI, 64, .inl (upd fs (nd % 64) (nI N)))), ((q 21), .inl (cL, 256, .inr (.inl (wv_ fv (nd % 64 * 4) (fun i => cv_ kn bi i (nI (ty_N (ty j) N i))) N)))), ((q 22), .inl (cL, 64, .inr (.inl wa)))] H := hP
    have hD : va_D A [((q 0), .inr (0, [.ref (q 1), .ref (q 2), .ref (q 3), .ref (q 4), .ref (q 5), .ref (q 6)])), ((q 1), .inr (1, [.ref (q 7), .ref (q 8), .int (nI nc), .int (nI no)])), ((q 2), .inr (2, [.ref (q 9), .ref (q 10), .ref (q 11), .ref (q 12), .int (nI nm)])), ((q 3), .inr (3, [.ref (q 1), .ref (q 13), .ref (q 14), .ref (q 15), .int (nI nar)])), ((q 4), .inr (4, [.ref (q 1), .ref (q 2), .ref (q 3), .ref (q 16), .ref (q 17), .int ck])), ((q 5), .inr (5, [.ref (q 18), .ref (q 19), .ref (q 20), .ref (q 21), .long lg, .int (nI nd)])), ((q 6), .inr (6, [.ref (q 22), .int (nI (if nw = 0 then sa else (sa + 1) % 64)), .int (nI (nw - 1))])), ((q 7), .inl (cI, 16, .inl pa)), ((q 8), .inl (cI, 64, .inl co)), ((q 9), .inl (cI, 64, .inl ho)), ((q 10), .inl (cI, 64, .inl nn)), ((q 11), .inl (cI, 64, .inl si)), ((q 12), .inl (cI, 64, .inl ty)), ((q 13), .inl (cI, 4, .inl kn)), ((q 14), .inl (cI, 4, .inl so)), ((q 15), .inl (cL, 4, .inr (.inl bi))), ((q 16), .inl (cI, 64, .inl ca)), ((q 17), .inl (cI, 4, .inl lo)), ((q 18), .inl (cI, 64, .inl (upd fo (nd % 64) ob))), ((q 19), .inl (cI, 64, .inl (upd fm (nd % 64) (nI j)))), ((q 20), .inl (cI, 64, .inl (upd fs (nd % 64) (nI N)))), ((q 21), .inl (cL, 256, .inr (.inl (wv_ fv (nd % 64 * 4) (fun i => cv_ kn bi i (nI (ty_N (ty j) N i))) N)))), ((q 22), .inl (cL, 64, .inr (.inl wa)))] := hD
    refine hx_callWv (va_runV (As := [.long (if nw = 0 then 0 else wa sa)]) (rest := []) ⟨hx, hb, hml, hown, hts⟩ (mc_D_close (q 5) (q 18) (q 19) (q 20) (q 21) nd lg (upd fo (nd % 64) ob) (upd fm (nd % 64) (nI j)) (upd fs (nd % 64) (nI N)) fv (if nw = 0 then 0 else wa sa) _) (cwV 1 hts (goodIn_sub (hx_m5 km_524 km_525 km_526 km_6 km_527) (by decide +kernel)) rfl rfl rfl (by decide +kernel) ⟨Nat.le_of_ble_eq_true rfl, Nat.le_of_ble_eq_true rfl⟩) (pw_V (hC.S hS) hP hD hS hA [5] (by decide) rfl (ci := 5) rfl (q0 := 0) rfl) rfl rfl hl.1 rfl (lv_room (Nat.le_of_ble_eq_true rfl)) kd_B_writeDown_83 ⟨Nat.le_of_ble_eq_true rfl, Nat.le_of_ble_eq_true rfl⟩) hP hD hS hA [5] rfl rfl (fun H locs hP hD hS hF => ?_)
    have hP : va_P D cl_all [((q 0), .inr (0, [.ref (q 1), .ref (q 2), .ref (q 3), .ref (q 4), .ref (q 5), .ref (q 6)])), ((q 1), .inr (1, [.ref (q 7), .ref (q 8), .int (nI nc), .int (nI no)])), ((q 2), .inr (2, [.ref (q 9), .ref (q 10), .ref (q 11), .ref (q 12), .int (nI nm)])), ((q 3), .inr (3, [.ref (q 1), .ref (q 13), .ref (q 14), .ref (q 15), .int (nI nar)])), ((q 4), .inr (4, [.ref (q 1), .ref (q 2), .ref (q 3), .ref (q 16), .ref (q 17), .int ck])), ((q 5), .inr (5, [.ref (q 18), .ref (q 19), .ref (q 20), .ref (q 21), .long (if nw = 0 then 0 else wa sa), .int (nI (nd + 1))])), ((q 6), .inr (6, [.ref (q 22), .int (nI (if nw = 0 then sa else (sa + 1) % 64)), .int (nI (nw - 1))])), ((q 7), .inl (cI, 16, .inl pa)), ((q 8), .inl (cI, 64, .inl co)), ((q 9), .inl (cI, 64, .inl ho)), ((q 10), .inl (cI, 64, .inl nn)), ((q 11), .inl (cI, 64, .inl si)), ((q 12), .inl (cI, 64, .inl ty)), ((q 13), .inl (cI, 4, .inl kn)), ((q 14), .inl (cI, 4, .inl so)), ((q 15), .inl (cL, 4, .inr (.inl bi))), ((q 16), .inl (cI, 64, .inl ca)), ((q 17), .inl (cI, 4, .inl lo)), ((q 18), .inl (cI, 64, .inl (upd fo (nd % 64) ob))), ((q 19), .inl (cI, 64, .inl (upd fm (nd % 64) (nI j)))), ((q 20), .inl (cI, 64, .inl (upd fs (nd % 64) (nI N)))), ((q 21), .inl (cL, 256, .inr (.inl (wv_ fv (nd % 64 * 4) (fun i => cv_ kn bi i (nI (ty_N (ty j) N i))) N)))), ((q 22), .inl (cL, 64, .inr (.inl wa)))] H := hP
    have hD : va_D A [((q 0), .inr (0, [.ref (q 1), .ref (q 2), .ref (q 3), .ref (q 4), .ref (q 5), .ref (q 6)])), ((q 1), .inr (1, [.ref (q 7), .ref (q 8), .int (nI nc), .int (nI no)])), ((q 2), .inr (2, [.ref (q 9), .ref (q 10), .ref (q 11), .ref (q 12), .int (nI nm)])), ((q 3), .inr (3, [.ref (q 1), .ref (q 13), .ref (q 14), .ref (q 15), .int (nI nar)])), ((q 4), .inr (4, [.ref (q 1), .ref (q 2), .ref (q 3), .ref (q 16), .ref (q 17), .int ck])), ((q 5), .inr (5, [.ref (q 18), .ref (q 19), .ref (q 20), .ref (q 21), .long (if nw = 0 then 0 else wa sa), .int (nI (nd + 1))])), ((q 6), .inr (6, [.ref (q 22), .int (nI (if nw = 0 then sa else (sa + 1) % 64)), .int (nI (nw - 1))])), ((q 7), .inl (cI, 16, .inl pa)), ((q 8), .inl (cI, 64, .inl co)), ((q 9), .inl (cI, 64, .inl ho)), ((q 10), .inl (cI, 64, .inl nn)), ((q 11), .inl (cI, 64, .inl si)), ((q 12), .inl (cI, 64, .inl ty)), ((q 13), .inl (cI, 4, .inl kn)), ((q 14), .inl (cI, 4, .inl so)), ((q 15), .inl (cL, 4, .inr (.inl bi))), ((q 16), .inl (cI, 64, .inl ca)), ((q 17), .inl (cI, 4, .inl lo)), ((q 18), .inl (cI, 64, .inl (upd fo (nd % 64) ob))), ((q 19), .inl (cI, 64, .inl (upd fm (nd % 64) (nI j)))), ((q 20), .inl (cI, 64, .inl (upd fs (nd % 64) (nI N)))), ((q 21), .inl (cL, 256, .inr (.inl (wv_ fv (nd % 64 * 4) (fun i => cv_ kn bi i (nI (ty_N (ty j) N i))) N)))), ((q 22), .inl (cL, 64, .inr (.inl wa)))] := hD
    exact hx_vretW hx hb hr hlocks (hP.sub [0, 1, 2, 3, 4, 5, 6, 7, 8, 9, 10, 11, 12, 13, 14, 15, 16, 17, 18, 19, 20, 21, 22] rfl) hS kd_B_writeDown_86
  · skip
    have hin : i < N := by rw [nI_leI (by omega) (by omega)] at c_37; omega
    refine lv_aload_n hx hb kd_B_writeDown_40 rfl (lv_at hl 0 rfl) ?_
    refine va_get (D := D) (ci := 0) (v := .ref (q 5)) (C := "HostBridge") (T := ct_B) (N := 6) hx hb hts cw_B hown hK hP 0 rfl rfl 4 (by decide) (hts _ km_176) (fun _ h9 => h9) rfl kd_B_writeDown_41 ?_
    refine lv_iload hx hb kd_B_writeDown_44 (lv_at hl 3 rfl) ?_
    refine lv_aload_n hx hb kd_B_writeDown_46 rfl (lv_at hl 0 rfl) ?_
    refine va_get (D := D) (ci := 0) (v := .ref (q 3)) (C := "HostBridge") (T := ct_B) (N := 6) hx hb hts cw_B hown hK hP 0 rfl rfl 2 (by decide) (hts _ km_174) (fun _ h9 => h9) rfl kd_B_writeDown_47 ?_
    refine lv_iload hx hb kd_B_writeDown_50 (lv_at hl 3 rfl) ?_
    refine lv_iload hx hb kd_B_writeDown_52 (lv_at hl 2 rfl) ?_
    refine lv_iload_n hx hb kd_B_writeDown_54 rfl (lv_at hl 1 rfl) ?_
    refine lv_iload hx hb kd_B_writeDown_55 (lv_at hl 3 rfl) ?_
    refine hx_callRi (va_runS (As := [.int (ty j), .int (nI N), .int (nI i)]) (rest := [.int (nI i), .ref (q 3), .int (nI i), .ref (q 5)]) ⟨hx, hb, hml, hown, hts⟩ (mc_B_typeAt (ty j) N i hin hN4) (va_cwS 3 hts (goodIn_sub (hx_m4 km_502 km_315 km_1 km_316) (by decide +kernel)) rfl rfl rfl (by decide +kernel) ⟨Nat.le_of_ble_eq_true rfl, Nat.le_of_ble_eq_true rfl⟩) (pr_S (hC.S hS) hP [] rfl) rfl rfl hl.1 rfl (lv_room (Nat.le_of_ble_eq_true rfl)) kd_B_writeDown_57 ⟨Nat.le_of_ble_eq_true rfl, Nat.le_of_ble_eq_true rfl⟩) ?_
    refine hx_callRl (va_runV (As := [.int (nI i), .int (nI (ty_N (ty j) N i))]) (rest := [.int (nI i), .ref (q 5)]) ⟨hx, hb, hml, hown, hts⟩ (mc_A_convert (q 3) (q 1) (q 13) (q 14) (q 15) nar kn so bi i (nI (ty_N (ty j) N i)) (by omega)) (cwV 2 hts (goodIn_sub (hx_m5 km_503 km_504 km_505 km_4 km_506) (by decide +kernel)) rfl rfl rfl (by decide +kernel) ⟨Nat.le_of_ble_eq_true rfl, Nat.le_of_ble_eq_true rfl⟩) (pr_V (hC.S hS) hP [3, 13, 14, 15] rfl (ci := 3) rfl (q0 := 0) rfl) rfl rfl hl.1 rfl (lv_room (Nat.le_of_ble_eq_true rfl)) kd_B_writeDown_60 ⟨Nat.le_of_ble_eq_true rfl, Nat.le_of_ble_eq_true rfl⟩) ?_
    refine hx_callWv (va_runV (As := [.int (nI i), .long (cv_ kn bi i (nI (ty_N (ty j) N i)))]) (rest := []) ⟨hx, hb, hml, hown, hts⟩ (mc_D_setValue (q 5) (q 18) (q 19) (q 20) (q 21) nd lg (upd fo (nd % 64) ob) (upd fm (nd % 64) (nI j)) (upd fs (nd % 64) (nI N)) (wv_ fv (nd % 64 * 4) (fun i => cv_ kn bi i (nI (ty_N (ty j) N i))) i) i (cv_ kn bi i (nI (ty_N (ty j) N i))) hnd (by omega) _) (cwV 2 hts (goodIn_sub (hx_m5 km_516 km_517 km_518 km_6 km_519) (by decide +kernel)) rfl rfl rfl (by decide +kernel) ⟨Nat.le_of_ble_eq_true rfl, Nat.le_of_ble_eq_true rfl⟩) (pw_V (hC.S hS) hP hD hS hA [5, 21] (by decide) rfl (ci := 5) rfl (q0 := 0) rfl) rfl rfl hl.1 rfl (lv_room (Nat.le_of_ble_eq_true rfl)) kd_B_writeDown_63 ⟨Nat.le_of_ble_eq_true rfl, Nat.le_of_ble_eq_true rfl⟩) hP hD hS hA [5, 21] rfl rfl (fun H locs hP hD hS hF => ?_)
    have hP : va_P D cl_all [((q 0), .inr (0, [.ref (q 1), .ref (q 2), .ref (q 3), .ref (q 4), .ref (q 5), .ref (q 6)])), ((q 1), .inr (1, [.ref (q 7), .ref (q 8), .int (nI nc), .int (nI no)])), ((q 2), .inr (2, [.ref (q 9), .ref (q 10), .ref (q 11), .ref (q 12), .int (nI nm)])), ((q 3), .inr (3, [.ref (q 1), .ref (q 13), .ref (q 14), .ref (q 15), .int (nI nar)])), ((q 4), .inr (4, [.ref (q 1), .ref (q 2), .ref (q 3), .ref (q 16), .ref (q 17), .int ck])), ((q 5), .inr (5, [.ref (q 18), .ref (q 19), .ref (q 20), .ref (q 21), .long lg, .int (nI nd)])), ((q 6), .inr (6, [.ref (q 22), .int (nI sa), .int (nI nw)])), ((q 7), .inl (cI, 16, .inl pa)), ((q 8), .inl (cI, 64, .inl co)), ((q 9), .inl (cI, 64, .inl ho)), ((q 10), .inl (cI, 64, .inl nn)), ((q 11), .inl (cI, 64, .inl si)), ((q 12), .inl (cI, 64, .inl ty)), ((q 13), .inl (cI, 4, .inl kn)), ((q 14), .inl (cI, 4, .inl so)), ((q 15), .inl (cL, 4, .inr (.inl bi))), ((q 16), .inl (cI, 64, .inl ca)), ((q 17), .inl (cI, 4, .inl lo)), ((q 18), .inl (cI, 64, .inl (upd fo (nd % 64) ob))), ((q 19), .inl (cI, 64, .inl (upd fm (nd % 64) (nI j)))), ((q 20), .inl (cI, 64, .inl (upd fs (nd % 64) (nI N)))), ((q 21), .inl (cL, 256, .inr (.inl (vp_updL (wv_ fv (nd % 64 * 4) (fun i => cv_ kn bi i (nI (ty_N (ty j) N i))) i) (nd % 64 * 4 + i) (cv_ kn bi i (nI (ty_N (ty j) N i))))))), ((q 22), .inl (cL, 64, .inr (.inl wa)))] H := hP
    have hD : va_D A [((q 0), .inr (0, [.ref (q 1), .ref (q 2), .ref (q 3), .ref (q 4), .ref (q 5), .ref (q 6)])), ((q 1), .inr (1, [.ref (q 7), .ref (q 8), .int (nI nc), .int (nI no)])), ((q 2), .inr (2, [.ref (q 9), .ref (q 10), .ref (q 11), .ref (q 12), .int (nI nm)])), ((q 3), .inr (3, [.ref (q 1), .ref (q 13), .ref (q 14), .ref (q 15), .int (nI nar)])), ((q 4), .inr (4, [.ref (q 1), .ref (q 2), .ref (q 3), .ref (q 16), .ref (q 17), .int ck])), ((q 5), .inr (5, [.ref (q 18), .ref (q 19), .ref (q 20), .ref (q 21), .long lg, .int (nI nd)])), ((q 6), .inr (6, [.ref (q 22), .int (nI sa), .int (nI nw)])), ((q 7), .inl (cI, 16, .inl pa)), ((q 8), .inl (cI, 64, .inl co)), ((q 9), .inl (cI, 64, .inl ho)), ((q 10), .inl (cI, 64, .inl nn)), ((q 11), .inl (cI, 64, .inl si)), ((q 12), .inl (cI, 64, .inl ty)), ((q 13), .inl (cI, 4, .inl kn)), ((q 14), .inl (cI, 4, .inl so)), ((q 15), .inl (cL, 4, .inr (.inl bi))), ((q 16), .inl (cI, 64, .inl ca)), ((q 17), .inl (cI, 4, .inl lo)), ((q 18), .inl (cI, 64, .inl (upd fo (nd % 64) ob))), ((q 19), .inl (cI, 64, .inl (upd fm (nd % 64) (nI j)))), ((q 20), .inl (cI, 64, .inl (upd fs (nd % 64) (nI N)))), ((q 21), .inl (cL, 256, .inr (.inl (vp_updL (wv_ fv (nd % 64 * 4) (fun i => cv_ kn bi i (nI (ty_N (ty j) N i))) i) (nd % 64 * 4 + i) (cv_ kn bi i (nI (ty_N (ty j) N i))))))), ((q 22), .inl (cL, 64, .inr (.inl wa)))] := hD
    have hP : va_P D cl_all [((q 0), .inr (0, [.ref (q 1), .ref (q 2), .ref (q 3), .ref (q 4), .ref (q 5), .ref (q 6)])), ((q 1), .inr (1, [.ref (q 7), .ref (q 8), .int (nI nc), .int (nI no)])), ((q 2), .inr (2, [.ref (q 9), .ref (q 10), .ref (q 11), .ref (q 12), .int (nI nm)])), ((q 3), .inr (3, [.ref (q 1), .ref (q 13), .ref (q 14), .ref (q 15), .int (nI nar)])), ((q 4), .inr (4, [.ref (q 1), .ref (q 2), .ref (q 3), .ref (q 16), .ref (q 17), .int ck])), ((q 5), .inr (5, [.ref (q 18), .ref (q 19), .ref (q 20), .ref (q 21), .long lg, .int (nI nd)])), ((q 6), .inr (6, [.ref (q 22), .int (nI sa), .int (nI nw)])), ((q 7), .inl (cI, 16, .inl pa)), ((q 8), .inl (cI, 64, .inl co)), ((q 9), .inl (cI, 64, .inl ho)), ((q 10), .inl (cI, 64, .inl nn)), ((q 11), .inl (cI, 64, .inl si)), ((q 12), .inl (cI, 64, .inl ty)), ((q 13), .inl (cI, 4, .inl kn)), ((q 14), .inl (cI, 4, .inl so)), ((q 15), .inl (cL, 4, .inr (.inl bi))), ((q 16), .inl (cI, 64, .inl ca)), ((q 17), .inl (cI, 4, .inl lo)), ((q 18), .inl (cI, 64, .inl (upd fo (nd % 64) ob))), ((q 19), .inl (cI, 64, .inl (upd fm (nd % 64) (nI j)))), ((q 20), .inl (cI, 64, .inl (upd fs (nd % 64) (nI N)))), ((q 21), .inl (cL, 256, .inr (.inl (wv_ fv (nd % 64 * 4) (fun i => cv_ kn bi i (nI (ty_N (ty j) N i))) (i + 1))))), ((q 22), .inl (cL, 64, .inr (.inl wa)))] H := by rw [← wv_s]; exact hP
    have hD : va_D A [((q 0), .inr (0, [.ref (q 1), .ref (q 2), .ref (q 3), .ref (q 4), .ref (q 5), .ref (q 6)])), ((q 1), .inr (1, [.ref (q 7), .ref (q 8), .int (nI nc), .int (nI no)])), ((q 2), .inr (2, [.ref (q 9), .ref (q 10), .ref (q 11), .ref (q 12), .int (nI nm)])), ((q 3), .inr (3, [.ref (q 1), .ref (q 13), .ref (q 14), .ref (q 15), .int (nI nar)])), ((q 4), .inr (4, [.ref (q 1), .ref (q 2), .ref (q 3), .ref (q 16), .ref (q 17), .int ck])), ((q 5), .inr (5, [.ref (q 18), .ref (q 19), .ref (q 20), .ref (q 21), .long lg, .int (nI nd)])), ((q 6), .inr (6, [.ref (q 22), .int (nI sa), .int (nI nw)])), ((q 7), .inl (cI, 16, .inl pa)), ((q 8), .inl (cI, 64, .inl co)), ((q 9), .inl (cI, 64, .inl ho)), ((q 10), .inl (cI, 64, .inl nn)), ((q 11), .inl (cI, 64, .inl si)), ((q 12), .inl (cI, 64, .inl ty)), ((q 13), .inl (cI, 4, .inl kn)), ((q 14), .inl (cI, 4, .inl so)), ((q 15), .inl (cL, 4, .inr (.inl bi))), ((q 16), .inl (cI, 64, .inl ca)), ((q 17), .inl (cI, 4, .inl lo)), ((q 18), .inl (cI, 64, .inl (upd fo (nd % 64) ob))), ((q 19), .inl (cI, 64, .inl (upd fm (nd % 64) (nI j)))), ((q 20), .inl (cI, 64, .inl (upd fs (nd % 64) (nI N)))), ((q 21), .inl (cL, 256, .inr (.inl (wv_ fv (nd % 64 * 4) (fun i => cv_ kn bi i (nI (ty_N (ty j) N i))) (i + 1))))), ((q 22), .inl (cL, 64, .inr (.inl wa)))] := by rw [← wv_s]; exact hD
    refine lv_iinc (v := nI (i + 1)) (lv' := [(5, .int (nI (i + 1))), (0, .ref (q 0)), (3, .int (nI N)), (4, .int (ty j))]) hx hb kd_B_writeDown_66 hl (k := 3) rfl (nI_1 i) (by decide) rfl (fun ls hl => ?_)
    refine lv_goto (tgt := 34) hx hb kd_B_writeDown_69 (by decide) ?_
    exact ih34 (i + 1) _ _ _ (by omega) ⟨lv_sub hl [1, 2, 3, 0] rfl, hP, hD, hS, by omega⟩
