/-! ROWS ON BITS (from the kit's laws, as they are given for pasting), the number of a double as the reference reads it -/
/-! ===== lN n to 2^64: shifts, and, or, masks, one bit ===== -/
theorem wb_tb (n : Nat) : (lN n).toBitVec = BitVec.ofNat 64 n := rfl
theorem wb_inj {a b : Int64} (h : a.toBitVec = b.toBitVec) : a = b := Int64.toBitVec_inj.mp h
theorem wb_tn {n : Nat} (h : n < 2 ^ 64) : (lN n).toBitVec.toNat = n := by rw [wb_tb, BitVec.toNat_ofNat, Nat.mod_eq_of_lt h]
theorem wb_of (x : Int64) : ∃ n, n < 2 ^ 64 ∧ x = lN n := ⟨x.toBitVec.toNat, x.toBitVec.isLt, wb_inj (by rw [wb_tb]; simp)⟩
theorem wb_of32 (x : Int32) : ∃ n, n < 2 ^ 32 ∧ x = nI n := ⟨x.toBitVec.toNat, x.toBitVec.isLt, Int32.toBitVec_inj.mp (by show _ = BitVec.ofNat 32 _; simp)⟩
theorem wb_c : ∀ k, k < 64 → ((nI k).toInt64 &&& 63) = lN k := by decide +kernel
theorem wb_cu : ∀ k, k < 64 → ((nI k).toInt64.toUInt64 &&& Int64.toUInt64 63) = UInt64.ofNat k := by decide +kernel
theorem wb_sm : ∀ k, k < 64 → (BitVec.ofNat 64 k).smod 64 = BitVec.ofNat 64 k := by decide +kernel
theorem wb_pw {a b : Nat} (h : a ≤ b) : 2 ^ b = 2 ^ a * 2 ^ (b - a) := by rw [← Nat.pow_add]; congr 1; omega
theorem wb_lt2 {a b : Nat} (h : a < b) : 2 ^ a < 2 ^ b := Nat.pow_lt_pow_right (by decide) h
theorem wb_mod (n : Nat) : lN n = lN (n % 2 ^ 64) := wb_inj (by rw [wb_tb, wb_tb]; apply BitVec.eq_of_toNat_eq; rw [BitVec.toNat_ofNat, BitVec.toNat_ofNat, Nat.mod_mod])
theorem wb_shr {n k : Nat} (hn : n < 2 ^ 64) (hk : k < 64) : ((lN n).toUInt64 >>> ((nI k).toInt64.toUInt64 &&& Int64.toUInt64 63)).toInt64 = lN (n / 2 ^ k) := by
  rw [wb_cu k hk]
  apply wb_inj
  apply BitVec.eq_of_toNat_eq
  show ((lN n).toUInt64 >>> UInt64.ofNat k).toNat = (BitVec.ofNat 64 _).toNat
  have h1 : (UInt64.ofNat k).toNat = k := by
    show (BitVec.ofNat 64 k).toNat = k
    rw [BitVec.toNat_ofNat, Nat.mod_eq_of_lt (by omega)]
  have h2 : (lN n).toUInt64.toNat = n := wb_tn hn
  rw [UInt64.toNat_shiftRight, h1, h2, Nat.mod_eq_of_lt hk, Nat.shiftRight_eq_div_pow, BitVec.toNat_ofNat, Nat.mod_eq_of_lt (Nat.lt_of_le_of_lt (Nat.div_le_self _ _) hn)]
theorem wb_shl (n : Nat) {k : Nat} (hk : k < 64) : lN n <<< ((nI k).toInt64 &&& 63) = lN (n * 2 ^ k) := by
  rw [wb_c k hk]
  apply wb_inj
  rw [Int64.toBitVec_shiftLeft, wb_tb, wb_tb, wb_tb, wb_sm k hk]
  apply BitVec.eq_of_toNat_eq
  rw [BitVec.shiftLeft_eq', BitVec.toNat_shiftLeft, BitVec.toNat_ofNat, BitVec.toNat_ofNat, BitVec.toNat_ofNat, Nat.mod_eq_of_lt (show k < 2 ^ 64 by omega), Nat.shiftLeft_eq, Nat.mul_mod, Nat.mod_mod, ← Nat.mul_mod]
theorem wb_and {a b : Nat} (ha : a < 2 ^ 64) (hb : b < 2 ^ 64) : lN a &&& lN b = lN (a &&& b) := by
  apply wb_inj
  rw [Int64.toBitVec_and, wb_tb, wb_tb, wb_tb]
  apply BitVec.eq_of_toNat_eq
  rw [BitVec.toNat_and, BitVec.toNat_ofNat, BitVec.toNat_ofNat, BitVec.toNat_ofNat, Nat.mod_eq_of_lt ha, Nat.mod_eq_of_lt hb, Nat.mod_eq_of_lt (Nat.and_lt_two_pow _ hb)]
theorem wb_or {a b : Nat} (ha : a < 2 ^ 64) (hb : b < 2 ^ 64) : lN a ||| lN b = lN (a ||| b) := by
  apply wb_inj
  rw [Int64.toBitVec_or, wb_tb, wb_tb, wb_tb]
  apply BitVec.eq_of_toNat_eq
  rw [BitVec.toNat_or, BitVec.toNat_ofNat, BitVec.toNat_ofNat, BitVec.toNat_ofNat, Nat.mod_eq_of_lt ha, Nat.mod_eq_of_lt hb, Nat.mod_eq_of_lt (Nat.or_lt_two_pow ha hb)]
theorem wb_mask {n k : Nat} (hn : n < 2 ^ 64) (hk : k < 64) : lN n &&& lN (2 ^ k - 1) = lN (n % 2 ^ k) := by
  rw [wb_and hn (by have := wb_lt2 hk; omega), Nat.and_two_pow_sub_one_eq_mod]
theorem wb_a1 {n : Nat} (hn : n < 2 ^ 64) : lN n &&& 1 = lN (n % 2) := wb_mask (k := 1) hn (by decide)
theorem wb_bit {n k : Nat} (hn : n < 2 ^ 64) (hk : k < 64) : ((lN n).toUInt64 >>> ((nI k).toInt64.toUInt64 &&& Int64.toUInt64 63)).toInt64 &&& 1 = lN (n / 2 ^ k % 2) := by
  rw [wb_shr hn hk, wb_a1 (Nat.lt_of_le_of_lt (Nat.div_le_self _ _) hn)]
theorem wb_xor {q k : Nat} (hk : k < 63) (h : 2 ^ k ≤ q) (h2 : q < 2 ^ (k + 1)) : lN q ^^^ lN (2 ^ k) = lN (q - 2 ^ k) := by
  obtain ⟨r, rfl⟩ : ∃ r, q = 2 ^ k + r := ⟨q - 2 ^ k, by omega⟩
  have hr : r < 2 ^ k := by rw [Nat.pow_succ] at h2; omega
  have hx : (2 ^ k + r) ^^^ 2 ^ k = r := by
    apply Nat.eq_of_testBit_eq
    intro i
    rw [Nat.testBit_xor, Nat.testBit_two_pow]
    rcases Nat.lt_trichotomy i k with h | h | h
    · rw [Nat.testBit_two_pow_add_gt h]
      simp [show ¬ k = i by omega]
    · subst h
      rw [Nat.testBit_two_pow_add_eq]
      simp
    · have a1 : 2 ^ (k + 1) ≤ 2 ^ i := Nat.pow_le_pow_right (by decide) h
      rw [Nat.testBit_lt_two_pow (show 2 ^ k + r < 2 ^ i by omega), Nat.testBit_lt_two_pow (show r < 2 ^ i by omega)]
      simp [show ¬ k = i by omega]
  have b1 := wb_lt2 (show k + 1 < 64 by omega)
  have b2 := wb_lt2 (show k < 64 by omega)
  apply wb_inj
  rw [Int64.toBitVec_xor, wb_tb, wb_tb, wb_tb]
  apply BitVec.eq_of_toNat_eq
  rw [BitVec.toNat_xor, BitVec.toNat_ofNat, BitVec.toNat_ofNat, BitVec.toNat_ofNat, Nat.mod_eq_of_lt (by omega : 2 ^ k + r < 2 ^ 64), Nat.mod_eq_of_lt b2, hx, Nat.add_sub_cancel_left, Nat.mod_eq_of_lt (by omega)]
/-! ===== lN: masks, 'or' of parts that don't overlap is a sum ===== -/
theorem u_tn {n : Nat} (h : n < 2 ^ 64) : (UInt64.ofNat n).toNat = n := Nat.mod_eq_of_lt h
theorem g_and {a b c : Nat} (ha : a < 2 ^ 64) (hb : b < 2 ^ 64) (hc : a &&& b = c) : lN a &&& lN b = lN c := by
  subst hc
  have h : UInt64.ofNat a &&& UInt64.ofNat b = UInt64.ofNat (a &&& b) := UInt64.toNat_inj.mp (by rw [UInt64.toNat_and, u_tn ha, u_tn hb, u_tn (Nat.and_lt_two_pow a hb)])
  have h2 := congrArg UInt64.toInt64 h
  exact h2
theorem g_and1 {a : Nat} (ha : a < 2 ^ 64) : lN a &&& 1 = lN (a % 2) := g_and (b := 1) ha (by decide) (Nat.and_two_pow_sub_one_eq_mod a 1)
theorem g_mask {a s p : Nat} (hp : 2 ^ s = p) (hs : s < 64) (ha : a < 2 ^ 64) : lN a &&& lN (p - 1) = lN (a % p) := by
  subst hp
  have := Nat.pow_lt_pow_right (show 1 < 2 by decide) hs
  exact g_and ha (by omega) (Nat.and_two_pow_sub_one_eq_mod a s)
theorem g_or {k p a b : Nat} (hp : 2 ^ k = p) (ha : a < p) (h : b * p + a < 2 ^ 64) : lN (b * p) ||| lN a = lN (b * p + a) := by
  subst hp
  have h1 : b * 2 ^ k ||| a = b * 2 ^ k + a := by rw [← Nat.shiftLeft_eq, Nat.shiftLeft_add_eq_or_of_lt ha]
  have h3 : UInt64.ofNat (b * 2 ^ k) ||| UInt64.ofNat a = UInt64.ofNat (b * 2 ^ k + a) := UInt64.toNat_inj.mp (by rw [UInt64.toNat_or, u_tn (by omega), u_tn (by omega), u_tn h, h1])
  have h2 := congrArg UInt64.toInt64 h3
  exact h2
theorem g_or' {k p a b : Nat} (hp : 2 ^ k = p) (ha : a < p) (h : a + b * p < 2 ^ 64) : lN a ||| lN (b * p) = lN (a + b * p) := by
  rw [Int64.or_comm, g_or hp ha (by omega), Nat.add_comm]
theorem g_ushr {a k p : Nat} {y : UInt64} (hy : y = UInt64.ofNat k) (hk : k < 64) (hp : 2 ^ k = p) (ha : a < 2 ^ 64) : ((lN a).toUInt64 >>> y).toInt64 = lN (a / p) := by
  subst hy hp
  have h : UInt64.ofNat a >>> UInt64.ofNat k = UInt64.ofNat (a / 2 ^ k) := UInt64.toNat_inj.mp (by rw [UInt64.toNat_shiftRight, u_tn ha, u_tn (by omega), u_tn (Nat.lt_of_le_of_lt (Nat.div_le_self _ _) ha), Nat.mod_eq_of_lt hk, Nat.shiftRight_eq_div_pow])
  have h2 := congrArg UInt64.toInt64 h
  exact h2
theorem g_shl {a k p : Nat} {y : Int64} (hy : y.toBitVec.smod 64 = BitVec.ofNat 64 k) (hk : k < 64) (hp : 2 ^ k = p) (ha : a < 2 ^ 64) : lN a <<< y = lN (a * p) := by
  subst hp
  apply Int64.toBitVec_inj.mp
  rw [Int64.toBitVec_shiftLeft, hy]
  apply BitVec.eq_of_toNat_eq
  have hb : (lN a).toBitVec.toNat = a := Nat.mod_eq_of_lt ha
  have hk' : (BitVec.ofNat 64 k).toNat = k := Nat.mod_eq_of_lt (by omega)
  have h : ((lN a).toBitVec <<< BitVec.ofNat 64 k).toNat = (a * 2 ^ k) % 2 ^ 64 := by simp only [BitVec.shiftLeft_eq', BitVec.toNat_shiftLeft, hb, hk', Nat.shiftLeft_eq]
  exact h
/-! loops over truths -/
/-- P holds of all below n -/
def al_ (P : Nat → Bool) (n : Nat) : Bool := decide (∀ i, i < n → P i = true)
theorem al_0 (P : Nat → Bool) : al_ P 0 = true := decide_eq_true (fun i h => absurd h (Nat.not_lt_zero i))
theorem al_iff {P : Nat → Bool} {n : Nat} : al_ P n = true ↔ ∀ i, i < n → P i = true := by rw [al_, decide_eq_true_iff]
theorem al_s (P : Nat → Bool) (n : Nat) : al_ P (n + 1) = (al_ P n && P n) := by
  apply Bool.eq_iff_iff.mpr
  rw [Bool.and_eq_true, al_iff, al_iff]
  exact ⟨fun h => ⟨fun i hi => h i (by omega), h n (by omega)⟩, fun h i hi => (Nat.lt_succ_iff_lt_or_eq.mp hi).elim (h.1 i) (fun e => by rw [e]; exact h.2)⟩
theorem al_no {P : Nat → Bool} {i n : Nat} (hi : i ≤ n) (h : al_ P i = false) : al_ P n = false := by
  cases h9 : al_ P n with
  | false => rfl
  | true =>
    have h8 : al_ P i = true := al_iff.mpr (fun z hz => al_iff.mp h9 z (by omega))
    rw [h8] at h; cases h
/-- P holds of one below n -/
def an_ (P : Nat → Bool) (n : Nat) : Bool := decide (∃ i, i < n ∧ P i = true)
theorem an_iff {P : Nat → Bool} {n : Nat} : an_ P n = true ↔ ∃ i, i < n ∧ P i = true := by rw [an_, decide_eq_true_iff]
theorem an_0 (P : Nat → Bool) : an_ P 0 = false := decide_eq_false (fun ⟨i, h, _⟩ => absurd h (Nat.not_lt_zero i))
theorem an_s (P : Nat → Bool) (n : Nat) : an_ P (n + 1) = (an_ P n || P n) := by
  apply Bool.eq_iff_iff.mpr
  rw [Bool.or_eq_true, an_iff, an_iff]
  constructor
  · rintro ⟨i, h, h2⟩
    rcases Nat.lt_succ_iff_lt_or_eq.mp h with h3 | h3
    · exact Or.inl ⟨i, h3, h2⟩
    · subst h3; exact Or.inr h2
  · rintro (⟨i, h, h2⟩ | h)
    · exact ⟨i, by omega, h2⟩
    · exact ⟨n, by omega, h⟩
/-- the last below n of which P holds, or -1 -/
def la_ (P : Nat → Bool) : Nat → Int32
  | 0 => -1
  | m + 1 => if P m = true then nI m else la_ P m
/-- how many below n -/
def cn_ (P : Nat → Bool) : Nat → Nat
  | 0 => 0
  | m + 1 => cn_ P m + if P m = true then 1 else 0
theorem cn_le (P : Nat → Bool) : ∀ n, cn_ P n ≤ n
  | 0 => Nat.le_refl _
  | n + 1 => by
    have := cn_le P n
    simp only [cn_]
    split <;> omega
/-- a row with some of its places put anew -/
def wi_ (f : Nat → Int32) (base : Nat) (g : Nat → Int32) (i : Nat) : Nat → Int32 := fun z => if base ≤ z ∧ z < base + i then g (z - base) else f z
theorem wi_0 (f : Nat → Int32) (base : Nat) (g : Nat → Int32) : wi_ f base g 0 = f := by
  funext z
  simp only [wi_]
  rw [if_neg (by omega)]
theorem wi_s (f : Nat → Int32) (base : Nat) (g : Nat → Int32) (i : Nat) : upd (wi_ f base g i) (base + i) (g i) = wi_ f base g (i + 1) := by
  funext z
  simp only [upd, wi_]
  by_cases h : z = base + i
  · subst h
    rw [if_pos rfl, if_pos (by omega), Nat.add_sub_cancel_left]
  · rw [if_neg h]
    by_cases h2 : base ≤ z ∧ z < base + i
    · rw [if_pos h2, if_pos (by omega)]
    · rw [if_neg h2, if_neg (by omega)]
theorem ds_m1 (pa : Nat → Int32) (c : Int32) (f n : Nat) : ds_ pa c f (-1) n = -1 := by cases f <;> rfl
/-- halved k times, when no digit is lost -/
def wd_ : Nat → Nat → Option Nat
  | 0, m => some m
  | k + 1, m => if m % 2 = 0 then wd_ k (m / 2) else none
/-- doubled k times, up to 2^53 -/
def wu_ : Nat → Nat → Option Nat
  | 0, m => some m
  | k + 1, m => if 2 * m ≤ 9007199254740992 then wu_ k (2 * m) else none
/-- the size of a double's whole number -/
def wz_ (n : Nat) : Option Nat :=
  if n / 4503599627370496 % 2048 = 0 then (if n % 4503599627370496 = 0 then some 0 else none)
  else (wd_ (1075 - n / 4503599627370496 % 2048) (n % 4503599627370496 + 4503599627370496)).bind (wu_ (n / 4503599627370496 % 2048 - 1075))
def wq_ (n : Nat) : Int64 := match wz_ n with
  | none => 4611686018427387904
  | some m => if 0 ≤ lg_cmp (lN n) 0 then lN m else -(lN m)
def wo_ (b : Int64) : Int64 := wq_ b.toBitVec.toNat
theorem wo_n {n : Nat} (h : n < 2 ^ 64) : wo_ (lN n) = wq_ n := by rw [wo_, wb_tn h]
theorem wb_exp {n : Nat} (h : n < 2 ^ 64) : (((lN n).toUInt64 >>> ((52 : Int32).toInt64.toUInt64 &&& Int64.toUInt64 63)).toInt64 &&& 2047).toInt32 = nI (n / 4503599627370496 % 2048) := by
  have h1 : ((lN n).toUInt64 >>> ((52 : Int32).toInt64.toUInt64 &&& Int64.toUInt64 63)).toInt64 = lN (n / 4503599627370496) := wb_shr (k := 52) h (by decide)
  have h2 : lN (n / 4503599627370496) &&& 2047 = lN (n / 4503599627370496 % 2048) := wb_mask (k := 11) (by omega) (by decide)
  rw [h1, h2, lN_i]
theorem wb_frac {n : Nat} (h : n < 2 ^ 64) : lN n &&& 4503599627370495 = lN (n % 4503599627370496) := wb_mask (k := 52) h (by decide)
theorem lc_ne {a : Nat} (ha : a < 2 ^ 63) : lg_cmp (lN a) 0 = 0 ↔ a = 0 := by rw [lg_cmp_eq]; exact pk_lEQ (b := 0) ha (by decide)

/-! THE REFERENCE: numbers, weights, lines, what fits, what is hidden, which is best -/
set_option maxHeartbeats 4000000 in
set_option maxRecDepth 100000 in
theorem mr_wholeOf1 {l : Launch} {D : va_G} {cI cL cZ : ClassId} {tb : Nat} (n : Nat) (hn : n < 2 ^ 64) : Met l ky_R_wholeOf kw_R_wholeOf { frames := 0, cells := 0, slots := 0, locals := 0 } (pr_P D cI cL cZ tb [] [.long (lN n)]) (hx_QR (some (.long (wq_ n)))) 0 0 (fun _ => False) := by
  refine Met.ofW (cc := kc_R_wholeOf) (maxL := 7) (ret := (some .long)) (by decide) rfl ?_
  intro p e s m args below meth c s₁ B hml hv
  obtain ⟨rfl, hC, hP⟩ := hv
  have hx := B.exec
  have hb := B.bytes
  have hr := B.returns
  have hlocks := B.notSynchronized
  have hown : s.vm.findClass "HostBridgeModel" = some m.cls := findClass_of_methodNamed B.named
  have hS : va_S (fun _ => False) s.heap s.heap [] := va_S.rf
  have hK := hC.K
  have hts := hC.ts [.long (lN n)].toArray
  have hl := lv_entry ([.long (lN n)]) (n := 7) (Nat.le_of_ble_eq_true rfl)
  rw [lg_entry_eq]
  generalize (lg_sl ([.long (lN n)]) ++ List.replicate (7 - (lg_sl ([.long (lN n)])).length) Slot.unset).toArray = ls at hl ⊢
  have hl : lv_has ls 7 [(0, .long (lN n))] := hl
  obtain ⟨E, hE⟩ : ∃ E, n / 4503599627370496 % 2048 = E := ⟨_, rfl⟩
  obtain ⟨F, hF⟩ : ∃ F, n % 4503599627370496 = F := ⟨_, rfl⟩
  have hE2 : E < 2048 := by omega
  have hF2 : F < 4503599627370496 := by omega
  refine lv_ldc2 (v := 9007199254740992) hx hb hown (hts _ km_741) kd_R_wholeOf_0 ?_
  refine lv_lstore_n (lv' := [(2, .long 9007199254740992), (0, .long (lN n))]) hx hb kd_R_wholeOf_3 rfl hl (by decide) rfl (fun ls hl => ?_)
  refine lv_lload_n hx hb kd_R_wholeOf_4 rfl (lv_at hl 1 rfl) ?_
  refine lv_bipush (v := 52) hx hb kd_R_wholeOf_5 (by decide) ?_
  refine lv_lushr hx hb kd_R_wholeOf_7 rfl ?_
  refine lv_ldc2 (v := 2047) hx hb hown (hts _ km_742) kd_R_wholeOf_8 ?_
  refine lv_land hx hb kd_R_wholeOf_11 ?_
  refine lv_l2i hx hb kd_R_wholeOf_12 rfl ?_
  refine hx_topi (y := nI E) (by rw [wb_exp hn, hE]) ?_
  refine lv_istore (lv' := [(4, .int (nI E)), (2, .long 9007199254740992), (0, .long (lN n))]) hx hb kd_R_wholeOf_13 hl (by decide) rfl (fun ls hl => ?_)
  refine lv_lload_n hx hb kd_R_wholeOf_15 rfl (lv_at hl 2 rfl) ?_
  refine lv_ldc2 (v := 4503599627370495) hx hb hown (hts _ km_743) kd_R_wholeOf_16 ?_
  refine lv_land hx hb kd_R_wholeOf_19 ?_
  refine hx_topl (y := lN F) (by rw [wb_frac hn, hF]) ?_
  refine lv_lstore (lv' := [(5, .long (lN F)), (4, .int (nI E)), (2, .long 9007199254740992), (0, .long (lN n))]) hx hb kd_R_wholeOf_20 hl (by decide) rfl (fun ls hl => ?_)
  refine lv_iload hx hb kd_R_wholeOf_22 (lv_at hl 1 rfl) ?_
  refine lv_if_ne (tgt := 42) hx hb kd_R_wholeOf_24 (by decide) (fun c_24 => ?_) (fun c_24 => ?_)
  · skip
    have hE0 : ¬ E = 0 := fun h9 => c_24 (by rw [h9]; rfl)
    refine lv_lload hx hb kd_R_wholeOf_42 (lv_at hl 0 rfl) ?_
    refine lv_ldc2 (v := 4503599627370496) hx hb hown (hts _ km_745) kd_R_wholeOf_44 ?_
    refine lv_ladd hx hb kd_R_wholeOf_47 ?_
    refine hx_topl (y := lN (F + 4503599627370496)) (lN_add _ _) ?_
    refine lv_lstore (lv' := [(5, .long (lN (F + 4503599627370496))), (4, .int (nI E)), (2, .long 9007199254740992), (0, .long (lN n))]) hx hb kd_R_wholeOf_48 hl (by decide) rfl (fun ls hl => ?_)
    refine hx_loopR (σ := Nat × Nat) (I := fun x ls => lv_has ls 7 [(0, .long (lN n)), (2, .long 9007199254740992), (4, .int (nI x.1)), (5, .long (lN x.2))] ∧ x.1 < 2048 ∧ x.2 < 18014398509481984 ∧ (wd_ (1075 - x.1) x.2).bind (wu_ (x.1 - 1075)) = wz_ n) (μ := fun x => 1075 - x.1) ?_ (E, F + 4503599627370496) ⟨lv_sub hl [3, 2, 1, 0] rfl, hE2, by dsimp only; omega, by dsimp only; rw [wz_, hE, hF, if_neg hE0]⟩
    intro x ls hI ih50
    obtain ⟨e9, M⟩ := x
    obtain ⟨hl, he9, hM, hw⟩ := hI
    dsimp only at hl he9 hM hw ih50
    refine lv_iload hx hb kd_R_wholeOf_50 (lv_at hl 2 rfl) ?_
    refine lv_sipush (v := 1075) hx hb kd_R_wholeOf_52 (by decide) ?_
    refine lv_icmp_ge (tgt := 87) hx hb kd_R_wholeOf_55 (by decide) (fun c_55 => ?_) (fun c_55 => ?_)
    · skip
      have hge : 1075 ≤ e9 := by
        have h9 : nI 1075 ≤ nI e9 := c_55
        rw [nI_leI (by decide) (by omega)] at h9; omega
      refine hx_loopR (σ := Nat × Nat) (I := fun x ls => lv_has ls 7 [(0, .long (lN n)), (2, .long 9007199254740992), (4, .int (nI x.1)), (5, .long (lN x.2))] ∧ 1075 ≤ x.1 ∧ x.1 < 2048 ∧ x.2 < 18014398509481984 ∧ wu_ (x.1 - 1075) x.2 = wz_ n) (μ := fun x => x.1 - 1075) ?_ (e9, M) ⟨lv_sub hl [0, 1, 2, 3] rfl, hge, he9, hM, by rw [← hw, show 1075 - e9 = 0 by omega]; rfl⟩
      intro x ls hI ih87
      obtain ⟨e8, K⟩ := x
      obtain ⟨hl, hg8, he8, hK8, hw8⟩ := hI
      dsimp only at hl hg8 he8 hK8 hw8 ih87
      refine lv_iload hx hb kd_R_wholeOf_87 (lv_at hl 2 rfl) ?_
      refine lv_sipush (v := 1075) hx hb kd_R_wholeOf_89 (by decide) ?_
      refine lv_icmp_le (tgt := 120) hx hb kd_R_wholeOf_92 (by decide) (fun c_92 => ?_) (fun c_92 => ?_)
      · skip
        have heq : e8 = 1075 := by
          have h9 : nI e8 ≤ nI 1075 := c_92
          rw [nI_leI (by omega) (by decide)] at h9; omega
        refine lv_lload_n hx hb kd_R_wholeOf_120 rfl (lv_at hl 0 rfl) ?_
        refine lv_lconst (v := 0) hx hb kd_R_wholeOf_121 (by decide) ?_
        refine W.lcmp hx hb kd_R_wholeOf_122 ?_
        refine lv_if_ge (tgt := 132) hx hb kd_R_wholeOf_123 (by decide) (fun c_123 => ?_) (fun c_123 => ?_)
        · skip
          refine lv_lload hx hb kd_R_wholeOf_132 (lv_at hl 3 rfl) ?_
          exact hx_lretR hx hb hr hlocks (by rw [wq_, ← hw8, heq]; simp only [Nat.sub_self, wu_]; rw [if_pos c_123]) kd_R_wholeOf_134
        · skip
          refine lv_lload hx hb kd_R_wholeOf_126 (lv_at hl 3 rfl) ?_
          refine lv_lneg hx hb kd_R_wholeOf_128 ?_
          refine lv_goto (tgt := 134) hx hb kd_R_wholeOf_129 (by decide) ?_
          exact hx_lretR hx hb hr hlocks (by rw [wq_, ← hw8, heq]; simp only [Nat.sub_self, wu_]; rw [if_neg c_123]) kd_R_wholeOf_134
      · skip
        have hgt : 1075 < e8 := by
          have h9 : ¬ nI e8 ≤ nI 1075 := c_92
          rw [nI_leI (by omega) (by decide)] at h9; omega
        refine lv_ldc2 (v := 2) hx hb hown (hts _ km_746) kd_R_wholeOf_95 ?_
        refine lv_lload hx hb kd_R_wholeOf_98 (lv_at hl 3 rfl) ?_
        refine lv_lmul hx hb kd_R_wholeOf_100 ?_
        refine hx_topl (y := lN (2 * K)) (lN_mul 2 K) ?_
        refine lv_lstore (lv' := [(5, .long (lN (2 * K))), (0, .long (lN n)), (2, .long 9007199254740992), (4, .int (nI e8))]) hx hb kd_R_wholeOf_101 hl (by decide) rfl (fun ls hl => ?_)
        refine lv_lload hx hb kd_R_wholeOf_103 (lv_at hl 0 rfl) ?_
        refine lv_lload_n hx hb kd_R_wholeOf_105 rfl (lv_at hl 2 rfl) ?_
        refine W.lcmp hx hb kd_R_wholeOf_106 ?_
        refine lv_if_le (tgt := 114) hx hb kd_R_wholeOf_107 (by decide) (fun c_107 => ?_) (fun c_107 => ?_)
        · skip
          have hle : 2 * K ≤ 9007199254740992 := (pk_lLE (b := 9007199254740992) (by omega) (by decide)).mp ((lg_cmp_le _ _).mp c_107)
          refine lv_iinc (v := nI (e8 - 1)) (lv' := [(4, .int (nI (e8 - 1))), (5, .long (lN (2 * K))), (0, .long (lN n)), (2, .long 9007199254740992)]) hx hb kd_R_wholeOf_114 hl (k := 3) rfl (by rw [show e8 = (e8 - 1) + 1 by omega]; exact pk_m1 _) (by decide) rfl (fun ls hl => ?_)
          refine lv_goto (tgt := 87) hx hb kd_R_wholeOf_117 (by decide) ?_
          exact ih87 (e8 - 1, 2 * K) _ (by dsimp only; omega) ⟨lv_sub hl [2, 3, 0, 1] rfl, by dsimp only; omega, by dsimp only; omega, by dsimp only; omega, by dsimp only; rw [← hw8, show e8 - 1075 = (e8 - 1 - 1075) + 1 by omega]; simp only [wu_]; rw [if_pos hle]⟩
        · skip
          have hle : ¬ 2 * K ≤ 9007199254740992 := fun h9 => c_107 ((lg_cmp_le _ _).mpr ((pk_lLE (b := 9007199254740992) (by omega) (by decide)).mpr h9))
          refine lv_ldc2 (v := 4611686018427387904) hx hb hown (hts _ km_744) kd_R_wholeOf_110 ?_
          exact hx_lretR hx hb hr hlocks (by rw [wq_, ← hw8, show e8 - 1075 = (e8 - 1 - 1075) + 1 by omega]; simp only [wu_]; rw [if_neg hle]) kd_R_wholeOf_113
    · skip
      have hlt : e9 < 1075 := by
        have h9 : ¬ nI 1075 ≤ nI e9 := c_55
        rw [nI_leI (by decide) (by omega)] at h9; omega
      refine lv_lload hx hb kd_R_wholeOf_58 (lv_at hl 3 rfl) ?_
      refine lv_ldc2 (v := 2) hx hb hown (hts _ km_746) kd_R_wholeOf_60 ?_
      refine lv_lrem hx hb kd_R_wholeOf_63 (by decide) ?_
      refine hx_topl (y := lN (M % 2)) (pk_lRem (b := 2) (by omega) (by decide) (by decide)) ?_
      refine lv_lconst (v := 0) hx hb kd_R_wholeOf_64 (by decide) ?_
      refine W.lcmp hx hb kd_R_wholeOf_65 ?_
      refine lv_if_eq (tgt := 73) hx hb kd_R_wholeOf_66 (by decide) (fun c_66 => ?_) (fun c_66 => ?_)
      · skip
        have hev : M % 2 = 0 := (lc_ne (by omega)).mp c_66
        refine lv_lload hx hb kd_R_wholeOf_73 (lv_at hl 3 rfl) ?_
        refine lv_ldc2 (v := 2) hx hb hown (hts _ km_746) kd_R_wholeOf_75 ?_
        refine lv_ldiv hx hb kd_R_wholeOf_78 (by decide) ?_
        refine hx_topl (y := lN (M / 2)) (pk_lDiv (b := 2) (by omega) (by decide) (by decide)) ?_
        refine lv_lstore (lv' := [(5, .long (lN (M / 2))), (0, .long (lN n)), (2, .long 9007199254740992), (4, .int (nI e9))]) hx hb kd_R_wholeOf_79 hl (by decide) rfl (fun ls hl => ?_)
        refine lv_iinc (v := nI (e9 + 1)) (lv' := [(4, .int (nI (e9 + 1))), (5, .long (lN (M / 2))), (0, .long (lN n)), (2, .long 9007199254740992)]) hx hb kd_R_wholeOf_81 hl (k := 3) rfl (nI_1 e9) (by decide) rfl (fun ls hl => ?_)
        refine lv_goto (tgt := 50) hx hb kd_R_wholeOf_84 (by decide) ?_
        exact ih50 (e9 + 1, M / 2) _ (by dsimp only; omega) ⟨lv_sub hl [2, 3, 0, 1] rfl, by dsimp only; omega, by dsimp only; omega, by dsimp only; rw [← hw, show 1075 - e9 = (1075 - (e9 + 1)) + 1 by omega, show e9 + 1 - 1075 = e9 - 1075 by omega]; simp only [wd_]; rw [if_pos hev]⟩
      · skip
        have hod : ¬ M % 2 = 0 := fun h9 => c_66 ((lc_ne (by omega)).mpr h9)
        refine lv_ldc2 (v := 4611686018427387904) hx hb hown (hts _ km_744) kd_R_wholeOf_69 ?_
        exact hx_lretR hx hb hr hlocks (by rw [wq_, ← hw, show 1075 - e9 = (1075 - (e9 + 1)) + 1 by omega]; simp only [wd_]; rw [if_neg hod]; rfl) kd_R_wholeOf_72
  · skip
    have hE0 : E = 0 := (nI_eq (by omega) (by decide)).mp c_24
    refine lv_lload hx hb kd_R_wholeOf_27 (lv_at hl 0 rfl) ?_
    refine lv_lconst (v := 0) hx hb kd_R_wholeOf_29 (by decide) ?_
    refine W.lcmp hx hb kd_R_wholeOf_30 ?_
    refine lv_if_ne (tgt := 38) hx hb kd_R_wholeOf_31 (by decide) (fun c_31 => ?_) (fun c_31 => ?_)
    · skip
      have hF0 : ¬ F = 0 := fun h9 => c_31 ((lc_ne (by omega)).mpr h9)
      refine lv_ldc2 (v := 4611686018427387904) hx hb hown (hts _ km_744) kd_R_wholeOf_38 ?_
      exact hx_lretR hx hb hr hlocks (by rw [wq_, wz_, hE, hF, if_pos hE0, if_neg hF0]) kd_R_wholeOf_41
    · skip
      have hF0 : F = 0 := (lc_ne (by omega)).mp c_31
      refine lv_lconst (v := 0) hx hb kd_R_wholeOf_34 (by decide) ?_
      refine lv_goto (tgt := 41) hx hb kd_R_wholeOf_35 (by decide) ?_
      exact hx_lretR hx hb hr hlocks (by rw [wq_, wz_, hE, hF, if_pos hE0, if_pos hF0]; dsimp only; split <;> rfl) kd_R_wholeOf_41

theorem mr_wholeOf {l : Launch} {D : va_G} {cI cL cZ : ClassId} {tb : Nat} (b : Int64) : Met l ky_R_wholeOf kw_R_wholeOf { frames := 0, cells := 0, slots := 0, locals := 0 } (pr_P D cI cL cZ tb [] [.long b]) (hx_QR (some (.long (wo_ b)))) 0 0 (fun _ => False) := by
  obtain ⟨n, hn, rfl⟩ := wb_of b
  rw [wo_n hn]
  exact mr_wholeOf1 n hn

def mz_ (b : Int64) : Bool := (if (lg_cmp b (-9223372036854775808)) = 0 then true else false)
set_option maxHeartbeats 4000000 in
set_option maxRecDepth 100000 in
theorem mr_isMinusZero {l : Launch} {D : va_G} {cI cL cZ : ClassId} {tb : Nat} (b : Int64) : Met l ky_R_isMinusZero kw_R_isMinusZero { frames := 0, cells := 0, slots := 0, locals := 0 } (pr_P D cI cL cZ tb [] [.long b]) (hx_QR (some (.int (b2_ (mz_ b))))) 0 0 (fun _ => False) := by
  refine Met.ofW (cc := kc_R_isMinusZero) (maxL := 2) (ret := (some .boolean)) (by decide) rfl ?_
  intro p e s m args below meth c s₁ B hml hv
  obtain ⟨rfl, hC, hP⟩ := hv
  have hx := B.exec
  have hb := B.bytes
  have hr := B.returns
  have hlocks := B.notSynchronized
  have hown : s.vm.findClass "HostBridgeModel" = some m.cls := findClass_of_methodNamed B.named
  have hS : va_S (fun _ => False) s.heap s.heap [] := va_S.rf
  have hK := hC.K
  have hts := hC.ts [.long b].toArray
  have hl := lv_entry ([.long b]) (n := 2) (Nat.le_of_ble_eq_true rfl)
  rw [lg_entry_eq]
  generalize (lg_sl ([.long b]) ++ List.replicate (2 - (lg_sl ([.long b])).length) Slot.unset).toArray = ls at hl ⊢
  have hl : lv_has ls 2 [(0, .long b)] := hl
  refine lv_lload_n hx hb kd_R_isMinusZero_0 rfl (lv_at hl 0 rfl) ?_
  refine lv_ldc2 (v := -9223372036854775808) hx hb hown (hts _ km_752) kd_R_isMinusZero_1 ?_
  refine W.lcmp hx hb kd_R_isMinusZero_4 ?_
  refine lv_if_ne (tgt := 12) hx hb kd_R_isMinusZero_5 (by decide) (fun c_5 => ?_) (fun c_5 => ?_)
  · skip
    refine lv_iconst (v := 0) hx hb kd_R_isMinusZero_12 (by decide) ?_
    exact hx_zretR hx hb hr hlocks (by unfold mz_; rw [if_neg c_5]; try rfl) kd_R_isMinusZero_13
  · skip
    refine lv_iconst (v := 1) hx hb kd_R_isMinusZero_8 (by decide) ?_
    refine lv_goto (tgt := 13) hx hb kd_R_isMinusZero_9 (by decide) ?_
    exact hx_zretR hx hb hr hlocks (by unfold mz_; rw [if_pos c_5]; try rfl) kd_R_isMinusZero_13

def wn_ (b : Int64) (t : Int32) : Int32 := (if t = 0 then 6 else (if t ≤ 3 then (if (lg_cmp (wo_ b) 4611686018427387904) = 0 then (if (lg_cmp (wo_ b) 4611686018427387904) = 0 then (if t = 3 then 0 else (-1)) else (if t = 1 then (-1) else (t - 2))) else (if (lg_cmp (wo_ b) (-2147483648)) < 0 then (if (lg_cmp (wo_ b) 4611686018427387904) = 0 then (if t = 3 then 0 else (-1)) else (if t = 1 then (-1) else (t - 2))) else (if 0 < (lg_cmp (wo_ b) 2147483647) then (if (lg_cmp (wo_ b) 4611686018427387904) = 0 then (if t = 3 then 0 else (-1)) else (if t = 1 then (-1) else (t - 2))) else (if (b2_ (mz_ b)) = 0 then (t - 1) else (if (lg_cmp (wo_ b) 4611686018427387904) = 0 then (if t = 3 then 0 else (-1)) else (if t = 1 then (-1) else (t - 2))))))) else (if t = 4 then 5 else (if t = 5 then 4 else (-1)))))
set_option maxHeartbeats 4000000 in
set_option maxRecDepth 100000 in
theorem mr_weightOfNumber {l : Launch} {D : va_G} {cI cL cZ : ClassId} {tb : Nat} (b : Int64) (t : Int32) : Met l ky_R_weightOfNumber kw_R_weightOfNumber { frames := 1, cells := 0, slots := 0, locals := 26 } (pr_P D cI cL cZ tb [] [.long b, .int t]) (hx_QR (some (.int (wn_ b t)))) 0 0 (fun _ => False) := by
  refine Met.ofW (cc := kc_R_weightOfNumber) (maxL := 6) (ret := (some .int)) (by decide) rfl ?_
  intro p e s m args below meth c s₁ B hml hv
  obtain ⟨rfl, hC, hP⟩ := hv
  have hx := B.exec
  have hb := B.bytes
  have hr := B.returns
  have hlocks := B.notSynchronized
  have hown : s.vm.findClass "HostBridgeModel" = some m.cls := findClass_of_methodNamed B.named
  have hS : va_S (fun _ => False) s.heap s.heap [] := va_S.rf
  have hK := hC.K
  have hts := hC.ts [.long b, .int t].toArray
  have hl := lv_entry ([.long b, .int t]) (n := 6) (Nat.le_of_ble_eq_true rfl)
  rw [lg_entry_eq]
  generalize (lg_sl ([.long b, .int t]) ++ List.replicate (6 - (lg_sl ([.long b, .int t])).length) Slot.unset).toArray = ls at hl ⊢
  have hl : lv_has ls 6 [(0, .long b), (2, .int t)] := hl
  refine lv_iload_n hx hb kd_R_weightOfNumber_0 rfl (lv_at hl 1 rfl) ?_
  refine lv_if_ne (tgt := 7) hx hb kd_R_weightOfNumber_1 (by decide) (fun c_1 => ?_) (fun c_1 => ?_)
  · skip
    refine lv_iload_n hx hb kd_R_weightOfNumber_7 rfl (lv_at hl 1 rfl) ?_
    refine lv_iconst (v := 3) hx hb kd_R_weightOfNumber_8 (by decide) ?_
    refine lv_icmp_le (tgt := 32) hx hb kd_R_weightOfNumber_9 (by decide) (fun c_9 => ?_) (fun c_9 => ?_)
    · skip
      refine lv_lload_n hx hb kd_R_weightOfNumber_32 rfl (lv_at hl 0 rfl) ?_
      refine hx_callRl (va_runS (As := [.long b]) (rest := []) ⟨hx, hb, hml, hown, hts⟩ (mr_wholeOf b) (va_cwS 1 hts (goodIn_sub (hx_m4 km_738 km_739 km_8 km_740) (by decide +kernel)) rfl rfl rfl (by decide +kernel) ⟨Nat.le_of_ble_eq_true rfl, Nat.le_of_ble_eq_true rfl⟩) (pr_S (hC.S hS) hP [] rfl) rfl rfl hl.1 rfl (lv_room (Nat.le_of_ble_eq_true rfl)) kd_R_weightOfNumber_33 ⟨Nat.le_of_ble_eq_true rfl, Nat.le_of_ble_eq_true rfl⟩) ?_
      refine lv_lstore_n (lv' := [(3, .long (wo_ b)), (0, .long b), (2, .int t)]) hx hb kd_R_weightOfNumber_36 rfl hl (by decide) rfl (fun ls hl => ?_)
      refine lv_lload_n hx hb kd_R_weightOfNumber_37 rfl (lv_at hl 0 rfl) ?_
      refine lv_ldc2 (v := 4611686018427387904) hx hb hown (hts _ km_744) kd_R_weightOfNumber_38 ?_
      refine W.lcmp hx hb kd_R_weightOfNumber_41 ?_
      refine lv_if_eq (tgt := 72) hx hb kd_R_weightOfNumber_42 (by decide) (fun c_42 => ?_) (fun c_42 => ?_)
      · skip
        refine lv_iconst (v := 0) hx hb kd_R_weightOfNumber_72 (by decide) ?_
        refine lv_istore (lv' := [(5, .int 0), (3, .long (wo_ b)), (0, .long b), (2, .int t)]) hx hb kd_R_weightOfNumber_73 hl (by decide) rfl (fun ls hl => ?_)
        refine lv_iload hx hb kd_R_weightOfNumber_75 (lv_at hl 0 rfl) ?_
        refine lv_if_eq (tgt := 84) hx hb kd_R_weightOfNumber_77 (by decide) (fun c_77 => ?_) (fun c_77 => ?_)
        · skip
          refine lv_lload_n hx hb kd_R_weightOfNumber_84 rfl (lv_at hl 1 rfl) ?_
          refine lv_ldc2 (v := 4611686018427387904) hx hb hown (hts _ km_744) kd_R_weightOfNumber_85 ?_
          refine W.lcmp hx hb kd_R_weightOfNumber_88 ?_
          refine lv_if_eq (tgt := 105) hx hb kd_R_weightOfNumber_89 (by decide) (fun c_89 => ?_) (fun c_89 => ?_)
          · skip
            refine lv_iload_n hx hb kd_R_weightOfNumber_105 rfl (lv_at hl 3 rfl) ?_
            refine lv_iconst (v := 3) hx hb kd_R_weightOfNumber_106 (by decide) ?_
            refine lv_icmp_ne (tgt := 114) hx hb kd_R_weightOfNumber_107 (by decide) (fun c_107 => ?_) (fun c_107 => ?_)
            · skip
              refine lv_iconst (v := -1) hx hb kd_R_weightOfNumber_114 (by decide) ?_
              exact hx_iretR hx hb hr hlocks (by unfold wn_; rw [if_neg c_1, if_pos c_9, if_pos c_42, if_pos c_89, if_neg c_107]; try rfl) kd_R_weightOfNumber_115
            · skip
              refine lv_iconst (v := 0) hx hb kd_R_weightOfNumber_110 (by decide) ?_
              refine lv_goto (tgt := 115) hx hb kd_R_weightOfNumber_111 (by decide) ?_
              exact hx_iretR hx hb hr hlocks (by unfold wn_; rw [if_neg c_1, if_pos c_9, if_pos c_42, if_pos c_89, if_pos c_107]; try rfl) kd_R_weightOfNumber_115
          · skip
            refine lv_iload_n hx hb kd_R_weightOfNumber_92 rfl (lv_at hl 3 rfl) ?_
            refine lv_iconst (v := 1) hx hb kd_R_weightOfNumber_93 (by decide) ?_
            refine lv_icmp_ne (tgt := 101) hx hb kd_R_weightOfNumber_94 (by decide) (fun c_94 => ?_) (fun c_94 => ?_)
            · skip
              refine lv_iload_n hx hb kd_R_weightOfNumber_101 rfl (lv_at hl 3 rfl) ?_
              refine lv_iconst (v := 2) hx hb kd_R_weightOfNumber_102 (by decide) ?_
              refine lv_isub hx hb kd_R_weightOfNumber_103 ?_
              exact hx_iretR hx hb hr hlocks (by unfold wn_; rw [if_neg c_1, if_pos c_9, if_pos c_42, if_neg c_89, if_neg c_94]; try rfl) kd_R_weightOfNumber_104
            · skip
              refine lv_iconst (v := -1) hx hb kd_R_weightOfNumber_97 (by decide) ?_
              refine lv_goto (tgt := 104) hx hb kd_R_weightOfNumber_98 (by decide) ?_
              exact hx_iretR hx hb hr hlocks (by unfold wn_; rw [if_neg c_1, if_pos c_9, if_pos c_42, if_neg c_89, if_pos c_94]; try rfl) kd_R_weightOfNumber_104
        · exact absurd c_77 (not_not_intro rfl)
      · skip
        refine lv_lload_n hx hb kd_R_weightOfNumber_45 rfl (lv_at hl 0 rfl) ?_
        refine lv_ldc2 (v := -2147483648) hx hb hown (hts _ km_747) kd_R_weightOfNumber_46 ?_
        refine W.lcmp hx hb kd_R_weightOfNumber_49 ?_
        refine lv_if_lt (tgt := 72) hx hb kd_R_weightOfNumber_50 (by decide) (fun c_50 => ?_) (fun c_50 => ?_)
        · skip
          refine lv_iconst (v := 0) hx hb kd_R_weightOfNumber_72 (by decide) ?_
          refine lv_istore (lv' := [(5, .int 0), (3, .long (wo_ b)), (0, .long b), (2, .int t)]) hx hb kd_R_weightOfNumber_73 hl (by decide) rfl (fun ls hl => ?_)
          refine lv_iload hx hb kd_R_weightOfNumber_75 (lv_at hl 0 rfl) ?_
          refine lv_if_eq (tgt := 84) hx hb kd_R_weightOfNumber_77 (by decide) (fun c_77 => ?_) (fun c_77 => ?_)
          · skip
            refine lv_lload_n hx hb kd_R_weightOfNumber_84 rfl (lv_at hl 1 rfl) ?_
            refine lv_ldc2 (v := 4611686018427387904) hx hb hown (hts _ km_744) kd_R_weightOfNumber_85 ?_
            refine W.lcmp hx hb kd_R_weightOfNumber_88 ?_
            refine lv_if_eq (tgt := 105) hx hb kd_R_weightOfNumber_89 (by decide) (fun c_89 => ?_) (fun c_89 => ?_)
            · skip
              refine lv_iload_n hx hb kd_R_weightOfNumber_105 rfl (lv_at hl 3 rfl) ?_
              refine lv_iconst (v := 3) hx hb kd_R_weightOfNumber_106 (by decide) ?_
              refine lv_icmp_ne (tgt := 114) hx hb kd_R_weightOfNumber_107 (by decide) (fun c_107 => ?_) (fun c_107 => ?_)
              · skip
                refine lv_iconst (v := -1) hx hb kd_R_weightOfNumber_114 (by decide) ?_
                exact hx_iretR hx hb hr hlocks (by unfold wn_; rw [if_neg c_1, if_pos c_9, if_neg c_42, if_pos c_50, if_pos c_89, if_neg c_107]; try rfl) kd_R_weightOfNumber_115
              · skip
                refine lv_iconst (v := 0) hx hb kd_R_weightOfNumber_110 (by decide) ?_
                refine lv_goto (tgt := 115) hx hb kd_R_weightOfNumber_111 (by decide) ?_
                exact hx_iretR hx hb hr hlocks (by unfold wn_; rw [if_neg c_1, if_pos c_9, if_neg c_42, if_pos c_50, if_pos c_89, if_pos c_107]; try rfl) kd_R_weightOfNumber_115
            · skip
              refine lv_iload_n hx hb kd_R_weightOfNumber_92 rfl (lv_at hl 3 rfl) ?_
              refine lv_iconst (v := 1) hx hb kd_R_weightOfNumber_93 (by decide) ?_
              refine lv_icmp_ne (tgt := 101) hx hb kd_R_weightOfNumber_94 (by decide) (fun c_94 => ?_) (fun c_94 => ?_)
              · skip
                refine lv_iload_n hx hb kd_R_weightOfNumber_101 rfl (lv_at hl 3 rfl) ?_
                refine lv_iconst (v := 2) hx hb kd_R_weightOfNumber_102 (by decide) ?_
                refine lv_isub hx hb kd_R_weightOfNumber_103 ?_
                exact hx_iretR hx hb hr hlocks (by unfold wn_; rw [if_neg c_1, if_pos c_9, if_neg c_42, if_pos c_50, if_neg c_89, if_neg c_94]; try rfl) kd_R_weightOfNumber_104
              · skip
                refine lv_iconst (v := -1) hx hb kd_R_weightOfNumber_97 (by decide) ?_
                refine lv_goto (tgt := 104) hx hb kd_R_weightOfNumber_98 (by decide) ?_
                exact hx_iretR hx hb hr hlocks (by unfold wn_; rw [if_neg c_1, if_pos c_9, if_neg c_42, if_pos c_50, if_neg c_89, if_pos c_94]; try rfl) kd_R_weightOfNumber_104
          · exact absurd c_77 (not_not_intro rfl)
        · skip
          refine lv_lload_n hx hb kd_R_weightOfNumber_53 rfl (lv_at hl 0 rfl) ?_
          refine lv_ldc2 (v := 2147483647) hx hb hown (hts _ km_748) kd_R_weightOfNumber_54 ?_
          refine W.lcmp hx hb kd_R_weightOfNumber_57 ?_
          refine lv_if_gt (tgt := 72) hx hb kd_R_weightOfNumber_58 (by decide) (fun c_58 => ?_) (fun c_58 => ?_)
          · skip
            refine lv_iconst (v := 0) hx hb kd_R_weightOfNumber_72 (by decide) ?_
            refine lv_istore (lv' := [(5, .int 0), (3, .long (wo_ b)), (0, .long b), (2, .int t)]) hx hb kd_R_weightOfNumber_73 hl (by decide) rfl (fun ls hl => ?_)
            refine lv_iload hx hb kd_R_weightOfNumber_75 (lv_at hl 0 rfl) ?_
            refine lv_if_eq (tgt := 84) hx hb kd_R_weightOfNumber_77 (by decide) (fun c_77 => ?_) (fun c_77 => ?_)
            · skip
              refine lv_lload_n hx hb kd_R_weightOfNumber_84 rfl (lv_at hl 1 rfl) ?_
              refine lv_ldc2 (v := 4611686018427387904) hx hb hown (hts _ km_744) kd_R_weightOfNumber_85 ?_
              refine W.lcmp hx hb kd_R_weightOfNumber_88 ?_
              refine lv_if_eq (tgt := 105) hx hb kd_R_weightOfNumber_89 (by decide) (fun c_89 => ?_) (fun c_89 => ?_)
              · skip
                refine lv_iload_n hx hb kd_R_weightOfNumber_105 rfl (lv_at hl 3 rfl) ?_
                refine lv_iconst (v := 3) hx hb kd_R_weightOfNumber_106 (by decide) ?_
                refine lv_icmp_ne (tgt := 114) hx hb kd_R_weightOfNumber_107 (by decide) (fun c_107 => ?_) (fun c_107 => ?_)
                · skip
                  refine lv_iconst (v := -1) hx hb kd_R_weightOfNumber_114 (by decide) ?_
                  exact hx_iretR hx hb hr hlocks (by unfold wn_; rw [if_neg c_1, if_pos c_9, if_neg c_42, if_neg c_50, if_pos c_58, if_pos c_89, if_neg c_107]; try rfl) kd_R_weightOfNumber_115
                · skip
                  refine lv_iconst (v := 0) hx hb kd_R_weightOfNumber_110 (by decide) ?_
                  refine lv_goto (tgt := 115) hx hb kd_R_weightOfNumber_111 (by decide) ?_
                  exact hx_iretR hx hb hr hlocks (by unfold wn_; rw [if_neg c_1, if_pos c_9, if_neg c_42, if_neg c_50, if_pos c_58, if_pos c_89, if_pos c_107]; try rfl) kd_R_weightOfNumber_115
              · skip
                refine lv_iload_n hx hb kd_R_weightOfNumber_92 rfl (lv_at hl 3 rfl) ?_
                refine lv_iconst (v := 1) hx hb kd_R_weightOfNumber_93 (by decide) ?_
                refine lv_icmp_ne (tgt := 101) hx hb kd_R_weightOfNumber_94 (by decide) (fun c_94 => ?_) (fun c_94 => ?_)
                · skip
                  refine lv_iload_n hx hb kd_R_weightOfNumber_101 rfl (lv_at hl 3 rfl) ?_
                  refine lv_iconst (v := 2) hx hb kd_R_weightOfNumber_102 (by decide) ?_
                  refine lv_isub hx hb kd_R_weightOfNumber_103 ?_
                  exact hx_iretR hx hb hr hlocks (by unfold wn_; rw [if_neg c_1, if_pos c_9, if_neg c_42, if_neg c_50, if_pos c_58, if_neg c_89, if_neg c_94]; try rfl) kd_R_weightOfNumber_104
                · skip
                  refine lv_iconst (v := -1) hx hb kd_R_weightOfNumber_97 (by decide) ?_
                  refine lv_goto (tgt := 104) hx hb kd_R_weightOfNumber_98 (by decide) ?_
                  exact hx_iretR hx hb hr hlocks (by unfold wn_; rw [if_neg c_1, if_pos c_9, if_neg c_42, if_neg c_50, if_pos c_58, if_neg c_89, if_pos c_94]; try rfl) kd_R_weightOfNumber_104
            · exact absurd c_77 (not_not_intro rfl)
          · skip
            refine lv_lload_n hx hb kd_R_weightOfNumber_61 rfl (lv_at hl 1 rfl) ?_
            refine hx_callRi (va_runS (As := [.long b]) (rest := []) ⟨hx, hb, hml, hown, hts⟩ (mr_isMinusZero b) (va_cwS 1 hts (goodIn_sub (hx_m4 km_749 km_750 km_8 km_751) (by decide +kernel)) rfl rfl rfl (by decide +kernel) ⟨Nat.le_of_ble_eq_true rfl, Nat.le_of_ble_eq_true rfl⟩) (pr_S (hC.S hS) hP [] rfl) rfl rfl hl.1 rfl (lv_room (Nat.le_of_ble_eq_true rfl)) kd_R_weightOfNumber_62 ⟨Nat.le_of_ble_eq_true rfl, Nat.le_of_ble_eq_true rfl⟩) ?_
            refine lv_if_ne (tgt := 72) hx hb kd_R_weightOfNumber_65 (by decide) (fun c_65 => ?_) (fun c_65 => ?_)
            · skip
              refine lv_iconst (v := 0) hx hb kd_R_weightOfNumber_72 (by decide) ?_
              refine lv_istore (lv' := [(5, .int 0), (3, .long (wo_ b)), (0, .long b), (2, .int t)]) hx hb kd_R_weightOfNumber_73 hl (by decide) rfl (fun ls hl => ?_)
              refine lv_iload hx hb kd_R_weightOfNumber_75 (lv_at hl 0 rfl) ?_
              refine lv_if_eq (tgt := 84) hx hb kd_R_weightOfNumber_77 (by decide) (fun c_77 => ?_) (fun c_77 => ?_)
              · skip
                refine lv_lload_n hx hb kd_R_weightOfNumber_84 rfl (lv_at hl 1 rfl) ?_
                refine lv_ldc2 (v := 4611686018427387904) hx hb hown (hts _ km_744) kd_R_weightOfNumber_85 ?_
                refine W.lcmp hx hb kd_R_weightOfNumber_88 ?_
                refine lv_if_eq (tgt := 105) hx hb kd_R_weightOfNumber_89 (by decide) (fun c_89 => ?_) (fun c_89 => ?_)
                · skip
                  refine lv_iload_n hx hb kd_R_weightOfNumber_105 rfl (lv_at hl 3 rfl) ?_
                  refine lv_iconst (v := 3) hx hb kd_R_weightOfNumber_106 (by decide) ?_
                  refine lv_icmp_ne (tgt := 114) hx hb kd_R_weightOfNumber_107 (by decide) (fun c_107 => ?_) (fun c_107 => ?_)
                  · skip
                    refine lv_iconst (v := -1) hx hb kd_R_weightOfNumber_114 (by decide) ?_
                    exact hx_iretR hx hb hr hlocks (by unfold wn_; rw [if_neg c_1, if_pos c_9, if_neg c_42, if_neg c_50, if_neg c_58, if_neg c_65, if_pos c_89, if_neg c_107]; try rfl) kd_R_weightOfNumber_115
                  · skip
                    refine lv_iconst (v := 0) hx hb kd_R_weightOfNumber_110 (by decide) ?_
                    refine lv_goto (tgt := 115) hx hb kd_R_weightOfNumber_111 (by decide) ?_
                    exact hx_iretR hx hb hr hlocks (by unfold wn_; rw [if_neg c_1, if_pos c_9, if_neg c_42, if_neg c_50, if_neg c_58, if_neg c_65, if_pos c_89, if_pos c_107]; try rfl) kd_R_weightOfNumber_115
                · skip
                  refine lv_iload_n hx hb kd_R_weightOfNumber_92 rfl (lv_at hl 3 rfl) ?_
                  refine lv_iconst (v := 1) hx hb kd_R_weightOfNumber_93 (by decide) ?_
                  refine lv_icmp_ne (tgt := 101) hx hb kd_R_weightOfNumber_94 (by decide) (fun c_94 => ?_) (fun c_94 => ?_)
                  · skip
                    refine lv_iload_n hx hb kd_R_weightOfNumber_101 rfl (lv_at hl 3 rfl) ?_
                    refine lv_iconst (v := 2) hx hb kd_R_weightOfNumber_102 (by decide) ?_
                    refine lv_isub hx hb kd_R_weightOfNumber_103 ?_
                    exact hx_iretR hx hb hr hlocks (by unfold wn_; rw [if_neg c_1, if_pos c_9, if_neg c_42, if_neg c_50, if_neg c_58, if_neg c_65, if_neg c_89, if_neg c_94]; try rfl) kd_R_weightOfNumber_104
                  · skip
                    refine lv_iconst (v := -1) hx hb kd_R_weightOfNumber_97 (by decide) ?_
                    refine lv_goto (tgt := 104) hx hb kd_R_weightOfNumber_98 (by decide) ?_
                    exact hx_iretR hx hb hr hlocks (by unfold wn_; rw [if_neg c_1, if_pos c_9, if_neg c_42, if_neg c_50, if_neg c_58, if_neg c_65, if_neg c_89, if_pos c_94]; try rfl) kd_R_weightOfNumber_104
              · exact absurd c_77 (not_not_intro rfl)
            · skip
              refine lv_iconst (v := 1) hx hb kd_R_weightOfNumber_68 (by decide) ?_
              refine lv_goto (tgt := 73) hx hb kd_R_weightOfNumber_69 (by decide) ?_
              refine lv_istore (lv' := [(5, .int 1), (3, .long (wo_ b)), (0, .long b), (2, .int t)]) hx hb kd_R_weightOfNumber_73 hl (by decide) rfl (fun ls hl => ?_)
              refine lv_iload hx hb kd_R_weightOfNumber_75 (lv_at hl 0 rfl) ?_
              refine lv_if_eq (tgt := 84) hx hb kd_R_weightOfNumber_77 (by decide) (fun c_77 => ?_) (fun c_77 => ?_)
              · exact absurd c_77 (by decide)
              · skip
                refine lv_iload_n hx hb kd_R_weightOfNumber_80 rfl (lv_at hl 3 rfl) ?_
                refine lv_iconst (v := 1) hx hb kd_R_weightOfNumber_81 (by decide) ?_
                refine lv_isub hx hb kd_R_weightOfNumber_82 ?_
                exact hx_iretR hx hb hr hlocks (by unfold wn_; rw [if_neg c_1, if_pos c_9, if_neg c_42, if_neg c_50, if_neg c_58, if_pos c_65]; try rfl) kd_R_weightOfNumber_83
    · skip
      refine lv_iload_n hx hb kd_R_weightOfNumber_12 rfl (lv_at hl 1 rfl) ?_
      refine lv_iconst (v := 4) hx hb kd_R_weightOfNumber_13 (by decide) ?_
      refine lv_icmp_ne (tgt := 21) hx hb kd_R_weightOfNumber_14 (by decide) (fun c_14 => ?_) (fun c_14 => ?_)
      · skip
        refine lv_iload_n hx hb kd_R_weightOfNumber_21 rfl (lv_at hl 1 rfl) ?_
        refine lv_iconst (v := 5) hx hb kd_R_weightOfNumber_22 (by decide) ?_
        refine lv_icmp_ne (tgt := 30) hx hb kd_R_weightOfNumber_23 (by decide) (fun c_23 => ?_) (fun c_23 => ?_)
        · skip
          refine lv_iconst (v := -1) hx hb kd_R_weightOfNumber_30 (by decide) ?_
          exact hx_iretR hx hb hr hlocks (by unfold wn_; rw [if_neg c_1, if_neg c_9, if_neg c_14, if_neg c_23]; try rfl) kd_R_weightOfNumber_31
        · skip
          refine lv_iconst (v := 4) hx hb kd_R_weightOfNumber_26 (by decide) ?_
          refine lv_goto (tgt := 31) hx hb kd_R_weightOfNumber_27 (by decide) ?_
          exact hx_iretR hx hb hr hlocks (by unfold wn_; rw [if_neg c_1, if_neg c_9, if_neg c_14, if_pos c_23]; try rfl) kd_R_weightOfNumber_31
      · skip
        refine lv_iconst (v := 5) hx hb kd_R_weightOfNumber_17 (by decide) ?_
        refine lv_goto (tgt := 31) hx hb kd_R_weightOfNumber_18 (by decide) ?_
        exact hx_iretR hx hb hr hlocks (by unfold wn_; rw [if_neg c_1, if_neg c_9, if_pos c_14]; try rfl) kd_R_weightOfNumber_31
  · skip
    refine lv_bipush (v := 6) hx hb kd_R_weightOfNumber_4 (by decide) ?_
    exact hx_iretR hx hb hr hlocks (by unfold wn_; rw [if_pos c_1]; try rfl) kd_R_weightOfNumber_6

def ir_ (b : Int64) : Bool := (if (lg_cmp (b &&& 9223372036854775807) 0) ≤ 0 then false else (if 0 < (lg_cmp (b &&& 9223372036854775807) 9218868437227405312) then false else true))
set_option maxHeartbeats 4000000 in
set_option maxRecDepth 100000 in
theorem mr_isTrue {l : Launch} {D : va_G} {cI cL cZ : ClassId} {tb : Nat} (b : Int64) : Met l ky_R_isTrue kw_R_isTrue { frames := 0, cells := 0, slots := 0, locals := 0 } (pr_P D cI cL cZ tb [] [.long b]) (hx_QR (some (.int (b2_ (ir_ b))))) 0 0 (fun _ => False) := by
  refine Met.ofW (cc := kc_R_isTrue) (maxL := 4) (ret := (some .boolean)) (by decide) rfl ?_
  intro p e s m args below meth c s₁ B hml hv
  obtain ⟨rfl, hC, hP⟩ := hv
  have hx := B.exec
  have hb := B.bytes
  have hr := B.returns
  have hlocks := B.notSynchronized
  have hown : s.vm.findClass "HostBridgeModel" = some m.cls := findClass_of_methodNamed B.named
  have hS : va_S (fun _ => False) s.heap s.heap [] := va_S.rf
  have hK := hC.K
  have hts := hC.ts [.long b].toArray
  have hl := lv_entry ([.long b]) (n := 4) (Nat.le_of_ble_eq_true rfl)
  rw [lg_entry_eq]
  generalize (lg_sl ([.long b]) ++ List.replicate (4 - (lg_sl ([.long b])).length) Slot.unset).toArray = ls at hl ⊢
  have hl : lv_has ls 4 [(0, .long b)] := hl
  refine lv_lload_n hx hb kd_R_isTrue_0 rfl (lv_at hl 0 rfl) ?_
  refine lv_ldc2 (v := 9223372036854775807) hx hb hown (hts _ km_785) kd_R_isTrue_1 ?_
  refine lv_land hx hb kd_R_isTrue_4 ?_
  refine lv_lstore_n (lv' := [(2, .long (b &&& 9223372036854775807)), (0, .long b)]) hx hb kd_R_isTrue_5 rfl hl (by decide) rfl (fun ls hl => ?_)
  refine lv_lload_n hx hb kd_R_isTrue_6 rfl (lv_at hl 0 rfl) ?_
  refine lv_lconst (v := 0) hx hb kd_R_isTrue_7 (by decide) ?_
  refine W.lcmp hx hb kd_R_isTrue_8 ?_
  refine lv_if_le (tgt := 24) hx hb kd_R_isTrue_9 (by decide) (fun c_9 => ?_) (fun c_9 => ?_)
  · skip
    refine lv_iconst (v := 0) hx hb kd_R_isTrue_24 (by decide) ?_
    exact hx_zretR hx hb hr hlocks (by unfold ir_; rw [if_pos c_9]; try rfl) kd_R_isTrue_25
  · skip
    refine lv_lload_n hx hb kd_R_isTrue_12 rfl (lv_at hl 0 rfl) ?_
    refine lv_ldc2 (v := 9218868437227405312) hx hb hown (hts _ km_786) kd_R_isTrue_13 ?_
    refine W.lcmp hx hb kd_R_isTrue_16 ?_
    refine lv_if_gt (tgt := 24) hx hb kd_R_isTrue_17 (by decide) (fun c_17 => ?_) (fun c_17 => ?_)
    · skip
      refine lv_iconst (v := 0) hx hb kd_R_isTrue_24 (by decide) ?_
      exact hx_zretR hx hb hr hlocks (by unfold ir_; rw [if_neg c_9, if_pos c_17]; try rfl) kd_R_isTrue_25
    · skip
      refine lv_iconst (v := 1) hx hb kd_R_isTrue_20 (by decide) ?_
      refine lv_goto (tgt := 25) hx hb kd_R_isTrue_21 (by decide) ?_
      exact hx_zretR hx hb hr hlocks (by unfold ir_; rw [if_neg c_9, if_neg c_17]; try rfl) kd_R_isTrue_25

def tu_ (ki : Nat → Int32) (rb : Nat → Int64) (i : Nat) (t : Int32) : Int64 := (if t = 4 then ((ki i).toInt64) else (if t = 5 then ((ki i).toInt64) else (if (ki i) = 1 then (-1) else (if (ki i) = 3 then (if t = 3 then (rb i) else (if t = 0 then (if (b2_ (ir_ (rb i))) = 0 then 0 else 1) else (wo_ (rb i)))) else (rb i)))))
set_option maxHeartbeats 4000000 in
set_option maxRecDepth 100000 in
theorem mr_turned {l : Launch} {D : va_G} {cI cL cZ : ClassId} {tb : Nat} (r : Nat → Nat) (rc ro rm ra rl rw : Nat) (th : Int32) (gv : Int64) (rp rk ow rn ct rt ki aq cd g1 g2 g3 : Nat → Int32) (rb gw an : Nat → Int64) (i : Nat) (t : Int32) (hi : i < 4) : Met l ky_R_turned kw_R_turned { frames := 1, cells := 0, slots := 0, locals := 26 } (pr_P D cI cL cZ tb [((r 0), .inr (7, [.int th, .int (nI rc), .ref (r 1), .int (nI ro), .ref (r 2), .int (nI rm), .ref (r 3), .ref (r 4), .ref (r 5), .ref (r 6), .int (nI ra), .ref (r 7), .ref (r 8), .ref (r 9), .ref (r 10), .int (nI rl), .ref (r 11), .ref (r 12), .ref (r 13), .ref (r 14), .int (nI rw), .ref (r 15), .long gv])), ((r 1), .inl (cI, 16, .inl rp)), ((r 2), .inl (cI, 64, .inl rk)), ((r 3), .inl (cI, 64, .inl ow)), ((r 4), .inl (cI, 64, .inl rn)), ((r 5), .inl (cI, 64, .inl ct)), ((r 6), .inl (cI, 256, .inl rt)), ((r 7), .inl (cI, 4, .inl ki)), ((r 8), .inl (cL, 4, .inr (.inl rb))), ((r 9), .inl (cI, 4, .inl aq)), ((r 10), .inl (cZ, 64, .inl cd)), ((r 11), .inl (cI, 64, .inl g1)), ((r 12), .inl (cI, 64, .inl g2)), ((r 13), .inl (cI, 64, .inl g3)), ((r 14), .inl (cL, 256, .inr (.inl gw))), ((r 15), .inl (cL, 64, .inr (.inl an)))] [.ref (r 0), .int (nI i), .int t]) (hx_QR (some (.long (tu_ ki rb i t)))) 0 0 (fun _ => False) := by
  refine Met.ofW (cc := kc_R_turned) (maxL := 3) (ret := (some .long)) (by decide) rfl ?_
  intro p e s m args below meth c s₁ B hml hv
  obtain ⟨rfl, hC, hP⟩ := hv
  have hx := B.exec
  have hb := B.bytes
  have hr := B.returns
  have hlocks := B.notSynchronized
  have hown : s.vm.findClass "HostBridgeModel" = some m.cls := findClass_of_methodNamed B.named
  have hS : va_S (fun _ => False) s.heap s.heap [] := va_S.rf
  have hK := hC.K
  have hts := hC.ts [.ref (r 0), .int (nI i), .int t].toArray
  have hl := lv_entry ([.ref (r 0), .int (nI i), .int t]) (n := 3) (Nat.le_of_ble_eq_true rfl)
  rw [lg_entry_eq]
  generalize (lg_sl ([.ref (r 0), .int (nI i), .int t]) ++ List.replicate (3 - (lg_sl ([.ref (r 0), .int (nI i), .int t])).length) Slot.unset).toArray = ls at hl ⊢
  have hl : lv_has ls 3 [(0, .ref (r 0)), (1, .int (nI i)), (2, .int t)] := hl
  refine lv_iload_n hx hb kd_R_turned_0 rfl (lv_at hl 2 rfl) ?_
  refine lv_iconst (v := 4) hx hb kd_R_turned_1 (by decide) ?_
  refine lv_icmp_eq (tgt := 10) hx hb kd_R_turned_2 (by decide) (fun c_2 => ?_) (fun c_2 => ?_)
  · skip
    refine lv_aload_n hx hb kd_R_turned_10 rfl (lv_at hl 0 rfl) ?_
    refine va_get (D := D) (ci := 7) (v := .ref (r 7)) (C := "HostBridgeModel") (T := ct_R) (N := 23) hx hb hts cw_R hown hK hP 0 rfl rfl 11 (by decide) (hts _ km_632) (fun _ h9 => h9) rfl kd_R_turned_11 ?_
    refine lv_iload_n hx hb kd_R_turned_14 rfl (lv_at hl 1 rfl) ?_
    refine hx_iald (j := i) hx hb hK hP 7 rfl (rfl) (hi) (by decide) kd_R_turned_15 ?_
    refine lv_i2l hx hb kd_R_turned_16 rfl ?_
    exact hx_lretR hx hb hr hlocks (by unfold tu_; rw [if_pos c_2]; try rfl) kd_R_turned_17
  · skip
    refine lv_iload_n hx hb kd_R_turned_5 rfl (lv_at hl 2 rfl) ?_
    refine lv_iconst (v := 5) hx hb kd_R_turned_6 (by decide) ?_
    refine lv_icmp_ne (tgt := 18) hx hb kd_R_turned_7 (by decide) (fun c_7 => ?_) (fun c_7 => ?_)
    · skip
      refine lv_aload_n hx hb kd_R_turned_18 rfl (lv_at hl 0 rfl) ?_
      refine va_get (D := D) (ci := 7) (v := .ref (r 7)) (C := "HostBridgeModel") (T := ct_R) (N := 23) hx hb hts cw_R hown hK hP 0 rfl rfl 11 (by decide) (hts _ km_632) (fun _ h9 => h9) rfl kd_R_turned_19 ?_
      refine lv_iload_n hx hb kd_R_turned_22 rfl (lv_at hl 1 rfl) ?_
      refine hx_iald (j := i) hx hb hK hP 7 rfl (rfl) (hi) (by decide) kd_R_turned_23 ?_
      refine lv_iconst (v := 1) hx hb kd_R_turned_24 (by decide) ?_
      refine lv_icmp_ne (tgt := 32) hx hb kd_R_turned_25 (by decide) (fun c_25 => ?_) (fun c_25 => ?_)
      · skip
        refine lv_aload_n hx hb kd_R_turned_32 rfl (lv_at hl 0 rfl) ?_
        refine va_get (D := D) (ci := 7) (v := .ref (r 7)) (C := "HostBridgeModel") (T := ct_R) (N := 23) hx hb hts cw_R hown hK hP 0 rfl rfl 11 (by decide) (hts _ km_632) (fun _ h9 => h9) rfl kd_R_turned_33 ?_
        refine lv_iload_n hx hb kd_R_turned_36 rfl (lv_at hl 1 rfl) ?_
        refine hx_iald (j := i) hx hb hK hP 7 rfl (rfl) (hi) (by decide) kd_R_turned_37 ?_
        refine lv_iconst (v := 3) hx hb kd_R_turned_38 (by decide) ?_
        refine lv_icmp_ne (tgt := 47) hx hb kd_R_turned_39 (by decide) (fun c_39 => ?_) (fun c_39 => ?_)
        · skip
          refine lv_aload_n hx hb kd_R_turned_47 rfl (lv_at hl 0 rfl) ?_
          refine va_get (D := D) (ci := 7) (v := .ref (r 8)) (C := "HostBridgeModel") (T := ct_R) (N := 23) hx hb hts cw_R hown hK hP 0 rfl rfl 12 (by decide) (hts _ km_633) (fun _ h9 => h9) rfl kd_R_turned_48 ?_
          refine lv_iload_n hx hb kd_R_turned_51 rfl (lv_at hl 1 rfl) ?_
          refine hx_lald (j := i) hx hb hK hP 8 rfl (rfl) (hi) (by decide) kd_R_turned_52 ?_
          exact hx_lretR hx hb hr hlocks (by unfold tu_; rw [if_neg c_2, if_neg c_7, if_neg c_25, if_neg c_39]; try rfl) kd_R_turned_53
        · skip
          refine lv_iload_n hx hb kd_R_turned_42 rfl (lv_at hl 2 rfl) ?_
          refine lv_iconst (v := 3) hx hb kd_R_turned_43 (by decide) ?_
          refine lv_icmp_ne (tgt := 54) hx hb kd_R_turned_44 (by decide) (fun c_44 => ?_) (fun c_44 => ?_)
          · skip
            refine lv_iload_n hx hb kd_R_turned_54 rfl (lv_at hl 2 rfl) ?_
            refine lv_if_ne (tgt := 78) hx hb kd_R_turned_55 (by decide) (fun c_55 => ?_) (fun c_55 => ?_)
            · skip
              refine lv_aload_n hx hb kd_R_turned_78 rfl (lv_at hl 0 rfl) ?_
              refine va_get (D := D) (ci := 7) (v := .ref (r 8)) (C := "HostBridgeModel") (T := ct_R) (N := 23) hx hb hts cw_R hown hK hP 0 rfl rfl 12 (by decide) (hts _ km_633) (fun _ h9 => h9) rfl kd_R_turned_79 ?_
              refine lv_iload_n hx hb kd_R_turned_82 rfl (lv_at hl 1 rfl) ?_
              refine hx_lald (j := i) hx hb hK hP 8 rfl (rfl) (hi) (by decide) kd_R_turned_83 ?_
              refine hx_callRl (va_runS (As := [.long (rb i)]) (rest := []) ⟨hx, hb, hml, hown, hts⟩ (mr_wholeOf (rb i)) (va_cwS 1 hts (goodIn_sub (hx_m4 km_738 km_739 km_8 km_740) (by decide +kernel)) rfl rfl rfl (by decide +kernel) ⟨Nat.le_of_ble_eq_true rfl, Nat.le_of_ble_eq_true rfl⟩) (pr_S (hC.S hS) hP [] rfl) rfl rfl hl.1 rfl (lv_room (Nat.le_of_ble_eq_true rfl)) kd_R_turned_84 ⟨Nat.le_of_ble_eq_true rfl, Nat.le_of_ble_eq_true rfl⟩) ?_
              exact hx_lretR hx hb hr hlocks (by unfold tu_; rw [if_neg c_2, if_neg c_7, if_neg c_25, if_pos c_39, if_neg c_44, if_neg c_55]; try rfl) kd_R_turned_87
            · skip
              refine lv_aload_n hx hb kd_R_turned_58 rfl (lv_at hl 0 rfl) ?_
              refine va_get (D := D) (ci := 7) (v := .ref (r 8)) (C := "HostBridgeModel") (T := ct_R) (N := 23) hx hb hts cw_R hown hK hP 0 rfl rfl 12 (by decide) (hts _ km_633) (fun _ h9 => h9) rfl kd_R_turned_59 ?_
              refine lv_iload_n hx hb kd_R_turned_62 rfl (lv_at hl 1 rfl) ?_
              refine hx_lald (j := i) hx hb hK hP 8 rfl (rfl) (hi) (by decide) kd_R_turned_63 ?_
              refine hx_callRi (va_runS (As := [.long (rb i)]) (rest := []) ⟨hx, hb, hml, hown, hts⟩ (mr_isTrue (rb i)) (va_cwS 1 hts (goodIn_sub (hx_m4 km_782 km_783 km_8 km_784) (by decide +kernel)) rfl rfl rfl (by decide +kernel) ⟨Nat.le_of_ble_eq_true rfl, Nat.le_of_ble_eq_true rfl⟩) (pr_S (hC.S hS) hP [] rfl) rfl rfl hl.1 rfl (lv_room (Nat.le_of_ble_eq_true rfl)) kd_R_turned_64 ⟨Nat.le_of_ble_eq_true rfl, Nat.le_of_ble_eq_true rfl⟩) ?_
              refine lv_if_eq (tgt := 74) hx hb kd_R_turned_67 (by decide) (fun c_67 => ?_) (fun c_67 => ?_)
              · skip
                refine lv_lconst (v := 0) hx hb kd_R_turned_74 (by decide) ?_
                refine lv_goto (tgt := 87) hx hb kd_R_turned_75 (by decide) ?_
                exact hx_lretR hx hb hr hlocks (by unfold tu_; rw [if_neg c_2, if_neg c_7, if_neg c_25, if_pos c_39, if_neg c_44, if_pos c_55, if_pos c_67]; try rfl) kd_R_turned_87
              · skip
                refine lv_lconst (v := 1) hx hb kd_R_turned_70 (by decide) ?_
                refine lv_goto (tgt := 87) hx hb kd_R_turned_71 (by decide) ?_
                exact hx_lretR hx hb hr hlocks (by unfold tu_; rw [if_neg c_2, if_neg c_7, if_neg c_25, if_pos c_39, if_neg c_44, if_pos c_55, if_neg c_67]; try rfl) kd_R_turned_87
          · skip
            refine lv_aload_n hx hb kd_R_turned_47 rfl (lv_at hl 0 rfl) ?_
            refine va_get (D := D) (ci := 7) (v := .ref (r 8)) (C := "HostBridgeModel") (T := ct_R) (N := 23) hx hb hts cw_R hown hK hP 0 rfl rfl 12 (by decide) (hts _ km_633) (fun _ h9 => h9) rfl kd_R_turned_48 ?_
            refine lv_iload_n hx hb kd_R_turned_51 rfl (lv_at hl 1 rfl) ?_
            refine hx_lald (j := i) hx hb hK hP 8 rfl (rfl) (hi) (by decide) kd_R_turned_52 ?_
            exact hx_lretR hx hb hr hlocks (by unfold tu_; rw [if_neg c_2, if_neg c_7, if_neg c_25, if_pos c_39, if_pos c_44]; try rfl) kd_R_turned_53
      · skip
        refine lv_ldc2 (v := -1) hx hb hown (hts _ km_781) kd_R_turned_28 ?_
        exact hx_lretR hx hb hr hlocks (by unfold tu_; rw [if_neg c_2, if_neg c_7, if_pos c_25]; try rfl) kd_R_turned_31
    · skip
      refine lv_aload_n hx hb kd_R_turned_10 rfl (lv_at hl 0 rfl) ?_
      refine va_get (D := D) (ci := 7) (v := .ref (r 7)) (C := "HostBridgeModel") (T := ct_R) (N := 23) hx hb hts cw_R hown hK hP 0 rfl rfl 11 (by decide) (hts _ km_632) (fun _ h9 => h9) rfl kd_R_turned_11 ?_
      refine lv_iload_n hx hb kd_R_turned_14 rfl (lv_at hl 1 rfl) ?_
      refine hx_iald (j := i) hx hb hK hP 7 rfl (rfl) (hi) (by decide) kd_R_turned_15 ?_
      refine lv_i2l hx hb kd_R_turned_16 rfl ?_
      exact hx_lretR hx hb hr hlocks (by unfold tu_; rw [if_neg c_2, if_pos c_7]; try rfl) kd_R_turned_17

def rw_ (rp rk ki : Nat → Int32) (rb : Nat → Int64) (i : Nat) (t : Int32) : Int32 := (if (ki i) = 3 then (wn_ (rb i) t) else (if t = 4 then (if (ki i) = 0 then 41 else (if (ki i) = 1 then 2 else (if (ki i) = 2 then 3 else (if (ki i) = 4 then 0 else 40)))) else (if t = 5 then (if (ki i) = 2 then 2 else (if (ki i) = 4 then 2 else (if (ki i) = 5 then 20 else 0))) else (if t = 0 then (if (ki i) = 2 then 0 else (-1)) else (if t < 6 then (-1) else (if (ki i) = 1 then 1 else (if (ki i) = 5 then (ds_ rp (t - 6) 16 (rk (rb i).toInt32.toNatClampNeg) 0) else (-1))))))))
set_option maxHeartbeats 4000000 in
set_option maxRecDepth 100000 in
theorem mr_weightOf {l : Launch} {D : va_G} {cI cL cZ : ClassId} {tb : Nat} (r : Nat → Nat) (rc ro rm ra rl rw : Nat) (th : Int32) (gv : Int64) (rp rk ow rn ct rt ki aq cd g1 g2 g3 : Nat → Int32) (rb gw an : Nat → Int64) (i : Nat) (t : Int32) (hi : i < 4) (hok : ki i = 5 → ∃ o : Nat, o < ro ∧ rb i = lN o) (hln : ln_ok rc rp) (hno : ro ≤ 64) (hco : ∀ j, j < ro → ∃ q : Nat, q < rc ∧ rk j = nI q) : Met l ky_R_weightOf kw_R_weightOf { frames := 2, cells := 0, slots := 0, locals := 51 } (pr_P D cI cL cZ tb [((r 0), .inr (7, [.int th, .int (nI rc), .ref (r 1), .int (nI ro), .ref (r 2), .int (nI rm), .ref (r 3), .ref (r 4), .ref (r 5), .ref (r 6), .int (nI ra), .ref (r 7), .ref (r 8), .ref (r 9), .ref (r 10), .int (nI rl), .ref (r 11), .ref (r 12), .ref (r 13), .ref (r 14), .int (nI rw), .ref (r 15), .long gv])), ((r 1), .inl (cI, 16, .inl rp)), ((r 2), .inl (cI, 64, .inl rk)), ((r 3), .inl (cI, 64, .inl ow)), ((r 4), .inl (cI, 64, .inl rn)), ((r 5), .inl (cI, 64, .inl ct)), ((r 6), .inl (cI, 256, .inl rt)), ((r 7), .inl (cI, 4, .inl ki)), ((r 8), .inl (cL, 4, .inr (.inl rb))), ((r 9), .inl (cI, 4, .inl aq)), ((r 10), .inl (cZ, 64, .inl cd)), ((r 11), .inl (cI, 64, .inl g1)), ((r 12), .inl (cI, 64, .inl g2)), ((r 13), .inl (cI, 64, .inl g3)), ((r 14), .inl (cL, 256, .inr (.inl gw))), ((r 15), .inl (cL, 64, .inr (.inl an)))] [.ref (r 0), .int (nI i), .int t]) (hx_QR (some (.int (rw_ rp rk ki rb i t)))) 0 0 (fun _ => False) := by
  refine Met.ofW (cc := kc_R_weightOf) (maxL := 6) (ret := (some .int)) (by decide) rfl ?_
  intro p e s m args below meth c s₁ B hml hv
  obtain ⟨rfl, hC, hP⟩ := hv
  have hx := B.exec
  have hb := B.bytes
  have hr := B.returns
  have hlocks := B.notSynchronized
  have hown : s.vm.findClass "HostBridgeModel" = some m.cls := findClass_of_methodNamed B.named
  have hS : va_S (fun _ => False) s.heap s.heap [] := va_S.rf
  have hK := hC.K
  have hts := hC.ts [.ref (r 0), .int (nI i), .int t].toArray
  have hl := lv_entry ([.ref (r 0), .int (nI i), .int t]) (n := 6) (Nat.le_of_ble_eq_true rfl)
  rw [lg_entry_eq]
  generalize (lg_sl ([.ref (r 0), .int (nI i), .int t]) ++ List.replicate (6 - (lg_sl ([.ref (r 0), .int (nI i), .int t])).length) Slot.unset).toArray = ls at hl ⊢
  have hl : lv_has ls 6 [(0, .ref (r 0)), (1, .int (nI i)), (2, .int t)] := hl
  refine lv_aload_n hx hb kd_R_weightOf_0 rfl (lv_at hl 0 rfl) ?_
  refine va_get (D := D) (ci := 7) (v := .ref (r 7)) (C := "HostBridgeModel") (T := ct_R) (N := 23) hx hb hts cw_R hown hK hP 0 rfl rfl 11 (by decide) (hts _ km_632) (fun _ h9 => h9) rfl kd_R_weightOf_1 ?_
  refine lv_iload_n hx hb kd_R_weightOf_4 rfl (lv_at hl 1 rfl) ?_
  refine hx_iald (j := i) hx hb hK hP 7 rfl (rfl) (hi) (by decide) kd_R_weightOf_5 ?_
  refine lv_istore_n (lv' := [(3, .int (ki i)), (0, .ref (r 0)), (1, .int (nI i)), (2, .int t)]) hx hb kd_R_weightOf_6 rfl hl (by decide) rfl (fun ls hl => ?_)
  refine lv_iload_n hx hb kd_R_weightOf_7 rfl (lv_at hl 0 rfl) ?_
  refine lv_iconst (v := 3) hx hb kd_R_weightOf_8 (by decide) ?_
  refine lv_icmp_ne (tgt := 23) hx hb kd_R_weightOf_9 (by decide) (fun c_9 => ?_) (fun c_9 => ?_)
  · skip
    refine lv_iload_n hx hb kd_R_weightOf_23 rfl (lv_at hl 3 rfl) ?_
    refine lv_iconst (v := 4) hx hb kd_R_weightOf_24 (by decide) ?_
    refine lv_icmp_ne (tgt := 67) hx hb kd_R_weightOf_25 (by decide) (fun c_25 => ?_) (fun c_25 => ?_)
    · skip
      refine lv_iload_n hx hb kd_R_weightOf_67 rfl (lv_at hl 3 rfl) ?_
      refine lv_iconst (v := 5) hx hb kd_R_weightOf_68 (by decide) ?_
      refine lv_icmp_ne (tgt := 98) hx hb kd_R_weightOf_69 (by decide) (fun c_69 => ?_) (fun c_69 => ?_)
      · skip
        refine lv_iload_n hx hb kd_R_weightOf_98 rfl (lv_at hl 3 rfl) ?_
        refine lv_if_ne (tgt := 113) hx hb kd_R_weightOf_99 (by decide) (fun c_99 => ?_) (fun c_99 => ?_)
        · skip
          refine lv_iload_n hx hb kd_R_weightOf_113 rfl (lv_at hl 3 rfl) ?_
          refine lv_bipush (v := 6) hx hb kd_R_weightOf_114 (by decide) ?_
          refine lv_icmp_lt (tgt := 129) hx hb kd_R_weightOf_116 (by decide) (fun c_116 => ?_) (fun c_116 => ?_)
          · skip
            refine lv_iconst (v := -1) hx hb kd_R_weightOf_129 (by decide) ?_
            exact hx_iretR hx hb hr hlocks (by unfold rw_; rw [if_neg c_9, if_neg c_25, if_neg c_69, if_neg c_99, if_pos c_116]; try rfl) kd_R_weightOf_130
          · skip
            refine lv_iload_n hx hb kd_R_weightOf_119 rfl (lv_at hl 0 rfl) ?_
            refine lv_iconst (v := 1) hx hb kd_R_weightOf_120 (by decide) ?_
            refine lv_icmp_eq (tgt := 131) hx hb kd_R_weightOf_121 (by decide) (fun c_121 => ?_) (fun c_121 => ?_)
            · skip
              refine lv_iload_n hx hb kd_R_weightOf_131 rfl (lv_at hl 0 rfl) ?_
              refine lv_iconst (v := 1) hx hb kd_R_weightOf_132 (by decide) ?_
              refine lv_icmp_ne (tgt := 138) hx hb kd_R_weightOf_133 (by decide) (fun c_133 => ?_) (fun c_133 => ?_)
              · exact absurd c_133 (not_not_intro c_121)
              · skip
                refine lv_iconst (v := 1) hx hb kd_R_weightOf_136 (by decide) ?_
                exact hx_iretR hx hb hr hlocks (by unfold rw_; rw [if_neg c_9, if_neg c_25, if_neg c_69, if_neg c_99, if_neg c_116, if_pos c_121]; try rfl) kd_R_weightOf_137
            · skip
              refine lv_iload_n hx hb kd_R_weightOf_124 rfl (lv_at hl 0 rfl) ?_
              refine lv_iconst (v := 5) hx hb kd_R_weightOf_125 (by decide) ?_
              refine lv_icmp_eq (tgt := 131) hx hb kd_R_weightOf_126 (by decide) (fun c_126 => ?_) (fun c_126 => ?_)
              · skip
                refine lv_iload_n hx hb kd_R_weightOf_131 rfl (lv_at hl 0 rfl) ?_
                refine lv_iconst (v := 1) hx hb kd_R_weightOf_132 (by decide) ?_
                refine lv_icmp_ne (tgt := 138) hx hb kd_R_weightOf_133 (by decide) (fun c_133 => ?_) (fun c_133 => ?_)
                · skip
                  obtain ⟨o, ho, hbo⟩ := hok c_126
                  obtain ⟨z, hz, hcz⟩ := hco o ho
                  refine lv_iconst (v := 0) hx hb kd_R_weightOf_138 (by decide) ?_
                  refine hx_topi (y := nI 0) (rfl) ?_
                  refine lv_istore (lv' := [(4, .int (nI 0)), (3, .int (ki i)), (0, .ref (r 0)), (1, .int (nI i)), (2, .int t)]) hx hb kd_R_weightOf_139 hl (by decide) rfl (fun ls hl => ?_)
                  refine lv_aload_n hx hb kd_R_weightOf_141 rfl (lv_at hl 2 rfl) ?_
                  refine va_get (D := D) (ci := 7) (v := .ref (r 2)) (C := "HostBridgeModel") (T := ct_R) (N := 23) hx hb hts cw_R hown hK hP 0 rfl rfl 4 (by decide) (hts _ km_625) (fun _ h9 => h9) rfl kd_R_weightOf_142 ?_
                  refine lv_aload_n hx hb kd_R_weightOf_145 rfl (lv_at hl 2 rfl) ?_
                  refine va_get (D := D) (ci := 7) (v := .ref (r 8)) (C := "HostBridgeModel") (T := ct_R) (N := 23) hx hb hts cw_R hown hK hP 0 rfl rfl 12 (by decide) (hts _ km_633) (fun _ h9 => h9) rfl kd_R_weightOf_146 ?_
                  refine lv_iload_n hx hb kd_R_weightOf_149 rfl (lv_at hl 3 rfl) ?_
                  refine hx_lald (j := i) hx hb hK hP 8 rfl (rfl) (hi) (by decide) kd_R_weightOf_150 ?_
                  refine hx_topl (y := lN o) (hbo) ?_
                  refine lv_l2i hx hb kd_R_weightOf_151 rfl ?_
                  refine hx_topi (y := nI o) (lN_i o) ?_
                  refine hx_iald (j := o) hx hb hK hP 2 rfl (rfl) (by omega) (by decide) kd_R_weightOf_152 ?_
                  refine hx_topi (y := nI z) (hcz) ?_
                  refine lv_istore (lv' := [(5, .int (nI z)), (4, .int (nI 0)), (3, .int (ki i)), (0, .ref (r 0)), (1, .int (nI i)), (2, .int t)]) hx hb kd_R_weightOf_153 hl (by decide) rfl (fun ls hl => ?_)
                  refine hx_loopR (σ := Nat × Int32) (I := fun x ls => lv_has ls 6 [(0, .ref (r 0)), (2, .int t), (4, .int (nI x.1)), (5, .int x.2)] ∧ x.1 ≤ 16 ∧ (x.2 = -1 ∨ ∃ j : Nat, j < 16 - x.1 ∧ j < rc ∧ x.2 = nI j) ∧ ds_ rp (t - 6) (16 - x.1) x.2 x.1 = ds_ rp (t - 6) 16 (nI z) 0) (μ := fun x => 16 - x.1) ?_ (0, nI z) ⟨lv_sub hl [3, 5, 1, 0] rfl, Nat.zero_le _, Or.inr ⟨z, by dsimp only; have := hln.1; omega, hz, rfl⟩, rfl⟩
                  intro x ls hI ih155
                  obtain ⟨n, k⟩ := x
                  obtain ⟨hl, hn, hk, hd⟩ := hI
                  dsimp only at hl hn hk hd ih155
                  refine lv_iload hx hb kd_R_weightOf_155 (lv_at hl 3 rfl) ?_
                  refine lv_if_lt (tgt := 184) hx hb kd_R_weightOf_157 (by decide) (fun c_157 => ?_) (fun c_157 => ?_)
                  · skip
                    have hk1 : k = -1 := hk.elim id (fun ⟨j, _, _, h9⟩ => absurd c_157 (by rw [h9]; exact nI_pos (by have := hln.1; omega)))
                    refine lv_iload hx hb kd_R_weightOf_184 (lv_at hl 3 rfl) ?_
                    refine lv_if_ge (tgt := 193) hx hb kd_R_weightOf_186 (by decide) (fun c_186 => ?_) (fun c_186 => ?_)
                    · exact absurd c_186 (Int32.not_le.mpr c_157)
                    · skip
                      refine lv_iconst (v := -1) hx hb kd_R_weightOf_189 (by decide) ?_
                      refine lv_goto (tgt := 195) hx hb kd_R_weightOf_190 (by decide) ?_
                      exact hx_iretR hx hb hr hlocks (by unfold rw_; rw [if_neg c_9, if_neg c_25, if_neg c_69, if_neg c_99, if_neg c_116, if_neg c_121, if_pos c_126, hbo, lN_i, nI_clamp (by omega), hcz]; rw [← hd, hk1, ds_m1]) kd_R_weightOf_195
                  · skip
                    obtain ⟨j, hj1, hj2, rfl⟩ := hk.resolve_left (fun h9 => c_157 (by rw [h9]; decide))
                    have hf : 16 - n = (15 - n) + 1 := by omega
                    refine lv_iload hx hb kd_R_weightOf_160 (lv_at hl 3 rfl) ?_
                    refine lv_iload_n hx hb kd_R_weightOf_162 rfl (lv_at hl 1 rfl) ?_
                    refine lv_bipush (v := 6) hx hb kd_R_weightOf_163 (by decide) ?_
                    refine lv_isub hx hb kd_R_weightOf_165 ?_
                    refine lv_icmp_eq (tgt := 184) hx hb kd_R_weightOf_166 (by decide) (fun c_166 => ?_) (fun c_166 => ?_)
                    · skip
                      refine lv_iload hx hb kd_R_weightOf_184 (lv_at hl 3 rfl) ?_
                      refine lv_if_ge (tgt := 193) hx hb kd_R_weightOf_186 (by decide) (fun c_186 => ?_) (fun c_186 => ?_)
                      · skip
                        refine lv_iload hx hb kd_R_weightOf_193 (lv_at hl 2 rfl) ?_
                        exact hx_iretR hx hb hr hlocks (by unfold rw_; rw [if_neg c_9, if_neg c_25, if_neg c_69, if_neg c_99, if_neg c_116, if_neg c_121, if_pos c_126, hbo, lN_i, nI_clamp (by omega), hcz]; rw [← hd, hf]; simp only [ds_]; rw [if_neg (nI_nm1 (by have := hln.1; omega)), if_pos c_166]) kd_R_weightOf_195
                      · exact absurd c_186 (not_not_intro (nI_pos' (by have := hln.1; omega)))
                    · skip
                      refine lv_aload_n hx hb kd_R_weightOf_169 rfl (lv_at hl 0 rfl) ?_
                      refine va_get (D := D) (ci := 7) (v := .ref (r 1)) (C := "HostBridgeModel") (T := ct_R) (N := 23) hx hb hts cw_R hown hK hP 0 rfl rfl 2 (by decide) (hts _ km_623) (fun _ h9 => h9) rfl kd_R_weightOf_170 ?_
                      refine lv_iload hx hb kd_R_weightOf_173 (lv_at hl 3 rfl) ?_
                      refine hx_iald (j := j) hx hb hK hP 1 rfl (rfl) (by have := hln.1; omega) (by decide) kd_R_weightOf_175 ?_
                      refine lv_istore (lv' := [(5, .int (rp j)), (0, .ref (r 0)), (2, .int t), (4, .int (nI n))]) hx hb kd_R_weightOf_176 hl (by decide) rfl (fun ls hl => ?_)
                      refine lv_iinc (v := nI (n + 1)) (lv' := [(4, .int (nI (n + 1))), (5, .int (rp j)), (0, .ref (r 0)), (2, .int t)]) hx hb kd_R_weightOf_178 hl (k := 3) rfl (nI_1 n) (by decide) rfl (fun ls hl => ?_)
                      refine lv_goto (tgt := 155) hx hb kd_R_weightOf_181 (by decide) ?_
                      exact ih155 (n + 1, rp j) _ (by dsimp only; omega) ⟨lv_sub hl [2, 3, 0, 1] rfl, by dsimp only; omega, (hln.2 j hj2).elim Or.inl (fun ⟨q, h1, h2⟩ => Or.inr ⟨q, by dsimp only; omega, by omega, h2⟩), by dsimp only; rw [← hd, hf, show 16 - (n + 1) = 15 - n by omega]; simp only [ds_]; rw [if_neg (nI_nm1 (by have := hln.1; omega)), if_neg c_166, nI_clamp (by have := hln.1; omega)]⟩
                · exact absurd c_133 (c_121)
              · skip
                refine lv_iconst (v := -1) hx hb kd_R_weightOf_129 (by decide) ?_
                exact hx_iretR hx hb hr hlocks (by unfold rw_; rw [if_neg c_9, if_neg c_25, if_neg c_69, if_neg c_99, if_neg c_116, if_neg c_121, if_neg c_126]; try rfl) kd_R_weightOf_130
        · skip
          refine lv_iload_n hx hb kd_R_weightOf_102 rfl (lv_at hl 0 rfl) ?_
          refine lv_iconst (v := 2) hx hb kd_R_weightOf_103 (by decide) ?_
          refine lv_icmp_ne (tgt := 111) hx hb kd_R_weightOf_104 (by decide) (fun c_104 => ?_) (fun c_104 => ?_)
          · skip
            refine lv_iconst (v := -1) hx hb kd_R_weightOf_111 (by decide) ?_
            exact hx_iretR hx hb hr hlocks (by unfold rw_; rw [if_neg c_9, if_neg c_25, if_neg c_69, if_pos c_99, if_neg c_104]; try rfl) kd_R_weightOf_112
          · skip
            refine lv_iconst (v := 0) hx hb kd_R_weightOf_107 (by decide) ?_
            refine lv_goto (tgt := 112) hx hb kd_R_weightOf_108 (by decide) ?_
            exact hx_iretR hx hb hr hlocks (by unfold rw_; rw [if_neg c_9, if_neg c_25, if_neg c_69, if_pos c_99, if_pos c_104]; try rfl) kd_R_weightOf_112
      · skip
        refine lv_iload_n hx hb kd_R_weightOf_72 rfl (lv_at hl 0 rfl) ?_
        refine lv_iconst (v := 2) hx hb kd_R_weightOf_73 (by decide) ?_
        refine lv_icmp_eq (tgt := 82) hx hb kd_R_weightOf_74 (by decide) (fun c_74 => ?_) (fun c_74 => ?_)
        · skip
          refine lv_iconst (v := 2) hx hb kd_R_weightOf_82 (by decide) ?_
          refine lv_goto (tgt := 97) hx hb kd_R_weightOf_83 (by decide) ?_
          exact hx_iretR hx hb hr hlocks (by unfold rw_; rw [if_neg c_9, if_neg c_25, if_pos c_69, if_pos c_74]; try rfl) kd_R_weightOf_97
        · skip
          refine lv_iload_n hx hb kd_R_weightOf_77 rfl (lv_at hl 0 rfl) ?_
          refine lv_iconst (v := 4) hx hb kd_R_weightOf_78 (by decide) ?_
          refine lv_icmp_ne (tgt := 86) hx hb kd_R_weightOf_79 (by decide) (fun c_79 => ?_) (fun c_79 => ?_)
          · skip
            refine lv_iload_n hx hb kd_R_weightOf_86 rfl (lv_at hl 0 rfl) ?_
            refine lv_iconst (v := 5) hx hb kd_R_weightOf_87 (by decide) ?_
            refine lv_icmp_ne (tgt := 96) hx hb kd_R_weightOf_88 (by decide) (fun c_88 => ?_) (fun c_88 => ?_)
            · skip
              refine lv_iconst (v := 0) hx hb kd_R_weightOf_96 (by decide) ?_
              exact hx_iretR hx hb hr hlocks (by unfold rw_; rw [if_neg c_9, if_neg c_25, if_pos c_69, if_neg c_74, if_neg c_79, if_neg c_88]; try rfl) kd_R_weightOf_97
            · skip
              refine lv_bipush (v := 20) hx hb kd_R_weightOf_91 (by decide) ?_
              refine lv_goto (tgt := 97) hx hb kd_R_weightOf_93 (by decide) ?_
              exact hx_iretR hx hb hr hlocks (by unfold rw_; rw [if_neg c_9, if_neg c_25, if_pos c_69, if_neg c_74, if_neg c_79, if_pos c_88]; try rfl) kd_R_weightOf_97
          · skip
            refine lv_iconst (v := 2) hx hb kd_R_weightOf_82 (by decide) ?_
            refine lv_goto (tgt := 97) hx hb kd_R_weightOf_83 (by decide) ?_
            exact hx_iretR hx hb hr hlocks (by unfold rw_; rw [if_neg c_9, if_neg c_25, if_pos c_69, if_neg c_74, if_pos c_79]; try rfl) kd_R_weightOf_97
    · skip
      refine lv_iload_n hx hb kd_R_weightOf_28 rfl (lv_at hl 0 rfl) ?_
      refine lv_if_ne (tgt := 37) hx hb kd_R_weightOf_29 (by decide) (fun c_29 => ?_) (fun c_29 => ?_)
      · skip
        refine lv_iload_n hx hb kd_R_weightOf_37 rfl (lv_at hl 0 rfl) ?_
        refine lv_iconst (v := 1) hx hb kd_R_weightOf_38 (by decide) ?_
        refine lv_icmp_ne (tgt := 46) hx hb kd_R_weightOf_39 (by decide) (fun c_39 => ?_) (fun c_39 => ?_)
        · skip
          refine lv_iload_n hx hb kd_R_weightOf_46 rfl (lv_at hl 0 rfl) ?_
          refine lv_iconst (v := 2) hx hb kd_R_weightOf_47 (by decide) ?_
          refine lv_icmp_ne (tgt := 55) hx hb kd_R_weightOf_48 (by decide) (fun c_48 => ?_) (fun c_48 => ?_)
          · skip
            refine lv_iload_n hx hb kd_R_weightOf_55 rfl (lv_at hl 0 rfl) ?_
            refine lv_iconst (v := 4) hx hb kd_R_weightOf_56 (by decide) ?_
            refine lv_icmp_ne (tgt := 64) hx hb kd_R_weightOf_57 (by decide) (fun c_57 => ?_) (fun c_57 => ?_)
            · skip
              refine lv_bipush (v := 40) hx hb kd_R_weightOf_64 (by decide) ?_
              exact hx_iretR hx hb hr hlocks (by unfold rw_; rw [if_neg c_9, if_pos c_25, if_neg c_29, if_neg c_39, if_neg c_48, if_neg c_57]; try rfl) kd_R_weightOf_66
            · skip
              refine lv_iconst (v := 0) hx hb kd_R_weightOf_60 (by decide) ?_
              refine lv_goto (tgt := 66) hx hb kd_R_weightOf_61 (by decide) ?_
              exact hx_iretR hx hb hr hlocks (by unfold rw_; rw [if_neg c_9, if_pos c_25, if_neg c_29, if_neg c_39, if_neg c_48, if_pos c_57]; try rfl) kd_R_weightOf_66
          · skip
            refine lv_iconst (v := 3) hx hb kd_R_weightOf_51 (by decide) ?_
            refine lv_goto (tgt := 66) hx hb kd_R_weightOf_52 (by decide) ?_
            exact hx_iretR hx hb hr hlocks (by unfold rw_; rw [if_neg c_9, if_pos c_25, if_neg c_29, if_neg c_39, if_pos c_48]; try rfl) kd_R_weightOf_66
        · skip
          refine lv_iconst (v := 2) hx hb kd_R_weightOf_42 (by decide) ?_
          refine lv_goto (tgt := 66) hx hb kd_R_weightOf_43 (by decide) ?_
          exact hx_iretR hx hb hr hlocks (by unfold rw_; rw [if_neg c_9, if_pos c_25, if_neg c_29, if_pos c_39]; try rfl) kd_R_weightOf_66
      · skip
        refine lv_bipush (v := 41) hx hb kd_R_weightOf_32 (by decide) ?_
        refine lv_goto (tgt := 66) hx hb kd_R_weightOf_34 (by decide) ?_
        exact hx_iretR hx hb hr hlocks (by unfold rw_; rw [if_neg c_9, if_pos c_25, if_pos c_29]; try rfl) kd_R_weightOf_66
  · skip
    refine lv_aload_n hx hb kd_R_weightOf_12 rfl (lv_at hl 1 rfl) ?_
    refine va_get (D := D) (ci := 7) (v := .ref (r 8)) (C := "HostBridgeModel") (T := ct_R) (N := 23) hx hb hts cw_R hown hK hP 0 rfl rfl 12 (by decide) (hts _ km_633) (fun _ h9 => h9) rfl kd_R_weightOf_13 ?_
    refine lv_iload_n hx hb kd_R_weightOf_16 rfl (lv_at hl 2 rfl) ?_
    refine hx_lald (j := i) hx hb hK hP 8 rfl (rfl) (hi) (by decide) kd_R_weightOf_17 ?_
    refine lv_iload_n hx hb kd_R_weightOf_18 rfl (lv_at hl 3 rfl) ?_
    refine hx_callRi (va_runS (As := [.long (rb i), .int t]) (rest := []) ⟨hx, hb, hml, hown, hts⟩ (mr_weightOfNumber (rb i) t) (va_cwS 2 hts (goodIn_sub (hx_m4 km_735 km_736 km_8 km_737) (by decide +kernel)) rfl rfl rfl (by decide +kernel) ⟨Nat.le_of_ble_eq_true rfl, Nat.le_of_ble_eq_true rfl⟩) (pr_S (hC.S hS) hP [] rfl) rfl rfl hl.1 rfl (lv_room (Nat.le_of_ble_eq_true rfl)) kd_R_weightOf_19 ⟨Nat.le_of_ble_eq_true rfl, Nat.le_of_ble_eq_true rfl⟩) ?_
    exact hx_iretR hx hb hr hlocks (by unfold rw_; rw [if_pos c_9]; try rfl) kd_R_weightOf_22

/-- how far c is from the object's class, 99 when it isn't in the line -/
def fa_ (rp rk : Nat → Int32) (o : Nat) (c : Int32) : Int32 := if ds_ rp c 16 (rk o) 0 = -1 then 99 else ds_ rp c 16 (rk o) 0

set_option maxHeartbeats 4000000 in
set_option maxRecDepth 100000 in
theorem mr_far {l : Launch} {D : va_G} {cI cL cZ : ClassId} {tb : Nat} (r : Nat → Nat) (rc ro rm ra rl rw : Nat) (th : Int32) (gv : Int64) (rp rk ow rn ct rt ki aq cd g1 g2 g3 : Nat → Int32) (rb gw an : Nat → Int64) (o : Nat) (c0 : Int32) (ho : o < ro) (hln : ln_ok rc rp) (hno : ro ≤ 64) (hco : ∀ j, j < ro → ∃ q : Nat, q < rc ∧ rk j = nI q) : Met l ky_R_far kw_R_far { frames := 0, cells := 0, slots := 0, locals := 0 } (pr_P D cI cL cZ tb [((r 0), .inr (7, [.int th, .int (nI rc), .ref (r 1), .int (nI ro), .ref (r 2), .int (nI rm), .ref (r 3), .ref (r 4), .ref (r 5), .ref (r 6), .int (nI ra), .ref (r 7), .ref (r 8), .ref (r 9), .ref (r 10), .int (nI rl), .ref (r 11), .ref (r 12), .ref (r 13), .ref (r 14), .int (nI rw), .ref (r 15), .long gv])), ((r 1), .inl (cI, 16, .inl rp)), ((r 2), .inl (cI, 64, .inl rk)), ((r 3), .inl (cI, 64, .inl ow)), ((r 4), .inl (cI, 64, .inl rn)), ((r 5), .inl (cI, 64, .inl ct)), ((r 6), .inl (cI, 256, .inl rt)), ((r 7), .inl (cI, 4, .inl ki)), ((r 8), .inl (cL, 4, .inr (.inl rb))), ((r 9), .inl (cI, 4, .inl aq)), ((r 10), .inl (cZ, 64, .inl cd)), ((r 11), .inl (cI, 64, .inl g1)), ((r 12), .inl (cI, 64, .inl g2)), ((r 13), .inl (cI, 64, .inl g3)), ((r 14), .inl (cL, 256, .inr (.inl gw))), ((r 15), .inl (cL, 64, .inr (.inl an)))] [.ref (r 0), .int (nI o), .int c0]) (hx_QR (some (.int (fa_ rp rk o c0)))) 0 0 (fun _ => False) := by
  refine Met.ofW (cc := kc_R_far) (maxL := 5) (ret := (some .int)) (by decide) rfl ?_
  intro p e s m args below meth c s₁ B hml hv
  obtain ⟨rfl, hC, hP⟩ := hv
  have hx := B.exec
  have hb := B.bytes
  have hr := B.returns
  have hlocks := B.notSynchronized
  have hown : s.vm.findClass "HostBridgeModel" = some m.cls := findClass_of_methodNamed B.named
  have hS : va_S (fun _ => False) s.heap s.heap [] := va_S.rf
  have hK := hC.K
  have hts := hC.ts [.ref (r 0), .int (nI o), .int c0].toArray
  have hl := lv_entry ([.ref (r 0), .int (nI o), .int c0]) (n := 5) (Nat.le_of_ble_eq_true rfl)
  rw [lg_entry_eq]
  generalize (lg_sl ([.ref (r 0), .int (nI o), .int c0]) ++ List.replicate (5 - (lg_sl ([.ref (r 0), .int (nI o), .int c0])).length) Slot.unset).toArray = ls at hl ⊢
  have hl : lv_has ls 5 [(0, .ref (r 0)), (1, .int (nI o)), (2, .int c0)] := hl
  obtain ⟨z, hz, hcz⟩ := hco o ho
  refine lv_iconst (v := 0) hx hb kd_R_far_0 (by decide) ?_
  refine hx_topi (y := nI 0) (rfl) ?_
  refine lv_istore_n (lv' := [(3, .int (nI 0)), (0, .ref (r 0)), (1, .int (nI o)), (2, .int c0)]) hx hb kd_R_far_1 rfl hl (by decide) rfl (fun ls hl => ?_)
  refine lv_aload_n hx hb kd_R_far_2 rfl (lv_at hl 1 rfl) ?_
  refine va_get (D := D) (ci := 7) (v := .ref (r 2)) (C := "HostBridgeModel") (T := ct_R) (N := 23) hx hb hts cw_R hown hK hP 0 rfl rfl 4 (by decide) (hts _ km_625) (fun _ h9 => h9) rfl kd_R_far_3 ?_
  refine lv_iload_n hx hb kd_R_far_6 rfl (lv_at hl 2 rfl) ?_
  refine hx_iald (j := o) hx hb hK hP 2 rfl (rfl) (by omega) (by decide) kd_R_far_7 ?_
  refine hx_topi (y := nI z) (hcz) ?_
  refine lv_istore (lv' := [(4, .int (nI z)), (3, .int (nI 0)), (0, .ref (r 0)), (1, .int (nI o)), (2, .int c0)]) hx hb kd_R_far_8 hl (by decide) rfl (fun ls hl => ?_)
  refine hx_loopR (σ := Nat × Int32) (I := fun x ls => lv_has ls 5 [(0, .ref (r 0)), (2, .int c0), (3, .int (nI x.1)), (4, .int x.2)] ∧ x.1 ≤ 16 ∧ (x.2 = -1 ∨ ∃ j : Nat, j < 16 - x.1 ∧ j < rc ∧ x.2 = nI j) ∧ ds_ rp c0 (16 - x.1) x.2 x.1 = ds_ rp c0 16 (nI z) 0) (μ := fun x => 16 - x.1) ?_ (0, nI z) ⟨lv_sub hl [2, 4, 1, 0] rfl, Nat.zero_le _, Or.inr ⟨z, by dsimp only; have := hln.1; omega, hz, rfl⟩, rfl⟩
  intro x ls hI ih10
  obtain ⟨n, k⟩ := x
  obtain ⟨hl, hn, hk, hd⟩ := hI
  dsimp only at hl hn hk hd ih10
  refine lv_iload hx hb kd_R_far_10 (lv_at hl 3 rfl) ?_
  refine lv_if_lt (tgt := 36) hx hb kd_R_far_12 (by decide) (fun c_12 => ?_) (fun c_12 => ?_)
  · skip
    have hk1 : k = -1 := hk.elim id (fun ⟨j, _, _, h9⟩ => absurd c_12 (by rw [h9]; exact nI_pos (by have := hln.1; omega)))
    refine lv_iload hx hb kd_R_far_36 (lv_at hl 3 rfl) ?_
    refine lv_if_ge (tgt := 46) hx hb kd_R_far_38 (by decide) (fun c_38 => ?_) (fun c_38 => ?_)
    · exact absurd c_38 (Int32.not_le.mpr c_12)
    · skip
      refine lv_bipush (v := 99) hx hb kd_R_far_41 (by decide) ?_
      refine lv_goto (tgt := 47) hx hb kd_R_far_43 (by decide) ?_
      exact hx_iretR hx hb hr hlocks (by rw [fa_, hcz, ← hd, hk1, ds_m1, if_pos rfl]) kd_R_far_47
  · skip
    obtain ⟨j, hj1, hj2, rfl⟩ := hk.resolve_left (fun h9 => c_12 (by rw [h9]; decide))
    have hf : 16 - n = (15 - n) + 1 := by omega
    refine lv_iload hx hb kd_R_far_15 (lv_at hl 3 rfl) ?_
    refine lv_iload_n hx hb kd_R_far_17 rfl (lv_at hl 1 rfl) ?_
    refine lv_icmp_eq (tgt := 36) hx hb kd_R_far_18 (by decide) (fun c_18 => ?_) (fun c_18 => ?_)
    · skip
      refine lv_iload hx hb kd_R_far_36 (lv_at hl 3 rfl) ?_
      refine lv_if_ge (tgt := 46) hx hb kd_R_far_38 (by decide) (fun c_38 => ?_) (fun c_38 => ?_)
      · skip
        refine lv_iload_n hx hb kd_R_far_46 rfl (lv_at hl 2 rfl) ?_
        exact hx_iretR hx hb hr hlocks (by
            have h9 : ds_ rp c0 16 (rk o) 0 = nI n := by rw [hcz, ← hd, hf]; simp only [ds_]; rw [if_neg (nI_nm1 (by have := hln.1; omega)), if_pos c_18]
            rw [fa_, h9, if_neg (nI_nm1 (by omega))]) kd_R_far_47
      · exact absurd c_38 (not_not_intro (nI_pos' (by have := hln.1; omega)))
    · skip
      refine lv_aload_n hx hb kd_R_far_21 rfl (lv_at hl 0 rfl) ?_
      refine va_get (D := D) (ci := 7) (v := .ref (r 1)) (C := "HostBridgeModel") (T := ct_R) (N := 23) hx hb hts cw_R hown hK hP 0 rfl rfl 2 (by decide) (hts _ km_623) (fun _ h9 => h9) rfl kd_R_far_22 ?_
      refine lv_iload hx hb kd_R_far_25 (lv_at hl 3 rfl) ?_
      refine hx_iald (j := j) hx hb hK hP 1 rfl (rfl) (by have := hln.1; omega) (by decide) kd_R_far_27 ?_
      refine lv_istore (lv' := [(4, .int (rp j)), (0, .ref (r 0)), (2, .int c0), (3, .int (nI n))]) hx hb kd_R_far_28 hl (by decide) rfl (fun ls hl => ?_)
      refine lv_iinc (v := nI (n + 1)) (lv' := [(3, .int (nI (n + 1))), (4, .int (rp j)), (0, .ref (r 0)), (2, .int c0)]) hx hb kd_R_far_30 hl (k := 3) rfl (nI_1 n) (by decide) rfl (fun ls hl => ?_)
      refine lv_goto (tgt := 10) hx hb kd_R_far_33 (by decide) ?_
      exact ih10 (n + 1, rp j) _ (by dsimp only; omega) ⟨lv_sub hl [2, 3, 0, 1] rfl, by dsimp only; omega, (hln.2 j hj2).elim Or.inl (fun ⟨q, h1, h2⟩ => Or.inr ⟨q, by dsimp only; omega, by omega, h2⟩), by dsimp only; rw [← hd, hf, show 16 - (n + 1) = 15 - n by omega]; simp only [ds_]; rw [if_neg (nI_nm1 (by have := hln.1; omega)), if_neg c_18, nI_clamp (by have := hln.1; omega)]⟩

/-- the arguments fit method m -/
def fr_ (rp rk ki : Nat → Int32) (rb : Nat → Int64) (ct rt : Nat → Int32) (ra y : Nat) : Bool := decide (ct y = nI ra) && al_ (fun i => !decide (rw_ rp rk ki rb i (rt (4 * y + i)) < 0)) ra

set_option maxHeartbeats 4000000 in
set_option maxRecDepth 100000 in
theorem mr_fits {l : Launch} {D : va_G} {cI cL cZ : ClassId} {tb : Nat} (r : Nat → Nat) (rc ro rm ra rl rw : Nat) (th : Int32) (gv : Int64) (rp rk ow rn ct rt ki aq cd g1 g2 g3 : Nat → Int32) (rb gw an : Nat → Int64) (y : Nat) (hm : y < 64) (hra : ra ≤ 4) (hok : ∀ i, i < ra → ki i = 5 → ∃ o : Nat, o < ro ∧ rb i = lN o) (hln : ln_ok rc rp) (hno : ro ≤ 64) (hco : ∀ j, j < ro → ∃ q : Nat, q < rc ∧ rk j = nI q) : Met l ky_R_fits kw_R_fits { frames := 3, cells := 0, slots := 0, locals := 76 } (pr_P D cI cL cZ tb [((r 0), .inr (7, [.int th, .int (nI rc), .ref (r 1), .int (nI ro), .ref (r 2), .int (nI rm), .ref (r 3), .ref (r 4), .ref (r 5), .ref (r 6), .int (nI ra), .ref (r 7), .ref (r 8), .ref (r 9), .ref (r 10), .int (nI rl), .ref (r 11), .ref (r 12), .ref (r 13), .ref (r 14), .int (nI rw), .ref (r 15), .long gv])), ((r 1), .inl (cI, 16, .inl rp)), ((r 2), .inl (cI, 64, .inl rk)), ((r 3), .inl (cI, 64, .inl ow)), ((r 4), .inl (cI, 64, .inl rn)), ((r 5), .inl (cI, 64, .inl ct)), ((r 6), .inl (cI, 256, .inl rt)), ((r 7), .inl (cI, 4, .inl ki)), ((r 8), .inl (cL, 4, .inr (.inl rb))), ((r 9), .inl (cI, 4, .inl aq)), ((r 10), .inl (cZ, 64, .inl cd)), ((r 11), .inl (cI, 64, .inl g1)), ((r 12), .inl (cI, 64, .inl g2)), ((r 13), .inl (cI, 64, .inl g3)), ((r 14), .inl (cL, 256, .inr (.inl gw))), ((r 15), .inl (cL, 64, .inr (.inl an)))] [.ref (r 0), .int (nI y)]) (hx_QR (some (.int (b2_ (fr_ rp rk ki rb ct rt ra y))))) 0 0 (fun _ => False) := by
  refine Met.ofW (cc := kc_R_fits) (maxL := 4) (ret := (some .boolean)) (by decide) rfl ?_
  intro p e s m args below meth c s₁ B hml hv
  obtain ⟨rfl, hC, hP⟩ := hv
  have hx := B.exec
  have hb := B.bytes
  have hr := B.returns
  have hlocks := B.notSynchronized
  have hown : s.vm.findClass "HostBridgeModel" = some m.cls := findClass_of_methodNamed B.named
  have hS : va_S (fun _ => False) s.heap s.heap [] := va_S.rf
  have hK := hC.K
  have hts := hC.ts [.ref (r 0), .int (nI y)].toArray
  have hl := lv_entry ([.ref (r 0), .int (nI y)]) (n := 4) (Nat.le_of_ble_eq_true rfl)
  rw [lg_entry_eq]
  generalize (lg_sl ([.ref (r 0), .int (nI y)]) ++ List.replicate (4 - (lg_sl ([.ref (r 0), .int (nI y)])).length) Slot.unset).toArray = ls at hl ⊢
  have hl : lv_has ls 4 [(0, .ref (r 0)), (1, .int (nI y))] := hl
  refine hx_cut (pc2 := 18) (ls2 := ls) (rest2 := []) (P := fun x => x = b2_ (decide (ct y = nI ra))) ?_ (fun hj1 => ?_)
  · intro x2 e3
    subst e3
    refine lv_istore_n (lv' := [(2, .int (b2_ (decide (ct y = nI ra)))), (0, .ref (r 0)), (1, .int (nI y))]) hx hb kd_R_fits_18 rfl hl (by decide) rfl (fun ls hl => ?_)
    refine lv_iconst (v := 0) hx hb kd_R_fits_19 (by decide) ?_
    refine hx_topi (y := nI 0) (rfl) ?_
    refine lv_istore_n (lv' := [(3, .int (nI 0)), (2, .int (b2_ (decide (ct y = nI ra)))), (0, .ref (r 0)), (1, .int (nI y))]) hx hb kd_R_fits_20 rfl hl (by decide) rfl (fun ls hl => ?_)
    refine hx_loopR (σ := Nat × Bool) (I := fun x ls => lv_has ls 4 [(0, .ref (r 0)), (1, .int (nI y)), (2, .int (b2_ x.2)), (3, .int (nI x.1))] ∧ x.1 ≤ ra ∧ x.2 = (decide (ct y = nI ra) && al_ (fun i => !decide (rw_ rp rk ki rb i (rt (4 * y + i)) < 0)) x.1)) (μ := fun x => ra - x.1) ?_ (0, decide (ct y = nI ra)) ⟨lv_sub hl [2, 3, 1, 0] rfl, Nat.zero_le _, by dsimp only; rw [al_0, Bool.and_true]⟩
    intro x ls hI ih21
    obtain ⟨i, g⟩ := x
    obtain ⟨hl, hi, hg⟩ := hI
    dsimp only at hl hi hg ih21
    refine lv_iload_n hx hb kd_R_fits_21 rfl (lv_at hl 3 rfl) ?_
    refine lv_aload_n hx hb kd_R_fits_22 rfl (lv_at hl 0 rfl) ?_
    refine va_get (D := D) (ci := 7) (v := .int (nI ra)) (C := "HostBridgeModel") (T := ct_R) (N := 23) hx hb hts cw_R hown hK hP 0 rfl rfl 10 (by decide) (hts _ km_631) (fun _ h9 => h9) rfl kd_R_fits_23 ?_
    refine lv_icmp_ge (tgt := 63) hx hb kd_R_fits_26 (by decide) (fun c_26 => ?_) (fun c_26 => ?_)
    · skip
      have hin : i = ra := by rw [nI_leI (by omega) (by omega)] at c_26; omega
      refine lv_iload_n hx hb kd_R_fits_63 rfl (lv_at hl 2 rfl) ?_
      exact hx_zretR hx hb hr hlocks (by rw [hg, hin, fr_]) kd_R_fits_64
    · skip
      have hin : i < ra := by rw [nI_leI (by omega) (by omega)] at c_26; omega
      refine lv_iload_n hx hb kd_R_fits_29 rfl (lv_at hl 2 rfl) ?_
      refine lv_if_eq (tgt := 63) hx hb kd_R_fits_30 (by decide) (fun c_30 => ?_) (fun c_30 => ?_)
      · skip
        have hgv := b2_f c_30
        refine lv_iload_n hx hb kd_R_fits_63 rfl (lv_at hl 2 rfl) ?_
        exact hx_zretR hx hb hr hlocks (by
            have h9 : decide (ct y = nI ra) = false ∨ al_ (fun i => !decide (rw_ rp rk ki rb i (rt (4 * y + i)) < 0)) i = false := Bool.and_eq_false_iff.mp (hg.symm.trans hgv)
            rw [hgv, fr_]
            rcases h9 with h9 | h9
            · rw [h9]; rfl
            · rw [al_no hi h9, Bool.and_false]) kd_R_fits_64
      · skip
        have hgv := b2_t c_30
        refine hx_cut (pc2 := 56) (ls2 := ls) (rest2 := []) (P := fun x => x = b2_ (decide (ct y = nI ra) && al_ (fun i => !decide (rw_ rp rk ki rb i (rt (4 * y + i)) < 0)) (i + 1))) ?_ (fun hj4 => ?_)
        · intro x5 e6
          subst e6
          refine lv_istore_n (lv' := [(2, .int (b2_ (decide (ct y = nI ra) && al_ (fun i => !decide (rw_ rp rk ki rb i (rt (4 * y + i)) < 0)) (i + 1)))), (0, .ref (r 0)), (1, .int (nI y)), (3, .int (nI i))]) hx hb kd_R_fits_56 rfl hl (by decide) rfl (fun ls hl => ?_)
          refine lv_iinc (v := nI (i + 1)) (lv' := [(3, .int (nI (i + 1))), (2, .int (b2_ (decide (ct y = nI ra) && al_ (fun i => !decide (rw_ rp rk ki rb i (rt (4 * y + i)) < 0)) (i + 1)))), (0, .ref (r 0)), (1, .int (nI y))]) hx hb kd_R_fits_57 hl (k := 3) rfl (nI_1 i) (by decide) rfl (fun ls hl => ?_)
          refine lv_goto (tgt := 21) hx hb kd_R_fits_60 (by decide) ?_
          exact ih21 (i + 1, decide (ct y = nI ra) && al_ (fun i => !decide (rw_ rp rk ki rb i (rt (4 * y + i)) < 0)) (i + 1)) _ (by dsimp only; omega) ⟨lv_sub hl [2, 3, 1, 0] rfl, by dsimp only; omega, rfl⟩
        · skip
          refine lv_aload_n hx hb kd_R_fits_33 rfl (lv_at hl 0 rfl) ?_
          refine lv_iload_n hx hb kd_R_fits_34 rfl (lv_at hl 3 rfl) ?_
          refine lv_aload_n hx hb kd_R_fits_35 rfl (lv_at hl 0 rfl) ?_
          refine va_get (D := D) (ci := 7) (v := .ref (r 6)) (C := "HostBridgeModel") (T := ct_R) (N := 23) hx hb hts cw_R hown hK hP 0 rfl rfl 9 (by decide) (hts _ km_630) (fun _ h9 => h9) rfl kd_R_fits_36 ?_
          refine lv_iconst (v := 4) hx hb kd_R_fits_39 (by decide) ?_
          refine lv_iload_n hx hb kd_R_fits_40 rfl (lv_at hl 1 rfl) ?_
          refine lv_imul hx hb kd_R_fits_41 ?_
          refine hx_topi (y := nI (4 * y)) (by rw [show (4 : Int32) = nI 4 from rfl, pk_mul]) ?_
          refine lv_iload_n hx hb kd_R_fits_42 rfl (lv_at hl 3 rfl) ?_
          refine lv_iadd hx hb kd_R_fits_43 ?_
          refine hx_topi (y := nI (4 * y + i)) (nI_add _ _) ?_
          refine hx_iald (j := 4 * y + i) hx hb hK hP 6 rfl (rfl) (by omega) (by decide) kd_R_fits_44 ?_
          refine hx_callRi (va_runV (As := [.int (nI i), .int (rt (4 * y + i))]) (rest := []) ⟨hx, hb, hml, hown, hts⟩ (mr_weightOf r rc ro rm ra rl rw th gv rp rk ow rn ct rt ki aq cd g1 g2 g3 rb gw an i (rt (4 * y + i)) (by omega) (hok i (by omega)) hln hno hco) (cwV 2 hts (goodIn_sub (hx_m5 km_731 km_733 kv_R_weightOf km_8 km_734) (by decide +kernel)) rfl rfl rfl (by decide +kernel) ⟨Nat.le_of_ble_eq_true rfl, Nat.le_of_ble_eq_true rfl⟩) (pr_V (hC.S hS) hP [0, 1, 2, 3, 4, 5, 6, 7, 8, 9, 10, 11, 12, 13, 14, 15] rfl (ci := 7) rfl (q0 := 0) rfl) rfl rfl hl.1 rfl (lv_room (Nat.le_of_ble_eq_true rfl)) kd_R_fits_45 ⟨Nat.le_of_ble_eq_true rfl, Nat.le_of_ble_eq_true rfl⟩) ?_
          refine lv_if_lt (tgt := 55) hx hb kd_R_fits_48 (by decide) (fun c_48 => ?_) (fun c_48 => ?_)
          · skip
            refine lv_iconst (v := 0) hx hb kd_R_fits_55 (by decide) ?_
            exact hj4 _ (by rw [al_s, ← Bool.and_assoc, ← hg, hgv]; simp [b2_, c_48])
          · skip
            refine lv_iconst (v := 1) hx hb kd_R_fits_51 (by decide) ?_
            refine lv_goto (tgt := 56) hx hb kd_R_fits_52 (by decide) ?_
            exact hj4 _ (by rw [al_s, ← Bool.and_assoc, ← hg, hgv]; simp [b2_, c_48])
  · skip
    refine lv_aload_n hx hb kd_R_fits_0 rfl (lv_at hl 0 rfl) ?_
    refine va_get (D := D) (ci := 7) (v := .ref (r 5)) (C := "HostBridgeModel") (T := ct_R) (N := 23) hx hb hts cw_R hown hK hP 0 rfl rfl 8 (by decide) (hts _ km_629) (fun _ h9 => h9) rfl kd_R_fits_1 ?_
    refine lv_iload_n hx hb kd_R_fits_4 rfl (lv_at hl 1 rfl) ?_
    refine hx_iald (j := y) hx hb hK hP 5 rfl (rfl) (by omega) (by decide) kd_R_fits_5 ?_
    refine lv_aload_n hx hb kd_R_fits_6 rfl (lv_at hl 0 rfl) ?_
    refine va_get (D := D) (ci := 7) (v := .int (nI ra)) (C := "HostBridgeModel") (T := ct_R) (N := 23) hx hb hts cw_R hown hK hP 0 rfl rfl 10 (by decide) (hts _ km_631) (fun _ h9 => h9) rfl kd_R_fits_7 ?_
    refine lv_icmp_ne (tgt := 17) hx hb kd_R_fits_10 (by decide) (fun c_10 => ?_) (fun c_10 => ?_)
    · skip
      refine lv_iconst (v := 0) hx hb kd_R_fits_17 (by decide) ?_
      exact hj1 _ (by simp [b2_, c_10])
    · skip
      refine lv_iconst (v := 1) hx hb kd_R_fits_13 (by decide) ?_
      refine lv_goto (tgt := 18) hx hb kd_R_fits_14 (by decide) ?_
      exact hj1 _ (by simp [b2_, c_10])
