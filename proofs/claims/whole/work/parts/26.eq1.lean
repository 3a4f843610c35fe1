/-! THE CLASS AND THE REFERENCE SAY THE SAME: numbers, values, weights, what is written down -/
theorem wd_eq : ∀ (k m : Nat), wd_ k m = if m % 2 ^ k = 0 then some (m / 2 ^ k) else none
  | 0, m => by simp [wd_, Nat.mod_one]
  | k + 1, m => by
    have h : 2 ^ (k + 1) = 2 * 2 ^ k := by rw [Nat.pow_succ, Nat.mul_comm]
    have h1 : m % 2 ^ (k + 1) = m % 2 + 2 * (m / 2 % 2 ^ k) := by rw [h, Nat.mod_mul]
    have h2 : m / 2 ^ (k + 1) = m / 2 / 2 ^ k := by rw [h, Nat.div_div_eq_div_mul]
    simp only [wd_]
    rw [wd_eq k (m / 2), h1, h2]
    by_cases h3 : m % 2 = 0
    · rw [if_pos h3]
      by_cases h4 : m / 2 % 2 ^ k = 0
      · rw [if_pos h4, if_pos (by omega)]
      · rw [if_neg h4, if_neg (by omega)]
    · rw [if_neg h3, if_neg (by omega)]
theorem wz_big {k m : Nat} (hk : 53 ≤ k) (hm : m < 9007199254740992) (h0 : 0 < m) : wd_ k m = none := by
  have h : 2 ^ 53 ≤ 2 ^ k := Nat.pow_le_pow_right (by decide) hk
  rw [wd_eq, Nat.mod_eq_of_lt (Nat.lt_of_lt_of_le hm h), if_neg (by omega)]
theorem pw_dvd {k F : Nat} (hk : k ≤ 52) : (F + 4503599627370496) % 2 ^ k = F % 2 ^ k := by
  have h : (4503599627370496 : Nat) = 2 ^ (52 - k) * 2 ^ k := by rw [← Nat.pow_add, show 52 - k + k = 52 by omega]
  rw [h, Nat.add_mul_mod_self_right]
theorem nu_zn {n : Nat} (h : n < 2 ^ 64) : nu_zero (lN n) = decide (n % 9223372036854775808 = 0) := by
  have h1 : nu_abs (lN n) = lN (n % 9223372036854775808) := by rw [nu_abs]; exact wb_mask (k := 63) h (by decide)
  rw [nu_zero, h1]
  by_cases h2 : n % 9223372036854775808 = 0
  · rw [if_pos ((lc_ne (by omega)).mpr h2), decide_eq_true h2]
  · rw [if_neg (fun h3 => h2 ((lc_ne (by omega)).mp h3)), decide_eq_false h2]
theorem nu_pn {n : Nat} (h : n < 2 ^ 64) : nu_pow (lN n) = nI (n / 4503599627370496 % 2048) - nI 1023 := by
  rw [nu_pow, wb_exp h]; rfl
theorem nu_fn {n : Nat} (h : n < 2 ^ 64) : nu_frac (lN n) = lN (n % 4503599627370496) := wb_frac h
theorem or_52 {F : Nat} (h : F < 4503599627370496) : lN F ||| 4503599627370496 = lN (F + 4503599627370496) := by
  have := g_or' (k := 52) (p := 4503599627370496) (a := F) (b := 1) rfl h (by omega)
  rw [Nat.one_mul] at this
  exact this
/-- what the class finds of a number, held against what the reference finds -/
theorem nu_sum {n : Nat} (hn : n < 2 ^ 64) : (nu_long (lN n) = false ∧ wz_ n = none) ∨ ∃ m : Nat, m ≤ 9007199254740992 ∧ wz_ n = some m ∧ nu_long (lN n) = true ∧ nu_whole (lN n) = wq_ n := by
  obtain ⟨E, hE⟩ : ∃ E, n / 4503599627370496 % 2048 = E := ⟨_, rfl⟩
  obtain ⟨F, hF⟩ : ∃ F, n % 4503599627370496 = F := ⟨_, rfl⟩
  have hE2 : E < 2048 := by omega
  have hF2 : F < 4503599627370496 := by omega
  have hz : nu_zero (lN n) = decide (E = 0 ∧ F = 0) := by
    rw [nu_zn hn]
    by_cases h : E = 0 ∧ F = 0
    · rw [decide_eq_true h, decide_eq_true (by omega)]
    · rw [decide_eq_false h, decide_eq_false (by omega)]
  have hp : nu_pow (lN n) = nI E - nI 1023 := by rw [nu_pn hn, hE]
  have hf : nu_frac (lN n) = lN F := by rw [nu_fn hn, hF]
  by_cases h0 : E = 0 ∧ F = 0
  · right
    rw [decide_eq_true h0] at hz
    refine ⟨0, by decide, by rw [wz_, hE, hF, if_pos h0.1, if_pos h0.2], by rw [nu_long, hz, if_neg (by decide)], ?_⟩
    rw [nu_whole, hz, if_neg (by decide), wq_, wz_, hE, hF, if_pos h0.1, if_pos h0.2]
    dsimp only
    split <;> rfl
  rw [decide_eq_false h0] at hz
  by_cases h1 : E < 1023
  · left
    refine ⟨by rw [nu_long, hz, if_pos (by decide), hp, if_pos (pk_sneg (by decide) h1)], ?_⟩
    rw [wz_, hE, hF]
    by_cases h2 : E = 0
    · rw [if_pos h2, if_neg (fun h3 => h0 ⟨h2, h3⟩)]
    · rw [if_neg h2, wz_big (by omega) (by omega) (by omega)]; rfl
  have hp2 : nu_pow (lN n) = nI (E - 1023) := by rw [hp, pk_sub (by omega)]
  have hE0 : ¬ E = 0 := by omega
  have hpn : ¬ nu_pow (lN n) < 0 := by rw [hp2]; exact nI_pos (by omega)
  by_cases h3 : E ≤ 1075
  · -- the digits ahead of the point
    obtain ⟨k, hk⟩ : ∃ k, 1075 - E = k := ⟨_, rfl⟩
    have hk52 : k ≤ 52 := by omega
    have hl53 : nu_pow (lN n) ≤ 53 := by rw [hp2]; exact (nI_leI (b := 53) (by omega) (by decide)).mpr (by omega)
    have hn53 : ¬ nu_pow (lN n) = 53 := by rw [hp2]; exact fun h => absurd ((nI_eq (b := 53) (by omega) (by decide)).mp h) (by omega)
    have hsub : (52 - nu_pow (lN n) : Int32) = nI k := by
      rw [hp2]
      show nI 52 - nI (E - 1023) = nI k
      rw [pk_sub (by omega), show 52 - (E - 1023) = k by omega]
    have hlow : nu_frac (lN n) &&& ((1 <<< ((52 - nu_pow (lN n) : Int32).toInt64 &&& 63)) - 1) = lN (F % 2 ^ k) := by
      rw [hsub, hf]
      have e1 : (1 : Int64) <<< ((nI k).toInt64 &&& 63) = lN (2 ^ k) := by
        have := wb_shl 1 (k := k) (by omega)
        rw [Nat.one_mul] at this
        exact this
      have e2 : lN (2 ^ k) - 1 = lN (2 ^ k - 1) := lN_sub (b := 1) (Nat.one_le_two_pow)
      rw [e1, e2, wb_mask (by omega) (by omega)]
    have hFk : F % 2 ^ k < 2 ^ 63 := Nat.lt_of_le_of_lt (Nat.mod_le _ _) (by omega)
    have hlong : nu_long (lN n) = decide (F % 2 ^ k = 0) := by
      rw [nu_long, hz, if_pos (by decide), if_neg hpn, if_pos hl53, if_neg hn53, hlow]
      by_cases h4 : F % 2 ^ k = 0
      · rw [if_pos ((lc_ne hFk).mpr h4), decide_eq_true h4]
      · rw [if_neg (fun h5 => h4 ((lc_ne hFk).mp h5)), decide_eq_false h4]
    have hwz : wz_ n = if F % 2 ^ k = 0 then some ((F + 4503599627370496) / 2 ^ k) else none := by
      rw [wz_, hE, hF, if_neg hE0, hk, wd_eq, pw_dvd hk52, show E - 1075 = 0 by omega]
      by_cases h4 : F % 2 ^ k = 0
      · rw [if_pos h4]; rfl
      · rw [if_neg h4]; rfl
    by_cases h4 : F % 2 ^ k = 0
    · right
      rw [if_pos h4] at hwz
      refine ⟨(F + 4503599627370496) / 2 ^ k, Nat.le_trans (Nat.div_le_self _ _) (by omega), hwz, by rw [hlong, decide_eq_true h4], ?_⟩
      have hl52 : nu_pow (lN n) ≤ 52 := by rw [hp2]; exact (nI_leI (b := 52) (by omega) (by decide)).mpr (by omega)
      have hsz : (((nu_frac (lN n)) ||| 4503599627370496).toUInt64 >>> ((52 - nu_pow (lN n) : Int32).toInt64.toUInt64 &&& Int64.toUInt64 63)).toInt64 = lN ((F + 4503599627370496) / 2 ^ k) := by
        rw [hsub, hf, or_52 hF2, wb_shr (by omega) (by omega)]
      rw [nu_whole, hz, if_pos (by decide), if_pos hl52, hsz, wq_, hwz]
    · left
      rw [if_neg h4] at hwz
      exact ⟨by rw [hlong, decide_eq_false h4], hwz⟩
  have hg52 : ¬ nu_pow (lN n) ≤ 52 := by rw [hp2]; exact fun h => absurd ((nI_leI (b := 52) (by omega) (by decide)).mp h) (by omega)
  have hwz : wz_ n = wu_ (E - 1075) (F + 4503599627370496) := by
    rw [wz_, hE, hF, if_neg hE0, show 1075 - E = 0 by omega]
    simp only [wd_, Option.bind_some]
  by_cases h5 : E = 1076
  · have hl53 : nu_pow (lN n) ≤ 53 := by rw [hp2]; exact (nI_leI (b := 53) (by omega) (by decide)).mpr (by omega)
    have he53 : nu_pow (lN n) = 53 := by rw [hp2, h5]; rfl
    have hlong : nu_long (lN n) = decide (F = 0) := by
      rw [nu_long, hz, if_pos (by decide), if_neg hpn, if_pos hl53, if_pos he53, hf]
      by_cases h4 : F = 0
      · rw [if_pos ((lc_ne (by omega)).mpr h4), decide_eq_true h4]
      · rw [if_neg (fun h5 => h4 ((lc_ne (by omega)).mp h5)), decide_eq_false h4]
    rw [h5] at hwz
    by_cases h4 : F = 0
    · right
      have hwz2 : wz_ n = some (2 * (F + 4503599627370496)) := by
        rw [hwz]
        show (if 2 * (F + 4503599627370496) ≤ 9007199254740992 then wu_ 0 (2 * (F + 4503599627370496)) else none) = _
        rw [if_pos (by omega)]; rfl
      refine ⟨2 * (F + 4503599627370496), by omega, hwz2, by rw [hlong, decide_eq_true h4], ?_⟩
      have hsz : ((nu_frac (lN n)) ||| 4503599627370496) <<< ((nu_pow (lN n) - 52 : Int32).toInt64 &&& 63) = lN (2 * (F + 4503599627370496)) := by
        rw [he53, hf, or_52 hF2, Nat.mul_comm]
        exact wb_shl (F + 4503599627370496) (k := 1) (by decide)
      rw [nu_whole, hz, if_pos (by decide), if_neg hg52, hsz, wq_, hwz2]
    · left
      refine ⟨by rw [hlong, decide_eq_false h4], ?_⟩
      rw [hwz]
      show (if 2 * (F + 4503599627370496) ≤ 9007199254740992 then wu_ 0 (2 * (F + 4503599627370496)) else none) = _
      rw [if_neg (by omega)]
  · left
    have hg53 : ¬ nu_pow (lN n) ≤ 53 := by rw [hp2]; exact fun h => absurd ((nI_leI (b := 53) (by omega) (by decide)).mp h) (by omega)
    refine ⟨by rw [nu_long, hz, if_pos (by decide), if_neg hpn, if_neg hg53], ?_⟩
    obtain ⟨j, hj⟩ : ∃ j, E - 1075 = j + 2 := ⟨E - 1077, by omega⟩
    rw [hwz, hj]
    show (if 2 * (F + 4503599627370496) ≤ 9007199254740992 then wu_ (j + 1) (2 * (F + 4503599627370496)) else none) = _
    by_cases h6 : 2 * (F + 4503599627370496) ≤ 9007199254740992
    · rw [if_pos h6]
      show (if 2 * (2 * (F + 4503599627370496)) ≤ 9007199254740992 then wu_ j (2 * (2 * (F + 4503599627370496))) else none) = _
      rw [if_neg (by omega)]
    · rw [if_neg h6]
theorem lN_neg {m : Nat} (h : m ≤ 9007199254740992) : (-(lN m)).toInt = -(m : Int) := by
  rw [Int64.toInt_neg, pk_lT (by omega)]
  apply Int.bmod_eq_of_le <;> omega
theorem li_int (v : Int64) : v = v.toInt32.toInt64 ↔ (-2147483648 ≤ v.toInt ∧ v.toInt ≤ 2147483647) := by
  have h1 : v.toInt32.toInt64.toInt = v.toInt.bmod (2 ^ 32) := by rw [Int32.toInt_toInt64, Int64.toInt_toInt32]
  constructor
  · intro h
    have h2 := congrArg Int64.toInt h
    rw [h1] at h2
    have h3 := Int.bmod_lt (x := v.toInt) (m := 2 ^ 32) (by decide)
    have h4 := Int.le_bmod (x := v.toInt) (m := 2 ^ 32) (by decide)
    omega
  · intro ⟨h2, h3⟩
    apply Int64.toInt_inj.mp
    rw [h1]
    symm
    apply Int.bmod_eq_of_le <;> omega
theorem nu_tri (b : Int64) : (nu_long b = false ∧ nu_int b = false ∧ wo_ b = 4611686018427387904) ∨ (nu_long b = true ∧ nu_whole b = wo_ b ∧ ¬ wo_ b = 4611686018427387904 ∧ nu_int b = (!mz_ b && !decide (lg_cmp (wo_ b) (-2147483648) < 0) && !decide (0 < lg_cmp (wo_ b) 2147483647))) := by
  obtain ⟨n, hn, rfl⟩ := wb_of b
  rw [wo_n hn]
  rcases nu_sum hn with ⟨h1, h2⟩ | ⟨m, hm, h1, h2, h3⟩
  · left
    refine ⟨h1, ?_, by rw [wq_, h2]⟩
    rw [nu_int, h1]
    split <;> rfl
  · right
    have hv : (wq_ n).toInt = (m : Int) ∨ (wq_ n).toInt = -(m : Int) := by
      rw [wq_, h1]
      dsimp only
      split
      · exact Or.inl (pk_lT (by omega))
      · exact Or.inr (lN_neg hm)
    refine ⟨h2, h3, ?_, ?_⟩
    · intro h
      rw [h] at hv
      have : (4611686018427387904 : Int64).toInt = 4611686018427387904 := rfl
      omega
    · rw [nu_int, h2, h3, mz_]
      by_cases h4 : lg_cmp (lN n) (-9223372036854775808) = 0
      · rw [if_pos h4, if_pos h4]; rfl
      · rw [if_neg h4, if_neg h4, if_neg (by decide)]
        have e1 : (-2147483648 : Int64).toInt = -2147483648 := rfl
        have e2 : (2147483647 : Int64).toInt = 2147483647 := rfl
        have k1 : lg_cmp (wq_ n) (-2147483648) < 0 ↔ (wq_ n).toInt < -2147483648 := by rw [lg_cmp_lt, Int64.lt_iff_toInt_lt, e1]
        have k2 : 0 < lg_cmp (wq_ n) 2147483647 ↔ 2147483647 < (wq_ n).toInt := by rw [lg_cmp_gt, Int64.lt_iff_toInt_lt, e2]
        have k3 : lg_cmp (wq_ n) (wq_ n).toInt32.toInt64 = 0 ↔ (-2147483648 ≤ (wq_ n).toInt ∧ (wq_ n).toInt ≤ 2147483647) := by rw [lg_cmp_eq, li_int]
        by_cases h5 : lg_cmp (wq_ n) (-2147483648) < 0
        · rw [if_neg (fun h => by have := k3.mp h; have := k1.mp h5; omega)]
          simp [h5]
        · by_cases h6 : 0 < lg_cmp (wq_ n) 2147483647
          · rw [if_neg (fun h => by have := k3.mp h; have := k2.mp h6; omega)]
            simp [h6]
          · rw [if_pos (k3.mpr ⟨by have := mt k1.mpr h5; omega, by have := mt k2.mpr h6; omega⟩)]
            simp [h5, h6]
theorem ir_eq (b : Int64) : (if b2_ (ir_ b) = 0 then (0 : Int64) else 1) = nu_truth b := by
  rw [nu_truth, ir_, nu_zero, nu_nan, nu_abs]
  by_cases h1 : lg_cmp (b &&& 9223372036854775807) 0 = 0
  · rw [if_pos (show lg_cmp (b &&& 9223372036854775807) 0 ≤ 0 by rw [h1]; decide), if_pos h1]; rfl
  · by_cases h2 : lg_cmp (b &&& 9223372036854775807) 0 ≤ 0
    · exfalso
      obtain ⟨n, hn, rfl⟩ := wb_of b
      have e : lN n &&& 9223372036854775807 = lN (n % 9223372036854775808) := wb_mask (k := 63) hn (by decide)
      rw [e] at h1 h2
      have h3 := (pk_lLE (a := n % 9223372036854775808) (b := 0) (by omega) (by decide)).mp ((lg_cmp_le _ _).mp h2)
      exact h1 ((lc_ne (by omega)).mpr (by omega))
    · by_cases h3 : lg_cmp (b &&& 9223372036854775807) 9218868437227405312 ≤ 0
      · rw [if_neg h2, if_neg (Int32.not_lt.mpr h3), if_neg h1, if_pos h3]; rfl
      · rw [if_neg h2, if_pos (Int32.not_le.mp h3), if_neg h1, if_neg h3]; rfl
/-! values, weights, what is written down -/
theorem vl_ab (no : Nat) (k : Int32) (b : Int64) : ab_ no k b = !vl_ no k b := by
  cases hk : fb_in k 7 with
  | false => rw [vl_no hk, ab_, hk]; rfl
  | true =>
    obtain ⟨j, hj, rfl⟩ := (fb_in_iff (by decide)).mp hk
    rw [ab_, vl_, hk]
    have hc : j = 0 ∨ j = 1 ∨ j = 2 ∨ j = 3 ∨ j = 4 ∨ j = 5 ∨ j = 6 := by omega
    rcases hc with rfl | rfl | rfl | rfl | rfl | rfl | rfl
    · rfl
    · rfl
    · rw [show decide ((nI 2 : Int32) = 2) = true from rfl, show decide ((nI 2 : Int32) = 4) = false from rfl, show decide ((nI 2 : Int32) = 5) = false from rfl, show decide ((nI 2 : Int32) = 6) = false from rfl, show (nI 2).toNatClampNeg = 2 from rfl]
      by_cases h1 : lg_cmp b 0 = 0 <;> by_cases h2 : lg_cmp b 1 = 0 <;> simp [h1, h2]
    · rfl
    · rw [show decide ((nI 4 : Int32) = 2) = false from rfl, show decide ((nI 4 : Int32) = 4) = true from rfl, show decide ((nI 4 : Int32) = 5) = false from rfl, show decide ((nI 4 : Int32) = 6) = false from rfl, show (nI 4).toNatClampNeg = 4 from rfl]
      by_cases h1 : lg_cmp b 0 < 0 <;> simp [h1]
    · rw [show decide ((nI 5 : Int32) = 2) = false from rfl, show decide ((nI 5 : Int32) = 4) = false from rfl, show decide ((nI 5 : Int32) = 5) = true from rfl, show decide ((nI 5 : Int32) = 6) = false from rfl, show (nI 5).toNatClampNeg = 5 from rfl]
      by_cases h1 : lg_cmp b 0 < 0
      · simp [h1]
      · by_cases h2 : lg_cmp b (nI no).toInt64 < 0
        · rw [decide_eq_true h2]; simp [h1, Int32.not_le.mpr h2]
        · rw [decide_eq_false h2]; simp [h1, Int32.not_lt.mp h2]
    · rw [show decide ((nI 6 : Int32) = 2) = false from rfl, show decide ((nI 6 : Int32) = 4) = false from rfl, show decide ((nI 6 : Int32) = 5) = false from rfl, show decide ((nI 6 : Int32) = 6) = true from rfl, show (nI 6).toNatClampNeg = 6 from rfl]
      by_cases h1 : lg_cmp b 0 < 0 <;> simp [h1]
theorem vl_ok {no : Nat} {k : Int32} {b : Int64} (hno : no ≤ 64) (h : vl_ no k b = true) : ar_ok no k (so_ k b) b := by
  have hk : fb_in k 7 = true := by
    cases hk : fb_in k 7 with
    | true => rfl
    | false => rw [vl_no hk] at h; cases h
  refine ⟨hk, rfl, fun h5 => ?_⟩
  subst h5
  rw [vl_, hk, Bool.true_and] at h
  have h9 : (if lg_cmp b 0 < 0 then false else if 0 ≤ lg_cmp b (nI no).toInt64 then false else true) = true := h
  by_cases h1 : lg_cmp b 0 < 0
  · rw [if_pos h1] at h9; cases h9
  · rw [if_neg h1] at h9
    by_cases h2 : 0 ≤ lg_cmp b (nI no).toInt64
    · rw [if_pos h2] at h9; cases h9
    · obtain ⟨j, hj, rfl⟩ := pk_lOf (fun h3 => h1 ((lg_cmp_lt _ _).mpr h3))
      refine ⟨j, ?_, rfl⟩
      rw [lg_cmp_ge, nI_l (by omega), pk_lLE (by omega) hj] at h2
      omega
theorem kp_go {nd : Nat} (hd : nd < 2 ^ 30) (k : Int32) : go_ nd k = !kp_ nd k := by
  rw [go_, kp_]
  by_cases h1 : k < 0
  · rw [if_pos h1, if_pos h1]; rfl
  · rw [if_neg h1, if_neg h1]
    by_cases h2 : nI nd ≤ k
    · rw [if_pos h2, if_pos h2]; rfl
    · rw [if_neg h2, if_neg h2]
      obtain ⟨j, hj, rfl⟩ := nI_of h1
      have h3 : j < nd := by rw [nI_leI (by omega) hj] at h2; omega
      have e1 : nI nd - nI j = nI (nd - j) := pk_sub (by omega)
      have e2 : nI j + 64 = nI (j + 64) := nI_add j 64
      rw [e1, e2]
      by_cases h4 : nd ≤ j + 64
      · rw [if_pos ((nI_leI (by omega) (by omega)).mpr h4), if_neg (show ¬ (64 : Int32) < nI (nd - j) from fun h => absurd ((nI_ltI (a := 64) (by decide) (by omega)).mp h) (by omega))]; rfl
      · rw [if_neg (fun h => h4 ((nI_leI (by omega) (by omega)).mp h)), if_pos (show (64 : Int32) < nI (nd - j) from (nI_ltI (a := 64) (by decide) (by omega)).mpr (by omega))]; rfl
theorem so_not {k : Int32} {b : Int64} (h : ¬ k = 3) : so_ k b = k := by rw [so_, if_neg h]
theorem t6_4 {t : Nat} (h6 : 6 ≤ t) (ht : t < 256) : ¬ nI t = 4 := fun h => absurd ((nI_eq (b := 4) (by omega) (by decide)).mp h) (by omega)
theorem t6_5 {t : Nat} (h6 : 6 ≤ t) (ht : t < 256) : ¬ nI t = 5 := fun h => absurd ((nI_eq (b := 5) (by omega) (by decide)).mp h) (by omega)
theorem t6_0 {t : Nat} (h6 : 6 ≤ t) (ht : t < 256) : ¬ nI t = 0 := fun h => absurd ((nI_eq (b := 0) (by omega) (by decide)).mp h) (by omega)
theorem t6_1 {t : Nat} (h6 : 6 ≤ t) (ht : t < 256) : ¬ nI t = 1 := fun h => absurd ((nI_eq (b := 1) (by omega) (by decide)).mp h) (by omega)
theorem t6_2 {t : Nat} (h6 : 6 ≤ t) (ht : t < 256) : ¬ nI t = 2 := fun h => absurd ((nI_eq (b := 2) (by omega) (by decide)).mp h) (by omega)
theorem t6_3 {t : Nat} (h6 : 6 ≤ t) (ht : t < 256) : ¬ nI t = 3 := fun h => absurd ((nI_eq (b := 3) (by omega) (by decide)).mp h) (by omega)
theorem t6_6 {t : Nat} (h6 : 6 ≤ t) (ht : t < 256) : ¬ nI t < 6 := fun h => absurd ((nI_ltI (b := 6) (by omega) (by decide)).mp h) (by omega)
theorem t6_le {t : Nat} (h6 : 6 ≤ t) (ht : t < 256) : ¬ nI t ≤ 3 := fun h => absurd ((nI_leI (b := 3) (by omega) (by decide)).mp h) (by omega)
theorem t_cases {t : Nat} : t = 0 ∨ t = 1 ∨ t = 2 ∨ t = 3 ∨ t = 4 ∨ t = 5 ∨ 6 ≤ t := by omega
/-- the weight of a number -/
theorem wn_eq (b : Int64) {t : Nat} (ht : t < 256) : wn_ b (nI t) = if t < 6 then wt_ ((so_ 3 b).toNatClampNeg * 7 + t) else -1 := by
  have hbig : 6 ≤ t → wn_ b (nI t) = -1 := fun h6 => by rw [wn_, if_neg (t6_0 h6 ht), if_neg (t6_le h6 ht), if_neg (t6_4 h6 ht), if_neg (t6_5 h6 ht)]
  rcases nu_tri b with ⟨h1, h2, h3⟩ | ⟨h1, -, h3, h4⟩
  · have hs : so_ 3 b = 3 := by rw [so_, if_pos rfl, h2, h1]; rfl
    have hc : lg_cmp (wo_ b) 4611686018427387904 = 0 := (lg_cmp_eq _ _).mpr h3
    rw [hs]
    rcases t_cases (t := t) with rfl | rfl | rfl | rfl | rfl | rfl | h6
    · rfl
    · rw [wn_, if_pos hc, if_pos hc]; rfl
    · rw [wn_, if_pos hc, if_pos hc]; rfl
    · rw [wn_, if_pos hc, if_pos hc]; rfl
    · rfl
    · rfl
    · rw [hbig h6, if_neg (by omega)]
  · have hc : ¬ lg_cmp (wo_ b) 4611686018427387904 = 0 := fun h => h3 ((lg_cmp_eq _ _).mp h)
    cases h5 : nu_int b with
    | true =>
      rw [h5] at h4
      have h6 := h4.symm
      rw [Bool.and_eq_true, Bool.and_eq_true] at h6
      obtain ⟨⟨k1, k2⟩, k3⟩ := h6
      have k1' : mz_ b = false := by simpa using k1
      have k2' : ¬ lg_cmp (wo_ b) (-2147483648) < 0 := by simpa using k2
      have k3' : ¬ 0 < lg_cmp (wo_ b) 2147483647 := by simpa using k3
      have hs : so_ 3 b = 7 := by rw [so_, if_pos rfl, h5]; rfl
      have hw : ∀ u : Int32, ¬ u = 0 → u ≤ 3 → wn_ b u = u - 1 := fun u g1 g2 => by rw [wn_, if_neg g1, if_pos g2, if_neg hc, if_neg k2', if_neg k3', k1']; rfl
      rw [hs]
      rcases t_cases (t := t) with rfl | rfl | rfl | rfl | rfl | rfl | h6
      · rfl
      · rw [hw (nI 1) (by decide) (by decide)]; rfl
      · rw [hw (nI 2) (by decide) (by decide)]; rfl
      · rw [hw (nI 3) (by decide) (by decide)]; rfl
      · rfl
      · rfl
      · rw [hbig h6, if_neg (by omega)]
    | false =>
      rw [h5] at h4
      have hs : so_ 3 b = 8 := by rw [so_, if_pos rfl, h5, h1]; rfl
      have hw : ∀ u : Int32, ¬ u = 0 → u ≤ 3 → wn_ b u = if u = 1 then -1 else u - 2 := fun u g1 g2 => by
        rw [wn_, if_neg g1, if_pos g2, if_neg hc, if_neg hc]
        by_cases k2 : lg_cmp (wo_ b) (-2147483648) < 0
        · rw [if_pos k2]
        · rw [if_neg k2]
          by_cases k3 : 0 < lg_cmp (wo_ b) 2147483647
          · rw [if_pos k3]
          · rw [if_neg k3]
            have k1 : mz_ b = true := by
              rw [decide_eq_false k2, decide_eq_false k3] at h4
              simpa using h4.symm
            rw [k1, if_neg (by decide)]
      rw [hs]
      rcases t_cases (t := t) with rfl | rfl | rfl | rfl | rfl | rfl | h6
      · rfl
      · rw [hw (nI 1) (by decide) (by decide)]; rfl
      · rw [hw (nI 2) (by decide) (by decide)]; rfl
      · rw [hw (nI 3) (by decide) (by decide)]; rfl
      · rfl
      · rfl
      · rw [hbig h6, if_neg (by omega)]
theorem so_3m (b : Int64) : wt_ ((so_ 3 b).toNatClampNeg * 7 + 6) = -1 := by
  rw [so_, if_pos rfl]
  split
  · split <;> rfl
  · rfl
theorem wr_eq {pa co kn so : Nat → Int32} {bi : Nat → Int64} {no i t : Nat} (hok : ar_ok no (kn i) (so i) (bi i)) (ht : t < 256) : rw_ pa co kn bi i (nI t) = wf_ pa co (kn i) (so i) (bi i) t := by
  obtain ⟨h1, h2, -⟩ := hok
  obtain ⟨j, hj, hk⟩ := (fb_in_iff (by decide)).mp h1
  rw [rw_, wf_, h2, hk]
  by_cases h3 : j = 3
  · subst h3
    rw [if_pos (show nI 3 = 3 from rfl), wn_eq _ ht]
    by_cases h6 : t < 6
    · rw [if_pos h6, if_pos h6]; rfl
    · rw [if_neg h6, if_neg h6, if_neg (show ¬ nI 3 = 5 by decide)]; exact (so_3m _).symm
  · have h4 : ¬ nI j = 3 := fun h => h3 ((nI_eq (b := 3) (by omega) (by decide)).mp h)
    rw [if_neg h4, so_not h4, nI_clamp (by omega)]
    have hc : j = 0 ∨ j = 1 ∨ j = 2 ∨ j = 4 ∨ j = 5 ∨ j = 6 := by omega
    rcases t_cases (t := t) with rfl | rfl | rfl | rfl | rfl | rfl | h6
    · rcases hc with rfl | rfl | rfl | rfl | rfl | rfl <;> rfl
    · rcases hc with rfl | rfl | rfl | rfl | rfl | rfl <;> rfl
    · rcases hc with rfl | rfl | rfl | rfl | rfl | rfl <;> rfl
    · rcases hc with rfl | rfl | rfl | rfl | rfl | rfl <;> rfl
    · rcases hc with rfl | rfl | rfl | rfl | rfl | rfl <;> rfl
    · rcases hc with rfl | rfl | rfl | rfl | rfl | rfl <;> rfl
    · rw [if_neg (t6_4 h6 ht), if_neg (t6_5 h6 ht), if_neg (t6_0 h6 ht), if_neg (t6_6 h6 ht), if_neg (show ¬ t < 6 by omega)]
      have e6 : nI t - 6 = nI (t - 6) := pk_sub (b := 6) h6
      rw [e6]
      rcases hc with rfl | rfl | rfl | rfl | rfl | rfl <;> rfl
/-- no weight but -1 is below 0 -/
theorem ds_nn (pa : Nat → Int32) (c : Int32) : ∀ (f : Nat) (k : Int32) (n : Nat), n + f < 2 ^ 30 → ds_ pa c f k n = -1 ∨ ∃ d : Nat, d < n + f ∧ ds_ pa c f k n = nI d
  | 0, _, _, _ => Or.inl rfl
  | f + 1, k, n, h => by
    simp only [ds_]
    split
    · exact Or.inl rfl
    · split
      · exact Or.inr ⟨n, by omega, rfl⟩
      · rcases ds_nn pa c f (pa k.toNatClampNeg) (n + 1) (by omega) with h1 | ⟨d, h1, h2⟩
        · exact Or.inl h1
        · exact Or.inr ⟨d, by omega, h2⟩
theorem wt_nn : ∀ j, j < 63 → (wt_ j < 0 ↔ wt_ j = -1) := by decide
theorem wf_nn {pa co kn so : Nat → Int32} {bi : Nat → Int64} {no i t : Nat} (hok : ar_ok no (kn i) (so i) (bi i)) : wf_ pa co (kn i) (so i) (bi i) t < 0 ↔ wf_ pa co (kn i) (so i) (bi i) t = -1 := by
  obtain ⟨q, hq, hs⟩ := so_lt hok
  rw [wf_, hs, nI_clamp (by omega)]
  split
  · exact wt_nn _ (by omega)
  · split
    · rcases ds_nn pa (nI (t - 6)) 16 (co (bi i).toInt32.toNatClampNeg) 0 (by decide) with h | ⟨d, h1, h2⟩
      · rw [h]; decide
      · rw [h2]
        exact ⟨fun h => absurd h (nI_pos (by omega)), fun h => absurd h (nI_nm1 (by omega))⟩
    · exact wt_nn _ (by omega)
theorem tu_eq {pa co kn so : Nat → Int32} {bi : Nat → Int64} {no i t : Nat} (hok : ar_ok no (kn i) (so i) (bi i)) (ht : t < 256) (hf : ¬ wf_ pa co (kn i) (so i) (bi i) t = -1) : tu_ kn bi i (nI t) = cv_ kn bi i (nI t) := by
  obtain ⟨h1, h2, -⟩ := hok
  obtain ⟨j, hj, hk⟩ := (fb_in_iff (by decide)).mp h1
  rw [wf_, h2, hk] at hf
  rw [tu_, cv_, hk]
  by_cases h3 : j = 3
  · subst h3
    have hso : so_ (nI 3) (bi i) = so_ 3 (bi i) := rfl
    rw [hso] at hf
    rcases t_cases (t := t) with rfl | rfl | rfl | rfl | rfl | rfl | h6
    · exact ir_eq (bi i)
    · show wo_ (bi i) = nu_whole (bi i)
      rcases nu_tri (bi i) with ⟨g1, g2, g3⟩ | ⟨g1, g2, g3, g4⟩
      · have hs : so_ 3 (bi i) = 3 := by rw [so_, if_pos rfl, g2, g1]; rfl
        rw [hs] at hf
        exact absurd rfl hf
      · exact g2.symm
    · show wo_ (bi i) = nu_whole (bi i)
      rcases nu_tri (bi i) with ⟨g1, g2, g3⟩ | ⟨g1, g2, g3, g4⟩
      · have hs : so_ 3 (bi i) = 3 := by rw [so_, if_pos rfl, g2, g1]; rfl
        rw [hs] at hf
        exact absurd rfl hf
      · exact g2.symm
    · rfl
    · rfl
    · rfl
    · rw [if_neg (show ¬ t < 6 by omega), if_neg (show ¬ nI 3 = 5 by decide)] at hf
      exact absurd (so_3m _) hf
  · have h4 : ¬ nI j = 3 := fun h => h3 ((nI_eq (b := 3) (by omega) (by decide)).mp h)
    rw [so_not h4, nI_clamp (by omega)] at hf
    have hc : j = 0 ∨ j = 1 ∨ j = 2 ∨ j = 4 ∨ j = 5 ∨ j = 6 := by omega
    rcases t_cases (t := t) with rfl | rfl | rfl | rfl | rfl | rfl | h6
    · rcases hc with rfl | rfl | rfl | rfl | rfl | rfl <;> first | rfl | exact absurd rfl hf
    · rcases hc with rfl | rfl | rfl | rfl | rfl | rfl <;> first | exact absurd rfl hf | rfl
    · rcases hc with rfl | rfl | rfl | rfl | rfl | rfl <;> first | exact absurd rfl hf | rfl
    · rcases hc with rfl | rfl | rfl | rfl | rfl | rfl <;> first | rfl | exact absurd rfl hf
    · rcases hc with rfl | rfl | rfl | rfl | rfl | rfl <;> first | rfl | exact absurd rfl hf
    · rcases hc with rfl | rfl | rfl | rfl | rfl | rfl <;> first | rfl | exact absurd rfl hf
    · rw [if_neg (t6_4 h6 ht), if_neg (t6_5 h6 ht), if_neg (t6_0 h6 ht), if_neg (t6_1 h6 ht), if_neg (t6_2 h6 ht), if_neg (t6_3 h6 ht), if_neg h4, if_pos (Int32.not_lt.mp (t6_6 h6 ht))]
      rw [if_neg (t6_0 h6 ht), if_neg (t6_3 h6 ht)]
