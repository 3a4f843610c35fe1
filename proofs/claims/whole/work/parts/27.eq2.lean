/-! methods found, candidates, the best of them -/
/-- the methods of the class and of the reference, held together -/
def mt_ok (nc nm : Nat) (ho nn si ty rt : Nat → Int32) : Prop :=
  (∀ z, z < nm → ∃ N : Nat, N ≤ 4 ∧ si z = nI N ∧ ty_ok nc (ty z) N = true ∧ (∀ i, i < N → rt (4 * z + i) = nI (ty_N (ty z) N i)) ∧ ∃ q : Nat, q < nc ∧ ho z = nI q) ∧
  (∀ a b, a < b → b < nm → ¬ (ho a = ho b ∧ nn a = nn b ∧ si a = si b ∧ ty a = ty b))
theorem i32_ext {a b : Int32} (h : a.toBitVec.toNat = b.toBitVec.toNat) : a = b := Int32.toBitVec_inj.mp (BitVec.eq_of_toNat_eq h)
theorem ty_inj {c1 c2 N : Nat} {a b : Int32} (ha : ty_ok c1 a N = true) (hb : ty_ok c2 b N = true) (hN : N ≤ 4) (h : ∀ i, i < N → ty_N a N i = ty_N b N i) : a = b := by
  apply i32_ext
  rw [ty_ok, Bool.and_eq_true, decide_eq_true_iff] at ha hb
  have h1 := ha.1
  have h2 := hb.1
  have hN5 : N = 0 ∨ N = 1 ∨ N = 2 ∨ N = 3 ∨ N = 4 := by omega
  generalize hx : a.toBitVec.toNat = x at h1
  generalize hy : b.toBitVec.toNat = y at h2
  rcases hN5 with rfl | rfl | rfl | rfl | rfl
  · omega
  · have k0 := h 0 (by decide)
    simp [ty_N, hx, hy] at k0
    omega
  · have k0 := h 0 (by decide)
    have k1 := h 1 (by decide)
    simp [ty_N, hx, hy] at k0 k1
    omega
  · have k0 := h 0 (by decide)
    have k1 := h 1 (by decide)
    have k2 := h 2 (by decide)
    simp [ty_N, hx, hy] at k0 k1 k2
    omega
  · have k0 := h 0 (by decide)
    have k1 := h 1 (by decide)
    have k2 := h 2 (by decide)
    have k3 := h 3 (by decide)
    simp [ty_N, hx, hy] at k0 k1 k2 k3
    omega
section EQ
variable {pa co ho nn si ty rt kn so : Nat → Int32} {bi : Nat → Int64} {nc no nm N : Nat}
/-- what fits a method of the reference fits it in the class -/
theorem fr_eq (hm : mt_ok nc nm ho nn si ty rt) (hN : N ≤ 4) (hok : ∀ i, i < N → ar_ok no (kn i) (so i) (bi i)) {z : Nat} (hz : z < nm) : fr_ pa co kn bi si rt N z = (decide (si z = nI N) && ft_ (fun i t => wf_ pa co (kn i) (so i) (bi i) t) (ty z) N) := by
  rw [fr_]
  by_cases h : si z = nI N
  · rw [decide_eq_true h, Bool.true_and, Bool.true_and]
    obtain ⟨M, hM, h1, h2, h3, -⟩ := hm.1 z hz
    obtain rfl : M = N := (nI_eq (by omega) (by omega)).mp (h1.symm.trans h)
    apply Bool.eq_iff_iff.mpr
    rw [al_iff, ft_, decide_eq_true_iff]
    have key : ∀ i, i < M → ((!decide (rw_ pa co kn bi i (rt (4 * z + i)) < 0)) = true ↔ ¬ wf_ pa co (kn i) (so i) (bi i) (ty_N (ty z) M i) = -1) := by
      intro i hi
      rw [h3 i hi, wr_eq (hok i hi) (ty_lt _ _ _), Bool.not_eq_true', decide_eq_false_iff_not, wf_nn (hok i hi)]
    exact ⟨fun h i hi => (key i hi).mp (h i hi), fun h i hi => (key i hi).mpr (h i hi)⟩
  · rw [decide_eq_false h, Bool.false_and, Bool.false_and]
/-- the method asked for -/
theorem mq_eq (hm : mt_ok nc nm ho nn si ty rt) (hN : N ≤ 4) {tw : Int32} (ht : ty_ok nc tw N = true) (aq : Nat → Int32) (k n : Int32) {z : Nat} (hz : z < nm) : mq_ ho nn si rt (lf_ (as_ tw N) aq N) k n N z = mm_ ho nn si ty k n (nI N) tw z := by
  rw [mq_, mm_, mi_]
  by_cases h : si z = nI N
  · congr 1
    obtain ⟨M, hM, h1, h2, h3, -⟩ := hm.1 z hz
    obtain rfl : M = N := (nI_eq (by omega) (by omega)).mp (h1.symm.trans h)
    apply Bool.eq_iff_iff.mpr
    rw [al_iff, decide_eq_true_iff]
    constructor
    · intro h4
      refine ty_inj h2 ht hM (fun i hi => ?_)
      have h5 := h4 i hi
      rw [decide_eq_true_iff, h3 i hi, lf_, if_pos hi, as_] at h5
      exact (nI_eq (Nat.lt_trans (ty_lt _ _ _) (by decide)) (Nat.lt_trans (ty_lt _ _ _) (by decide))).mp h5
    · intro h4 i hi
      rw [decide_eq_true_iff, h3 i hi, lf_, if_pos hi, as_, h4]
  · rw [decide_eq_false h, Bool.and_false, Bool.false_and, Bool.false_and]
theorem fd_spec {P : Nat → Bool} : ∀ {f i : Nat}, (fd_ P f i = -1 ∧ ∀ z, i ≤ z → z < i + f → P z = false) ∨ ∃ j : Nat, i ≤ j ∧ j < i + f ∧ fd_ P f i = nI j ∧ P j = true
  | 0, i => Or.inl ⟨rfl, fun z h1 h2 => by omega⟩
  | f + 1, i => by
    simp only [fd_]
    by_cases h : P i = true
    · rw [if_pos h]
      exact Or.inr ⟨i, by omega, by omega, rfl, h⟩
    · rw [if_neg h]
      rcases fd_spec (P := P) (f := f) (i := i + 1) with ⟨h1, h2⟩ | ⟨j, h1, h2, h3, h4⟩
      · refine Or.inl ⟨h1, fun z g1 g2 => ?_⟩
        by_cases g3 : z = i
        · subst g3; simpa using h
        · exact h2 z (by omega) (by omega)
      · exact Or.inr ⟨j, by omega, by omega, h3, h4⟩
theorem la_none {P : Nat → Bool} : ∀ {n : Nat}, n ≤ 64 → la_ P n = -1 → ∀ z, z < n → P z = false
  | 0, _, _, z, hz => absurd hz (Nat.not_lt_zero z)
  | n + 1, hn, h, z, hz => by
    simp only [la_] at h
    by_cases h1 : P n = true
    · rw [if_pos h1] at h
      exact absurd h (nI_nm1 (by omega))
    · rw [if_neg h1] at h
      by_cases h2 : z = n
      · subst h2; simpa using h1
      · exact la_none (by omega) h z (by omega)
theorem fd_la {P Q : Nat → Bool} {n : Nat} (hn : n ≤ 64) (h : ∀ z, z < n → Q z = P z) (hu : ∀ a b, a < n → b < n → P a = true → P b = true → a = b) : la_ Q n = fd_ P n 0 := by
  rcases fd_spec (P := P) (f := n) (i := 0) with ⟨h1, h2⟩ | ⟨j, -, h2, h3, h4⟩
  · rw [h1]
    rcases la_in (P := Q) (n := n) with g1 | ⟨y, g1, g2, g3⟩
    · exact g1
    · rw [h y g1, h2 y (Nat.zero_le _) (by omega)] at g3; cases g3
  · rw [h3]
    rcases la_in (P := Q) (n := n) with g1 | ⟨y, g1, g2, g3⟩
    · have := la_none hn g1 j (by omega)
      rw [h j (by omega), h4] at this; cases this
    · rw [g2]
      rw [h y g1] at g3
      rw [hu y j g1 (by omega) g3 h4]
theorem mm_iff {k n mn tw : Int32} {z : Nat} : mm_ ho nn si ty k n mn tw z = true ↔ (ho z = k ∧ nn z = n ∧ si z = mn ∧ ty z = tw) := by
  rw [mm_, mi_]
  simp only [Bool.and_eq_true, decide_eq_true_iff]
  exact ⟨fun ⟨⟨⟨a, b⟩, c⟩, d⟩ => ⟨a, b, c, d⟩, fun ⟨a, b, c, d⟩ => ⟨⟨⟨a, b⟩, c⟩, d⟩⟩
theorem la_eq (hm : mt_ok nc nm ho nn si ty rt) (hnm : nm ≤ 64) (hN : N ≤ 4) {tw : Int32} (ht : ty_ok nc tw N = true) (aq : Nat → Int32) (k n : Int32) : la_ (mq_ ho nn si rt (lf_ (as_ tw N) aq N) k n N) nm = fd_ (mm_ ho nn si ty k n (nI N) tw) nm 0 := by
  refine fd_la hnm (fun z hz => mq_eq hm hN ht aq k n hz) (fun a b ha hb h1 h2 => ?_)
  obtain ⟨a1, a2, a3, a4⟩ := mm_iff.mp h1
  obtain ⟨b1, b2, b3, b4⟩ := mm_iff.mp h2
  rcases Nat.lt_trichotomy a b with h | h | h
  · exact absurd ⟨a1.trans b1.symm, a2.trans b2.symm, a3.trans b3.symm, a4.trans b4.symm⟩ (hm.2 a b h hb)
  · exact h
  · exact absurd ⟨b1.trans a1.symm, b2.trans a2.symm, b3.trans a3.symm, b4.trans a4.symm⟩ (hm.2 b a h ha)
theorem fs_in {F : Int32 → Int32} : ∀ {f : Nat} {k : Int32}, fs_ F pa f k = -1 ∨ ∃ k', fs_ F pa f k = F k' ∧ ¬ F k' = -1
  | 0, _ => Or.inl rfl
  | f + 1, k => by
    simp only [fs_]
    split
    · exact Or.inl rfl
    · split
      · exact fs_in
      · exact Or.inr ⟨k, rfl, ‹_›⟩
theorem fs_eq (hm : mt_ok nc nm ho nn si ty rt) (hnm : nm ≤ 64) (hN : N ≤ 4) {tw : Int32} (ht : ty_ok nc tw N = true) (aq : Nat → Int32) (n k0 : Int32) : fs_ (fun k => la_ (mq_ ho nn si rt (lf_ (as_ tw N) aq N) k n N) nm) pa 16 k0 = fs_ (fun k => fd_ (mm_ ho nn si ty k n (nI N) tw) nm 0) pa 16 k0 := by
  have h : (fun k => la_ (mq_ ho nn si rt (lf_ (as_ tw N) aq N) k n N) nm) = (fun k => fd_ (mm_ ho nn si ty k n (nI N) tw) nm 0) := funext (fun k => la_eq hm hnm hN ht aq k n)
  rw [h]
theorem fs_found {n mn tw k0 : Int32} : fs_ (fun k => fd_ (mm_ ho nn si ty k n mn tw) nm 0) pa 16 k0 = -1 ∨ ∃ j : Nat, j < nm ∧ fs_ (fun k => fd_ (mm_ ho nn si ty k n mn tw) nm 0) pa 16 k0 = nI j ∧ si j = mn ∧ ty j = tw := by
  rcases fs_in (F := fun k => fd_ (mm_ ho nn si ty k n mn tw) nm 0) (pa := pa) (f := 16) (k := k0) with h | ⟨k', h1, h2⟩
  · exact Or.inl h
  · rcases fd_spec (P := mm_ ho nn si ty k' n mn tw) (f := nm) (i := 0) with ⟨g1, -⟩ | ⟨j, -, g2, g3, g4⟩
    · exact absurd g1 h2
    · obtain ⟨-, -, e3, e4⟩ := mm_iff.mp g4
      exact Or.inr ⟨j, by omega, h1.trans g3, e3, e4⟩
/-- how far a class is in a line -/
def dn_ (pa : Nat → Int32) (h : Int32) : Nat → Int32 → Option Nat
  | 0, _ => none
  | f + 1, k => if k = -1 then none else if k = h then some 0 else (dn_ pa h f (pa k.toNatClampNeg)).map (· + 1)
theorem dn_ds (h : Int32) : ∀ (f : Nat) (k : Int32) (n : Nat), ds_ pa h f k n = match dn_ pa h f k with | none => -1 | some d => nI (n + d)
  | 0, _, _ => rfl
  | f + 1, k, n => by
    simp only [ds_, dn_]
    split
    · rfl
    · split
      · rfl
      · rw [dn_ds h f (pa k.toNatClampNeg) (n + 1)]
        cases dn_ pa h f (pa k.toNatClampNeg) with
        | none => rfl
        | some d => simp only [Option.map_some]; rw [show n + 1 + d = n + (d + 1) by omega]
theorem dn_lt {h : Int32} : ∀ {f : Nat} {k : Int32} {d : Nat}, dn_ pa h f k = some d → d < f
  | 0, _, _, e => by cases e
  | f + 1, k, d, e => by
    simp only [dn_] at e
    split at e
    · cases e
    · split at e
      · cases e; omega
      · cases h1 : dn_ pa h f (pa k.toNatClampNeg) with
        | none => rw [h1] at e; cases e
        | some d' =>
          rw [h1] at e
          have := dn_lt h1
          cases e
          show d' + 1 < f + 1
          omega
theorem dn_below (hln : ln_ok nc pa) {j : Nat} (hj : j < nc) : ∀ (f : Nat) (k : Int32), ln_k j k → dn_ pa (nI j) f k = none
  | 0, _, _ => rfl
  | f + 1, k, hk => by
    have h16 := hln.1
    simp only [dn_]
    rcases hk with h | ⟨y, h1, h2⟩
    · rw [if_pos h]
    · subst h2
      rw [if_neg (nI_nm1 (by omega)), if_neg (fun h => absurd ((nI_eq (by omega) (by omega)).mp h) (by omega)), nI_clamp (by omega), dn_below hln hj f (pa y) ((hln.2 y (by omega)).mono (by omega))]
      rfl
/-- no more numbers below n than n -/
theorem nd_len : ∀ (n : Nat) (L : List Nat), L.Nodup → (∀ x ∈ L, x < n) → L.length ≤ n
  | 0, [], _, _ => Nat.le_refl _
  | 0, a :: _, _, h => absurd (h a (List.mem_cons_self)) (Nat.not_lt_zero a)
  | n + 1, L, hn, h => by
    by_cases hm : n ∈ L
    · have h1 := nd_len n (L.erase n) (hn.erase n) (fun x hx => by
        have h2 := (hn.mem_erase_iff).mp hx
        have := h x h2.2
        have := h2.1
        omega)
      have h3 := List.length_erase_of_mem hm
      omega
    · have := nd_len n L hn (fun x hx => by
        have h1 := h x hx
        have h2 : x ≠ n := fun e => hm (e ▸ hx)
        omega)
      omega
theorem nd_lt {n z : Nat} {L : List Nat} (h : L.Nodup) (hl : ∀ x ∈ L, x < n) (hz : z < n) (hn : z ∉ L) : L.length < n := by
  have := nd_len n (z :: L) (List.nodup_cons.mpr ⟨hn, h⟩) (fun x hx => (List.mem_cons.mp hx).elim (fun e => by omega) (hl x))
  rw [List.length_cons] at this
  omega
theorem hd_iff {L : List Nat} {z : Nat} : hd_ ty L z = true ↔ ∃ c ∈ L, ty c = ty z := by
  rw [hd_, List.any_eq_true]
  simp only [decide_eq_true_iff]
theorem gf_mem {P : Nat → Bool} (hnm : nm ≤ 64) (hu : ∀ a b, a < b → b < nm → P a = true → P b = true → ¬ ty a = ty b) : ∀ (f z0 : Nat) (L : List Nat), z0 + f = nm → L.Nodup → (∀ c ∈ L, c < nm) → (∀ c ∈ L, P c = true → c < z0) →
    (gf_ P (hd_ ty) f z0 L).Nodup ∧ (∀ z, z ∈ gf_ P (hd_ ty) f z0 L ↔ z ∈ L ∨ (z0 ≤ z ∧ z < nm ∧ P z = true ∧ ¬ ∃ c ∈ L, ty c = ty z))
  | 0, z0, L, he, hn, hl, hp => by
    refine ⟨hn, fun z => ⟨Or.inl, fun h => h.elim id (fun h => by omega)⟩⟩
  | f + 1, z0, L, he, hn, hl, hp => by
    simp only [gf_]
    by_cases h64 : L.length < 64
    · rw [if_pos h64]
      by_cases hc : P z0 = true ∧ hd_ ty L z0 = false
      · rw [if_pos hc]
        have hno : z0 ∉ L := fun h => absurd (hp z0 h hc.1) (Nat.lt_irrefl z0)
        have hnc : ¬ ∃ c ∈ L, ty c = ty z0 := fun h => by rw [hd_iff.mpr h] at hc; cases hc.2
        obtain ⟨k1, k2⟩ := gf_mem hnm hu f (z0 + 1) (L ++ [z0]) (by omega) (List.nodup_append.mpr ⟨hn, List.nodup_cons.mpr ⟨List.not_mem_nil, List.nodup_nil⟩, fun a ha b hb => by rw [List.mem_singleton.mp hb]; exact fun e => hno (e ▸ ha)⟩) (fun c hc => (List.mem_append.mp hc).elim (hl c) (fun h => by rw [List.mem_singleton.mp h]; omega)) (fun c hc hP => (List.mem_append.mp hc).elim (fun h => Nat.lt_succ_of_lt (hp c h hP)) (fun h => by rw [List.mem_singleton.mp h]; omega))
        refine ⟨k1, fun z => (k2 z).trans ?_⟩
        constructor
        · rintro (h | ⟨h1, h2, h3, h4⟩)
          · rcases List.mem_append.mp h with h | h
            · exact Or.inl h
            · obtain rfl := List.mem_singleton.mp h
              exact Or.inr ⟨Nat.le_refl _, by omega, hc.1, hnc⟩
          · exact Or.inr ⟨by omega, h2, h3, fun ⟨c, g1, g2⟩ => h4 ⟨c, List.mem_append_left _ g1, g2⟩⟩
        · rintro (h | ⟨h1, h2, h3, h4⟩)
          · exact Or.inl (List.mem_append_left _ h)
          · by_cases he0 : z = z0
            · subst he0; exact Or.inl (List.mem_append_right _ (List.mem_singleton.mpr rfl))
            · refine Or.inr ⟨by omega, h2, h3, ?_⟩
              rintro ⟨c, g1, g2⟩
              rcases List.mem_append.mp g1 with g1 | g1
              · exact h4 ⟨c, g1, g2⟩
              · rw [List.mem_singleton.mp g1] at g2
                exact hu z0 z (by omega) h2 hc.1 h3 g2
      · rw [if_neg hc]
        obtain ⟨k1, k2⟩ := gf_mem hnm hu f (z0 + 1) L (by omega) hn hl (fun c h hP => Nat.lt_succ_of_lt (hp c h hP))
        refine ⟨k1, fun z => (k2 z).trans ?_⟩
        constructor
        · rintro (h | ⟨h1, h2⟩)
          · exact Or.inl h
          · exact Or.inr ⟨by omega, h2⟩
        · rintro (h | ⟨h1, h2, h3, h4⟩)
          · exact Or.inl h
          · by_cases he0 : z = z0
            · subst he0
              exfalso
              refine hc ⟨h3, ?_⟩
              cases h5 : hd_ ty L z with
              | false => rfl
              | true => exact absurd (hd_iff.mp h5) h4
            · exact Or.inr ⟨by omega, h2, h3, h4⟩
    · rw [if_neg h64]
      refine ⟨hn, fun z => ⟨Or.inl, fun h => h.elim id (fun ⟨h1, h2, h3, h4⟩ => ?_)⟩⟩
      have hz : z ∉ L := fun h => by have := hp z h h3; omega
      have := nd_lt hn hl h2 hz
      omega
theorem ga_mem (hln : ln_ok nc pa) (hnm : nm ≤ 64) {Q : Nat → Bool} (hu : ∀ a b, a < b → b < nm → Q a = true → Q b = true → ho a = ho b → ¬ ty a = ty b) (hho : ∀ z, z < nm → ∃ q : Nat, q < nc ∧ ho z = nI q) : ∀ (f : Nat) (k : Int32) (L : List Nat), ln_k nc k → L.Nodup → (∀ c ∈ L, c < nm) → (∀ c ∈ L, dn_ pa (ho c) f k = none) →
    (ga_ (fun k L => gf_ (fun z => decide (ho z = k) && Q z) (hd_ ty) nm 0 L) pa f k L).Nodup ∧
    (∀ z, z ∈ ga_ (fun k L => gf_ (fun z => decide (ho z = k) && Q z) (hd_ ty) nm 0 L) pa f k L ↔ z ∈ L ∨ (z < nm ∧ Q z = true ∧ ∃ d, dn_ pa (ho z) f k = some d ∧ (¬ ∃ c ∈ L, ty c = ty z) ∧ ¬ ∃ w d', w < nm ∧ Q w = true ∧ ty w = ty z ∧ dn_ pa (ho w) f k = some d' ∧ d' < d))
  | 0, k, L, hk, hn, hl, hd => by
    simp only [ga_, dn_]
    exact ⟨hn, fun z => ⟨Or.inl, fun h => h.elim id (fun ⟨_, _, d, h, _⟩ => by cases h)⟩⟩
  | f + 1, k, L, hk, hn, hl, hd => by
    have h16 := hln.1
    simp only [ga_]
    by_cases h1 : k = -1
    · rw [if_pos h1]
      refine ⟨hn, fun z => ⟨Or.inl, fun h => h.elim id (fun ⟨_, _, d, h, _⟩ => ?_)⟩⟩
      simp only [dn_] at h
      rw [if_pos h1] at h; cases h
    · rw [if_neg h1]
      obtain ⟨j, hj, rfl⟩ := hk.resolve_left h1
      rw [nI_clamp (by omega)]
      have hun : ∀ h : Int32, dn_ pa h (f + 1) (nI j) = if nI j = h then some 0 else (dn_ pa h f (pa j)).map (· + 1) := fun h => by simp only [dn_]; rw [if_neg h1, nI_clamp (by omega)]
      have hself : dn_ pa (nI j) f (pa j) = none := dn_below hln hj f (pa j) (hln.2 j hj)
      have hPL : ∀ c ∈ L, ¬ ho c = nI j := fun c hc e => by
        have h2 := hd c hc
        rw [hun, if_pos e.symm] at h2; cases h2
      obtain ⟨g1, g2⟩ := gf_mem (ty := ty) (P := fun z => decide (ho z = nI j) && Q z) hnm (fun a b hab hb pa pb => by
        rw [Bool.and_eq_true, decide_eq_true_iff] at pa pb
        exact hu a b hab hb pa.2 pb.2 (pa.1.trans pb.1.symm)) nm 0 L (by omega) hn hl (fun c hc hP => by
        rw [Bool.and_eq_true, decide_eq_true_iff] at hP
        exact absurd hP.1 (hPL c hc))
      have g2' : ∀ z, z ∈ gf_ (fun z => decide (ho z = nI j) && Q z) (hd_ ty) nm 0 L ↔ z ∈ L ∨ (z < nm ∧ ho z = nI j ∧ Q z = true ∧ ¬ ∃ c ∈ L, ty c = ty z) := fun z => by
        rw [g2 z, Bool.and_eq_true, decide_eq_true_iff]
        exact ⟨fun h => h.elim Or.inl (fun ⟨_, a, ⟨b, c⟩, d⟩ => Or.inr ⟨a, b, c, d⟩), fun h => h.elim Or.inl (fun ⟨a, b, c, d⟩ => Or.inr ⟨Nat.zero_le _, a, ⟨b, c⟩, d⟩)⟩
      generalize gf_ (fun z => decide (ho z = nI j) && Q z) (hd_ ty) nm 0 L = L1 at g1 g2'
      obtain ⟨k1, k2⟩ := ga_mem hln hnm hu hho f (pa j) L1 (hln.at hj) g1 (fun c hc => (g2' c).mp hc |>.elim (hl c) (fun h => h.1)) (fun c hc => by
        rcases (g2' c).mp hc with h | ⟨_, h, _⟩
        · have h2 := hd c h
          rw [hun, if_neg (fun e => hPL c h e.symm)] at h2
          cases h3 : dn_ pa (ho c) f (pa j) with
          | none => rfl
          | some d => rw [h3] at h2; cases h2
        · rw [h]; exact hself)
      refine ⟨k1, fun z => (k2 z).trans ?_⟩
      rw [g2' z, hun]
      by_cases hz : ho z = nI j
      · rw [if_pos hz.symm]
        constructor
        · rintro ((h | ⟨a1, a2, a3, a4⟩) | ⟨a1, a2, d, a3, _⟩)
          · exact Or.inl h
          · exact Or.inr ⟨a1, a3, 0, rfl, a4, fun ⟨w, d', _, _, _, _, h⟩ => absurd h (Nat.not_lt_zero _)⟩
          · rw [hz, hself] at a3; cases a3
        · rintro (h | ⟨a1, a2, d, a3, a4, _⟩)
          · exact Or.inl (Or.inl h)
          · exact Or.inl (Or.inr ⟨a1, hz, a2, a4⟩)
      · rw [if_neg (fun e => hz e.symm)]
        constructor
        · rintro ((h | ⟨a1, a2, _⟩) | ⟨a1, a2, d, a3, a4, a5⟩)
          · exact Or.inl h
          · exact absurd a2 hz
          · refine Or.inr ⟨a1, a2, d + 1, by rw [a3]; rfl, fun ⟨c, c1, c2⟩ => a4 ⟨c, (g2' c).mpr (Or.inl c1), c2⟩, ?_⟩
            rintro ⟨w, d', b1, b2, b3, b4, b5⟩
            rw [hun] at b4
            by_cases hw : ho w = nI j
            · refine a4 ⟨w, (g2' w).mpr (Or.inr ⟨b1, hw, b2, fun ⟨c, c1, c2⟩ => a4 ⟨c, (g2' c).mpr (Or.inl c1), c2.trans b3⟩⟩), b3⟩
            · rw [if_neg (fun e => hw e.symm)] at b4
              cases h3 : dn_ pa (ho w) f (pa j) with
              | none => rw [h3] at b4; cases b4
              | some e =>
                rw [h3] at b4
                cases b4
                exact a5 ⟨w, e, b1, b2, b3, h3, by have b6 : e + 1 < d + 1 := b5; omega⟩
        · rintro (h | ⟨a1, a2, d, a3, a4, a5⟩)
          · exact Or.inl (Or.inl h)
          · cases h3 : dn_ pa (ho z) f (pa j) with
            | none => rw [h3] at a3; cases a3
            | some e =>
              rw [h3] at a3
              cases a3
              refine Or.inr ⟨a1, a2, e, rfl, ?_, ?_⟩
              · rintro ⟨c, c1, c2⟩
                rcases (g2' c).mp c1 with h | ⟨c3, c4, c5, _⟩
                · exact a4 ⟨c, h, c2⟩
                · exact a5 ⟨c, 0, c3, c5, c2, by rw [hun, if_pos c4.symm], Nat.succ_pos e⟩
              · rintro ⟨w, d', b1, b2, b3, b4, b5⟩
                refine a5 ⟨w, d' + 1, b1, b2, b3, ?_, Nat.succ_lt_succ b5⟩
                rw [hun, if_neg (fun e1 => by rw [← e1, hself] at b4; cases b4), b4]; rfl
end EQ
section EB
variable {pa co ho nn si ty rt kn so : Nat → Int32} {bi : Nat → Int64} {nc no nm N : Nat}
/-- named so, with so many parameters, which the arguments fit -/
def qq_ (pa co nn si ty kn so : Nat → Int32) (bi : Nat → Int64) (N : Nat) (n : Int32) (z : Nat) : Bool := decide (nn z = n) && (decide (si z = nI N) && ft_ (fun i t => wf_ pa co (kn i) (so i) (bi i) t) (ty z) N)
theorem gl_q (n k0 : Int32) : gl_ pa co ho nn si ty kn so bi nm N n k0 = ga_ (fun k L => gf_ (fun z => decide (ho z = k) && qq_ pa co nn si ty kn so bi N n z) (hd_ ty) nm 0 L) pa 16 k0 [] := by
  have h : (fun (k : Int32) (L : List Nat) => gf_ (fun m => mi_ ho nn si k n (nI N) m && ft_ (fun i t => wf_ pa co (kn i) (so i) (bi i) t) (ty m) N) (hd_ ty) nm 0 L) = (fun k L => gf_ (fun z => decide (ho z = k) && qq_ pa co nn si ty kn so bi N n z) (hd_ ty) nm 0 L) := by
    funext k L
    have h2 : (fun m => mi_ ho nn si k n (nI N) m && ft_ (fun i t => wf_ pa co (kn i) (so i) (bi i) t) (ty m) N) = (fun z => decide (ho z = k) && qq_ pa co nn si ty kn so bi N n z) := by
      funext z
      simp only [mi_, qq_, Bool.and_assoc]
    rw [h2]
  show ga_ _ pa 16 k0 [] = _
  rw [h]
theorem qq_iff {n : Int32} {z : Nat} : qq_ pa co nn si ty kn so bi N n z = true ↔ nn z = n ∧ si z = nI N ∧ ft_ (fun i t => wf_ pa co (kn i) (so i) (bi i) t) (ty z) N = true := by
  rw [qq_, Bool.and_eq_true, Bool.and_eq_true, decide_eq_true_iff, decide_eq_true_iff]
theorem fa_none {o : Nat} {h : Int32} (e : dn_ pa h 16 (co o) = none) : fa_ pa co o h = 99 := by
  rw [fa_, dn_ds, e, if_pos rfl]
theorem fa_some {o d : Nat} {h : Int32} (e : dn_ pa h 16 (co o) = some d) : fa_ pa co o h = nI d := by
  have h1 := dn_lt e
  have h2 : ds_ pa h 16 (co o) 0 = nI d := by
    rw [dn_ds, e]
    show nI (0 + d) = nI d
    rw [Nat.zero_add]
  rw [fa_, h2, if_neg (nI_nm1 (by omega))]
theorem cc_mem (hln : ln_ok nc pa) (hm : mt_ok nc nm ho nn si ty rt) (hnm : nm ≤ 64) (hN : N ≤ 4) (hok : ∀ i, i < N → ar_ok no (kn i) (so i) (bi i)) {o : Nat} (hk : ln_k nc (co o)) (n : Int32) : (gl_ pa co ho nn si ty kn so bi nm N n (co o)).Nodup ∧ ∀ z, z ∈ gl_ pa co ho nn si ty kn so bi nm N n (co o) ↔ z < nm ∧ cc_ pa co ho nn si rt kn bi nm N o n z = true := by
  rw [gl_q]
  obtain ⟨h1, h2⟩ := ga_mem (ho := ho) (ty := ty) hln hnm (Q := qq_ pa co nn si ty kn so bi N n) (fun a b hab hb qa qb e1 e2 => by
    rw [qq_iff] at qa qb
    exact hm.2 a b hab hb ⟨e1, qa.1.trans qb.1.symm, qa.2.1.trans qb.2.1.symm, e2⟩) (fun z hz => (hm.1 z hz).elim (fun _ h => h.2.2.2.2)) 16 (co o) [] hk List.nodup_nil (fun c h => absurd h List.not_mem_nil) (fun c h => absurd h List.not_mem_nil)
  refine ⟨h1, fun z => (h2 z).trans ?_⟩
  rw [or_iff_right List.not_mem_nil]
  refine and_congr_right (fun hz => ?_)
  obtain ⟨M, hM, m1, m2, m3, -⟩ := hm.1 z hz
  rw [cc_]
  simp only [Bool.and_eq_true, Bool.not_eq_true', decide_eq_true_iff, decide_eq_false_iff_not]
  rw [fr_eq hm hN hok hz, Bool.and_eq_true, decide_eq_true_iff]
  have hid : ∀ d, dn_ pa (ho z) 16 (co o) = some d → qq_ pa co nn si ty kn so bi N n z = true → ((∃ w d', w < nm ∧ qq_ pa co nn si ty kn so bi N n w = true ∧ ty w = ty z ∧ dn_ pa (ho w) 16 (co o) = some d' ∧ d' < d) ↔ an_ (hs_ pa co ho nn si rt o N z) nm = true) := by
    intro d hd hq
    obtain ⟨q1, q2, q3⟩ := qq_iff.mp hq
    obtain rfl : M = N := (nI_eq (by omega) (by omega)).mp (m1.symm.trans q2)
    have hd16 := dn_lt hd
    rw [an_iff]
    constructor
    · rintro ⟨w, d', w1, w2, w3, w4, w5⟩
      obtain ⟨p1, p2, p3⟩ := qq_iff.mp w2
      obtain ⟨M', hM', n1, n2, n3, -⟩ := hm.1 w w1
      obtain rfl : M' = M := (nI_eq (by omega) (by omega)).mp (n1.symm.trans p2)
      refine ⟨w, w1, ?_⟩
      rw [hs_, fa_some hd, fa_some w4]
      simp only [Bool.and_eq_true, Bool.not_eq_true', decide_eq_true_iff, decide_eq_false_iff_not]
      refine ⟨⟨⟨p1.trans q1.symm, p2.trans q2.symm⟩, fun h => absurd ((nI_leI (by omega) (by omega)).mp h) (by omega)⟩, ?_⟩
      rw [al_iff]
      intro i hi
      rw [decide_eq_true_iff, n3 i hi, m3 i hi, w3]
    · rintro ⟨w, w1, w2⟩
      rw [hs_, fa_some hd] at w2
      simp only [Bool.and_eq_true, Bool.not_eq_true', decide_eq_true_iff, decide_eq_false_iff_not] at w2
      obtain ⟨⟨⟨e1, e2⟩, e3⟩, e4⟩ := w2
      obtain ⟨M', hM', n1, n2, n3, -⟩ := hm.1 w w1
      obtain rfl : M' = M := (nI_eq (by omega) (by omega)).mp (n1.symm.trans (e2.trans q2))
      have hty : ty w = ty z := by
        refine ty_inj n2 m2 hM' (fun i hi => ?_)
        have h5 := al_iff.mp e4 i hi
        rw [decide_eq_true_iff, n3 i hi, m3 i hi] at h5
        exact (nI_eq (Nat.lt_trans (ty_lt _ _ _) (by decide)) (Nat.lt_trans (ty_lt _ _ _) (by decide))).mp h5
      cases hdw : dn_ pa (ho w) 16 (co o) with
      | none =>
        rw [fa_none hdw] at e3
        exact absurd ((nI_leI (b := 99) (by omega) (by decide)).mpr (by omega)) e3
      | some d' =>
        rw [fa_some hdw] at e3
        have hd' := dn_lt hdw
        refine ⟨w, d', w1, qq_iff.mpr ⟨e1.trans q1, e2.trans q2, by rw [hty]; exact q3⟩, hty, hdw, ?_⟩
        rw [nI_leI (by omega) (by omega)] at e3
        omega
  constructor
  · rintro ⟨hq, d, hd, -, hw⟩
    have hq3 := qq_iff.mp hq
    have hd16 := dn_lt hd
    refine ⟨⟨⟨hq3.1, ?_⟩, hq3.2⟩, ?_⟩
    · rw [fa_some hd]
      exact fun h => absurd ((nI_leI (a := 99) (by decide) (by omega)).mp h) (by omega)
    · cases h5 : an_ (hs_ pa co ho nn si rt o N z) nm with
      | false => rfl
      | true => exact absurd ((hid d hd hq).mpr h5) hw
  · rintro ⟨⟨⟨e1, e2⟩, e3⟩, e4⟩
    have hq := qq_iff.mpr ⟨e1, e3⟩
    cases hd : dn_ pa (ho z) 16 (co o) with
    | none =>
      rw [fa_none hd] at e2
      exact absurd (Int32.le_refl 99) e2
    | some d =>
      refine ⟨hq, d, rfl, fun ⟨c, h, _⟩ => absurd h List.not_mem_nil, fun hw => ?_⟩
      rw [(hid d hd hq).mp hw] at e4
      cases e4
theorem cn_zero {P : Nat → Bool} : ∀ {n : Nat}, (∀ z, z < n → P z = false) → cn_ P n = 0
  | 0, _ => rfl
  | n + 1, h => by
    simp only [cn_]
    rw [h n (by omega), cn_zero (fun z hz => h z (by omega))]
    rfl
theorem cn_pos {P : Nat → Bool} : ∀ {n z : Nat}, z < n → P z = true → 0 < cn_ P n
  | 0, z, h, _ => absurd h (Nat.not_lt_zero z)
  | n + 1, z, h, hp => by
    simp only [cn_]
    by_cases e : z = n
    · subst e; rw [if_pos hp]; omega
    · have := cn_pos (P := P) (n := n) (z := z) (by omega) hp
      omega
theorem cn_two {P : Nat → Bool} : ∀ {n a b : Nat}, a < b → b < n → P a = true → P b = true → 2 ≤ cn_ P n
  | 0, _, b, _, h, _, _ => absurd h (Nat.not_lt_zero b)
  | n + 1, a, b, hab, h, ha, hb => by
    simp only [cn_]
    by_cases e : b = n
    · subst e
      rw [if_pos hb]
      have := cn_pos (P := P) hab ha
      omega
    · have := cn_two (P := P) (n := n) hab (by omega) ha hb
      omega
theorem cn_one {P : Nat → Bool} : ∀ {n c : Nat}, c < n → P c = true → (∀ z, z < n → P z = true → z = c) → cn_ P n = 1 ∧ la_ P n = nI c
  | 0, c, h, _, _ => absurd h (Nat.not_lt_zero c)
  | n + 1, c, h, hc, hu => by
    simp only [cn_, la_]
    by_cases e : c = n
    · subst e
      rw [if_pos hc, if_pos hc, cn_zero (fun z hz => by
        cases hz2 : P z with
        | false => rfl
        | true => exact absurd (hu z (by omega) hz2) (by omega))]
      exact ⟨rfl, rfl⟩
    · have hn : ¬ P n = true := fun h9 => e (hu n (by omega) h9).symm
      obtain ⟨k1, k2⟩ := cn_one (P := P) (n := n) (c := c) (by omega) hc (fun z hz hp => hu z (by omega) hp)
      rw [if_neg hn, if_neg hn, k1, k2]
      exact ⟨rfl, rfl⟩
theorem bb_1 {P : Nat → Bool} : ∀ {L : List Nat} {b : Int32}, ¬ b = -1 → bb_ P L b = if L.any P = true then -1 else b
  | [], _, _ => rfl
  | c :: r, b, hb => by
    simp only [bb_]
    by_cases hc : P c = true
    · have h2 : (c :: r).any P = true := by rw [List.any_cons, hc, Bool.true_or]
      rw [if_pos hc, if_neg hb, if_pos h2]
    · have hc' : P c = false := by simpa using hc
      have h2 : (c :: r).any P = r.any P := by rw [List.any_cons, hc', Bool.false_or]
      rw [if_neg hc, bb_1 hb, h2]
theorem bb_cls {P : Nat → Bool} : ∀ {L : List Nat}, L.Nodup → (∀ c ∈ L, c < 64) → (∃ c ∈ L, P c = true ∧ (∀ c' ∈ L, P c' = true → c' = c) ∧ bb_ P L (-1) = nI c) ∨ (bb_ P L (-1) = -1 ∧ ((∀ c ∈ L, P c = false) ∨ ∃ a b, a ∈ L ∧ b ∈ L ∧ a ≠ b ∧ P a = true ∧ P b = true))
  | [], _, _ => Or.inr ⟨rfl, Or.inl (fun c h => absurd h List.not_mem_nil)⟩
  | a :: r, hn, hl => by
    have ha := hl a (List.mem_cons_self)
    obtain ⟨n1, n2⟩ := List.nodup_cons.mp hn
    have hbb : bb_ P (a :: r) (-1) = if P a = true then (if (-1 : Int32) = -1 then bb_ P r (nI a) else -1) else bb_ P r (-1) := rfl
    rw [hbb]
    by_cases hp : P a = true
    · rw [if_pos hp, if_pos rfl, bb_1 (nI_nm1 (by omega))]
      cases h9 : r.any P with
      | true =>
        rw [if_pos rfl]
        obtain ⟨b, hb1, hb2⟩ := List.any_eq_true.mp h9
        exact Or.inr ⟨rfl, Or.inr ⟨a, b, List.mem_cons_self, List.mem_cons_of_mem _ hb1, fun e => n1 (e ▸ hb1), hp, hb2⟩⟩
      | false =>
        rw [if_neg (by decide)]
        refine Or.inl ⟨a, List.mem_cons_self, hp, fun c' hc' hpc => ?_, rfl⟩
        rcases List.mem_cons.mp hc' with h | h
        · exact h
        · rw [List.any_eq_true.mpr ⟨c', h, hpc⟩] at h9; cases h9
    · have hpf : P a = false := by simpa using hp
      rw [if_neg hp]
      rcases bb_cls (P := P) n2 (fun c hc => hl c (List.mem_cons_of_mem _ hc)) with ⟨c, h1, h2, h3, h4⟩ | ⟨h1, h2 | ⟨x, y, h2, h3, h4⟩⟩
      · refine Or.inl ⟨c, List.mem_cons_of_mem _ h1, h2, fun c' hc' hpc => ?_, h4⟩
        rcases List.mem_cons.mp hc' with h | h
        · subst h; rw [hpf] at hpc; cases hpc
        · exact h3 c' h hpc
      · refine Or.inr ⟨h1, Or.inl (fun c hc => ?_)⟩
        rcases List.mem_cons.mp hc with h | h
        · subst h; exact hpf
        · exact h2 c h
      · exact Or.inr ⟨h1, Or.inr ⟨x, y, List.mem_cons_of_mem _ h2, List.mem_cons_of_mem _ h3, h4⟩⟩
theorem mn_le {x a b : Int32} : x ≤ mn_ a b ↔ x ≤ a ∧ x ≤ b := by
  rw [mn_]
  simp only [Int32.le_iff_toInt_le, Int32.lt_iff_toInt_lt]
  split <;> omega
theorem lw_fold {g : Nat → Int32} {x : Int32} : ∀ {r : List Nat} {a : Int32}, x ≤ r.foldl (fun m c => mn_ m (g c)) a ↔ x ≤ a ∧ ∀ c ∈ r, x ≤ g c
  | [], a => ⟨fun h => ⟨h, fun c hc => absurd hc List.not_mem_nil⟩, fun h => h.1⟩
  | b :: r, a => by
    rw [List.foldl_cons, lw_fold, mn_le]
    constructor
    · rintro ⟨⟨h1, h2⟩, h3⟩
      exact ⟨h1, fun c hc => (List.mem_cons.mp hc).elim (fun e => e ▸ h2) (h3 c)⟩
    · rintro ⟨h1, h2⟩
      exact ⟨⟨h1, h2 b List.mem_cons_self⟩, fun c hc => h2 c (List.mem_cons_of_mem _ hc)⟩
theorem lw_le {g : Nat → Int32} {x : Int32} {L : List Nat} (h : 0 < L.length) : x ≤ lw_ g L ↔ ∀ c ∈ L, x ≤ g c := by
  cases L with
  | nil => cases h
  | cons a r =>
    rw [lw_, lw_fold]
    exact ⟨fun ⟨h1, h2⟩ c hc => (List.mem_cons.mp hc).elim (fun e => e ▸ h1) (h2 c), fun h => ⟨h a List.mem_cons_self, fun c hc => h c (List.mem_cons_of_mem _ hc)⟩⟩
/-- the class's best is the reference's -/
theorem best_eq {L : List Nat} {C : Nat → Bool} (hnm : nm ≤ 64) (hN : N ≤ 4) (hm : mt_ok nc nm ho nn si ty rt) (hok : ∀ i, i < N → ar_ok no (kn i) (so i) (bi i)) (hnd : L.Nodup) (hmem : ∀ z, z ∈ L ↔ z < nm ∧ C z = true) (hsi : ∀ z, z < nm → C z = true → si z = nI N) (hL : 0 < L.length) {lo lo2 : Nat → Int32} (hlo : lf2_ pa co kn so bi ty lo N L = lo2) :
    (∃ j : Nat, j < nm ∧ si j = nI N ∧ bb_ (fun j => il_ (wg_ pa co kn so bi ty N) lo2 N j) L (-1) = nI j ∧ cn_ (bp_ pa co kn bi rt C nm N) nm = 1 ∧ la_ (bp_ pa co kn bi rt C nm N) nm = nI j ∧ C j = true) ∨
    (bb_ (fun j => il_ (wg_ pa co kn so bi ty N) lo2 N j) L (-1) = -1 ∧ ¬ cn_ (bp_ pa co kn bi rt C nm N) nm = 1) := by
  have hw : ∀ z, z ∈ L → ∀ i, i < N → rw_ pa co kn bi i (rt (4 * z + i)) = wg_ pa co kn so bi ty N z i := by
    intro z hz i hi
    obtain ⟨h1, h2⟩ := (hmem z).mp hz
    obtain ⟨M, hM, m1, m2, m3, -⟩ := hm.1 z h1
    obtain rfl : M = N := (nI_eq (by omega) (by omega)).mp (m1.symm.trans (hsi z h1 h2))
    rw [m3 i hi, wr_eq (hok i hi) (ty_lt _ _ _), wg_]
  have hil : ∀ z, z ∈ L → il_ (wg_ pa co kn so bi ty N) lo2 N z = bp_ pa co kn bi rt C nm N z := by
    intro z hz
    obtain ⟨z1, z2⟩ := (hmem z).mp hz
    apply Bool.eq_iff_iff.mpr
    rw [il_, decide_eq_true_iff, bp_, z2, Bool.true_and, al_iff]
    constructor
    · intro h w hw1
      rw [bw_]
      cases hCw : C w with
      | false => rfl
      | true =>
        rw [Bool.not_true, Bool.false_or, al_iff]
        intro i hi
        have hwL := (hmem w).mpr ⟨hw1, hCw⟩
        have h2 := h i hi
        rw [← hlo] at h2
        have h3 : wg_ pa co kn so bi ty N z i ≤ lw_ (fun j => wg_ pa co kn so bi ty N j i) L := by
          have e : lf2_ pa co kn so bi ty lo N L i = lw_ (fun j => wg_ pa co kn so bi ty N j i) L := by
            show (if i < N then _ else _) = _
            rw [if_pos hi]
          rw [e] at h2; exact h2
        rw [decide_eq_true_iff, hw z hz i hi, hw w hwL i hi]
        exact (lw_le hL).mp h3 w hwL
    · intro h i hi
      have e : lo2 i = lw_ (fun j => wg_ pa co kn so bi ty N j i) L := by
        rw [← hlo]
        show (if i < N then _ else _) = _
        rw [if_pos hi]
      rw [e, lw_le hL]
      intro w hwL
      obtain ⟨w1, w2⟩ := (hmem w).mp hwL
      have h2 := h w w1
      rw [bw_, w2, Bool.not_true, Bool.false_or, al_iff] at h2
      have h3 := h2 i hi
      rw [decide_eq_true_iff, hw z hz i hi, hw w hwL i hi] at h3
      exact h3
  have hbC : ∀ z, z < nm → bp_ pa co kn bi rt C nm N z = true → z ∈ L := by
    intro z hz h
    rw [bp_, Bool.and_eq_true] at h
    exact (hmem z).mpr ⟨hz, h.1⟩
  rcases bb_cls (P := fun j => il_ (wg_ pa co kn so bi ty N) lo2 N j) hnd (fun c hc => by have := ((hmem c).mp hc).1; omega) with ⟨c, h1, h2, h3, h4⟩ | ⟨h1, h2⟩
  · left
    obtain ⟨c1, c2⟩ := (hmem c).mp h1
    obtain ⟨k1, k2⟩ := cn_one (P := bp_ pa co kn bi rt C nm N) c1 (by rw [← hil c h1]; exact h2) (fun z hz hp => h3 z (hbC z hz hp) (by show il_ _ _ _ _ = true; rw [hil z (hbC z hz hp)]; exact hp))
    exact ⟨c, c1, hsi c c1 c2, h4, k1, k2, c2⟩
  · right
    refine ⟨h1, ?_⟩
    rcases h2 with h2 | ⟨a, b, ha, hb, hab, pa1, pb1⟩
    · rw [cn_zero (fun z hz => by
        cases hp : bp_ pa co kn bi rt C nm N z with
        | false => rfl
        | true =>
          have hzL := hbC z hz hp
          have h5 := h2 z hzL
          rw [hil z hzL, hp] at h5; cases h5)]
      decide
    · have ha1 := (hmem a).mp ha
      have hb1 := (hmem b).mp hb
      have qa : bp_ pa co kn bi rt C nm N a = true := by rw [← hil a ha]; exact pa1
      have qb : bp_ pa co kn bi rt C nm N b = true := by rw [← hil b hb]; exact pb1
      rcases Nat.lt_or_gt_of_ne hab with h | h
      · have := cn_two h hb1.1 qa qb
        omega
      · have := cn_two h ha1.1 qb qa
        omega
theorem wv_ext {f g g' : Nat → Int64} {b n : Nat} (h : ∀ i, i < n → g i = g' i) : wv_ f b g n = wv_ f b g' n := by
  funext z
  simp only [wv_]
  split
  · exact h _ (by omega)
  · rfl
/-- what is written down is the same -/
theorem wr_same (hN : N ≤ 4) (hm : mt_ok nc nm ho nn si ty rt) (hok : ∀ i, i < N → ar_ok no (kn i) (so i) (bi i)) {j : Nat} (hj : j < nm) (hs : si j = nI N) (hf : ft_ (fun i t => wf_ pa co (kn i) (so i) (bi i) t) (ty j) N = true) (fv : Nat → Int64) (nd : Nat) : wv_ fv (4 * (nd % 64)) (fun i => tu_ kn bi i (rt (4 * j + i))) N = wv_ fv (nd % 64 * 4) (fun i => cv_ kn bi i (nI (ty_N (ty j) N i))) N := by
  rw [Nat.mul_comm 4]
  refine wv_ext (fun i hi => ?_)
  obtain ⟨M, hM, m1, m2, m3, -⟩ := hm.1 j hj
  obtain rfl : M = N := (nI_eq (by omega) (by omega)).mp (m1.symm.trans hs)
  rw [ft_, decide_eq_true_iff] at hf
  rw [m3 i hi]
  exact tu_eq (hok i hi) (ty_lt _ _ _) (hf i hi)
end EB
