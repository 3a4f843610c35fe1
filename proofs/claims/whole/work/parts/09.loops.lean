/-! LOOPS -/
section HL
variable {p : Program} {l : Launch} {e : Env} {R : Room} {s : State} {m : MethodId} {args : Array Value} {below : List Frame} {meth : Method} {c : Code} {H : Heap} {locs : List Loc} {cells slots : Nat} {Q : State → Prop}
theorem hx_loopR {σ : Type} {pc2 : Nat} {I : σ → Array Slot → Prop} {μ : σ → Nat} (body : ∀ (x : σ) (ls : Array Slot), I x ls → (∀ (y : σ) (ls' : Array Slot), μ y < μ x → I y ls' → W p l e R s m args below meth c H locs cells slots Q (F0 m pc2 ls' [])) → W p l e R s m args below meth c H locs cells slots Q (F0 m pc2 ls [])) (x0 : σ) {ls : Array Slot} (h0 : I x0 ls) : W p l e R s m args below meth c H locs cells slots Q (F0 m pc2 ls []) := by
  have key : ∀ (n : Nat) (x : σ) (ls : Array Slot), μ x < n → I x ls → W p l e R s m args below meth c H locs cells slots Q (F0 m pc2 ls []) := by
    intro n
    induction n with
    | zero => intro x ls h; omega
    | succ n ih => intro x ls h hI; exact body x ls hI (fun y ls' hy hI' => ih y ls' (by omega) hI')
  exact key (μ x0 + 1) x0 ls (by omega) h0
theorem hx_loopW {σ : Type} {pc2 : Nat} {I : σ → Array Slot → Heap → List Loc → Prop} {μ : σ → Nat} (body : ∀ (x : σ) (ls : Array Slot) (H : Heap) (locs : List Loc), I x ls H locs → (∀ (y : σ) (ls' : Array Slot) (H' : Heap) (locs' : List Loc), μ y < μ x → I y ls' H' locs' → W p l e R s m args below meth c H' locs' cells slots Q (F0 m pc2 ls' [])) → W p l e R s m args below meth c H locs cells slots Q (F0 m pc2 ls [])) (x0 : σ) {ls : Array Slot} (h0 : I x0 ls H locs) : W p l e R s m args below meth c H locs cells slots Q (F0 m pc2 ls []) := by
  have key : ∀ (n : Nat) (x : σ) (ls : Array Slot) (H : Heap) (locs : List Loc), μ x < n → I x ls H locs → W p l e R s m args below meth c H locs cells slots Q (F0 m pc2 ls []) := by
    intro n
    induction n with
    | zero => intro x ls H locs h; omega
    | succ n ih => intro x ls H locs h hI; exact body x ls H locs hI (fun y ls' H' locs' hy hI' => ih y ls' H' locs' (by omega) hI')
  exact key (μ x0 + 1) x0 ls H locs (by omega) h0
theorem hx_cut0 {g : JFrame} {pc2 : Nat} {ls2 : Array Slot} {rest2 : List Value} {P : Prop} (k : P → W p l e R s m args below meth c H locs cells slots Q (F0 m pc2 ls2 rest2)) (h : (P → W p l e R s m args below meth c H locs cells slots Q (F0 m pc2 ls2 rest2)) → W p l e R s m args below meth c H locs cells slots Q g) : W p l e R s m args below meth c H locs cells slots Q g := h k
end HL
/-! SHIFTS -/
theorem sh_u : ∀ n, n < 32 → (((nI n).toUInt32 &&& Int32.toUInt32 31).toBitVec % 32).toNat = n := by decide
theorem sh_b {n : Nat} (hn : n < 32) (x : Int32) : ((x.toUInt32 >>> ((nI n).toUInt32 &&& Int32.toUInt32 31)).toInt32 &&& 255) = nI (x.toBitVec.toNat / 2 ^ n % 256) := by
  rw [pk_and _ 8 (by decide), pk_ushr x (nI n) n (sh_u n hn)]
theorem sh_0 {n : Nat} (hn : n < 32) (x : Int32) : (x.toUInt32 >>> ((nI n).toUInt32 &&& Int32.toUInt32 31)).toInt32 = 0 ↔ x.toBitVec.toNat < 2 ^ n := by
  have h := pk_ushr x (nI n) n (sh_u n hn)
  constructor
  · intro h0
    rw [h0] at h
    have h1 : (0 : Int32).toBitVec.toNat = 0 := rfl
    rw [h1] at h
    have h2 : 0 < 2 ^ n := Nat.pos_of_ne_zero (by simp)
    rcases Nat.lt_or_ge x.toBitVec.toNat (2 ^ n) with h3 | h3
    · exact h3
    · have := Nat.div_pos h3 h2
      omega
  · intro h0
    rw [Nat.div_eq_of_lt h0] at h
    apply Int32.toBitVec_inj.mp
    apply BitVec.eq_of_toNat_eq
    rw [h]
    rfl
/-- the type of parameter i of n, in a word with a byte each -/
def ty_N (ty : Int32) (n i : Nat) : Nat := ty.toBitVec.toNat / 2 ^ (8 * (n - 1 - i)) % 256
theorem ty_lt (ty : Int32) (n i : Nat) : ty_N ty n i < 256 := Nat.mod_lt _ (by decide)
/-- a word of n types, all of them there, zeros above -/
def ty_ok (nc : Nat) (ty : Int32) (n : Nat) : Bool := decide (ty.toBitVec.toNat < 2 ^ (8 * n)) && decide (∀ i, i < n → ty_N ty n i < 6 + nc)
/-- how far c comes behind k in its line, by at most so many steps -/
def ds_ (pa : Nat → Int32) (c : Int32) : Nat → Int32 → Nat → Int32
  | 0, _, _ => -1
  | f + 1, k, n => if k = -1 then -1 else if k = c then nI n else ds_ pa c f (pa k.toNatClampNeg) (n + 1)
/-- a class or none -/
def ln_k (nc : Nat) (k : Int32) : Prop := k = -1 ∨ ∃ j : Nat, j < nc ∧ k = nI j
/-- parents: none, or one of a lower number -/
def ln_ok (nc : Nat) (pa : Nat → Int32) : Prop := nc ≤ 16 ∧ ∀ j, j < nc → ln_k j (pa j)
theorem ln_k.mono {a b : Nat} {k : Int32} (h : ln_k a k) (hab : a ≤ b) : ln_k b k := h.elim Or.inl (fun ⟨j, h1, h2⟩ => Or.inr ⟨j, by omega, h2⟩)
theorem ln_ok.at {nc : Nat} {pa : Nat → Int32} (h : ln_ok nc pa) {j : Nat} (hj : j < nc) : ln_k nc (pa j) := (h.2 j hj).mono (by omega)
theorem nI_nm1 {j : Nat} (h : j < 2 ^ 31) : ¬ nI j = -1 := by
  intro h1
  have h2 := nI_toInt h
  rw [h1] at h2
  have h3 : (-1 : Int32).toInt = -1 := rfl
  omega
