/-! bits: rows of kit/laws/BITS.to-paste -/
def bt (x : Int32) (i : Nat) : Bool := x.toBitVec.getLsbD i
theorem b_ext {x y : Int32} (h : ∀ i, i < 32 → bt x i = bt y i) : x = y := Int32.toBitVec_inj.mp (BitVec.eq_of_getLsbD_eq (fun i hi => h i hi))
theorem b_or (x y : Int32) (i : Nat) : bt (x ||| y) i = (bt x i || bt y i) := by unfold bt; rw [Int32.toBitVec_or, BitVec.getLsbD_or]
theorem b_and (x y : Int32) (i : Nat) : bt (x &&& y) i = (bt x i && bt y i) := by unfold bt; rw [Int32.toBitVec_and, BitVec.getLsbD_and]
theorem b_0 (i : Nat) : bt 0 i = false := BitVec.getLsbD_zero
theorem s_l : ∀ n, n < 32 → ((nI n &&& 31).toBitVec.smod 32).toNat = n := by decide +kernel
theorem b_shl (n : Nat) (hn : n < 32) (x : Int32) {i : Nat} (hi : i < 32) : bt (x <<< (nI n &&& 31)) i = (decide (n ≤ i) && bt x (i - n)) := by
  unfold bt
  rw [Int32.toBitVec_shiftLeft]
  show (x.toBitVec <<< ((nI n &&& 31).toBitVec.smod 32).toNat).getLsbD i = _
  rw [s_l n hn, BitVec.getLsbD_shiftLeft]
  rcases Nat.lt_or_ge i n with h | h
  · simp [h, Nat.not_le.mpr h]
  · simp [hi, h, Nat.not_lt.mpr h]
theorem b_sshr (n : Nat) (hn : n < 32) (x : Int32) {i : Nat} (hi : i < 32) : bt (x >>> (nI n &&& 31)) i = if n + i < 32 then bt x (n + i) else bt x 31 := by
  unfold bt
  rw [Int32.toBitVec_shiftRight]
  show (x.toBitVec.sshiftRight ((nI n &&& 31).toBitVec.smod 32).toNat).getLsbD i = _
  rw [s_l n hn, BitVec.getLsbD_sshiftRight, BitVec.msb_eq_getLsbD_last]
  simp [hi]
theorem bit_iff (x : Int32) {i : Nat} (hi : i < 32) : ((x >>> (nI i &&& 31)) &&& 1) = 1 ↔ bt x i = true := by
  have h1 : ∀ k, k < 32 → bt 1 k = decide (k = 0) := by decide +kernel
  constructor
  · intro h
    have e : bt ((x >>> (nI i &&& 31)) &&& 1) 0 = bt 1 0 := by rw [h]
    rw [b_and, h1 0 (by omega), b_sshr i hi x (by omega), if_pos (by omega), Nat.add_zero, decide_eq_true rfl, Bool.and_true] at e
    exact e
  · intro h
    apply b_ext
    intro k hk
    rw [b_and, h1 k hk]
    by_cases q : k = 0
    · subst q
      rw [b_sshr i hi x (by omega), if_pos (by omega), Nat.add_zero, h, Bool.true_and]
    · rw [decide_eq_false q, Bool.and_false]
/-- which of twelve bits are set -/
def Bm (x : Int32) (S : Nat → Prop) : Prop := ∀ i, i < 12 → (((x >>> (nI i &&& 31)) &&& 1) = 1 ↔ S i)
theorem Bm_0 {S : Nat → Prop} (h : ∀ i, i < 12 → ¬ S i) : Bm 0 S := fun i hi => by
  rw [bit_iff 0 (by omega), b_0]
  exact ⟨fun q => (by cases q), fun q => absurd q (h i hi)⟩
theorem Bm_to {x : Int32} {S S' : Nat → Prop} (h : Bm x S) (e : ∀ i, i < 12 → (S i ↔ S' i)) : Bm x S' := fun i hi => (h i hi).trans (e i hi)
theorem Bm_or {x : Int32} {S : Nat → Prop} (h : Bm x S) {j : Nat} (hj : j < 12) : Bm (x ||| (1 <<< (nI j &&& 31))) (fun i => S i ∨ i = j) := fun i hi => by
  have h1 : ∀ k, k < 32 → bt 1 k = decide (k = 0) := by decide +kernel
  have h2 := h i hi
  rw [bit_iff x (by omega)] at h2
  rw [bit_iff _ (by omega), b_or, b_shl j (by omega) 1 (by omega), h1 (i - j) (by omega), Bool.or_eq_true, Bool.and_eq_true, decide_eq_true_eq, decide_eq_true_eq, h2]
  constructor
  · intro q
    rcases q with q | q
    · exact Or.inl q
    · exact Or.inr (by omega)
  · intro q
    rcases q with q | q
    · exact Or.inl q
    · exact Or.inr (by omega)
