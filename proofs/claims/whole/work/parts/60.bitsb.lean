/-- a bit of a long -/
def zbi (x : Int) (d : Nat) : Bool := (Int64.ofInt x).toBitVec.getLsbD d
theorem zsh_f : ∀ k : Fin 64, (((Int32.ofInt (k.val : Int)).toInt64 &&& 63).toBitVec.smod 64).toNat = k.val := by decide
theorem zsh_n {c : Int} (c0 : 0 ≤ c) (c1 : c < 64) : (((Int32.ofInt c).toInt64 &&& 63).toBitVec.smod 64).toNat = c.toNat := by
  have := zsh_f ⟨c.toNat, by omega⟩
  dsimp only at this
  rw [show ((c.toNat : Nat) : Int) = c by omega] at this
  exact this
theorem zbi_shl {c : Int} (c0 : 0 ≤ c) (c1 : c < 64) (d : Nat) (hd : d < 64) : zbi (zlshl 1 c) d = decide ((d : Int) = c) := by
  unfold zbi zlshl
  rw [Int64.ofInt_toInt, Int64.toBitVec_shiftLeft, BitVec.shiftLeft_eq', zsh_n c0 c1]
  have e : (Int64.ofInt 1).toBitVec <<< c.toNat = BitVec.twoPow 64 c.toNat := by
    show 1#64 <<< c.toNat = _
    rw [BitVec.twoPow]
  rw [e, BitVec.getLsbD_twoPow]
  rw [Bool.eq_iff_iff]
  simp only [Bool.and_eq_true, decide_eq_true_eq]
  omega
theorem zbi_or (x y : Int) (d : Nat) : zbi (zlor x y) d = (zbi x d || zbi y d) := by
  unfold zbi zlor
  rw [Int64.ofInt_toInt]
  show ((Int64.ofInt x).toBitVec ||| (Int64.ofInt y).toBitVec).getLsbD d = _
  rw [BitVec.getLsbD_or]
theorem zbi_and (x y : Int) (d : Nat) : zbi (zland x y) d = (zbi x d && zbi y d) := by
  unfold zbi zland
  rw [Int64.ofInt_toInt]
  show ((Int64.ofInt x).toBitVec &&& (Int64.ofInt y).toBitVec).getLsbD d = _
  rw [BitVec.getLsbD_and]
theorem zbi_xor (x y : Int) (d : Nat) : zbi (zlxor x y) d = (zbi x d ^^ zbi y d) := by
  unfold zbi zlxor
  rw [Int64.ofInt_toInt]
  show ((Int64.ofInt x).toBitVec ^^^ (Int64.ofInt y).toBitVec).getLsbD d = _
  rw [BitVec.getLsbD_xor]
theorem zbi_m1 (d : Nat) (hd : d < 64) : zbi (-1) d = true := by
  unfold zbi
  have : (Int64.ofInt (-1)).toBitVec = BitVec.allOnes 64 := by decide
  rw [this, BitVec.getLsbD_allOnes]
  simp [hd]
theorem zbi_0 (d : Nat) : zbi 0 d = false := by
  unfold zbi
  have : (Int64.ofInt 0).toBitVec = 0#64 := rfl
  rw [this]
  simp
theorem zland_q (x y : Int) : zq (zland x y) = zland x y := by
  have e : zland x y = (Int64.ofInt x &&& Int64.ofInt y).toBitVec.toInt := rfl
  have r1 := BitVec.toInt_lt (x := (Int64.ofInt x &&& Int64.ofInt y).toBitVec)
  have r2 := BitVec.le_toInt (x := (Int64.ofInt x &&& Int64.ofInt y).toBitVec)
  rw [e]
  exact zq_id (by omega) (by omega)
theorem zand_z (x y : Int) : zw (zlcmp (zland x y) 0) = 0 ↔ ∀ d : Nat, d < 64 → ¬ (zbi x d = true ∧ zbi y d = true) := by
  rw [zlcmp_0, zland_q, show zq 0 = 0 from rfl]
  constructor
  · intro h d _ ⟨a, b⟩
    have e := zbi_and x y d
    rw [h, zbi_0, a, b] at e
    cases e
  · intro h
    have e : (Int64.ofInt x).toBitVec &&& (Int64.ofInt y).toBitVec = 0#64 := by
      apply BitVec.eq_of_getLsbD_eq
      intro i hi
      rw [BitVec.getLsbD_and]
      have := h i hi
      unfold zbi at this
      simp only [BitVec.getLsbD_zero]
      cases ha : (Int64.ofInt x).toBitVec.getLsbD i with
      | false => rfl
      | true =>
        cases hb : (Int64.ofInt y).toBitVec.getLsbD i with
        | false => rfl
        | true => exact absurd ⟨ha, hb⟩ this
    have e2 : zland x y = ((Int64.ofInt x).toBitVec &&& (Int64.ofInt y).toBitVec).toInt := rfl
    rw [e2, e]
    rfl
theorem zbi_shr {x c : Int} (c0 : 0 ≤ c) (c1 : c < 64) : zbi (zlshr x c) 0 = zbi x c.toNat := by
  unfold zbi zlshr
  rw [Int64.ofInt_toInt, zsh1 _ _ c.toNat (zsh_n c0 c1), BitVec.getLsbD_sshiftRight]
  have : c.toNat + 0 < 64 := by omega
  simp only [this, if_true]
  simp
theorem zbi_1 (d : Nat) (hd : d < 64) : zbi 1 d = decide (d = 0) := by
  unfold zbi
  have : (Int64.ofInt 1).toBitVec = 1#64 := rfl
  rw [this, BitVec.getLsbD_one]
  simp
theorem zshr_z {x c : Int} (c0 : 0 ≤ c) (c1 : c < 64) : zw (zlcmp (zland (zlshr x c) 1) 0) = 0 ↔ zbi x c.toNat = false := by
  rw [zand_z]
  constructor
  · intro h
    have := h 0 (by omega)
    rw [zbi_shr c0 c1, zbi_1 0 (by omega)] at this
    cases e : zbi x c.toNat with
    | false => rfl
    | true => exact absurd ⟨e, rfl⟩ this
  · intro h d hd ⟨a, b⟩
    rw [zbi_1 d hd] at b
    have : d = 0 := by simpa using b
    subst this
    rw [zbi_shr c0 c1, h] at a
    cases a
