theorem fb_rg (x : Int32) : -2147483648 ≤ x.toInt ∧ x.toInt < 2147483648 := ⟨Int32.le_toInt x, Int32.toInt_lt x⟩
theorem zw_eq (x : Int) : zw x = (Int32.ofInt x).toInt := by rw [Int32.toInt_ofInt]; rfl
theorem zq_eq (x : Int) : zq x = (Int64.ofInt x).toInt := by rw [Int64.toInt_ofInt]; rfl
theorem zw_0 : zw 0 = 0 := by decide
theorem zw_of (x : Int) : Int32.ofInt (zw x) = Int32.ofInt x := by rw [zw_eq, Int32.ofInt_toInt]
theorem zq_of (x : Int) : Int64.ofInt (zq x) = Int64.ofInt x := by rw [zq_eq, Int64.ofInt_toInt]
theorem z32_lt (x y : Int) : Int32.ofInt x < Int32.ofInt y ↔ zw x < zw y := by rw [zw_eq, zw_eq]; exact Int32.lt_iff_toInt_lt
theorem z32_le (x y : Int) : Int32.ofInt x ≤ Int32.ofInt y ↔ zw x ≤ zw y := by rw [zw_eq, zw_eq]; exact Int32.le_iff_toInt_le
theorem z32_eq (x y : Int) : Int32.ofInt x = Int32.ofInt y ↔ zw x = zw y := by rw [zw_eq, zw_eq]; exact Int32.toInt_inj.symm
theorem z32_eq0 (x : Int) : Int32.ofInt x = 0 ↔ zw x = 0 := by
  have h := z32_eq x 0
  simpa [zw_0] using h
theorem z32_lt0 (x : Int) : Int32.ofInt x < 0 ↔ zw x < 0 := by
  have h := z32_lt x 0
  simpa [zw_0] using h
theorem z32_le0 (x : Int) : Int32.ofInt x ≤ 0 ↔ zw x ≤ 0 := by
  have h := z32_le x 0
  simpa [zw_0] using h
theorem z32_gt0 (x : Int) : 0 < Int32.ofInt x ↔ 0 < zw x := by
  have h := z32_lt 0 x
  simpa [zw_0] using h
theorem z32_ge0 (x : Int) : 0 ≤ Int32.ofInt x ↔ 0 ≤ zw x := by
  have h := z32_le 0 x
  simpa [zw_0] using h
theorem z32_div (x y : Int) : Int32.ofInt ((zw x).tdiv (zw y)) = Int32.ofInt x / Int32.ofInt y := by
  apply Int32.toInt_inj.mp
  rw [Int32.toInt_div, zw_eq, zw_eq, Int32.toInt_ofInt]
theorem z32_rem (x y : Int) : Int32.ofInt ((zw x).tmod (zw y)) = Int32.ofInt x - Int32.ofInt x / Int32.ofInt y * Int32.ofInt y := by
  rw [Int.tmod_def, Int32.ofInt_sub, Int32.ofInt_mul, z32_div, zw_of, zw_of, Int32.mul_comm]
theorem z32_in (i : Int) (n : Nat) : vp_in (Int32.ofInt i) n ↔ 0 ≤ zw i ∧ zw i < n := by rw [vp_in_iff, zw_eq]
theorem z32_cl (i : Int) : (Int32.ofInt i).toNatClampNeg = (zw i).toNat := by rw [zw_eq]; rfl
theorem z64_lt (x y : Int) : Int64.ofInt x < Int64.ofInt y ↔ zq x < zq y := by rw [zq_eq, zq_eq]; exact Int64.lt_iff_toInt_lt
theorem z64_eq (x y : Int) : Int64.ofInt x = Int64.ofInt y ↔ zq x = zq y := by rw [zq_eq, zq_eq]; exact Int64.toInt_inj.symm
theorem z64_cmp (x y : Int) : lg_cmp (Int64.ofInt x) (Int64.ofInt y) = Int32.ofInt (zlcmp x y) := by
  unfold lg_cmp zlcmp
  simp only [gt_iff_lt, z64_lt, z64_eq]
  split
  · rfl
  · split <;> rfl
theorem z_i2l (x : Int) : (Int32.ofInt x).toInt64 = Int64.ofInt (zw x) := by
  apply Int64.toInt_inj.mp
  rw [Int32.toInt_toInt64, Int64.toInt_ofInt, zw_eq]
  have h := fb_rg (Int32.ofInt x)
  rw [show Int64.size = 18446744073709551616 from rfl, Int.bmod_eq_of_le (by omega) (by omega)]
theorem z_l2i (x : Int) : (Int64.ofInt x).toInt32 = Int32.ofInt x := by simp
theorem z_i2b (x : Int) : (Int32.ofInt x).toInt8.toInt32 = Int32.ofInt (zb8 x) := by
  apply Int32.toInt_inj.mp
  rw [Int8.toInt_toInt32, Int32.toInt_toInt8, Int32.toInt_ofInt, Int32.toInt_ofInt]
  unfold zb8
  rw [show Int32.size = 4294967296 from rfl, show (2 : Nat) ^ 8 = 256 from rfl, Int.bmod_bmod_of_dvd (by decide)]
  have h1 := Int.bmod_lt (x := x) (m := 256) (by decide)
  have h2 := Int.le_bmod (x := x) (m := 256) (by decide)
  rw [Int.bmod_eq_of_le (n := x.bmod 256) (by omega) (by omega)]
theorem z_i2s (x : Int) : (Int32.ofInt x).toInt16.toInt32 = Int32.ofInt (zb16 x) := by
  apply Int32.toInt_inj.mp
  rw [Int16.toInt_toInt32, Int32.toInt_toInt16, Int32.toInt_ofInt, Int32.toInt_ofInt]
  unfold zb16
  rw [show Int32.size = 4294967296 from rfl, show (2 : Nat) ^ 16 = 65536 from rfl, Int.bmod_bmod_of_dvd (by decide)]
  have h1 := Int.bmod_lt (x := x) (m := 65536) (by decide)
  have h2 := Int.le_bmod (x := x) (m := 65536) (by decide)
  rw [Int.bmod_eq_of_le (n := x.bmod 65536) (by omega) (by omega)]
