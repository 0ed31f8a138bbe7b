def zmx (a b : Int) : Int := if a < b then b else a
/-- asks of an endless row: the next free beat, and when each bank is ready -/
def zrt (β : Nat → Int) (q : Int) : Nat → Int × (Int → Int)
  | 0 => (0, fun _ => 0)
  | k + 1 => (zmx (zrt β q k).1 ((zrt β q k).2 (β k)) + 1, fun j => if j = β k then zmx (zrt β q k).1 ((zrt β q k).2 (β k)) + q else (zrt β q k).2 j)
theorem zrt_rg {β : Nat → Int} {q : Int} (q0 : 1 ≤ q) (q1 : q ≤ 12) (k : Nat) : 0 ≤ (zrt β q k).1 ∧ (k : Int) ≤ (zrt β q k).1 ∧ (zrt β q k).1 ≤ 13 * k ∧ (∀ j, 0 ≤ (zrt β q k).2 j ∧ (zrt β q k).2 j ≤ (zrt β q k).1 - 1 + q) := by
  induction k with
  | zero => simp [zrt]; omega
  | succ k ih =>
    obtain ⟨h0, h1, h2, h3⟩ := ih
    have h4 := h3 (β k)
    rw [zrt]
    dsimp only
    unfold zmx
    refine ⟨by split <;> omega, by split <;> omega, by split <;> omega, fun j => ?_⟩
    have h5 := h3 j
    by_cases e : j = β k
    · rw [if_pos e]; split <;> omega
    · rw [if_neg e]; split <;> omega
def zps (x : Int) : Int := if 0 < x then x else 0
/-- what each bank has still to rest -/
def zL (β : Nat → Int) (q : Int) (k : Nat) (j : Int) : Int := zps ((zrt β q k).2 j - (zrt β q k).1)
theorem zL_rg {β : Nat → Int} {q : Int} (q0 : 1 ≤ q) (q1 : q ≤ 12) (k : Nat) (j : Int) : 0 ≤ zL β q k j ∧ zL β q k j ≤ q - 1 := by
  obtain ⟨h0, h1, h2, h3⟩ := zrt_rg (β := β) q0 q1 k
  have := h3 j
  unfold zL zps
  split <;> omega
theorem zL_s {β : Nat → Int} {q : Int} (q0 : 1 ≤ q) (q1 : q ≤ 12) (k : Nat) (j : Int) : zL β q (k + 1) j = if j = β k then q - 1 else zps (zL β q k j - zL β q k (β k) - 1) := by
  unfold zL
  rw [zrt]
  dsimp only
  unfold zps zmx
  by_cases e : j = β k
  · rw [if_pos e, if_pos e]; repeat' split
    all_goals omega
  · rw [if_neg e, if_neg e]; repeat' split
    all_goals omega
theorem zL_go {β : Nat → Int} {q : Int} {p i : Nat} (q0 : 1 ≤ q) (q1 : q ≤ 12) (hp : ∀ k, β (k + p) = β k) (h : ∀ j, zL β q (i + p) j = zL β q i j) (m : Nat) : ∀ j, zL β q (i + m + p) j = zL β q (i + m) j := by
  induction m with
  | zero => exact h
  | succ m ih =>
    intro j
    rw [show i + (m + 1) + p = (i + m + p) + 1 by omega, show i + (m + 1) = (i + m) + 1 by omega, zL_s q0 q1, zL_s q0 q1, hp, ih, ih]
theorem zL_ad {β : Nat → Int} {q : Int} {k : Nat} (q0 : 1 ≤ q) (q1 : q ≤ 12) (h : β k = β (k + 1)) (j : Int) : zL β q (k + 2) j = if j = β k then q - 1 else 0 := by
  rw [zL_s q0 q1 (k + 1), ← h]
  by_cases e : j = β k
  · rw [if_pos e, if_pos e]
  · rw [if_neg e, if_neg e, zL_s q0 q1 k (β k), if_pos rfl]
    have := zL_rg (β := β) q0 q1 (k + 1) j
    unfold zps
    rw [if_neg (by omega)]
theorem zL_1 {β : Nat → Int} {q : Int} (q0 : 1 ≤ q) (q1 : q ≤ 12) (j : Int) : zL β q 1 j = if j = β 0 then q - 1 else 0 := by
  rw [zL_s q0 q1 0]
  by_cases e : j = β 0
  · rw [if_pos e, if_pos e]
  · rw [if_neg e, if_neg e]
    have h1 : zL β q 0 j = 0 := by simp [zL, zrt, zps]
    have h2 : zL β q 0 (β 0) = 0 := by simp [zL, zrt, zps]
    rw [h1, h2]
    simp [zps]
theorem zL_adj {β : Nat → Int} {q : Int} {p k : Nat} (q0 : 1 ≤ q) (q1 : q ≤ 12) (hp : ∀ k, β (k + p) = β k) (hk : k < p) (h : β k = β (k + 1)) : ∀ j, zL β q (p + p) j = zL β q p j := by
  by_cases c : k + 2 ≤ p
  · have e : ∀ j, zL β q (k + 2 + p) j = zL β q (k + 2) j := by
      intro j
      rw [show k + 2 + p = k + p + 2 by omega, zL_ad q0 q1 (k := k + p) (by rw [show k + p + 1 = (k + 1) + p by omega, hp, hp, h]), zL_ad q0 q1 h, hp]
    have := zL_go q0 q1 hp e (p - (k + 2))
    rw [show k + 2 + (p - (k + 2)) = p by omega] at this
    exact this
  · have e : ∀ j, zL β q (1 + p) j = zL β q 1 j := by
      intro j
      have e1 : β k = β 0 := by rw [h, show k + 1 = 0 + p by omega, hp]
      rw [show 1 + p = k + 2 by omega, zL_ad q0 q1 h, zL_1 q0 q1, e1]
    have := zL_go q0 q1 hp e (p - 1)
    rw [show 1 + (p - 1) = p by omega] at this
    exact this
theorem zrt_6 {β : Nat → Int} {q : Int} (q0 : 1 ≤ q) (q1 : q ≤ 12) (h : ∀ k, β k ≠ β (k + 1)) (k : Nat) : (zrt β q (k + 1)).1 + (zrt β q k).1 ≤ 12 * k + 1 ∧ (zrt β q k).1 + 1 ≤ (zrt β q (k + 1)).1 ∧ (zrt β q (k + 1)).1 ≤ (zrt β q k).1 + 11 ∧ ∀ j, j ≠ β k → (zrt β q (k + 1)).2 j ≤ (zrt β q k).1 - 1 + q := by
  induction k with
  | zero =>
    have e : (zrt β q (0 + 1)).1 = 1 := by simp [zrt, zmx]
    have e0 : (zrt β q 0).1 = 0 := rfl
    rw [e, e0]
    refine ⟨by omega, by omega, by omega, fun j hj => ?_⟩
    have : (zrt β q (0 + 1)).2 j = 0 := by simp [zrt, hj]
    rw [this]
    omega
  | succ k ih =>
    obtain ⟨h1, h2, h3, h4⟩ := ih
    have h5 := h4 (β (k + 1)) (fun e => h k e.symm)
    have hg := (zrt_rg (β := β) q0 q1 (k + 1)).2.2.2
    have e : (zrt β q (k + 1 + 1)).1 = zmx (zrt β q (k + 1)).1 ((zrt β q (k + 1)).2 (β (k + 1))) + 1 := rfl
    have e2 : ∀ j, (zrt β q (k + 1 + 1)).2 j = if j = β (k + 1) then zmx (zrt β q (k + 1)).1 ((zrt β q (k + 1)).2 (β (k + 1))) + q else (zrt β q (k + 1)).2 j := fun j => rfl
    obtain ⟨x, hx⟩ : ∃ x, zmx (zrt β q (k + 1)).1 ((zrt β q (k + 1)).2 (β (k + 1))) = x := ⟨_, rfl⟩
    have x1 : (zrt β q (k + 1)).1 ≤ x ∧ (x = (zrt β q (k + 1)).1 ∨ x = (zrt β q (k + 1)).2 (β (k + 1))) := by
      rw [← hx]
      unfold zmx
      split <;> omega
    rw [hx] at e e2
    refine ⟨by omega, by omega, by omega, fun j hj => ?_⟩
    rw [e2, if_neg hj]
    have := (hg j).2
    omega
theorem zrt_b {β : Nat → Int} {q : Int} (q0 : 1 ≤ q) (q1 : q ≤ 12) (h : ∀ k, β k ≠ β (k + 1)) (k : Nat) : (zrt β q k).1 ≤ 6 * k := by
  have := zrt_6 q0 q1 h k
  omega
theorem zrt_lt {β : Nat → Int} {q : Int} (a : Nat) : ∀ d, (zrt β q a).1 + d ≤ (zrt β q (a + d)).1 := by
  intro d
  induction d with
  | zero => exact Int.le_of_eq (by simp)
  | succ d ih =>
    rw [show a + (d + 1) = (a + d) + 1 by omega, zrt]
    dsimp only
    unfold zmx
    split <;> omega
/-- a bank that is not asked is ready -/
theorem zrt_no {β : Nat → Int} {q j : Int} (h : ∀ k, β k ≠ j) (k : Nat) : (zrt β q k).2 j = 0 := by
  induction k with
  | zero => rfl
  | succ k ih =>
    rw [zrt]
    dsimp only
    rw [if_neg (fun e => h k e.symm), ih]
/-- the fewest common measure -/
theorem zgcd_s {x y : Int} (x0 : 0 ≤ x) (y0 : 0 < y) : Nat.gcd y.toNat (x % y).toNat = Nat.gcd x.toNat y.toNat := by
  have e : (x % y).toNat = x.toNat % y.toNat := Int.toNat_emod x0 (by omega)
  rw [e, Nat.gcd_comm y.toNat, ← Nat.gcd_rec, Nat.gcd_comm]
theorem md_gcd {M : zM} {n : Nat} {x y : Int} (hn : 1000000 ≤ n) (x0 : 0 ≤ x) (x1 : x < 900000) (y0 : 0 ≤ y) (y1 : y < 900000) : qmd_common n zK0 M x y = some (Nat.gcd x.toNat y.toNat : Int) := by
  unfold qmd_common
  refine zwh_eq (fun s => 0 ≤ s.1 ∧ s.1 < 900000 ∧ 0 ≤ s.2 ∧ s.2 < 900000 ∧ Nat.gcd s.1.toNat s.2.toNat = Nat.gcd x.toNat y.toNat) (fun s => s.2.toNat) ?_ n _ ⟨x0, x1, y0, y1, rfl⟩ (by dsimp only; omega)
  rintro ⟨a, b⟩ ⟨h1, h2, h3, h4, h5⟩
  dsimp only at h1 h2 h3 h4 h5 ⊢
  rw [zw_id (x := b) (by omega) (by omega)]
  by_cases c : b = 0
  · right
    rw [if_pos c]
    subst c
    rw [← h5]
    simp only [Int.toNat_zero, Nat.gcd_zero_right]
    rw [show ((a.toNat : Nat) : Int) = a by omega]
  · left
    have m0 := Int.emod_nonneg a c
    have m1 := Int.emod_lt_of_pos a (show 0 < b by omega)
    rw [if_neg c, zrm_ok h1 (by omega) (by omega) (by omega), Option.bind_some]
    exact ⟨_, rfl, ⟨by dsimp only; omega, by dsimp only; omega, m0, by dsimp only; omega, by rw [← h5]; exact zgcd_s h1 (by omega)⟩, by dsimp only; omega⟩
theorem cl_gcd {M : zM} {n : Nat} {x y : Int} (hn : 1000000 ≤ n) (x0 : 1 ≤ x) (x1 : x < 900000) (y0 : 0 ≤ y) (y1 : y < 900000) : qbs_greatestDivisor n zK0 M x y = some (Nat.gcd x.toNat y.toNat : Int) := by
  unfold qbs_greatestDivisor
  refine zwh_eq (fun (s : Int × Int × Int) => ∃ i : Nat, s.2.2 = (i : Int) ∧ i ≤ 64 ∧ 1 ≤ s.1 ∧ s.1 < 900000 ∧ 0 ≤ s.2.1 ∧ s.2.1 < 900000 ∧ (0 < i → s.2.1 < s.1) ∧ s.1 * s.2.1 * 2 ^ i ≤ 900000 * 900000 * 2 ∧ Nat.gcd s.1.toNat s.2.1.toNat = Nat.gcd x.toNat y.toNat) (fun s => s.2.1.toNat) ?_ n _ ⟨0, rfl, by omega, x0, x1, y0, y1, by omega, ?_, rfl⟩ (by dsimp only; omega)
  · rintro ⟨a, b, i'⟩ ⟨i, rfl, h0, h1, h2, h3, h4, h5, h6, h7⟩
    dsimp only at h1 h2 h3 h4 h5 h6 h7 ⊢
    have fin : b = 0 → a = (Nat.gcd x.toNat y.toNat : Int) := by
      intro c
      subst c
      rw [← h7]
      simp only [Int.toNat_zero, Nat.gcd_zero_right]
      omega
    rw [zw_id (x := b) (by omega) (by omega), zw_id (x := 64) (by decide) (by decide), zw_id (x := (i : Int)) (by omega) (by omega)]
    by_cases c : b = 0
    · right
      by_cases d : 64 ≤ (i : Int)
      · rw [if_pos d, fin c]
      · rw [if_neg d, if_pos c, fin c]
    · have d : ¬ 64 ≤ (i : Int) := by
        intro d
        have e : i = 64 := by omega
        subst e
        have : 1 * 1 ≤ a * b := Int.mul_le_mul h1 (by omega) (by omega) (by omega)
        omega
      left
      have m0 := Int.emod_nonneg a c
      have m1 := Int.emod_lt_of_pos a (show 0 < b by omega)
      rw [if_neg d, if_neg c, zrm_ok (by omega) (by omega) (by omega) (by omega), Option.bind_some]
      refine ⟨_, rfl, ⟨i + 1, by dsimp only; omega, by omega, by dsimp only; omega, by dsimp only; omega, m0, by dsimp only; omega, fun _ => m1, ?_, by rw [← h7]; exact zgcd_s (by omega) (by omega)⟩, by dsimp only; omega⟩
      dsimp only
      have em := Int.mul_ediv_add_emod a b
      by_cases z : i = 0
      · subst z
        have k1 : b * (a % b) ≤ 900000 * 900000 := Int.mul_le_mul (by omega) (by omega) m0 (by omega)
        omega
      · have k0 := h5 (by omega)
        have k1 : 1 ≤ a / b := by
          have := Int.le_ediv_of_mul_le (show 0 < b by omega) (show 1 * b ≤ a by omega)
          exact this
        have k2 : b * 1 ≤ b * (a / b) := Int.mul_le_mul_of_nonneg_left k1 (by omega)
        have k3 : a % b * 2 ≤ a := by omega
        have k4 : b * (a % b) * 2 ≤ a * b := by
          have := Int.mul_le_mul_of_nonneg_left k3 (show 0 ≤ b by omega)
          rw [Int.mul_comm a b, Int.mul_assoc]
          exact this
        have k5 : (0 : Int) ≤ 2 ^ i := Int.pow_nonneg (by decide)
        have k6 := Int.mul_le_mul_of_nonneg_right k4 k5
        rw [Int.pow_succ, Int.mul_comm (2 ^ i) 2, ← Int.mul_assoc]
        omega
  · dsimp only
    have k1 : x * y ≤ 900000 * 900000 := Int.mul_le_mul (by omega) (by omega) y0 (by omega)
    omega
