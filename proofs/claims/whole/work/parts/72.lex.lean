/-- the end of a run of marks of a sort -/
def zrE (C : Int → Bool) (len : Int) : Nat → Int → Int
  | 0, i => i
  | k + 1, i => if i < len ∧ C i = true then zrE C len k (i + 1) else i
def zre (C : Int → Bool) (len i : Int) : Int := zrE C len (len - i).toNat i
theorem zre_s {C : Int → Bool} {len i : Int} (h : i < len ∧ C i = true) : zre C len i = zre C len (i + 1) := by
  unfold zre
  rw [show (len - i).toNat = (len - (i + 1)).toNat + 1 by omega, zrE, if_pos h]
theorem zre_e {C : Int → Bool} {len i : Int} (h : ¬ (i < len ∧ C i = true)) : zre C len i = i := by
  unfold zre
  by_cases c : (len - i).toNat = 0
  · rw [c, zrE]
  · rw [show (len - i).toNat = ((len - i).toNat - 1) + 1 by omega, zrE, if_neg h]
theorem zrE_rg {C : Int → Bool} {len : Int} : ∀ (k : Nat) (i : Int), i ≤ len → i ≤ zrE C len k i ∧ zrE C len k i ≤ len := by
  intro k
  induction k with
  | zero => intro i h; rw [zrE]; omega
  | succ k ih =>
    intro i h
    rw [zrE]
    by_cases c : i < len ∧ C i = true
    · rw [if_pos c]
      have := ih (i + 1) (by omega)
      omega
    · rw [if_neg c]; omega
theorem zre_rg {C : Int → Bool} {len i : Int} (h : i ≤ len) : i ≤ zre C len i ∧ zre C len i ≤ len := zrE_rg _ i h
theorem zre_lt {C : Int → Bool} {len i : Int} (h : i < len) (hc : C i = true) : i + 1 ≤ zre C len i := by
  rw [zre_s ⟨h, hc⟩]
  exact (zre_rg (by omega)).1
theorem zre_end {C : Int → Bool} {len : Int} : ∀ (k : Nat) (i : Int), (len - i).toNat ≤ k → ¬ (zrE C len k i < len ∧ C (zrE C len k i) = true) := by
  intro k
  induction k with
  | zero => intro i h; rw [zrE]; omega
  | succ k ih =>
    intro i h
    rw [zrE]
    by_cases c : i < len ∧ C i = true
    · rw [if_pos c]
      exact ih (i + 1) (by omega)
    · rw [if_neg c]; exact c
/-- a loop along a run -/
theorem zlpr {σ ρ : Type} {n : Nat} {C : Int → Bool} {len : Int} {F : σ → Option (σ ⊕ ρ)} (H : Int → σ) (res : Int → ρ) (hn : 1000000 ≤ n) (hl : len ≤ 240) (i : Int) (i0 : 0 ≤ i) (i1 : i ≤ len) (h1 : ∀ j, i ≤ j → j < len → C j = true → F (H j) = some (.inl (H (j + 1)))) (h2 : ∀ j, i ≤ j → j ≤ len → ¬ (j < len ∧ C j = true) → F (H j) = some (.inr (res j))) : zwh F n (H i) = some (res (zre C len i)) := by
  have gen : ∀ (k m : Nat) (j : Int), i ≤ j → j ≤ len → (len - j).toNat ≤ k → (len - j).toNat < m → zwh F m (H j) = some (res (zre C len j)) := by
    intro k
    induction k with
    | zero =>
      intro m j j0 j1 hk hm
      cases m with
      | zero => omega
      | succ m =>
        have c : ¬ (j < len ∧ C j = true) := by omega
        rw [zwh, h2 j j0 j1 c, zre_e c]
    | succ k ih =>
      intro m j j0 j1 hk hm
      cases m with
      | zero => omega
      | succ m =>
        by_cases c : j < len ∧ C j = true
        · rw [zwh, h1 j j0 c.1 c.2, zre_s c]
          exact ih m (j + 1) (by omega) (by omega) (by omega) (by omega)
        · rw [zwh, h2 j j0 j1 c, zre_e c]
  exact gen (len - i).toNat n i (by omega) i1 (by omega) (by omega)
theorem zb8v {x : Int} (h0 : 0 ≤ x) (h1 : x ≤ 255) : zb8 x = if x < 128 then x else x - 256 := by
  unfold zb8
  by_cases c : x < 128
  · rw [if_pos c]
    exact Int.bmod_eq_of_le (by omega) (by omega)
  · rw [if_neg c, Int.bmod_def]
    have : x % ((256 : Nat) : Int) = x := Int.emod_eq_of_lt h0 (by omega)
    rw [this, if_neg (by omega)]
    rfl
def zyS (t : Int → Int) (i : Int) : Bool := decide (t i = 32)
def zyL (t : Int → Int) (i : Int) : Bool := decide (97 ≤ t i ∧ t i ≤ 122)
def zyD (t : Int → Int) (i : Int) : Bool := decide (48 ≤ t i ∧ t i ≤ 57)
/-- a token's start, sort, end, number; whether it is one -/
def zxS (t : Int → Int) (len s : Int) : Int := zre (zyS t) len s
def zxK (t : Int → Int) (len s : Int) : Int := if len ≤ zxS t len s then 0 else if t (zxS t len s) = 59 then 3 else if zyL t (zxS t len s) then 1 else 2
def zxE (t : Int → Int) (len s : Int) : Int := if zxK t len s = 0 then zxS t len s else if zxK t len s = 3 then zxS t len s + 1 else if zxK t len s = 1 then zre (zyL t) len (zxS t len s) else zre (zyD t) len (zxS t len s)
def znm (t : Int → Int) (S : Int) : Nat → Int
  | 0 => 0
  | k + 1 => if k < 4 then znm t S k * 10 + t (S + k) - 48 else znm t S k
def zxN (t : Int → Int) (len s : Int) : Int := znm t (zxS t len s) (zxE t len s - zxS t len s).toNat
def zxO (t : Int → Int) (len s : Int) : Prop := zxK t len s = 2 → 1 ≤ zxE t len s - zxS t len s ∧ zxE t len s - zxS t len s ≤ 4
theorem zxSE {t : Int → Int} {len s : Int} (s0 : 0 ≤ s) (s1 : s ≤ len) : s ≤ zxS t len s ∧ zxS t len s ≤ zxE t len s ∧ zxE t len s ≤ len ∧ (zxK t len s ≠ 0 → zxS t len s < len) ∧ 0 ≤ zxK t len s ∧ zxK t len s ≤ 3 ∧ (zxK t len s = 0 → zxS t len s = len) := by
  have h1 := zre_rg (C := zyS t) s1
  have h2 : zxS t len s = zre (zyS t) len s := rfl
  rw [← h2] at h1
  have h3 := zre_rg (C := zyL t) h1.2
  have h4 := zre_rg (C := zyD t) h1.2
  have hK : (len ≤ zxS t len s ∧ zxK t len s = 0) ∨ (zxS t len s < len ∧ 1 ≤ zxK t len s ∧ zxK t len s ≤ 3) := by
    unfold zxK
    by_cases c : len ≤ zxS t len s
    · rw [if_pos c]; omega
    · rw [if_neg c]
      right
      split
      · omega
      · split <;> omega
  have hE : zxS t len s ≤ zxE t len s ∧ zxE t len s ≤ len := by
    unfold zxE
    split
    · omega
    · split
      · omega
      · split <;> omega
  omega
theorem znm_rg {t : Int → Int} {S : Int} : ∀ k : Nat, (∀ i : Nat, i < k → 48 ≤ t (S + i) ∧ t (S + i) ≤ 57) → 0 ≤ znm t S k ∧ znm t S k ≤ 9999 ∧ (k = 0 → znm t S k = 0) ∧ (k ≤ 1 → znm t S k ≤ 9) ∧ (k ≤ 2 → znm t S k ≤ 99) ∧ (k ≤ 3 → znm t S k ≤ 999) := by
  intro k
  induction k with
  | zero => intro _; simp [znm]
  | succ k ih =>
    intro h
    have i := ih (fun j hj => h j (by omega))
    have d := h k (by omega)
    rw [znm]
    by_cases c : k < 4
    · rw [if_pos c]; omega
    · rw [if_neg c]; omega
