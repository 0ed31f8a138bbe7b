def zup (f : Int → Int) (c v : Int) : Int → Int := fun x => if x = c then v else f x
def zgh (f : Int → Int) : Nat → Int
  | 0 => -1
  | d + 1 => zmx (zgh f d) (f d)
theorem zgh_s {f : Int → Int} {d : Int} (h : 0 ≤ d) : zgh f (d + 1).toNat = zmx (zgh f d.toNat) (f d) := by
  rw [show (d + 1).toNat = d.toNat + 1 by omega, zgh, show ((d.toNat : Nat) : Int) = d by omega]
theorem zgh_rg {f : Int → Int} {m : Int} : ∀ d : Nat, (∀ x : Int, 0 ≤ x → x < d → 0 ≤ f x ∧ f x < m) → 1 ≤ m → -1 ≤ zgh f d ∧ zgh f d < m := by
  intro d
  induction d with
  | zero => intro _ _; simp [zgh]; omega
  | succ d ih =>
    intro h hm
    have h1 := ih (fun x h0 h1 => h x h0 (by omega)) hm
    have h2 := h d (by omega) (by omega)
    rw [zgh]
    unfold zmx
    split <;> omega
theorem zgh_cg {f g : Int → Int} : ∀ d : Nat, (∀ x : Int, 0 ≤ x → x < d → f x = g x) → zgh f d = zgh g d := by
  intro d
  induction d with
  | zero => intro _; rfl
  | succ d ih =>
    intro h
    rw [zgh, zgh, ih (fun x h0 h1 => h x h0 (by omega)), h d (by omega) (by omega)]
/-- no rival of cell c ahead of it lies in bank v -/
def zln1 (ρ : Int → Int) (f : Int → Int) (c v : Int) : Bool := zal (fun d => !(zbi (ρ c) d.toNat && decide (f d = v))) c.toNat
theorem zln1_iff {ρ f : Int → Int} {c v : Int} : zln1 ρ f c v = true ↔ ∀ d : Int, 0 ≤ d → d < c → ¬ (zbi (ρ c) d.toNat = true ∧ f d = v) := by
  unfold zln1
  rw [zal_iff]
  constructor
  · intro h d d0 d1 ⟨a, b⟩
    have := h d d0 (by omega)
    rw [a, decide_eq_true b] at this
    cases this
  · intro h d d0 d1
    have := h d d0 (by omega)
    cases a : zbi (ρ c) d.toNat with
    | false => rfl
    | true =>
      have b : ¬ f d = v := fun b => this ⟨a, b⟩
      rw [decide_eq_false b]
      rfl
def zlst (m : Int) (f : Int → Int) (c : Int) : Int := if zgh f c.toNat + 1 < m - 1 then zgh f c.toNat + 1 else m - 1
/-- one step of the search: a try, or a step back -/
def zfs (N m : Int) (ρ : Int → Int) (S : Int × Int × Int × (Int → Int)) : (Int × Int × Int × (Int → Int)) ⊕ (Int × (Int → Int)) :=
  if S.2.1 ≤ zlst m S.2.2.2 S.1 then
    if zln1 ρ S.2.2.2 S.1 S.2.1 then
      if S.1 + 1 = N then .inr (S.2.2.1 + 1, zup S.2.2.2 S.1 S.2.1)
      else if S.2.2.1 + 1 = 20000 then .inr (-6, S.2.2.2) else .inl (S.1 + 1, 0, S.2.2.1 + 1, zup S.2.2.2 S.1 S.2.1)
    else if S.2.2.1 + 1 = 20000 then .inr (-6, S.2.2.2) else .inl (S.1, S.2.1 + 1, S.2.2.1 + 1, S.2.2.2)
  else if S.1 = 0 then .inr (-4, S.2.2.2) else .inl (S.1 - 1, S.2.2.2 (S.1 - 1) + 1, S.2.2.1, S.2.2.2)
def zfI (N m : Int) (S : Int × Int × Int × (Int → Int)) : Prop := 0 ≤ S.1 ∧ S.1 < N ∧ 0 ≤ S.2.2.1 ∧ S.2.2.1 < 20000 ∧ 0 ≤ S.2.1 ∧ S.2.1 ≤ m ∧ ∀ x, 0 ≤ x → x < S.1 → 0 ≤ S.2.2.2 x ∧ S.2.2.2 x < m
def zmu (S : Int × Int × Int × (Int → Int)) : Nat := (2 * (20000 - S.2.2.1) + S.1 + 5).toNat
theorem zfs_I {N m : Int} {ρ : Int → Int} {S S' : Int × Int × Int × (Int → Int)} (hm : 1 ≤ m) (h : zfI N m S) (e : zfs N m ρ S = .inl S') : zfI N m S' ∧ zmu S' < zmu S := by
  obtain ⟨c, v, t, f⟩ := S
  obtain ⟨h1, h2, h3, h4, h5, h6, h7⟩ := h
  dsimp only at h1 h2 h3 h4 h5 h6 h7
  unfold zfs at e
  dsimp only at e
  have g := zgh_rg (f := f) (m := m) c.toNat (fun x x0 x1 => h7 x x0 (by omega)) hm
  have gl : zlst m f c ≤ m - 1 := by unfold zlst; split <;> omega
  by_cases a1 : v ≤ zlst m f c
  · rw [if_pos a1] at e
    by_cases a2 : zln1 ρ f c v = true
    · rw [if_pos a2] at e
      by_cases a3 : c + 1 = N
      · rw [if_pos a3] at e; cases e
      · rw [if_neg a3] at e
        by_cases a4 : t + 1 = 20000
        · rw [if_pos a4] at e; cases e
        · rw [if_neg a4] at e
          injection e with e
          subst e
          refine ⟨⟨by dsimp only; omega, by dsimp only; omega, by dsimp only; omega, by dsimp only; omega, by dsimp only; omega, by dsimp only; omega, fun x x0 x1 => ?_⟩, by unfold zmu; dsimp only; omega⟩
          dsimp only at x1 ⊢
          unfold zup
          by_cases b : x = c
          · rw [if_pos b]; omega
          · rw [if_neg b]; exact h7 x x0 (by omega)
    · rw [if_neg a2] at e
      by_cases a4 : t + 1 = 20000
      · rw [if_pos a4] at e; cases e
      · rw [if_neg a4] at e
        injection e with e
        subst e
        exact ⟨⟨by dsimp only; omega, by dsimp only; omega, by dsimp only; omega, by dsimp only; omega, by dsimp only; omega, by dsimp only; omega, h7⟩, by unfold zmu; dsimp only; omega⟩
  · rw [if_neg a1] at e
    by_cases a2 : c = 0
    · rw [if_pos a2] at e; cases e
    · rw [if_neg a2] at e
      injection e with e
      subst e
      have := h7 (c - 1) (by omega) (by omega)
      exact ⟨⟨by dsimp only; omega, by dsimp only; omega, by dsimp only; omega, by dsimp only; omega, by dsimp only; omega, by dsimp only; omega, fun x x0 x1 => h7 x x0 (by dsimp only at x1; omega)⟩, by unfold zmu; dsimp only; omega⟩
def zfr (N m : Int) (ρ : Int → Int) : Nat → Int × Int × Int × (Int → Int) → Int × (Int → Int)
  | 0, S => (0, S.2.2.2)
  | k + 1, S => match zfs N m ρ S with
    | .inl S' => zfr N m ρ k S'
    | .inr r => r
theorem zfr_k {N m : Int} {ρ : Int → Int} (hm : 1 ≤ m) : ∀ (k k' : Nat) (S : Int × Int × Int × (Int → Int)), zfI N m S → zmu S < k → zmu S < k' → zfr N m ρ k S = zfr N m ρ k' S := by
  intro k
  induction k with
  | zero => intro k' S _ h; omega
  | succ k ih =>
    intro k' S hS h1 h2
    cases k' with
    | zero => omega
    | succ k' =>
      rw [zfr, zfr]
      cases e : zfs N m ρ S with
      | inr r => rfl
      | inl S' =>
        obtain ⟨a, b⟩ := zfs_I hm hS e
        exact ih k' S' a (by omega) (by omega)
/-- what the search comes to -/
def zrs (N m : Int) (ρ : Int → Int) (S : Int × Int × Int × (Int → Int)) : Int × (Int → Int) := zfr N m ρ (zmu S + 1) S
theorem zrs_l {N m : Int} {ρ : Int → Int} {S S' : Int × Int × Int × (Int → Int)} (hm : 1 ≤ m) (h : zfI N m S) (e : zfs N m ρ S = .inl S') : zrs N m ρ S' = zrs N m ρ S := by
  obtain ⟨a, b⟩ := zfs_I hm h e
  unfold zrs
  rw [show zfr N m ρ (zmu S + 1) S = zfr N m ρ (zmu S) S' by rw [zfr, e]]
  exact zfr_k hm _ _ S' a (by omega) (by omega)
theorem zrs_r {N m : Int} {ρ : Int → Int} {S : Int × Int × Int × (Int → Int)} {r : Int × (Int → Int)} (e : zfs N m ρ S = .inr r) : zrs N m ρ S = r := by
  unfold zrs
  rw [zfr, e]
/-- the four ways on -/
theorem zrs_back {N m : Int} {ρ f : Int → Int} {c v t : Int} (hm : 1 ≤ m) (h : zfI N m (c, v, t, f)) (a1 : ¬ v ≤ zlst m f c) (a2 : c ≠ 0) : zrs N m ρ (c - 1, f (c - 1) + 1, t, f) = zrs N m ρ (c, v, t, f) ∧ zfI N m (c - 1, f (c - 1) + 1, t, f) := by
  have e : zfs N m ρ (c, v, t, f) = .inl (c - 1, f (c - 1) + 1, t, f) := by
    unfold zfs
    dsimp only
    rw [if_neg a1, if_neg a2]
  exact ⟨zrs_l hm h e, (zfs_I hm h e).1⟩
theorem zrs_none {N m : Int} {ρ f : Int → Int} {v t : Int} (a1 : ¬ v ≤ zlst m f 0) : (zrs N m ρ (0, v, t, f)).1 = -4 := by
  have e : zfs N m ρ (0, v, t, f) = .inr (-4, f) := by
    unfold zfs
    dsimp only
    rw [if_neg a1, if_pos rfl]
  rw [zrs_r e]
theorem zrs_done {N m : Int} {ρ f : Int → Int} {c v t : Int} (a1 : v ≤ zlst m f c) (a2 : zln1 ρ f c v = true) (a3 : c + 1 = N) : zrs N m ρ (c, v, t, f) = (t + 1, zup f c v) := by
  have e : zfs N m ρ (c, v, t, f) = .inr (t + 1, zup f c v) := by
    unfold zfs
    dsimp only
    rw [if_pos a1, if_pos a2, if_pos a3]
  rw [zrs_r e]
theorem zrs_spent {N m : Int} {ρ f : Int → Int} {c v t : Int} (a1 : v ≤ zlst m f c) (a2 : ¬ (zln1 ρ f c v = true ∧ c + 1 = N)) (a3 : t + 1 = 20000) : (zrs N m ρ (c, v, t, f)).1 = -6 := by
  have e : zfs N m ρ (c, v, t, f) = .inr (-6, f) := by
    unfold zfs
    dsimp only
    rw [if_pos a1]
    by_cases b : zln1 ρ f c v = true
    · rw [if_pos b, if_neg (fun q => a2 ⟨b, q⟩), if_pos a3]
    · rw [if_neg b, if_pos a3]
  rw [zrs_r e]
theorem zrs_on {N m : Int} {ρ f : Int → Int} {c v t : Int} (hm : 1 ≤ m) (h : zfI N m (c, v, t, f)) (a1 : v ≤ zlst m f c) (a2 : zln1 ρ f c v = true) (a3 : c + 1 ≠ N) (a4 : t + 1 ≠ 20000) : zrs N m ρ (c + 1, 0, t + 1, zup f c v) = zrs N m ρ (c, v, t, f) ∧ zfI N m (c + 1, 0, t + 1, zup f c v) := by
  have e : zfs N m ρ (c, v, t, f) = .inl (c + 1, 0, t + 1, zup f c v) := by
    unfold zfs
    dsimp only
    rw [if_pos a1, if_pos a2, if_neg a3, if_neg a4]
  exact ⟨zrs_l hm h e, (zfs_I hm h e).1⟩
theorem zrs_next {N m : Int} {ρ f : Int → Int} {c v t : Int} (hm : 1 ≤ m) (h : zfI N m (c, v, t, f)) (a1 : v ≤ zlst m f c) (a2 : ¬ zln1 ρ f c v = true) (a4 : t + 1 ≠ 20000) : zrs N m ρ (c, v + 1, t + 1, f) = zrs N m ρ (c, v, t, f) ∧ zfI N m (c, v + 1, t + 1, f) := by
  have e : zfs N m ρ (c, v, t, f) = .inl (c, v + 1, t + 1, f) := by
    unfold zfs
    dsimp only
    rw [if_pos a1, if_neg a2, if_neg a4]
  exact ⟨zrs_l hm h e, (zfs_I hm h e).1⟩
