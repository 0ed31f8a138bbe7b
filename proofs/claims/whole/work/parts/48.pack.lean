/-- rests packed, four bits each -/
def zpc (f : Int → Int) : Nat → Int
  | 0 => 0
  | v + 1 => zlor (zpc f v) (zlshl (f v) (4 * v))
theorem zsh4 {x : Int} {v : Nat} (hv : v < 16) : (Int64.ofInt (zlshl x (4 * (v : Int)))).toBitVec = (Int64.ofInt x).toBitVec <<< (4 * v) := by
  unfold zlshl
  rw [Int64.ofInt_toInt, Int64.toBitVec_shiftLeft, BitVec.shiftLeft_eq']
  congr 1
  rcases (show v = 0 ∨ v = 1 ∨ v = 2 ∨ v = 3 ∨ v = 4 ∨ v = 5 ∨ v = 6 ∨ v = 7 ∨ v = 8 ∨ v = 9 ∨ v = 10 ∨ v = 11 ∨ v = 12 ∨ v = 13 ∨ v = 14 ∨ v = 15 by omega) with rfl | rfl | rfl | rfl | rfl | rfl | rfl | rfl | rfl | rfl | rfl | rfl | rfl | rfl | rfl | rfl <;> decide
theorem zbtx {x : Int} (h : 0 ≤ x) (i : Nat) (hi : i < 64) : (Int64.ofInt x).toBitVec.getLsbD i = x.toNat.testBit i := by
  have e : (Int64.ofInt x).toBitVec = BitVec.ofNat 64 x.toNat := by
    show BitVec.ofInt 64 x = _
    rw [← BitVec.ofInt_natCast, show ((x.toNat : Nat) : Int) = x by omega]
  rw [e, BitVec.getLsbD_ofNat]
  simp [hi]
theorem zpc_b {f : Int → Int} : ∀ (m : Nat), m ≤ 16 → (∀ u : Nat, u < m → 0 ≤ f u ∧ f u < 16) → ∀ i : Nat, i < 64 → (Int64.ofInt (zpc f m)).toBitVec.getLsbD i = (decide (i < 4 * m) && (f ((i / 4 : Nat) : Int)).toNat.testBit (i % 4)) := by
  intro m
  induction m with
  | zero =>
    intro _ _ i _
    have : (Int64.ofInt (zpc f 0)).toBitVec = 0#64 := rfl
    rw [this]
    simp
  | succ m ih =>
    intro hm hf i hi
    have ih := ih (by omega) (fun u hu => hf u (by omega)) i hi
    have e : (Int64.ofInt (zpc f (m + 1))).toBitVec = (Int64.ofInt (zpc f m)).toBitVec ||| (Int64.ofInt (zlshl (f m) (4 * (m : Int)))).toBitVec := by
      rw [zpc, zlor, Int64.ofInt_toInt]
      rfl
    rw [e, BitVec.getLsbD_or, ih, zsh4 (by omega), BitVec.getLsbD_shiftLeft]
    have h := hf m (by omega)
    by_cases c1 : i < 4 * m
    · simp [c1, show i < 4 * (m + 1) by omega]
    · rw [zbtx h.1 _ (by omega)]
      by_cases c2 : i < 4 * (m + 1)
      · have d1 : i / 4 = m := by omega
        have d2 : i % 4 = i - 4 * m := by omega
        simp [c1, c2, hi, d1, d2]
      · have : (f m).toNat.testBit (i - 4 * m) = false := by
          apply Nat.testBit_lt_two_pow
          have : 2 ^ 4 ≤ 2 ^ (i - 4 * m) := Nat.pow_le_pow_right (by decide) (by omega)
          omega
        simp [c1, c2, this]
theorem zpc_inj {f g : Int → Int} {m : Nat} (hm : m ≤ 16) (hf : ∀ u : Nat, u < m → 0 ≤ f u ∧ f u < 16) (hg : ∀ u : Nat, u < m → 0 ≤ g u ∧ g u < 16) (h : zpc f m = zpc g m) (u : Nat) (hu : u < m) : f u = g u := by
  have h1 := hf u hu
  have h2 := hg u hu
  have e : (f u).toNat = (g u).toNat := by
    apply Nat.eq_of_testBit_eq
    intro b
    by_cases c : b < 4
    · have b1 := zpc_b m hm hf (4 * u + b) (by omega)
      have b2 := zpc_b m hm hg (4 * u + b) (by omega)
      rw [h, b2, show (4 * u + b) / 4 = u by omega, show (4 * u + b) % 4 = b by omega] at b1
      simp only [show 4 * u + b < 4 * m by omega, decide_true, Bool.true_and] at b1
      exact b1.symm
    · have p : 2 ^ 4 ≤ 2 ^ b := Nat.pow_le_pow_right (by decide) (by omega)
      rw [Nat.testBit_lt_two_pow (by omega), Nat.testBit_lt_two_pow (by omega)]
  omega
theorem zpc_rg (f : Int → Int) (m : Nat) : zq (zpc f m) = zpc f m := by
  cases m with
  | zero => rfl
  | succ m =>
    rw [zpc]
    have e : zlor (zpc f m) (zlshl (f m) (4 * m)) = (Int64.ofInt (zpc f m) ||| Int64.ofInt (zlshl (f m) (4 * m))).toBitVec.toInt := rfl
    have r1 := BitVec.toInt_lt (x := (Int64.ofInt (zpc f m) ||| Int64.ofInt (zlshl (f m) (4 * m))).toBitVec)
    have r2 := BitVec.le_toInt (x := (Int64.ofInt (zpc f m) ||| Int64.ofInt (zlshl (f m) (4 * m))).toBitVec)
    rw [e]
    exact zq_id (by omega) (by omega)
theorem zpc_cg {f g : Int → Int} {m : Nat} (h : ∀ u : Nat, u < m → f u = g u) : zpc f m = zpc g m := by
  induction m with
  | zero => rfl
  | succ m ih => rw [zpc, zpc, ih (fun u hu => h u (by omega)), h m (by omega)]
def zm16 (m : Int) : Int := if m ≤ 16 then m else 16
theorem c_keep {P : zM} {n : Nat} {r now m : Int} {L : Int → Int} (hn : 1000000 ≤ n) (g : zPt P) (m0 : 1 ≤ m) (m1 : m ≤ 17) (r0 : 0 ≤ r) (r1 : r < 64) (n0 : 0 ≤ now) (n1 : now ≤ 1000000) (h : ∀ j, 0 ≤ j → j < 17 → 0 ≤ P 25 j ∧ P 25 j ≤ 1100000 ∧ L j = zps (P 25 j - now)) : qra_keep n zK0 P 24 r now m = some (zu (zu (zu P 26 r (zpc L (zm16 m).toNat)) 27 r (if m = 17 then L 16 else 0)) 28 r now) := by
  unfold zPt at g
  have main : ∀ F : Int × Int × Int → Option ((Int × Int × Int) ⊕ (Int × Int × Int)), (∀ v a b, 0 ≤ v → v < m → F (a, b, v) = some (.inl (if 16 ≤ v then (a, L v, v + 1) else (zlor a (zlshl (L v) (4 * v)), b, v + 1)))) → (∀ a b, F (a, b, m) = some (.inr (a, b, m))) → zwh F n (0, 0, 0) = some (zpc L (zm16 m).toNat, (if m = 17 then L 16 else 0), m) := by
    intro F f1 f2
    refine zwh_eq (fun s => 0 ≤ s.2.2 ∧ s.2.2 ≤ m ∧ s = (zpc L (zm16 s.2.2).toNat, (if s.2.2 = 17 then L 16 else 0), s.2.2)) (fun s => (m - s.2.2).toNat) ?_ n _ ⟨by simp, by simp; omega, rfl⟩ (by simp; omega)
    rintro ⟨a, b, v⟩ ⟨h1, h2, h3⟩
    dsimp only at h1 h2 h3 ⊢
    by_cases c : v < m
    · left
      rw [f1 v a b h1 c]
      refine ⟨_, rfl, ?_, by split <;> dsimp only <;> omega⟩
      simp only [Prod.mk.injEq, and_true] at h3
      by_cases d : 16 ≤ v
      · rw [if_pos d]
        dsimp only
        have : v = 16 := by omega
        subst this
        refine ⟨by omega, by omega, ?_⟩
        rw [h3.1]
        rfl
      · rw [if_neg d]
        dsimp only
        refine ⟨by omega, by omega, ?_⟩
        rw [h3.1, h3.2, if_neg (by omega), if_neg (by omega)]
        have e1 : (zm16 (v + 1)).toNat = v.toNat + 1 := by unfold zm16; rw [if_pos (by omega)]; omega
        have e2 : (zm16 v).toNat = v.toNat := by unfold zm16; rw [if_pos (by omega)]
        rw [e1, e2, zpc, show ((v.toNat : Nat) : Int) = v by omega]
    · right
      have : v = m := by omega
      subst this
      rw [f2, h3]
  unfold qra_keep
  rw [main]
  · simp (disch := omega) only [Option.bind_some, zPf, zPa, zgr_u, zgr_fl, g]
  · intro v a b v0 v1
    dsimp only
    obtain ⟨p1, p2, p3⟩ := h v v0 (by omega)
    have e : zmax 0 (P 25 v - now) = L v := by
      rw [zmax_ok (by omega) (by omega) (by omega) (by omega), p3]
      rfl
    have l0 : 0 ≤ L v ∧ L v ≤ 1100000 := by rw [p3]; unfold zps; split <;> omega
    rw [zw_id (x := m) (by omega) (by omega), zw_id (x := v) (by omega) (by omega), if_neg (by omega)]
    simp (disch := omega) only [Option.bind_some, zPf, zPa, zgr_u, zgr_fl, g, e]
    rw [zw_id (x := 16) (by omega) (by omega), zw_id (x := L v) (by omega) (by omega)]
    by_cases d : 16 ≤ v
    · rw [if_pos d, if_pos d]; rfl
    · rw [if_neg d, if_neg d]; rfl
  · intro a b
    dsimp only
    rw [if_pos (by omega)]
theorem zlcmp_0 (x y : Int) : zw (zlcmp x y) = 0 ↔ zq x = zq y := by
  unfold zlcmp
  by_cases c : zq y < zq x
  · rw [if_pos c]
    constructor
    · intro h; exact absurd h (by decide)
    · intro h; omega
  · rw [if_neg c]
    by_cases d : zq x = zq y
    · rw [if_pos d]
      exact ⟨fun _ => d, fun _ => rfl⟩
    · rw [if_neg d]
      constructor
      · intro h; exact absurd h (by decide)
      · intro h; exact absurd h d
theorem m_alike {Q : zM} {n : Nat} {i r : Int} (hn : 1000000 ≤ n) (g : zPt Q) (i0 : 0 ≤ i) (i1 : i ≤ 64) (r0 : 0 ≤ r) (r1 : r ≤ 64) (h : ∀ k j, 0 ≤ k → k ≤ 64 → 0 ≤ j → j < 17 → k = i ∨ k = r → zrg (Q 71 (17 * k + j))) : ∃ v, qmd_areAlike n zK0 Q 60 i r = some v ∧ (v = 0 ∨ v = 1) ∧ (v = 1 ↔ ∀ j, 0 ≤ j → j < 17 → Q 71 (17 * i + j) = Q 71 (17 * r + j)) := by
  unfold zPt at g
  unfold qmd_areAlike
  refine zwh_inv (fun s => 0 ≤ s.2 ∧ s.2 ≤ 17 ∧ (s.1 = 0 ∨ s.1 = 1) ∧ (s.1 = 1 ↔ ∀ j, 0 ≤ j → j < s.2 → Q 71 (17 * i + j) = Q 71 (17 * r + j))) (fun s => (17 - s.2).toNat) _ ?_ n _ ⟨by simp, by simp, by simp, by simp; intro j h1 h2; omega⟩ (by simp; omega)
  rintro ⟨b, j⟩ ⟨h1, h2, h3, h4⟩
  dsimp only at h1 h2 h3 h4 ⊢
  rw [zw_id (x := 17) (by decide) (by decide), zw_id (x := j) (by omega) (by omega)]
  by_cases c : 17 ≤ j
  · right
    have : j = 17 := by omega
    subst this
    rw [if_pos c]
    unfold zbr
    rw [if_pos h3]
    exact ⟨b, rfl, h3, h4⟩
  · left
    rw [if_neg c]
    by_cases d : b = 0
    · subst d
      refine ⟨(0, j + 1), by rw [if_pos (by rfl)]; rfl, ⟨by dsimp only; omega, by dsimp only; omega, Or.inl rfl, ?_⟩, by dsimp only; omega⟩
      constructor
      · intro x; simp at x
      · intro x
        have := h4.2 (fun u u0 u1 => x u u0 (by dsimp only; omega))
        omega
    · have hb : b = 1 := by omega
      subst hb
      have z1 : ¬ zw 1 = 0 := by decide
      have k1 := h i j i0 i1 h1 (by omega) (Or.inl rfl)
      have k2 := h r j r0 r1 h1 (by omega) (Or.inr rfl)
      unfold zrg at k1 k2
      rw [if_neg z1]
      simp (disch := omega) only [Option.bind_some, zPf, zPa, zgr_u, zgr_fl, g]
      rw [zw_id k1.1 k1.2, zw_id k2.1 k2.2]
      by_cases e : Q 71 (17 * i + j) = Q 71 (17 * r + j)
      · rw [if_pos e]
        refine ⟨(1, j + 1), rfl, ⟨by dsimp only; omega, by dsimp only; omega, Or.inr rfl, ?_⟩, by dsimp only; omega⟩
        constructor
        · intro _ u u0 u1
          dsimp only at u1
          by_cases f : u = j
          · rw [f]; exact e
          · exact h4.1 rfl u u0 (by omega)
        · intro _; rfl
      · rw [if_neg e]
        refine ⟨(0, j + 1), rfl, ⟨by dsimp only; omega, by dsimp only; omega, Or.inl rfl, ?_⟩, by dsimp only; omega⟩
        constructor
        · intro x; simp at x
        · intro x
          exact absurd (x j h1 (by dsimp only; omega)) e
