theorem zxor_rg {x y : Int} (h1 : 0 ≤ x) (h2 : x < 256) (h3 : 0 ≤ y) (h4 : y < 256) : 0 ≤ zxor x y ∧ zxor x y < 256 := by
  have key : ∀ z : Int, 0 ≤ z → z < 256 → (Int32.ofInt z).toBitVec.toNat < 2 ^ 8 := by
    intro z z0 z1
    show (BitVec.ofInt 32 z).toNat < 2 ^ 8
    rw [BitVec.toNat_ofInt]
    omega
  have e : ((Int32.ofInt x).toBitVec ^^^ (Int32.ofInt y).toBitVec).toNat < 2 ^ 8 := by
    rw [BitVec.toNat_xor]
    exact Nat.xor_lt_two_pow (key x h1 h2) (key y h3 h4)
  have q : zxor x y = ((Int32.ofInt x).toBitVec ^^^ (Int32.ofInt y).toBitVec).toInt := rfl
  rw [q, BitVec.toInt_eq_toNat_of_lt (by omega)]
  omega
/-- the bank of a cell under a law -/
def zBv (k a b N : Int) (t : Int → Int) (i j : Int) : Int := if k = 0 then (a * i + b * j) % N else if k = 1 then zxor (a * i) (b * j) % N else t (i * 16 + j)
/-- a law as it may be -/
def zlw (k a b N : Int) : Prop := 0 ≤ k ∧ k ≤ 2 ∧ 0 ≤ a ∧ a ≤ 16 ∧ 0 ≤ b ∧ b ≤ 16 ∧ 1 ≤ N ∧ N ≤ 17
theorem zmul_rg {a i : Int} (h1 : 0 ≤ a) (h2 : a ≤ 16) (h3 : 0 ≤ i) (h4 : i < 16) : 0 ≤ a * i ∧ a * i ≤ 240 := by
  have e1 : 0 ≤ a * i := Int.mul_nonneg h1 h3
  have e2 : a * i ≤ 16 * 15 := Int.mul_le_mul h2 (by omega) h3 (by omega)
  omega
theorem zBv_rg {k a b N i j : Int} {t : Int → Int} (h : zlw k a b N) (ht : k = 2 → ∀ x, 0 ≤ x → x < 256 → 0 ≤ t x ∧ t x < N) (i0 : 0 ≤ i) (i1 : i < 16) (j0 : 0 ≤ j) (j1 : j < 16) : 0 ≤ zBv k a b N t i j ∧ zBv k a b N t i j < N := by
  obtain ⟨h1, h2, h3, h4, h5, h6, h7, h8⟩ := h
  unfold zBv
  by_cases c0 : k = 0
  · rw [if_pos c0]
    exact ⟨Int.emod_nonneg _ (by omega), Int.emod_lt_of_pos _ (by omega)⟩
  · rw [if_neg c0]
    by_cases c1 : k = 1
    · rw [if_pos c1]
      exact ⟨Int.emod_nonneg _ (by omega), Int.emod_lt_of_pos _ (by omega)⟩
    · rw [if_neg c1]
      exact ht (by omega) _ (by omega) (by omega)
theorem la_bank {M : zM} {s i j : Int} (hk : zkd zK0 s = some (2, 7)) (h6 : M s 6 = 3) (h : zlw (M s 3) (M s 4) (M s 5) (M s 2)) (i0 : 0 ≤ i) (i1 : i < 16) (j0 : 0 ≤ j) (j1 : j < 16) : qla_bankAt zK0 M s i j = some (zBv (M s 3) (M s 4) (M s 5) (M s 2) (M 3) i j) := by
  obtain ⟨h1, h2, h3, h4, h5, h6', h7, h8⟩ := h
  have m1 := zmul_rg h3 h4 i0 i1
  have m2 := zmul_rg h5 h6' j0 j1
  have m3 := zxor_rg m1.1 (show M s 4 * i < 256 by omega) m2.1 (show M s 5 * j < 256 by omega)
  unfold qla_bankAt zBv
  simp only [zgf_ok hk, Option.bind_some, zwl, zw_id (show -2147483648 ≤ M s 3 by omega) (show M s 3 < 2147483648 by omega)]
  by_cases c2 : M s 3 = 2
  · rw [if_pos c2, if_neg (by omega), if_neg (by omega), zgr_ok (v := 3) hk h6 (by decide), Option.bind_some, qbs_spot, Option.bind_some, zga_ok (N := 256) rfl (by decide) (by omega) (by omega)]
    rfl
  · rw [if_neg c2]
    by_cases c0 : M s 3 = 0
    · rw [if_pos c0, if_pos c0, Option.bind_some, zrm_ok (by omega) (by omega) (by omega) (by omega)]
      rfl
    · rw [if_neg c0, if_neg c0, if_pos (by omega), Option.bind_some, zrm_ok (by omega) (by omega) (by omega) (by omega)]
      rfl
abbrev zlc (C i j x : Int) : Prop := 0 ≤ x ∧ ((x / 16 < i ∧ x % 16 < C) ∨ (x / 16 = i ∧ x % 16 < j))
/-- the reference's map of banks, filled up to row i, column j -/
def zly (M : zM) (k a b N C i j : Int) : zM := fun c x => if c = 62 ∧ zlc C i j x then zBv k a b N (M 3) (x / 16) (x % 16) else M c x
theorem zly_ne {M : zM} {k a b N C i j c x : Int} (h : c ≠ 62) : zly M k a b N C i j c x = M c x := by
  unfold zly
  rw [if_neg (fun q => h q.1)]
theorem zly_0 {M : zM} {k a b N C : Int} : zly M k a b N C 0 0 = M := by
  funext c x
  unfold zly
  rw [if_neg]
  unfold zlc
  intro ⟨_, q⟩
  omega
theorem zly_j {M : zM} {k a b N C i j v : Int} (i0 : 0 ≤ i) (j0 : 0 ≤ j) (j1 : j < 16) (hv : v = zBv k a b N (M 3) i j) : zu (zly M k a b N C i j) 62 (16 * i + j) v = zly M k a b N C i (j + 1) := by
  subst hv
  funext c x
  rw [zu_at]
  unfold zly
  by_cases q : c = 62 ∧ x = 16 * i + j
  · rw [if_pos q, if_pos ⟨q.1, by unfold zlc; omega⟩, show x / 16 = i by omega, show x % 16 = j by omega]
  · rw [if_neg q]
    by_cases q1 : c = 62 ∧ zlc C i j x
    · rw [if_pos q1, if_pos ⟨q1.1, by have := q1.2; unfold zlc at *; omega⟩]
    · rw [if_neg q1, if_neg]
      intro q2
      apply q1
      refine ⟨q2.1, ?_⟩
      have q3 := q2.2
      have : ¬ x = 16 * i + j := fun e => q ⟨q2.1, e⟩
      unfold zlc at *
      omega
theorem zly_i {M : zM} {k a b N C i : Int} : zly M k a b N C i C = zly M k a b N C (i + 1) 0 := by
  funext c x
  unfold zly
  by_cases q1 : c = 62 ∧ zlc C i C x
  · rw [if_pos q1, if_pos ⟨q1.1, by have := q1.2; unfold zlc at *; omega⟩]
  · rw [if_neg q1, if_neg]
    intro q2
    apply q1
    refine ⟨q2.1, ?_⟩
    have q3 := q2.2
    unfold zlc at *
    omega
theorem zly_at {M : zM} {k a b N C R i j : Int} (i0 : 0 ≤ i) (i1 : i < R) (j0 : 0 ≤ j) (j1 : j < C) (hC : C ≤ 16) : zly M k a b N C R 0 62 (16 * i + j) = zBv k a b N (M 3) i j := by
  unfold zly
  rw [if_pos ⟨rfl, by unfold zlc; omega⟩, show (16 * i + j) / 16 = i by omega, show (16 * i + j) % 16 = j by omega]
theorem zkp.ly {P : Int → Int → Bool} {M M1 : zM} {k a b N C i j : Int} (h : zkp P M M1) (hs : ∀ i, P 62 i = false) : zkp P M (zly M1 k a b N C i j) := by
  intro c x hc
  unfold zly
  rw [if_neg (fun q => by rw [q.1, hs] at hc; cases hc)]
  exact h c x hc
theorem Iv.ly {M : zM} {k a b N C i j : Int} (I : Iv M) : Iv (zly M k a b N C i j) := by
  obtain ⟨hS, hT, hR, hW, hP, hL, hSh⟩ := I
  refine ⟨hS.keep ?_, hT.keep ?_, hR.keep ?_, hW.keep ?_, hP.keep ?_, hL.keep ?_, hSh.keep ?_⟩
  all_goals exact (zkp.rf _ _).ly (fun _ => rfl)
theorem mlays {M : zM} {n : Nat} {k a b N : Int} (hn : 1000000 ≤ n) (h : zlw k a b N) (h7 : M 60 7 = 62) (h6 : M 60 6 = 61) (r0 : 1 ≤ M 60 0) (r1 : M 60 0 ≤ 16) (c0 : 1 ≤ M 60 1) (c1 : M 60 1 ≤ 16) (ht : ∀ x, 0 ≤ x → x < 256 → M 61 x = M 3 x) : qmd_lays n zK0 M 60 k a b N = some (zly M k a b N (M 60 1) (M 60 0) 0) := by
  obtain ⟨R, hR⟩ : ∃ R, M 60 0 = R := ⟨_, rfl⟩
  obtain ⟨C, hC⟩ : ∃ C, M 60 1 = C := ⟨_, rfl⟩
  rw [hR] at r0 r1 ⊢
  rw [hC] at c0 c1 ⊢
  obtain ⟨k0, k1, a0, a1, b0, b1, N0, N1⟩ := h
  unfold qmd_lays
  refine zwh_eq (fun s => 0 ≤ s.1 ∧ s.1 ≤ R ∧ s.2 = zly M k a b N C s.1 0) (fun s => (R - s.1).toNat) ?_ n (0, M) ⟨by simp, by simp; omega, by simp [zly_0]⟩ (by simp; omega)
  intro s ⟨s0, s1, s2⟩
  try dsimp only
  rw [zgf_ok rfl, Option.bind_some, show s.2 60 0 = R by rw [s2, zly_ne (by decide), hR], zw_id (by omega) (by omega), zw_id (by omega) (by omega)]
  by_cases hc : R ≤ s.1
  · right
    rw [if_pos hc, s2, show s.1 = R by omega]
  · left
    rw [if_neg hc]
    refine ⟨(s.1 + 1, zly M k a b N C (s.1 + 1) 0), ?_, ⟨by dsimp only; omega, by dsimp only; omega, rfl⟩, by dsimp only; omega⟩
    have inner : ∀ g : Int × zM → Option ((Int × zM) ⊕ (Int × zM)), (∀ j, 0 ≤ j → j < C → g (j, zly M k a b N C s.1 j) = some (.inl (j + 1, zly M k a b N C s.1 (j + 1)))) → g (C, zly M k a b N C s.1 C) = some (.inr (C, zly M k a b N C s.1 C)) → zwh g n (0, s.2) = some (C, zly M k a b N C s.1 C) := by
      intro g g1 g2
      refine zwh_eq (fun q => 0 ≤ q.1 ∧ q.1 ≤ C ∧ q.2 = zly M k a b N C s.1 q.1) (fun q => (C - q.1).toNat) ?_ n (0, s.2) ⟨by simp, by simp; omega, s2⟩ (by simp; omega)
      intro ⟨j, Q⟩ ⟨q0, q1, q2⟩
      dsimp only at q0 q1 q2
      subst q2
      by_cases hj : j < C
      · left
        exact ⟨_, g1 j q0 hj, ⟨by dsimp only; omega, by dsimp only; omega, rfl⟩, by dsimp only; omega⟩
      · right
        have : j = C := by omega
        subst this
        exact g2
    rw [inner]
    · rw [Option.bind_some, zly_i]
    · intro j j0 j1
      dsimp only
      have m1 := zmul_rg a0 a1 s0 (show s.1 < 16 by omega)
      have m2 := zmul_rg b0 b1 j0 (show j < 16 by omega)
      have m3 := zxor_rg m1.1 (show a * s.1 < 256 by omega) m2.1 (show b * j < 256 by omega)
      rw [zgf_ok rfl, Option.bind_some, zly_ne (by decide), hC, zw_id (by omega) (by omega), zw_id (by omega) (by omega), if_neg (by omega), zgr_ok (v := 62) rfl (by rw [zly_ne (by decide), h7]) (by decide), Option.bind_some]
      rw [zw_id (x := k) (by omega) (by omega), zw_id (x := 1) (by omega) (by omega), zrm_ok (by omega) (by omega) (by omega) (by omega), zrm_ok (by omega) (by omega) (by omega) (by omega), zgr_ok (v := 61) rfl (by rw [zly_ne (by decide), h6]) (by decide)]
      simp only [Option.bind_some]
      rw [zga_ok (N := 256) rfl (by decide) (by omega) (by omega), Option.bind_some, zly_ne (by decide), ht _ (by omega) (by omega)]
      have e : (if k = 0 then some ((a * s.1 + b * j) % N) else if k = 1 then some (zxor (a * s.1) (b * j) % N) else some (M 3 (16 * s.1 + j))) = some (zBv k a b N (M 3) s.1 j) := by
        unfold zBv
        rw [show 16 * s.1 + j = s.1 * 16 + j by omega]
        split
        · rfl
        · split <;> rfl
      rw [e, Option.bind_some, zpa_ok (N := 256) rfl (by decide) (by omega) (by omega), Option.bind_some, zly_j s0 j0 (by omega) rfl]
    · dsimp only
      rw [zgf_ok rfl, Option.bind_some, zly_ne (by decide), hC, zw_id (by omega) (by omega), if_pos (by omega)]
/-- the bank of a cell of the store -/
def zB (M : zM) (i j : Int) : Int := zBv (M 2 3) (M 2 4) (M 2 5) (M 2 2) (M 3) i j
theorem Iv.lw {M : zM} (I : Iv M) : zlw (M 2 3) (M 2 4) (M 2 5) (M 2 2) := by
  obtain ⟨hS, hT, hR, hW, hP, hL, hSh⟩ := I
  obtain ⟨t1, t2, t3, t4, t5, t6, t7, t8, t9, t10, t11, t12, t13, t14, t15, t16, t17, t18, t19⟩ := hT
  exact ⟨t7, t8, t9, t10, t11, t12, t5, t6⟩
def zlN (M : zM) : zM := zly M (M 2 3) (M 2 4) (M 2 5) (M 2 2) (M 2 1) (M 2 0) 0
theorem mlaysNow {M : zM} {n : Nat} (hn : 1000000 ≤ n) (I : Iv M) : qmd_laysNow n zK0 M 60 = some (zlN M) := by
  have hl := I.lw
  obtain ⟨hS, hT, hR, hW, hP, hL, hSh⟩ := I
  have hS' := hS
  unfold zSR at hS'
  obtain ⟨t1, t2, t3, t4, t5, t6, t7, t8, t9, t10, t11, t12, t13, t14, t15, t16, t17, t18, t19⟩ := hT
  unfold qmd_laysNow zlN
  simp only [zPo, Option.bind_some, t15, t16, t17, t18]
  rw [mlays hn hl (by simp [hS']) (by simp [hS']) (by omega) (by omega) (by omega) (by omega) (fun x x0 x1 => (t19 x x0 x1).1), t13, t14]
  rfl
theorem zlN_ne {M : zM} {c x : Int} (h : c ≠ 62) : zlN M c x = M c x := zly_ne h
theorem zlN_at {M : zM} (I : Iv M) {i j : Int} (i0 : 0 ≤ i) (i1 : i < M 2 0) (j0 : 0 ≤ j) (j1 : j < M 2 1) : zlN M 62 (16 * i + j) = zB M i j := zly_at i0 i1 j0 j1 I.2.1.2.2.2.1
theorem zB_rg {M : zM} (I : Iv M) {i j : Int} (i0 : 0 ≤ i) (i1 : i < 16) (j0 : 0 ≤ j) (j1 : j < 16) : 0 ≤ zB M i j ∧ zB M i j < M 2 2 := by
  refine zBv_rg I.lw (fun _ x x0 x1 => ?_) i0 i1 j0 j1
  obtain ⟨hS, hT, hR, hW, hP, hL, hSh⟩ := I
  obtain ⟨t1, t2, t3, t4, t5, t6, t7, t8, t9, t10, t11, t12, t13, t14, t15, t16, t17, t18, t19⟩ := hT
  exact (t19 x x0 x1).2
