/-- the wishes are all granted by the x-th law of a sort with m banks -/
def zwG (M : zM) (k m x w : Int) : Bool := zal (zgL (M 2 0) (M 2 1) (fun i j => zBv k (x / m) (x % m) m (M 3) i j) (M (9 + w) 0) (M (9 + w) 1) (M (9 + w) 2)) (M 2 0 * M 2 1).toNat
def zgr1 (M : zM) (k m x : Int) : Bool := zal (zwG M k m x) (M 7 1).toNat
theorem c_all {M P : zM} {n : Nat} {k m x : Int} (hn : 1000000 ≤ n) (I : Iv M) (hP : zsa M P) (k0 : 0 ≤ k) (k1 : k ≤ 1) (m0 : 1 ≤ m) (m1 : m ≤ 17) (x0 : 0 ≤ x) (x1 : x < m * m) (p0 : P 4 0 = M 2 0) (p1 : P 4 1 = M 2 1) (p2 : P 4 2 = m) (p3 : P 4 3 = k) (p4 : P 4 4 = x / m) (p5 : P 4 5 = x % m) : qwi_allGrantedBy n zK0 P 7 4 = some (if zgr1 M k m x then 1 else 0) := by
  have IP := I.keep hP
  have ht := I.2.1
  unfold IvT at ht
  obtain ⟨d1, d2, d3, d4, d5⟩ := zdm (c := x) (R := m) (C := m) m0 x0 x1
  have hS' := IP.1
  unfold zSR at hS'
  have hl : zLa P 4 := ⟨rfl, by simp [hS'], by rw [p2, p3, p4, p5]; exact ⟨k0, by omega, d1, by omega, d3, by omega, m0, m1⟩, by omega, by omega, by omega, by omega, fun q => by omega⟩
  have h8 := fun {w : Int} => zw_8 IP.1 (k := w)
  obtain ⟨u1, u2, u3, u4⟩ := I.2.2.2.1
  have e7 := hP 7 1 rfl
  have e3 : P 3 = M 3 := funext fun i => hP 3 i rfl
  have hg : ∀ w, 0 ≤ w → w < M 7 1 → qsh_isGrantedBy n zK0 P (9 + w) 4 = some (if zwG M k m x w then 1 else 0) := by
    intro w w0 w1
    rw [sh_granted hn hl (zw_sM IP w0 (by omega)), zgG_L, p0, p1, p2, p3, p4, p5, e3, hP (9 + w) 0 (zst9 w0 (by omega)), hP (9 + w) 1 (zst9 w0 (by omega)), hP (9 + w) 2 (zst9 w0 (by omega))]
    rfl
  unfold qwi_allGrantedBy zgr1
  refine zwh_eq (fun w => 0 ≤ w ∧ w ≤ M 7 1 ∧ zal (zwG M k m x) w.toNat = true) (fun w => (M 7 1 - w).toNat) ?_ n _ ⟨by omega, by omega, rfl⟩ (by omega)
  rintro w ⟨w0, w1, hw⟩
  rw [zgf_ok rfl, Option.bind_some, e7, zw_id (x := M 7 1) (by omega) (by omega), zw_id (x := w) (by omega) (by omega)]
  by_cases c : M 7 1 ≤ w
  · right
    rw [if_pos c, ← show w = M 7 1 by omega, hw]
    rfl
  · rw [if_neg c, zgr_ok (v := 8) rfl (by simp [hS']) (by decide), Option.bind_some, zgq_ok (v := 9 + w) (N := 6) rfl (by decide) w0 (by omega) (h8 w0 (by omega)) (by omega), Option.bind_some, zgk_ok (zw_c w0 (by omega)).1, Option.bind_some, hg w w0 (by omega), Option.bind_some]
    have hs := zal_s (G := zwG M k m x) w0
    rw [hw, Bool.true_and] at hs
    by_cases d : zwG M k m x w = true
    · left
      rw [d, if_pos rfl, if_neg (by decide)]
      exact ⟨_, rfl, ⟨by omega, by omega, by rw [hs, d]⟩, by omega⟩
    · right
      have d' : zwG M k m x w = false := by simpa using d
      rw [d'] at hs
      rw [d', zal_dn (s := (w + 1).toNat) (by omega) hs]
      rfl
theorem m_all {M Q : zM} {n : Nat} {k m x : Int} (hn : 1000000 ≤ n) (I : Iv M) (hQ : zsa M Q) (h62 : ∀ i j, 0 ≤ i → i < M 2 0 → 0 ≤ j → j < M 2 1 → Q 62 (16 * i + j) = zBv k (x / m) (x % m) m (M 3) i j) : qmd_grantsAll n zK0 Q 60 = some (if zgr1 M k m x then 1 else 0) := by
  have IQ := I.keep hQ
  have ht := I.2.1
  unfold IvT at ht
  have hS' := IQ.1
  unfold zSR at hS'
  obtain ⟨u1, u2, u3, u4⟩ := I.2.2.2.1
  have e9 : Q 60 9 = M 7 1 := (hQ 60 9 rfl).trans u3
  have hg : ∀ w, 0 ≤ w → w < M 7 1 → qmd_grants n zK0 Q 60 w = some (if zwG M k m x w then 1 else 0) := by
    intro w w0 w1
    obtain ⟨v1, v2, v3, v4, v5, v6, v7, v8, v9⟩ := u4 w w0 w1
    exact md_grantq (R := M 2 0) (C := M 2 1) (fun i j => zBv k (x / m) (x % m) m (M 3) i j) hn ((hQ 60 0 rfl).trans ht.2.2.2.2.2.2.2.2.2.2.2.2.1) ((hQ 60 1 rfl).trans ht.2.2.2.2.2.2.2.2.2.2.2.2.2.1) (by simp [hS']) (by simp [hS']) (by simp [hS']) (by simp [hS']) ((hQ 64 w rfl).trans v1) ((hQ 65 w rfl).trans v2) ((hQ 66 w rfl).trans v3) (by omega) (by omega) (by omega) (by omega) w0 (by omega) ⟨v4, v5, v6, v7, v8, v9⟩ h62
  unfold qmd_grantsAll zgr1
  refine zwh_eq (fun s => 0 ≤ s.2 ∧ s.2 ≤ M 7 1 ∧ s.1 = if zal (zwG M k m x) s.2.toNat then 1 else 0) (fun s => (M 7 1 - s.2).toNat) ?_ n _ ⟨by simp, by simp; omega, by simp [zal]⟩ (by simp; omega)
  rintro ⟨b, w⟩ ⟨w0, w1, hw⟩
  dsimp only at w0 w1 hw ⊢
  have hw' : b = (if zal (zwG M k m x) w.toNat then 1 else 0) := hw
  clear hw
  subst hw'
  rw [zgf_ok rfl, Option.bind_some, e9, zw_id (x := M 7 1) (by omega) (by omega), zw_id (x := w) (by omega) (by omega)]
  by_cases c : M 7 1 ≤ w
  · right
    rw [if_pos c, show w = M 7 1 by omega]
    by_cases d : zal (zwG M k m x) (M 7 1).toNat = true
    · simp [d, zbr]
    · simp [d, zbr]
  · rw [if_neg c]
    have hs := zal_s (G := zwG M k m x) w0
    by_cases d : zal (zwG M k m x) w.toNat = true
    · left
      rw [d, if_pos rfl, if_neg (by decide), zgk_ok rfl, Option.bind_some, hg w w0 (by omega), Option.bind_some]
      exact ⟨_, rfl, ⟨by dsimp only; omega, by dsimp only; omega, by dsimp only; rw [hs, d, Bool.true_and]⟩, by dsimp only; omega⟩
    · right
      have d' : zal (zwG M k m x) w.toNat = false := by simpa using d
      rw [d', zal_dn (s := w.toNat) (by omega) d']
      simp [zbr, zwl]
theorem zcf (G : Int → Bool) (x : Nat) : (zcn G x = 0 ∧ zfi G (fun c => c) x = -4) ∨ (0 < zcn G x ∧ 0 ≤ zfi G (fun c => c) x ∧ zfi G (fun c => c) x < x) := by
  induction x with
  | zero => left; exact ⟨rfl, rfl⟩
  | succ x ih =>
    rw [zcn, zfi]
    rcases ih with ⟨h1, h2⟩ | ⟨h1, h2, h3⟩
    · rw [h1, h2, if_pos rfl]
      by_cases g : G x = true
      · right; rw [if_pos g, if_pos g]; omega
      · left; rw [if_neg g, if_neg g]; omega
    · right
      rw [if_neg (show ¬ zfi G (fun c => c) x = -4 by omega)]
      refine ⟨by split <;> omega, h2, by omega⟩
