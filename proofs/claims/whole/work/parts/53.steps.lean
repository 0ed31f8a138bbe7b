theorem o_rate {M : zM} {n : Nat} {a1 a2 a3 : Int} (hn : 1000000 ≤ n) (I : Iv M) (g1 : zrg a1) (g2 : zrg a2) (g3 : zrg a3) : ∃ r M1 r' M2, qbs_rate n zK0 M 1 a1 a2 a3 = some (r, M1) ∧ qmd_rate n zK0 M1 60 a1 a2 a3 = some (r', M2) ∧ zw r = zw r' ∧ Iv M2 := by
  refine zjn (d := fun T => qmd_rate n zK0 T 60 a1 a2 a3) I (fun T hT => ?_)
  try dsimp only
  unfold qbs_rate qmd_rate qbs_isStream qmd_isStream
  rw [zw_id g1.1 g1.2, zw_id g2.1 g2.2, zw_id g3.1 g3.2, zwit g1 (by decide) (by decide), zwit g2 (by decide) (by decide), zwit g3 (by decide) (by decide), zinn g1 (by decide) (by decide), zinn g2 (by decide) (by decide), zinn g3 (by decide) (by decide)]
  rw [Option.bind_some, Option.bind_some]
  have s1 : ¬ (1 : Int) = 0 := by decide
  by_cases c1 : 0 ≤ a1 ∧ a1 ≤ 999
  rotate_left
  · simp only [if_neg c1, zwl, if_true, Option.bind_some]
    exact ⟨_, _, _, _, rfl, rfl, rfl, zsa.rf M, hT⟩
  by_cases c2 : 1 ≤ a2 ∧ a2 ≤ 99
  rotate_left
  · simp only [if_pos c1, if_neg c2, zwl, if_true, Option.bind_some, if_neg s1]
    exact ⟨_, _, _, _, rfl, rfl, rfl, zsa.rf M, hT⟩
  by_cases c3 : 0 ≤ a3 ∧ a3 ≤ 2
  rotate_left
  · simp only [if_pos c1, if_pos c2, if_neg c3, zwl, if_true, Option.bind_some, if_neg s1]
    exact ⟨_, _, _, _, rfl, rfl, rfl, zsa.rf M, hT⟩
  obtain ⟨x, P, y, Q, e1, e2, e3, e4, e5⟩ := j_seek hn I c1.1 c1.2 c2.1 c2.2 T hT
  have gM := I.g
  have gP := (I.keep e3).g
  unfold zPt at gM gP
  have z0 : zw 0 = 0 := zwl.2.2.2.2.2.2.1
  have z1 : zw 1 = 1 := zwl.2.2.2.2.2.2.2.1
  simp only [if_pos c1, if_pos c2, if_pos c3, z1, Option.bind_some, if_neg s1, gM, zPf, e1, e2]
  rcases e5 with ⟨rfl, rfl⟩ | ⟨rfl, rfl, e6, e7, e8, e9⟩
  · simp only [z0, if_true]
    exact ⟨_, _, _, _, rfl, rfl, rfl, e3, e4⟩
  · simp only [z1, if_neg s1]
    by_cases d0 : a3 = 0
    · simp only [if_pos d0, gP, zPf, Option.bind_some]
      exact ⟨_, _, _, _, rfl, rfl, by rw [e6], e3, e4⟩
    · by_cases d1 : a3 = 1
      · simp only [if_neg d0, if_pos d1, gP, zPf, Option.bind_some]
        exact ⟨_, _, _, _, rfl, rfl, by rw [e7], e3, e4⟩
      · simp only [if_neg d0, if_neg d1, gP, zPf, Option.bind_some]
        exact ⟨_, _, _, _, rfl, rfl, by rw [e8], e3, e4⟩
theorem zlcl {x y : Int} (hx : -9223372036854775808 ≤ x ∧ x < 9223372036854775808) (hy : -9223372036854775808 ≤ y ∧ y < 9223372036854775808) : (0 ≤ zw (zlcmp x y)) ↔ y ≤ x := by
  unfold zlcmp
  rw [zq_id hx.1 hx.2, zq_id hy.1 hy.2]
  by_cases c : y < x
  · rw [if_pos c]
    constructor
    · intro _; omega
    · intro _; decide
  · rw [if_neg c]
    by_cases d : x = y
    · rw [if_pos d]
      constructor
      · intro _; omega
      · intro _; decide
    · rw [if_neg d]
      constructor
      · intro h; exact absurd h (by decide)
      · intro h; omega
theorem o_steps {M : zM} {n : Nat} {a1 : Int} (hn : 1000000 ≤ n) (I : Iv M) (g1 : zrg a1) : ∃ r M1 r' M2, qbs_steps n zK0 M 1 a1 = some (r, M1) ∧ qmd_steps n zK0 M1 60 a1 = some (r', M2) ∧ zw r = zw r' ∧ Iv M2 := by
  refine zjn (d := fun T => qmd_steps n zK0 T 60 a1) I (fun T hT => ?_)
  try dsimp only
  have s1 : ¬ (1 : Int) = 0 := by decide
  have z0 : zw 0 = 0 := zwl.2.2.2.2.2.2.1
  have z1 : zw 1 = 1 := zwl.2.2.2.2.2.2.2.1
  unfold qbs_steps qmd_steps
  rw [zw_id g1.1 g1.2, zwit g1 (by decide) (by decide), zinn g1 (by decide) (by decide)]
  rw [Option.bind_some, Option.bind_some]
  by_cases c1 : 0 ≤ a1 ∧ a1 ≤ 1
  rotate_left
  · simp only [if_neg c1, z0, if_true]
    exact ⟨_, _, _, _, rfl, rfl, rfl, zsa.rf M, hT⟩
  rw [if_pos c1, z1, if_neg s1, if_neg s1]
  have key : ∀ {σ τ : Type} (F : σ → Option (σ ⊕ (Int × zM))) (H : τ → Option (τ ⊕ (Int × zM))) (s0 : σ) (t0 : τ), (∃ x y, zwh F n s0 = some x ∧ zwh H n t0 = some y ∧ zw x.1 = zw y.1 ∧ zsa M x.2 ∧ zsa M y.2) → ∃ r P r' Q, zwh F n s0 = some (r, P) ∧ zwh H n t0 = some (r', Q) ∧ zw r = zw r' ∧ zsa M P ∧ zsa M Q := by
    rintro σ τ F H s0 t0 ⟨⟨x, P⟩, ⟨y, Q⟩, e1, e2, e3, e4, e5⟩
    exact ⟨_, _, _, _, e1, e2, e3, e4, e5⟩
  refine key _ _ _ _ (zwh2 (n := n) (R := fun (s t : Int × Int × Int × Int × Int × zM) => s.1 = t.1 ∧ s.2.2.2.2.1 = t.2.2.2.2.1 ∧ 1 ≤ s.2.2.2.2.1 ∧ s.2.2.2.2.1 ≤ 100 ∧ zsa M s.2.2.2.2.2 ∧ zsa M t.2.2.2.2.2 ∧ ((s.2.2.2.2.1 = 1 ∧ s.2.1 = 0 ∧ t.2.2.2.1 = 0) ∨ (1 ≤ s.2.1 ∧ s.2.1 ≤ 100 ∧ t.2.1 = s.2.1 ∧ t.2.2.1 = s.2.2.1 ∧ t.2.2.2.1 = s.2.2.2.1 ∧ 1 ≤ s.2.2.1 ∧ s.2.2.1 ≤ 16128 ∧ 1 ≤ s.2.2.2.1 ∧ s.2.2.2.1 ≤ 98304))) (fun s => (100 - s.2.2.2.2.1).toNat) _ ?_ _ _ ?_ ?_)
  · rintro ⟨cn, bs, ba, bb, s, P⟩ ⟨cn', bs', ba', bb', s', Q⟩ ⟨q1, q2, q3, q4, q5, q6, q7⟩
    dsimp only at q1 q2 q3 q4 q5 q6 q7 ⊢
    subst q1 q2
    rw [zw_id (x := 99) (by decide) (by decide), zw_id (x := 100) (by decide) (by decide), zw_id (x := s) (by omega) (by omega)]
    by_cases c : 99 < s
    · right
      rw [if_pos c, if_pos (show 100 ≤ s by omega)]
      by_cases d : a1 = 0
      · rw [if_pos d, if_pos d]
        exact ⟨_, _, rfl, rfl, rfl, q5, q6⟩
      · rw [if_neg d, if_neg d]
        refine ⟨_, _, rfl, rfl, ?_, q5, q6⟩
        rcases q7 with q7 | q7
        · omega
        · dsimp only
          rw [q7.2.2.1]
    rw [if_neg c, if_neg (show ¬ 100 ≤ s by omega)]
    have IP := I.keep q5
    obtain ⟨x, P', y, Q', e1, e2, e3, e4, e5⟩ := j_seek (a := 0) (s := s) hn IP (by omega) (by omega) q3 (by omega) Q (q5.sy q6)
    have e3' := q5.tr e3
    have e4' := q5.tr e4
    have gP := IP.g
    have gP' := (I.keep e3').g
    unfold zPt at gP gP'
    simp only [gP, zPf, Option.bind_some, e1, e2]
    rcases e5 with ⟨rfl, rfl⟩ | ⟨rfl, rfl, e6, e7, e8, e9⟩
    · right
      rw [z0, if_pos rfl, if_pos rfl]
      exact ⟨_, _, rfl, rfl, rfl, e3', e4'⟩
    left
    obtain ⟨A, hA⟩ : ∃ A, P' 24 4 = A := ⟨_, rfl⟩
    obtain ⟨B, hB⟩ : ∃ B, P' 24 5 = B := ⟨_, rfl⟩
    rw [hA] at e6 e9
    rw [hB] at e7 e9
    rw [z1, if_neg s1, if_neg s1]
    simp only [gP', zPf, Option.bind_some, hA, hB, ← e6, ← e7]
    obtain ⟨w, hw⟩ : ∃ w, (if zw A = zw B then some (1 : Int) else some 0) = some w := by
      by_cases f : zw A = zw B
      · exact ⟨1, by rw [if_pos f]⟩
      · exact ⟨0, by rw [if_neg f]⟩
    rw [hw, Option.bind_some, Option.bind_some]
    rcases q7 with ⟨k1, k2, k3⟩ | ⟨k1, k2, k3, k4, k5, k6, k7, k8, k9⟩
    · subst k2 k3
      rw [z0, if_pos rfl, if_pos rfl]
      exact ⟨_, _, rfl, rfl, ⟨rfl, rfl, by dsimp only; omega, by dsimp only; omega, e3', e4', Or.inr ⟨q3, by dsimp only; omega, rfl, rfl, rfl, by dsimp only; omega, by dsimp only; omega, by dsimp only; omega, by dsimp only; omega⟩⟩, by dsimp only; omega⟩
    · subst k3 k4 k5
      rw [zw_id (x := bs') (by omega) (by omega), if_neg (by omega), zw_id (x := bb') (by omega) (by omega), if_neg (show ¬ bb' = 0 by omega), zw_id (x := A) (by omega) (by omega), zw_id (x := B) (by omega) (by omega), zw_id (x := ba') (by omega) (by omega)]
      have m1 : 0 ≤ A * bb' := Int.mul_nonneg (by omega) (by omega)
      have m2 : A * bb' ≤ 16128 * 98304 := Int.mul_le_mul (by omega) (by omega) (by omega) (by omega)
      have m3 : 0 ≤ ba' * B := Int.mul_nonneg (by omega) (by omega)
      have m4 : ba' * B ≤ 16128 * 98304 := Int.mul_le_mul (by omega) (by omega) (by omega) (by omega)
      have zc := zlcl (x := A * bb') (y := ba' * B) (by omega) (by omega)
      rw [zw_id (x := A * bb') (by omega) (by omega), zw_id (x := ba' * B) (by omega) (by omega)]
      by_cases f : ba' * B ≤ A * bb'
      · rw [if_pos (zc.2 f), if_pos f]
        exact ⟨_, _, rfl, rfl, ⟨rfl, rfl, by dsimp only; omega, by dsimp only; omega, e3', e4', Or.inr ⟨k1, k2, rfl, rfl, rfl, k6, k7, k8, k9⟩⟩, by dsimp only; omega⟩
      · rw [if_neg (fun q => f (zc.1 q)), if_neg f]
        exact ⟨_, _, rfl, rfl, ⟨rfl, rfl, by dsimp only; omega, by dsimp only; omega, e3', e4', Or.inr ⟨q3, by dsimp only; omega, rfl, rfl, rfl, by dsimp only; omega, by dsimp only; omega, by dsimp only; omega, by dsimp only; omega⟩⟩, by dsimp only; omega⟩
  · exact ⟨rfl, rfl, by simp, by simp, zsa.rf M, hT, Or.inl ⟨rfl, rfl, rfl⟩⟩
  · dsimp only
    omega
