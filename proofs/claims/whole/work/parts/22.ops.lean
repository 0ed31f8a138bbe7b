theorem zwl : zw (-6) = (-6) ∧ zw (-5) = (-5) ∧ zw (-4) = (-4) ∧ zw (-3) = (-3) ∧ zw (-2) = (-2) ∧ zw (-1) = (-1) ∧ zw 0 = 0 ∧ zw 1 = 1 ∧ zw 2 = 2 ∧ zw 3 = 3 ∧ zw 4 = 4 ∧ zw 5 = 5 ∧ zw 6 = 6 ∧ zw 7 = 7 ∧ zw 8 = 8 ∧ zw 9 = 9 ∧ zw 10 = 10 ∧ zw 11 = 11 ∧ zw 12 = 12 ∧ zw 13 = 13 ∧ zw 14 = 14 ∧ zw 15 = 15 ∧ zw 16 = 16 ∧ zw 17 = 17 ∧ zw 32 = 32 ∧ zw 48 = 48 ∧ zw 57 = 57 ∧ zw 59 = 59 ∧ zw 64 = 64 ∧ zw 97 = 97 ∧ zw 99 = 99 ∧ zw 100 = 100 ∧ zw 122 = 122 ∧ zw 240 = 240 ∧ zw 256 = 256 ∧ zw 10000 = 10000 ∧ zw 20000 = 20000 := by
  refine ⟨?_, ?_, ?_, ?_, ?_, ?_, ?_, ?_, ?_, ?_, ?_, ?_, ?_, ?_, ?_, ?_, ?_, ?_, ?_, ?_, ?_, ?_, ?_, ?_, ?_, ?_, ?_, ?_, ?_, ?_, ?_, ?_, ?_, ?_, ?_, ?_, ?_⟩ <;> exact zw_id (by decide) (by decide)
theorem zq_id {x : Int} (h1 : -9223372036854775808 ≤ x) (h2 : x < 9223372036854775808) : zq x = x := by
  unfold zq
  exact Int.bmod_eq_of_le (by omega) (by omega)
abbrev zrg (x : Int) : Prop := -2147483648 ≤ x ∧ x < 2147483648
theorem zwit {K : zK} {M : zM} {a lo hi : Int} (h1 : zrg a) (h2 : zrg lo) (h3 : zrg hi) : qbs_within K M a lo hi = some (if lo ≤ a ∧ a ≤ hi then 1 else 0) := by
  unfold qbs_within
  rw [zw_id h1.1 h1.2, zw_id h2.1 h2.2, zw_id h3.1 h3.2]
  by_cases c1 : a < lo
  · rw [if_pos c1, if_neg (by omega)]
  · rw [if_neg c1]
    by_cases c2 : hi < a
    · rw [if_pos c2, if_neg (by omega)]
    · rw [if_neg c2, if_pos (by omega)]
theorem zcmp_lt {x y : Int} (h1 : zrg x) (h2 : zrg y) : zw (zlcmp x y) < 0 ↔ x < y := by
  unfold zlcmp
  unfold zrg at h1 h2
  rw [zq_id (by omega) (by omega), zq_id (by omega) (by omega)]
  by_cases c1 : y < x
  · rw [if_pos c1, zw_id (by omega) (by omega)]; omega
  · rw [if_neg c1]
    by_cases c2 : x = y
    · rw [if_pos c2, zw_id (by omega) (by omega)]; omega
    · rw [if_neg c2, zw_id (by omega) (by omega)]; omega
theorem zcmp_gt {x y : Int} (h1 : zrg x) (h2 : zrg y) : 0 < zw (zlcmp x y) ↔ y < x := by
  unfold zlcmp
  unfold zrg at h1 h2
  rw [zq_id (by omega) (by omega), zq_id (by omega) (by omega)]
  by_cases c1 : y < x
  · rw [if_pos c1, zw_id (by omega) (by omega)]; omega
  · rw [if_neg c1]
    by_cases c2 : x = y
    · rw [if_pos c2, zw_id (by omega) (by omega)]; omega
    · rw [if_neg c2, zw_id (by omega) (by omega)]; omega
theorem zinn {K : zK} {M : zM} {a lo hi : Int} (h1 : zrg a) (h2 : zrg lo) (h3 : zrg hi) : qmd_in K M a lo hi = some (if lo ≤ a ∧ a ≤ hi then 1 else 0) := by
  unfold qmd_in
  simp only [zcmp_lt h1 h2, zcmp_gt h1 h3]
  by_cases c1 : a < lo
  · rw [if_pos c1, if_neg (by omega)]
  · rw [if_neg c1]
    by_cases c2 : hi < a
    · rw [if_pos c2, if_neg (by omega)]
    · rw [if_neg c2, if_pos (by omega)]
theorem zwb (c : Prop) [Decidable c] : (zw (if c then 1 else 0) = 0) = ¬ c := by
  by_cases h : c
  · rw [if_pos h]; simp [h]; decide
  · rw [if_neg h]; simp [h]; decide
theorem mforget {M : zM} {n : Nat} (h : M 60 6 = 61) (hn : 1000000 ≤ n) : qmd_forgetsTold n zK0 M 60 = some (zfl M 61 256 0) := by
  unfold qmd_forgetsTold
  obtain ⟨x, hx, rfl⟩ := zwh_inv (f := fun s1 : Int × zM => if zw 256 ≤ zw s1.1 then some (.inr s1.2) else (zgr zK0 s1.2 12 49 60 6).bind fun r2 => (zpa zK0 s1.2 100 r2 s1.1 0).bind fun M3 => some (.inl (s1.1 + 1, M3))) (fun s => 0 ≤ s.1 ∧ s.1 ≤ 256 ∧ s.2 = zfl M 61 s.1 0) (fun s => (256 - s.1).toNat) (fun x => x = zfl M 61 256 0) (fun s hs => by
    obtain ⟨h1, h2, h3⟩ := hs
    try dsimp only
    rw [zw_id (by omega) (by omega), zw_id (by omega) (by omega)]
    by_cases hc : 256 ≤ s.1
    · right
      rw [if_pos hc]
      exact ⟨s.2, rfl, by rw [h3, show s.1 = 256 by omega]⟩
    · left
      have e : s.2 60 6 = 61 := by rw [h3]; unfold zfl; rw [if_neg (by omega)]; exact h
      rw [if_neg hc, zgr_ok (v := 61) rfl e (by decide)]
      simp only [Option.bind_some]
      rw [zpa_ok (N := 256) rfl (by decide) h1 (by omega)]
      exact ⟨_, rfl, ⟨by dsimp only; omega, by dsimp only; omega, by dsimp only; rw [h3, zfl_s h1]⟩, by dsimp only; omega⟩) n (0, M) ⟨by dsimp only; omega, by dsimp only; omega, (zfl_0 M 61 0).symm⟩ (by dsimp only; omega)
  exact hx
theorem o_table {M : zM} {n : Nat} (hn : 1000000 ≤ n) (I : Iv M) {a1 a2 : Int} (g1 : zrg a1) (g2 : zrg a2) : ∃ r M1 r' M2, qbs_table n zK0 M 1 a1 a2 = some (r, M1) ∧ qmd_table n zK0 M1 60 a1 a2 = some (r', M2) ∧ zw r = zw r' ∧ Iv M2 := by
  obtain ⟨hS, hT, hR, hW, hP, hL, hSh⟩ := id I
  have hS' := hS
  unfold zSR at hS'
  have e1 : zw a1 = a1 := zw_id g1.1 g1.2
  have e2 : zw a2 = a2 := zw_id g2.1 g2.2
  have w1 := fun M => zwit (K := zK0) (M := M) g1 (show zrg 1 by decide) (show zrg 16 by decide)
  have w2 := fun M => zwit (K := zK0) (M := M) g2 (show zrg 1 by decide) (show zrg 16 by decide)
  have v1 := fun M => zinn (K := zK0) (M := M) g1 (show zrg 1 by decide) (show zrg 16 by decide)
  have v2 := fun M => zinn (K := zK0) (M := M) g2 (show zrg 1 by decide) (show zrg 16 by decide)
  unfold qbs_table qmd_table
  by_cases c1 : 1 ≤ a1 ∧ a1 ≤ 16
  · by_cases c2 : 1 ≤ a2 ∧ a2 ≤ 16
    · refine ⟨1, zfl (zu (zu M 2 0 a1) 2 1 a2) 3 256 0, 1, zfl (zu (zu (zfl (zu (zu M 2 0 a1) 2 1 a2) 3 256 0) 60 0 a1) 60 1 a2) 61 256 0, ?_, ?_, rfl, ?_⟩
      · simp [w1, w2, zwl, c1, c2, zfillI (K := zK0) (r := 3) (N := 256) rfl (by decide) (show 256 < n by omega), zPo, hS', zu_at]
      · simp only [e1, e2, v1, v2, Option.bind_some, zwb, c1, c2, and_self, not_true, if_false, zPo]
        rw [mforget (by simp [zu_at, zfl, hS']) hn]
        rfl
      · refine ⟨hS.keep ?_, ?_, hR.keep ?_, hW.keep ?_, hP.keep ?_, hL.keep ?_, hSh.keep ?_⟩
        · exact ((((((zkp.rf _ _).up rfl).up rfl).fl (fun _ => rfl)).up rfl).up rfl).fl (fun _ => rfl)
        · obtain ⟨t1, t2, t3, t4, t5, t6, t7, t8, t9, t10, t11, t12, t13, t14, t15, t16, t17, t18, t19⟩ := hT
          refine ⟨by simp [zu_at, zfl] <;> omega, by simp [zu_at, zfl] <;> omega, by simp [zu_at, zfl] <;> omega, by simp [zu_at, zfl] <;> omega, by simp [zu_at, zfl] <;> omega, by simp [zu_at, zfl] <;> omega, by simp [zu_at, zfl] <;> omega, by simp [zu_at, zfl] <;> omega, by simp [zu_at, zfl] <;> omega, by simp [zu_at, zfl] <;> omega, by simp [zu_at, zfl] <;> omega, by simp [zu_at, zfl] <;> omega, by simp [zu_at, zfl] <;> omega, by simp [zu_at, zfl] <;> omega, by simp [zu_at, zfl] <;> omega, by simp [zu_at, zfl] <;> omega, by simp [zu_at, zfl] <;> omega, by simp [zu_at, zfl] <;> omega, fun i h0 h1 => by simp [zu_at, zfl, h0, h1] <;> omega⟩
        all_goals exact ((((((zkp.rf _ _).up rfl).up rfl).fl (fun _ => rfl)).up rfl).up rfl).fl (fun _ => rfl)
    · exact ⟨-1, M, -1, M, by simp [w1, w2, zwl, c1, c2], by simp [e1, e2, v1, v2, zwl, c1, c2], rfl, I⟩
  · exact ⟨-1, M, -1, M, by simp [w1, zwl, c1], by simp [e1, v1, zwl, c1], rfl, I⟩
