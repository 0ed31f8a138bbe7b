theorem o_banks {M : zM} {n : Nat} (hn : 1000000 ≤ n) (I : Iv M) {a1 : Int} (g1 : zrg a1) : ∃ r M1 r' M2, qbs_banks n zK0 M 1 a1 = some (r, M1) ∧ qmd_banks n zK0 M1 60 a1 = some (r', M2) ∧ zw r = zw r' ∧ Iv M2 := by
  obtain ⟨hS, hT, hR, hW, hP, hL, hSh⟩ := id I
  have hS' := hS
  unfold zSR at hS'
  have e1 : zw a1 = a1 := zw_id g1.1 g1.2
  have w1 := fun Q => zwit (K := zK0) (M := Q) g1 (show zrg 1 by decide) (show zrg 17 by decide)
  have v1 := fun Q => zinn (K := zK0) (M := Q) g1 (show zrg 1 by decide) (show zrg 17 by decide)
  unfold qbs_banks qmd_banks
  by_cases c1 : 1 ≤ a1 ∧ a1 ≤ 17
  · refine ⟨M 2 2, zfl (zu M 2 2 a1) 3 256 0, M 60 2, zfl (zu (zfl (zu M 2 2 a1) 3 256 0) 60 2 a1) 61 256 0, ?_, ?_, ?_, ?_⟩
    · simp [w1, zwl, c1, zfillI (K := zK0) (r := 3) (N := 256) rfl (by decide) (show 256 < n by omega), zPo, hS', zu_at]
    · simp only [e1, v1, Option.bind_some, zwl, c1, and_self, if_true, zPo]
      rw [mforget (by simp [zu_at, zfl, hS']) hn]
      simp [zwl, zu_at, zfl]
    · rw [hT.2.2.2.2.2.2.2.2.2.2.2.2.2.2.1]
    · refine ⟨hS.keep ?_, ?_, hR.keep ?_, hW.keep ?_, hP.keep ?_, hL.keep ?_, hSh.keep ?_⟩
      · exact ((((zkp.rf _ _).up rfl).fl (fun _ => rfl)).up rfl).fl (fun _ => rfl)
      · obtain ⟨t1, t2, t3, t4, t5, t6, t7, t8, t9, t10, t11, t12, t13, t14, t15, t16, t17, t18, t19⟩ := hT
        refine ⟨by simp [zu_at, zfl] <;> omega, by simp [zu_at, zfl] <;> omega, by simp [zu_at, zfl] <;> omega, by simp [zu_at, zfl] <;> omega, by simp [zu_at, zfl] <;> omega, by simp [zu_at, zfl] <;> omega, by simp [zu_at, zfl] <;> omega, by simp [zu_at, zfl] <;> omega, by simp [zu_at, zfl] <;> omega, by simp [zu_at, zfl] <;> omega, by simp [zu_at, zfl] <;> omega, by simp [zu_at, zfl] <;> omega, by simp [zu_at, zfl] <;> omega, by simp [zu_at, zfl] <;> omega, by simp [zu_at, zfl] <;> omega, by simp [zu_at, zfl] <;> omega, by simp [zu_at, zfl] <;> omega, by simp [zu_at, zfl] <;> omega, fun i h0 h1 => by simp [zu_at, zfl, h0, h1] <;> omega⟩
      all_goals exact ((((zkp.rf _ _).up rfl).fl (fun _ => rfl)).up rfl).fl (fun _ => rfl)
  · exact ⟨-1, M, -1, M, by simp [w1, zwl, c1], by simp [e1, v1, zwl, c1], rfl, I⟩

theorem o_law {M : zM} (I : Iv M) {a1 a2 a3 : Int} (g1 : zrg a1) (g2 : zrg a2) (g3 : zrg a3) : ∃ r M1 r' M2, qbs_law zK0 M 1 a1 a2 a3 = some (r, M1) ∧ qmd_law zK0 M1 60 a1 a2 a3 = some (r', M2) ∧ zw r = zw r' ∧ Iv M2 := by
  obtain ⟨hS, hT, hR, hW, hP, hL, hSh⟩ := id I
  have hS' := hS
  unfold zSR at hS'
  have e1 : zw a1 = a1 := zw_id g1.1 g1.2
  have e2 : zw a2 = a2 := zw_id g2.1 g2.2
  have e3 : zw a3 = a3 := zw_id g3.1 g3.2
  have w1 := fun Q => zwit (K := zK0) (M := Q) g1 (show zrg 0 by decide) (show zrg 2 by decide)
  have v1 := fun Q => zinn (K := zK0) (M := Q) g1 (show zrg 0 by decide) (show zrg 2 by decide)
  have w2 := fun Q => zwit (K := zK0) (M := Q) g2 (show zrg 0 by decide) (show zrg 16 by decide)
  have v2 := fun Q => zinn (K := zK0) (M := Q) g2 (show zrg 0 by decide) (show zrg 16 by decide)
  have w3 := fun Q => zwit (K := zK0) (M := Q) g3 (show zrg 0 by decide) (show zrg 16 by decide)
  have v3 := fun Q => zinn (K := zK0) (M := Q) g3 (show zrg 0 by decide) (show zrg 16 by decide)
  unfold qbs_law qmd_law
  have ht3 := hT.2.2.2.2.2.2.2.2.2.2.2.2.2.2.2.1
  by_cases c1 : 0 ≤ a1 ∧ a1 ≤ 2
  · by_cases c4 : a1 = 2
    · refine ⟨M 2 3, zu M 2 3 2, M 60 3, zu (zu (zu (zu M 2 3 2) 60 3 2) 60 4 (M 60 4)) 60 5 (M 60 5), ?_, ?_, by rw [ht3], ?_⟩
      · subst c4
        simp [w1, zwl, zPo, hS', zu_at, zesc]
      · subst c4
        simp [v1, zwl, zPo, hS', zu_at, zesc]
      · refine ⟨hS.keep ?_, ?_, hR.keep ?_, hW.keep ?_, hP.keep ?_, hL.keep ?_, hSh.keep ?_⟩
        · exact ((((zkp.rf _ _).up rfl).up rfl).up rfl).up rfl
        · obtain ⟨t1, t2, t3, t4, t5, t6, t7, t8, t9, t10, t11, t12, t13, t14, t15, t16, t17, t18, t19⟩ := hT
          refine ⟨by simp [zu_at, zfl] <;> omega, by simp [zu_at, zfl] <;> omega, by simp [zu_at, zfl] <;> omega, by simp [zu_at, zfl] <;> omega, by simp [zu_at, zfl] <;> omega, by simp [zu_at, zfl] <;> omega, by simp [zu_at, zfl] <;> omega, by simp [zu_at, zfl] <;> omega, by simp [zu_at, zfl] <;> omega, by simp [zu_at, zfl] <;> omega, by simp [zu_at, zfl] <;> omega, by simp [zu_at, zfl] <;> omega, by simp [zu_at, zfl] <;> omega, by simp [zu_at, zfl] <;> omega, by simp [zu_at, zfl] <;> omega, by simp [zu_at, zfl] <;> omega, by simp [zu_at, zfl] <;> omega, by simp [zu_at, zfl] <;> omega, fun i h0 h1 => by have := t19 i h0 h1; simp [zu_at, zfl, h0, h1] <;> omega⟩
        all_goals exact ((((zkp.rf _ _).up rfl).up rfl).up rfl).up rfl
    · by_cases c2 : 0 ≤ a2 ∧ a2 ≤ 16
      · by_cases c3 : 0 ≤ a3 ∧ a3 ≤ 16
        · refine ⟨M 2 3, zu (zu (zu M 2 4 a2) 2 5 a3) 2 3 a1, M 60 3, zu (zu (zu (zu (zu (zu M 2 4 a2) 2 5 a3) 2 3 a1) 60 3 a1) 60 4 a2) 60 5 a3, ?_, ?_, by rw [ht3], ?_⟩
          · simp [w1, w2, w3, zwl, c1, c2, c3, e1, c4, zPo, hS', zu_at, zesc]
          · simp [v1, v2, v3, zwl, c1, c2, c3, e1, e2, e3, show ¬ 2 ≤ a1 by omega, zPo, hS', zu_at, zesc]
          · refine ⟨hS.keep ?_, ?_, hR.keep ?_, hW.keep ?_, hP.keep ?_, hL.keep ?_, hSh.keep ?_⟩
            · exact ((((((zkp.rf _ _).up rfl).up rfl).up rfl).up rfl).up rfl).up rfl
            · obtain ⟨t1, t2, t3, t4, t5, t6, t7, t8, t9, t10, t11, t12, t13, t14, t15, t16, t17, t18, t19⟩ := hT
              refine ⟨by simp [zu_at, zfl] <;> omega, by simp [zu_at, zfl] <;> omega, by simp [zu_at, zfl] <;> omega, by simp [zu_at, zfl] <;> omega, by simp [zu_at, zfl] <;> omega, by simp [zu_at, zfl] <;> omega, by simp [zu_at, zfl] <;> omega, by simp [zu_at, zfl] <;> omega, by simp [zu_at, zfl] <;> omega, by simp [zu_at, zfl] <;> omega, by simp [zu_at, zfl] <;> omega, by simp [zu_at, zfl] <;> omega, by simp [zu_at, zfl] <;> omega, by simp [zu_at, zfl] <;> omega, by simp [zu_at, zfl] <;> omega, by simp [zu_at, zfl] <;> omega, by simp [zu_at, zfl] <;> omega, by simp [zu_at, zfl] <;> omega, fun i h0 h1 => by have := t19 i h0 h1; simp [zu_at, zfl, h0, h1] <;> omega⟩
            all_goals exact ((((((zkp.rf _ _).up rfl).up rfl).up rfl).up rfl).up rfl).up rfl
        · exact ⟨-1, M, -1, M, by simp [w1, w2, w3, zwl, c1, c2, c3, e1, c4, zesc], by simp [v1, v2, v3, zwl, c1, c2, c3, e1, e2, e3, show ¬ 2 ≤ a1 by omega, zesc], rfl, I⟩
      · exact ⟨-1, M, -1, M, by simp [w1, w2, w3, zwl, c1, c2, e1, c4, zesc], by simp [v1, v2, v3, zwl, c1, c2, e1, e2, e3, show ¬ 2 ≤ a1 by omega, zesc], rfl, I⟩
  · exact ⟨-1, M, -1, M, by simp [w1, zwl, c1], by simp [e1, v1, zwl, c1], rfl, I⟩

theorem o_rest {M : zM} (I : Iv M) {a1 : Int} (g1 : zrg a1) : ∃ r M1 r' M2, qbs_rest zK0 M 1 a1 = some (r, M1) ∧ qmd_rest zK0 M1 60 a1 = some (r', M2) ∧ zw r = zw r' ∧ Iv M2 := by
  obtain ⟨hS, hT, hR, hW, hP, hL, hSh⟩ := id I
  have hS' := hS
  unfold zSR at hS'
  have e1 : zw a1 = a1 := zw_id g1.1 g1.2
  have w1 := fun Q => zwit (K := zK0) (M := Q) g1 (show zrg 1 by decide) (show zrg 12 by decide)
  have v1 := fun Q => zinn (K := zK0) (M := Q) g1 (show zrg 1 by decide) (show zrg 12 by decide)
  unfold qbs_rest qmd_rest
  by_cases c1 : 1 ≤ a1 ∧ a1 ≤ 12
  · refine ⟨M 1 14, zu M 1 14 a1, M 60 16, zu (zu M 1 14 a1) 60 16 a1, ?_, ?_, by rw [hR.2.2], ?_⟩
    · simp [w1, zwl, c1, zPo]
    · simp [e1, v1, zwl, c1, zPo, zu_at]
    · refine ⟨hS.keep ?_, hT.keep ?_, ?_, hW.keep ?_, hP.keep ?_, hL.keep ?_, hSh.keep ?_⟩
      case refine_3 => exact ⟨by simp [zu_at] <;> omega, by simp [zu_at] <;> omega, by simp [zu_at] <;> omega⟩
      all_goals exact ((zkp.rf _ _).up rfl).up rfl
  · exact ⟨-1, M, -1, M, by simp [w1, zwl, c1], by simp [e1, v1, zwl, c1], rfl, I⟩

theorem o_forget {M : zM} (I : Iv M) : ∃ r M1 r' M2, qbs_forget zK0 M 1 = some (r, M1) ∧ qmd_forget zK0 M1 60 = some (r', M2) ∧ zw r = zw r' ∧ Iv M2 := by
  obtain ⟨hS, hT, hR, hW, hP, hL, hSh⟩ := id I
  have hS' := hS
  unfold zSR at hS'
  unfold qbs_forget qmd_forget
  refine ⟨M 7 1, zu M 7 1 0, M 60 9, zu (zu M 7 1 0) 60 9 0, ?_, ?_, by rw [hW.2.2.1], ?_⟩
  · simp [zPo, hS']
  · simp [zPo, zu_at]
  · refine ⟨hS.keep ?_, hT.keep ?_, hR.keep ?_, ?_, hP.keep ?_, hL.keep ?_, hSh.keep ?_⟩
    case refine_4 => exact ⟨by simp [zu_at], by simp [zu_at], by simp [zu_at], fun k h0 h1 => by simp [zu_at] at h1; omega⟩
    all_goals exact ((zkp.rf _ _).up rfl).up rfl

theorem o_end {M : zM} (I : Iv M) {a1 : Int} (g1 : zrg a1) : ∃ r M1 r' M2, qbs_end zK0 M 1 a1 = some (r, M1) ∧ qmd_end zK0 M1 60 a1 = some (r', M2) ∧ zw r = zw r' ∧ Iv M2 := by
  obtain ⟨hS, hT, hR, hW, hP, hL, hSh⟩ := id I
  have hS' := hS
  unfold zSR at hS'
  have e1 : zw a1 = a1 := zw_id g1.1 g1.2
  have p1 := hP.1
  have p2 := hP.2.1
  have p3 := hP.2.2.1
  have w1 := fun Q => zwit (K := zK0) (M := Q) g1 (show zrg 0 by decide) (show zrg (M 29 2) by unfold zrg; omega)
  have v1 := fun Q => zinn (K := zK0) (M := Q) g1 (show zrg 0 by decide) (show zrg (M 29 2) by unfold zrg; omega)
  have e2 : zw (M 29 2) = M 29 2 := zw_id (by omega) (by omega)
  unfold qbs_end qmd_end
  by_cases c1 : 0 ≤ a1 ∧ a1 ≤ M 29 2
  · refine ⟨M 29 2, zu M 29 2 a1, M 29 2, zu (zu M 29 2 a1) 60 36 a1, ?_, ?_, rfl, ?_⟩
    · simp [w1, zwl, c1, zPo, hS']
    · simp [e1, e2, v1, zwl, c1, zPo, zu_at, p3]
    · refine ⟨hS.keep ?_, hT.keep ?_, hR.keep ?_, hW.keep ?_, ?_, hL.keep ?_, hSh.keep ?_⟩
      case refine_5 =>
        obtain ⟨q1, q2, q3, q4, q5, q6, q7⟩ := hP
        refine ⟨by simp [zu_at] <;> omega, by simp [zu_at] <;> omega, by simp [zu_at] <;> omega, fun i h0 h1 => ?_, by simp [zu_at] <;> omega, by simp [zu_at] <;> omega, by simp [zu_at] <;> omega⟩
        simp [zu_at] at h1 ⊢
        exact q4 i h0 (by omega)
      all_goals exact ((zkp.rf _ _).up rfl).up rfl
  · exact ⟨-1, M, -1, M, by simp [w1, zwl, c1, zPo, hS'], by simp [e1, e2, v1, zwl, c1, zPo, p3], rfl, I⟩
