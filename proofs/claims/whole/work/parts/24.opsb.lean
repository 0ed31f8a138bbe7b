theorem la_has {M : zM} {s i j : Int} (hk : zkd zK0 s = some (2, 7)) (g1 : zrg i) (g2 : zrg j) (g3 : zrg (M s 0)) (g4 : zrg (M s 1)) : qla_has zK0 M s i j = some (if (0 ≤ i ∧ i < M s 0) ∧ 0 ≤ j ∧ j < M s 1 then 1 else 0) := by
  unfold qla_has
  simp only [zgf_ok hk, Option.bind_some, zw_id g1.1 g1.2, zw_id g2.1 g2.2, zw_id g3.1 g3.2, zw_id g4.1 g4.2]
  by_cases c1 : i < 0
  · rw [if_pos c1, if_neg (by omega)]
  · rw [if_neg c1]
    by_cases c2 : M s 0 ≤ i
    · rw [if_pos c2, if_neg (by omega)]
    · rw [if_neg c2]
      by_cases c3 : j < 0
      · rw [if_pos c3, if_neg (by omega)]
      · rw [if_neg c3]
        by_cases c4 : M s 1 ≤ j
        · rw [if_pos c4, if_neg (by omega)]
        · rw [if_neg c4, if_pos (by omega)]
theorem md_isCell {M : zM} {i j : Int} (g1 : zrg i) (g2 : zrg j) (g3 : 1 ≤ M 60 0 ∧ M 60 0 ≤ 16) (g4 : 1 ≤ M 60 1 ∧ M 60 1 ≤ 16) : qmd_isCell zK0 M 60 i j = some (if (0 ≤ i ∧ i < M 60 0) ∧ 0 ≤ j ∧ j < M 60 1 then 1 else 0) := by
  unfold qmd_isCell
  have a1 : zw (M 60 0 - 1) = M 60 0 - 1 := zw_id (by omega) (by omega)
  have a2 : zw (M 60 1 - 1) = M 60 1 - 1 := zw_id (by omega) (by omega)
  simp only [zPo, Option.bind_some, zw_id g1.1 g1.2, zw_id g2.1 g2.2, a1, a2]
  rw [zinn g1 (by decide) (by unfold zrg; omega), zinn g2 (by decide) (by unfold zrg; omega)]
  simp only [Option.bind_some]
  by_cases c1 : 0 ≤ i ∧ i ≤ M 60 0 - 1
  · rw [if_pos c1, if_neg (by decide)]
    by_cases c2 : 0 ≤ j ∧ j ≤ M 60 1 - 1
    · rw [if_pos c2, if_neg (by decide), if_pos (by omega)]
    · rw [if_neg c2, if_pos (by decide), if_neg (by omega)]
  · rw [if_neg c1, if_pos (by decide), if_neg (by omega)]
theorem zw_c {k : Int} (h0 : 0 ≤ k) (h1 : k < 6) : zkd zK0 (9 + k) = some (6, 3) ∧ (∀ i, zpZ (9 + k) i = false) ∧ (∀ i, zpT (9 + k) i = false) ∧ (∀ i, zpR (9 + k) i = false) ∧ (∀ i, zpP (9 + k) i = false) ∧ (∀ i, zpL (9 + k) i = false) ∧ (∀ i, zpS (9 + k) i = false) := by
  rcases (show k = 0 ∨ k = 1 ∨ k = 2 ∨ k = 3 ∨ k = 4 ∨ k = 5 by omega) with rfl | rfl | rfl | rfl | rfl | rfl <;> exact ⟨rfl, fun _ => rfl, fun _ => rfl, fun _ => rfl, fun _ => rfl, fun _ => rfl, fun _ => rfl⟩
theorem zw_8 {M : zM} (h : zSR M) {k : Int} (h0 : 0 ≤ k) (h1 : k < 6) : M 8 k = 9 + k := by
  unfold zSR at h
  rcases (show k = 0 ∨ k = 1 ∨ k = 2 ∨ k = 3 ∨ k = 4 ∨ k = 5 by omega) with rfl | rfl | rfl | rfl | rfl | rfl <;> simp [h]
theorem zs_c {k : Int} (h0 : 0 ≤ k) (h1 : k < 4) : zkd zK0 (38 + 2 * k) = some (7, 3) ∧ zkd zK0 (39 + 2 * k) = some (100, 256) ∧ (∀ i, i ≠ 0 → zpZ (38 + 2 * k) i = false) ∧ (∀ i, zpZ (39 + 2 * k) i = false) ∧ (∀ i, zpT (38 + 2 * k) i = false ∧ zpR (38 + 2 * k) i = false ∧ zpP (38 + 2 * k) i = false ∧ zpL (38 + 2 * k) i = false ∧ zpW (38 + 2 * k) i = false) ∧ (∀ i, zpT (39 + 2 * k) i = false ∧ zpR (39 + 2 * k) i = false ∧ zpP (39 + 2 * k) i = false ∧ zpL (39 + 2 * k) i = false ∧ zpW (39 + 2 * k) i = false) := by
  rcases (show k = 0 ∨ k = 1 ∨ k = 2 ∨ k = 3 by omega) with rfl | rfl | rfl | rfl <;> exact ⟨rfl, rfl, fun i h => by simp [zpZ, h], fun _ => rfl, fun _ => ⟨rfl, rfl, rfl, rfl, rfl⟩, fun _ => ⟨rfl, rfl, rfl, rfl, rfl⟩⟩
theorem zs_37 {M : zM} (h : zSR M) {k : Int} (h0 : 0 ≤ k) (h1 : k < 4) : M 37 k = 38 + 2 * k ∧ M (38 + 2 * k) 0 = 39 + 2 * k := by
  unfold zSR at h
  rcases (show k = 0 ∨ k = 1 ∨ k = 2 ∨ k = 3 by omega) with rfl | rfl | rfl | rfl <;> simp [h]

theorem o_lay {M : zM} (I : Iv M) {a1 a2 a3 : Int} (g1 : zrg a1) (g2 : zrg a2) (g3 : zrg a3) : ∃ r M1 r' M2, qbs_lay zK0 M 1 a1 a2 a3 = some (r, M1) ∧ qmd_lay zK0 M1 60 a1 a2 a3 = some (r', M2) ∧ zw r = zw r' ∧ Iv M2 := by
  obtain ⟨hS, hT, hR, hW, hP, hL, hSh⟩ := id I
  have hS' := hS
  unfold zSR at hS'
  have e1 : zw a1 = a1 := zw_id g1.1 g1.2
  have e2 : zw a2 = a2 := zw_id g2.1 g2.2
  have e3 : zw a3 = a3 := zw_id g3.1 g3.2
  have hT' := hT
  obtain ⟨t1, t2, t3, t4, t5, t6, t7, t8, t9, t10, t11, t12, t13, t14, t15, t16, t17, t18, t19⟩ := hT
  have e4 : zw (M 2 2 - 1) = M 2 2 - 1 := zw_id (by omega) (by omega)
  have w3 := fun Q => zwit (K := zK0) (M := Q) g3 (show zrg 0 by decide) (show zrg (M 2 2 - 1) by unfold zrg; omega)
  have v3 := fun Q => zinn (K := zK0) (M := Q) g3 (show zrg 0 by decide) (show zrg (M 2 2 - 1) by unfold zrg; omega)
  have h1 := fun (Q : zM) (q0 : Q 2 0 = M 2 0) (q1 : Q 2 1 = M 2 1) => la_has (M := Q) (s := 2) rfl g1 g2 (by rw [q0]; unfold zrg; omega) (by rw [q1]; unfold zrg; omega)
  have m1 := md_isCell (M := M) g1 g2 (by omega) (by omega)
  unfold qbs_lay qmd_lay
  by_cases c1 : (0 ≤ a1 ∧ a1 < M 2 0) ∧ 0 ≤ a2 ∧ a2 < M 2 1
  · by_cases c3 : 0 ≤ a3 ∧ a3 ≤ M 2 2 - 1
    · have u := t19 (a1 * 16 + a2) (by omega) (by omega)
      have m2 := md_isCell (M := zu M 3 (a1 * 16 + a2) a3) g1 g2 (by simp [zu_at]; omega) (by simp [zu_at]; omega)
      refine ⟨M 3 (a1 * 16 + a2), zu M 3 (a1 * 16 + a2) a3, M 61 (a1 * 16 + a2), zu (zu M 3 (a1 * 16 + a2) a3) 61 (a1 * 16 + a2) a3, ?_, ?_, by rw [u.1], ?_⟩
      · simp [zPo, hS', h1 M rfl rfl, c1, zwl, w3, c3, qbs_spot]
        rw [zga_ok (N := 256) rfl (by decide) (by omega) (by omega), zpa_ok (N := 256) rfl (by decide) (by omega) (by omega)]
        simp
      · simp only [zPo, Option.bind_some, m2]
        simp [zu_at, t13, t14, c1, zwl, t15, e3, e4, v3, c3, hS']
        rw [show 16 * a1 + a2 = a1 * 16 + a2 by omega, zga_ok (N := 256) rfl (by decide) (by omega) (by omega), zpa_ok (N := 256) rfl (by decide) (by omega) (by omega)]
        simp [zu_at]
      · refine ⟨hS.keep ?_, ?_, hR.keep ?_, hW.keep ?_, hP.keep ?_, hL.keep ?_, hSh.keep ?_⟩
        · exact ((zkp.rf _ _).up rfl).up rfl
        · refine ⟨by simp [zu_at, zfl] <;> omega, by simp [zu_at, zfl] <;> omega, by simp [zu_at, zfl] <;> omega, by simp [zu_at, zfl] <;> omega, by simp [zu_at, zfl] <;> omega, by simp [zu_at, zfl] <;> omega, by simp [zu_at, zfl] <;> omega, by simp [zu_at, zfl] <;> omega, by simp [zu_at, zfl] <;> omega, by simp [zu_at, zfl] <;> omega, by simp [zu_at, zfl] <;> omega, by simp [zu_at, zfl] <;> omega, by simp [zu_at, zfl] <;> omega, by simp [zu_at, zfl] <;> omega, by simp [zu_at, zfl] <;> omega, by simp [zu_at, zfl] <;> omega, by simp [zu_at, zfl] <;> omega, by simp [zu_at, zfl] <;> omega, fun i h0 h1 => ?_⟩
          have := t19 i h0 h1
          by_cases hi : i = a1 * 16 + a2
          · simp [zu_at, hi] <;> omega
          · simp [zu_at, hi] <;> omega
        all_goals exact ((zkp.rf _ _).up rfl).up rfl
    · refine ⟨-1, M, -1, M, ?_, ?_, rfl, I⟩
      · simp [zPo, hS', h1 M rfl rfl, c1, zwl, w3, c3]
      · simp [zPo, m1, t13, t14, c1, zwl, t15, e3, e4, v3, c3]
  · refine ⟨-1, M, -1, M, ?_, ?_, rfl, I⟩
    · simp [zPo, hS', h1 M rfl rfl, c1, zwl]
    · simp [zPo, m1, t13, t14, c1, zwl]

theorem o_fault {M : zM} (I : Iv M) : ∃ r r', qbs_fault zK0 M 1 = some r ∧ qmd_fault zK0 M 60 = some r' ∧ zw r = zw r' := by
  obtain ⟨hS, hT, hR, hW, hP, hL, hSh⟩ := id I
  have hS' := hS
  unfold zSR at hS'
  unfold qbs_fault qmd_fault
  exact ⟨M 29 3, M 60 41, by simp [zPo, hS'], by simp [zPo], by rw [hP.2.2.2.2.1]⟩

theorem o_line {M : zM} (I : Iv M) {a1 a2 : Int} (g1 : zrg a1) (g2 : zrg a2) : ∃ r r', qbs_line zK0 M 1 a1 a2 = some r ∧ qmd_line zK0 M 60 a1 a2 = some r' ∧ zw r = zw r' := by
  obtain ⟨hS, hT, hR, hW, hP, hL, hSh⟩ := id I
  have hS' := hS
  unfold zSR at hS'
  have e1 : zw a1 = a1 := zw_id g1.1 g1.2
  have e2 : zw a2 = a2 := zw_id g2.1 g2.2
  obtain ⟨l1, l2, l3, l4, l5⟩ := hL
  obtain ⟨p, hp⟩ : ∃ p, M 1 12 = p := ⟨_, rfl⟩
  rw [hp] at l1 l2 l3 l4 l5
  have eL : zw (M p 6 - 1) = M p 6 - 1 := zw_id (by omega) (by omega)
  have w1 := fun Q => zwit (K := zK0) (M := Q) g1 (show zrg 0 by decide) (show zrg (M p 6 - 1) by unfold zrg; omega)
  have v1 := fun Q => zinn (K := zK0) (M := Q) g1 (show zrg 0 by decide) (show zrg (M p 6 - 1) by unfold zrg; omega)
  have w2 := fun Q => zwit (K := zK0) (M := Q) g2 (show zrg 0 by decide) (show zrg 3 by decide)
  have v2 := fun Q => zinn (K := zK0) (M := Q) g2 (show zrg 0 by decide) (show zrg 3 by decide)
  unfold qbs_line qmd_line qmd_isLine
  by_cases c1 : 0 ≤ a1 ∧ a1 ≤ M p 6 - 1
  · obtain ⟨q0, q1, q2, q3, q4⟩ := l5 a1 c1.1 (by omega)
    have z1 : ∀ (Q : zM) (r : Int), zkd zK0 r = some (100, 16) → zga zK0 Q 100 r a1 = some (Q r a1) := fun Q r hr => zga_ok hr (by decide) c1.1 (by omega)
    by_cases c2 : 0 ≤ a2 ∧ a2 ≤ 3
    · rcases l1 with ⟨rfl, p2⟩ | ⟨rfl, p2⟩
      · rcases (show a2 = 0 ∨ a2 = 1 ∨ a2 = 2 ∨ a2 = 3 by omega) with rfl | rfl | rfl | rfl
        · exact ⟨M 47 a1, M 73 a1, by simp [zPo, hS', hp, w1, w2, c1, zwl, z1 M 47 rfl], by simp [zPo, hS', e1, l4, eL, v1, v2, c1, zwl, zesc, zbr, z1 M 73 rfl], by rw [q1]; rfl⟩
        · exact ⟨M 48 a1, M 74 a1, by simp [zPo, hS', hp, w1, w2, c1, zwl, z1 M 48 rfl], by simp [zPo, hS', e1, l4, eL, v1, v2, c1, zwl, zesc, zbr, z1 M 74 rfl], by rw [q2]; rfl⟩
        · exact ⟨M 49 a1, M 75 a1, by simp [zPo, hS', hp, w1, w2, c1, zwl, z1 M 49 rfl], by simp [zPo, hS', e1, l4, eL, v1, v2, c1, zwl, zesc, zbr, z1 M 75 rfl], by rw [q3]; rfl⟩
        · exact ⟨M 50 a1, M 76 a1, by simp [zPo, hS', hp, w1, w2, c1, zwl, z1 M 50 rfl], by simp [zPo, hS', e1, l4, eL, v1, v2, c1, zwl, zesc, zbr, z1 M 76 rfl], by rw [q4]; rfl⟩
      · rcases (show a2 = 0 ∨ a2 = 1 ∨ a2 = 2 ∨ a2 = 3 by omega) with rfl | rfl | rfl | rfl
        · exact ⟨M 54 a1, M 73 a1, by simp [zPo, hS', hp, w1, w2, c1, zwl, z1 M 54 rfl], by simp [zPo, hS', e1, l4, eL, v1, v2, c1, zwl, zesc, zbr, z1 M 73 rfl], by rw [q1]; rfl⟩
        · exact ⟨M 55 a1, M 74 a1, by simp [zPo, hS', hp, w1, w2, c1, zwl, z1 M 55 rfl], by simp [zPo, hS', e1, l4, eL, v1, v2, c1, zwl, zesc, zbr, z1 M 74 rfl], by rw [q2]; rfl⟩
        · exact ⟨M 56 a1, M 75 a1, by simp [zPo, hS', hp, w1, w2, c1, zwl, z1 M 56 rfl], by simp [zPo, hS', e1, l4, eL, v1, v2, c1, zwl, zesc, zbr, z1 M 75 rfl], by rw [q3]; rfl⟩
        · exact ⟨M 57 a1, M 76 a1, by simp [zPo, hS', hp, w1, w2, c1, zwl, z1 M 57 rfl], by simp [zPo, hS', e1, l4, eL, v1, v2, c1, zwl, zesc, zbr, z1 M 76 rfl], by rw [q4]; rfl⟩
    · refine ⟨-1, -1, ?_, by simp [zPo, hS', e1, e2, l4, eL, v1, v2, c1, c2, zwl, zesc, zbr], rfl⟩
      rcases l1 with ⟨rfl, p2⟩ | ⟨rfl, p2⟩ <;> (simp [zPo, hS', hp, w1, w2, c1, c2, zwl])
  · refine ⟨-1, -1, ?_, by simp [zPo, hS', e1, l4, eL, v1, c1, zwl, zesc, zbr], rfl⟩
    rcases l1 with ⟨rfl, p2⟩ | ⟨rfl, p2⟩ <;> (simp [zPo, hS', hp, w1, c1, zwl])

theorem o_count {M : zM} (I : Iv M) {a1 : Int} (g1 : zrg a1) : ∃ r r', qbs_count zK0 M 1 a1 = some r ∧ qmd_count zK0 M 60 a1 = some r' ∧ zw r = zw r' := by
  obtain ⟨hS, hT, hR, hW, hP, hL, hSh⟩ := id I
  have hS' := hS
  unfold zSR at hS'
  have e1 : zw a1 = a1 := zw_id g1.1 g1.2
  have hSh0 := hSh 0 (by decide) (by decide)
  unfold qbs_count qmd_count qst_isNothing
  obtain ⟨t1, t2, t3, t4, t5, t6, t7, t8, t9, t10, t11, t12, t13, t14, t15, t16, t17, t18, t19⟩ := hT
  simp only [e1]
  by_cases k0 : a1 = 0
  · exact ⟨M 2 0, M 60 0, by simp [k0, zPo, hS'], by simp [k0, zPo], by rw [t13]⟩
  by_cases k1 : a1 = 1
  · exact ⟨M 2 1, M 60 1, by simp [k1, zPo, hS'], by simp [k1, zPo], by rw [t14]⟩
  by_cases k2 : a1 = 2
  · exact ⟨M 2 2, M 60 2, by simp [k2, zPo, hS'], by simp [k2, zPo], by rw [t15]⟩
  by_cases k3 : a1 = 3
  · exact ⟨M 2 3, M 60 3, by simp [k3, zPo, hS'], by simp [k3, zPo], by rw [t16]⟩
  by_cases k4 : a1 = 4
  · exact ⟨M 2 4, M 60 4, by simp [k4, zPo, hS'], by simp [k4, zPo], by rw [t17]⟩
  by_cases k5 : a1 = 5
  · exact ⟨M 2 5, M 60 5, by simp [k5, zPo, hS'], by simp [k5, zPo], by rw [t18]⟩
  by_cases k6 : a1 = 6
  · exact ⟨M 7 1, M 60 9, by simp [k6, zPo, hS'], by simp [k6, zPo], by rw [hW.2.2.1]⟩
  by_cases k7 : a1 = 7
  · exact ⟨M 1 14, M 60 16, by simp [k7, zPo, hS'], by simp [k7, zPo], by rw [hR.2.2]⟩
  by_cases k8 : a1 = 8
  · refine ⟨M (M 1 12) 6, M 60 24, ?_, by simp [k8, zPo], by rw [hL.2.2.2.1]⟩
    rcases hL.1 with ⟨p1, p2⟩ | ⟨p1, p2⟩ <;> simp [k8, zPo, p1]
  by_cases k9 : a1 = 9
  · exact ⟨M 29 2, M 60 36, by simp [k9, zPo, hS'], by simp [k9, zPo], by rw [hP.2.2.1]⟩
  by_cases k10 : a1 = 10
  · have z1 : zgq zK0 M 104 37 0 = some 38 := zgq_ok (N := 4) rfl (by decide) (by decide) (by decide) (by simp [hS']) (by decide)
    have z2 : zga zK0 M 100 85 0 = some (M 85 0) := zga_ok (N := 4) rfl (by decide) (by decide) (by decide)
    have z3 : zga zK0 M 100 86 0 = some (M 86 0) := zga_ok (N := 4) rfl (by decide) (by decide) (by decide)
    rcases hSh0 with ⟨s1, s2⟩ | ⟨s1, s2, s3, s4, s5, s6, s7⟩
    · simp at s1
      exact ⟨-4, -4, by simp [k10, zPo, hS', z1, s1, zwl], by simp [k10, zPo, hS', z2, s2, zwl], rfl⟩
    · simp at s1 s2 s3 s4 s5 s6
      have y1 : zw (M 38 1) = M 38 1 := zw_id (by omega) (by omega)
      have y2 : zw (M 85 0) = M 85 0 := zw_id (by omega) (by omega)
      exact ⟨M 38 1, M 86 0, by simp [k10, zPo, hS', z1, y1, s1, zwl], by simp [k10, zPo, hS', z2, z3, y2, show ¬ M 85 0 = -4 by omega, zwl], by rw [s3]⟩
  exact ⟨-1, -1, by simp [k0, k1, k2, k3, k4, k5, k6, k7, k8, k9, k10], by simp [k0, k1, k2, k3, k4, k5, k6, k7, k8, k9, k10], rfl⟩
