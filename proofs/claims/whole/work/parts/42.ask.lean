/-- the bank of an address -/
def zadr (M : zM) (x : Int) : Int := zBs M 2 (x % (M 2 0 * M 2 1))
theorem la_addr {M : zM} (h : zLa M 2) {x : Int} (x0 : 0 ≤ x) (x1 : x ≤ 1000000) : qla_bankOfAddress zK0 M 2 x = some (zadr M x) ∧ 0 ≤ zadr M x ∧ zadr M x < 17 := by
  have hrc := zrc h.2.2.2.1 h.2.2.2.2.1 h.2.2.2.2.2.1 h.2.2.2.2.2.2.1
  have m0 := Int.emod_nonneg x (show M 2 0 * M 2 1 ≠ 0 by omega)
  have m1 := Int.emod_lt_of_pos x (show 0 < M 2 0 * M 2 1 by omega)
  obtain ⟨z1, z2, z3, z4, z5⟩ := la_at h m0 m1
  have hl := h.2.2.1
  unfold zlw at hl
  refine ⟨?_, by unfold zadr; omega, by unfold zadr; omega⟩
  unfold qla_bankOfAddress zadr
  rw [zgk_ok rfl, Option.bind_some, la_count h, Option.bind_some, zrm_ok x0 (by omega) (by omega) (by omega), Option.bind_some, zgf_ok rfl, Option.bind_some, z1, Option.bind_some, Option.bind_some, z2, Option.bind_some, Option.bind_some, z3]
  rfl
theorem md_addr {M Q : zM} (I : Iv M) (f0 : Q 60 0 = M 2 0) (f1 : Q 60 1 = M 2 1) (f7 : Q 60 7 = 62) (h62 : ∀ y, Q 62 y = zlN M 62 y) {x : Int} (x0 : 0 ≤ x) (x1 : x ≤ 1000000) : qmd_bankAt zK0 Q 60 x = some (zadr M x) := by
  have h := I.la
  have hrc := zrc h.2.2.2.1 h.2.2.2.2.1 h.2.2.2.2.2.1 h.2.2.2.2.2.2.1
  have m0 := Int.emod_nonneg x (show M 2 0 * M 2 1 ≠ 0 by omega)
  have m1 := Int.emod_lt_of_pos x (show 0 < M 2 0 * M 2 1 by omega)
  obtain ⟨z1, z2, z3, z4, z5⟩ := la_at h m0 m1
  obtain ⟨d1, d2, d3, d4, d5⟩ := zdm (R := M 2 0) h.2.2.2.2.2.1 m0 m1
  have r1 := h.2.2.2.2.1
  have r2 := h.2.2.2.2.2.2.1
  unfold qmd_bankAt
  rw [zgf_ok rfl, Option.bind_some, zgf_ok rfl, Option.bind_some, f0, f1, zrm_ok x0 (by omega) (by omega) (by omega), Option.bind_some, zgr_ok (v := 62) rfl f7 (by decide), Option.bind_some, Option.bind_some, z1, Option.bind_some, Option.bind_some, z2, Option.bind_some, zga_ok (N := 256) rfl (by decide) (by omega) (by omega), Option.bind_some, h62, zlN_at I d1 d2 d3 d4]
  rfl
