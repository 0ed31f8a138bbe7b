/-- the cells of a shape; how far down and right its t-th lies -/
def zsz (k m d : Int) : Int := if k = 4 then m * d else m
def zrd (k d t : Int) : Int := if k = 4 then t / d else if k = 0 then 0 else t * d
def zcx (k d t : Int) : Int := if k = 4 then t % d else if k = 1 then 0 else if k = 3 then -(t * d) else t * d
/-- a shape as it may be -/
def zsg (k m d : Int) : Prop := 0 ≤ k ∧ k ≤ 4 ∧ 1 ≤ m ∧ m ≤ 16 ∧ 1 ≤ d ∧ d ≤ 8
theorem zsz_rg {k m d : Int} (h : zsg k m d) : 1 ≤ zsz k m d ∧ zsz k m d ≤ 128 := by
  obtain ⟨h1, h2, h3, h4, h5, h6⟩ := h
  unfold zsz
  have e1 : 1 * 1 ≤ m * d := Int.mul_le_mul h3 h5 (by omega) (by omega)
  have e2 : m * d ≤ 16 * 8 := Int.mul_le_mul h4 h6 (by omega) (by omega)
  split <;> omega
theorem zrc_rg {k m d t : Int} (h : zsg k m d) (t0 : 0 ≤ t) (t1 : t < zsz k m d) : 0 ≤ zrd k d t ∧ zrd k d t ≤ 128 ∧ -128 ≤ zcx k d t ∧ zcx k d t ≤ 128 ∧ zrd k d t ≤ zrd k d (zsz k m d - 1) ∧ (0 < zcx k d t → zcx k d t ≤ zcx k d (zsz k m d - 1)) ∧ (zcx k d t < 0 → zcx k d (zsz k m d - 1) ≤ zcx k d t) := by
  have hz := zsz_rg h
  obtain ⟨h1, h2, h3, h4, h5, h6⟩ := h
  by_cases c4 : k = 4
  · have es : zsz k m d = m * d := by unfold zsz; rw [if_pos c4]
    have er : ∀ t, zrd k d t = t / d := fun t => by unfold zrd; rw [if_pos c4]
    have ec : ∀ t, zcx k d t = t % d := fun t => by unfold zcx; rw [if_pos c4]
    rw [er, er, ec, ec, es]
    rw [es] at t1 hz
    obtain ⟨d1, d2, d3, d4, d5⟩ := zdm (R := m) h5 t0 t1
    have el := zij (C := d) (i := m - 1) (j := d - 1) (by omega) (by omega)
    have em : m * d - 1 = (m - 1) * d + (d - 1) := by rw [Int.sub_mul, Int.one_mul]; omega
    rw [em, el.1, el.2]
    omega
  · have es : zsz k m d = m := by unfold zsz; rw [if_neg c4]
    rw [es] at t1 hz ⊢
    have e1 : 0 ≤ t * d := Int.mul_nonneg t0 (by omega)
    have e2 : t * d ≤ (m - 1) * d := Int.mul_le_mul_of_nonneg_right (by omega) (by omega)
    have e3 : (m - 1) * d ≤ 15 * 8 := Int.mul_le_mul (by omega) h6 (by omega) (by omega)
    unfold zrd zcx
    rw [if_neg c4, if_neg c4, if_neg c4, if_neg c4]
    split <;> split <;> (try split) <;> omega
/-- a shape lies inside at i, j -/
abbrev zft (R C k m d i j : Int) : Prop := ((0 ≤ i ∧ i < R) ∧ 0 ≤ j ∧ j < C) ∧ (0 ≤ i + zrd k d (zsz k m d - 1) ∧ i + zrd k d (zsz k m d - 1) < R) ∧ 0 ≤ j + zcx k d (zsz k m d - 1) ∧ j + zcx k d (zsz k m d - 1) < C
theorem zft_in {R C k m d i j t : Int} (h : zsg k m d) (hf : zft R C k m d i j) (t0 : 0 ≤ t) (t1 : t < zsz k m d) : (0 ≤ i + zrd k d t ∧ i + zrd k d t < R) ∧ 0 ≤ j + zcx k d t ∧ j + zcx k d t < C := by
  have q := zrc_rg h t0 t1
  have q0 := zsz_rg h
  obtain ⟨f1, f2, f3⟩ := hf
  omega
def zsM (M : zM) (s : Int) : Prop := zkd zK0 s = some (6, 3) ∧ zsg (M s 0) (M s 1) (M s 2)
theorem sh_size {M : zM} {s : Int} (h : zsM M s) : qsh_size zK0 M s = some (zsz (M s 0) (M s 1) (M s 2)) := by
  obtain ⟨hk, h1, h2, h3, h4, h5, h6⟩ := h
  unfold qsh_size zsz
  simp only [zgf_ok hk, Option.bind_some, zwl]
  rw [zw_id (by omega) (by omega)]
  split <;> rfl
theorem sh_rows {M : zM} {s t : Int} (h : zsM M s) (t0 : 0 ≤ t) (t1 : t < zsz (M s 0) (M s 1) (M s 2)) : qsh_rowsDown zK0 M s t = some (zrd (M s 0) (M s 2) t) := by
  have hz := zsz_rg h.2
  obtain ⟨hk, h1, h2, h3, h4, h5, h6⟩ := h
  unfold qsh_rowsDown zrd
  simp only [zgf_ok hk, Option.bind_some, zwl]
  rw [zw_id (by omega) (by omega), zdv_ok t0 (by omega) (by omega) (by omega)]
  split
  · rfl
  · split <;> rfl
theorem sh_cols {M : zM} {s t : Int} (h : zsM M s) (t0 : 0 ≤ t) (t1 : t < zsz (M s 0) (M s 1) (M s 2)) : qsh_columnsRight zK0 M s t = some (zcx (M s 0) (M s 2) t) := by
  have hz := zsz_rg h.2
  obtain ⟨hk, h1, h2, h3, h4, h5, h6⟩ := h
  unfold qsh_columnsRight zcx
  simp only [zgf_ok hk, Option.bind_some, zwl]
  rw [zw_id (by omega) (by omega), zrm_ok t0 (by omega) (by omega) (by omega)]
  split
  · rfl
  · split
    · rfl
    · split
      · rw [Int.neg_mul]
      · rfl
theorem sh_fits {M : zM} {s l i j : Int} (h : zsM M s) (hl : zLa M l) (g1 : zrg i) (g2 : zrg j) : qsh_fits zK0 M s l i j = some (if zft (M l 0) (M l 1) (M s 0) (M s 1) (M s 2) i j then 1 else 0) := by
  have hz := zsz_rg h.2
  have hq := zrc_rg h.2 (t := zsz (M s 0) (M s 1) (M s 2) - 1) (by omega) (by omega)
  unfold qsh_fits
  obtain ⟨hk, h6, hw, r0, r1, k0, k1, ht⟩ := hl
  have r1 : zrg (M l 0) := by unfold zrg; omega
  have r2 : zrg (M l 1) := by unfold zrg; omega
  rw [zgk_ok h.1, Option.bind_some, sh_size h, Option.bind_some, Option.bind_some, zgk_ok hk, Option.bind_some, la_has hk g1 g2 r1 r2, Option.bind_some]
  by_cases c1 : (0 ≤ i ∧ i < M l 0) ∧ 0 ≤ j ∧ j < M l 1
  · rw [if_neg (by rw [zwb]; simp [c1]), Option.bind_some, sh_rows h (by omega) (by omega), Option.bind_some, sh_cols h (by omega) (by omega), Option.bind_some, Option.bind_some, la_has hk (by unfold zrg; omega) (by unfold zrg; omega) r1 r2]
    simp only [Option.bind_some]
    by_cases c2 : (0 ≤ i + zrd (M s 0) (M s 2) (zsz (M s 0) (M s 1) (M s 2) - 1) ∧ i + zrd (M s 0) (M s 2) (zsz (M s 0) (M s 1) (M s 2) - 1) < M l 0) ∧ 0 ≤ j + zcx (M s 0) (M s 2) (zsz (M s 0) (M s 1) (M s 2) - 1) ∧ j + zcx (M s 0) (M s 2) (zsz (M s 0) (M s 1) (M s 2) - 1) < M l 1
    · rw [if_neg (by rw [zwb]; simp [c2]), if_pos ⟨c1, c2⟩]
    · rw [if_pos (by rw [zwb]; exact c2), if_neg (fun q => c2 q.2)]
  · rw [if_pos (by rw [zwb]; exact c1), if_neg (fun q => c1 q.1)]
theorem md_cellsOf {M : zM} {k m d : Int} (h : zsg k m d) : qmd_cellsOf zK0 M k m d = some (zsz k m d) := by
  obtain ⟨h1, h2, h3, h4, h5, h6⟩ := h
  unfold qmd_cellsOf zsz
  rw [zw_id (by omega) (by omega), zw_id (by omega) (by omega)]
  split <;> rfl
theorem md_cellAt {M : zM} {k m d i j t : Int} (h : zsg k m d) (t0 : 0 ≤ t) (t1 : t < zsz k m d) : qmd_cellAt zK0 M k d i j t = some (1024 * (i + zrd k d t + 256) + (j + zcx k d t) + 256) := by
  have hz := zsz_rg h
  obtain ⟨h1, h2, h3, h4, h5, h6⟩ := h
  unfold qmd_cellAt
  simp only [zwl]
  rw [zw_id (x := k) (by omega) (by omega), zdv_ok t0 (by omega) (by omega) (by omega), zrm_ok t0 (by omega) (by omega) (by omega)]
  rcases (show k = 0 ∨ k = 1 ∨ k = 2 ∨ k = 3 ∨ k = 4 by omega) with rfl | rfl | rfl | rfl | rfl
  · simp [zesc, zrd, zcx]
  · simp [zesc, zrd, zcx]
  · simp [zesc, zrd, zcx]
  · simp [zesc, zrd, zcx]; omega
  · simp [zesc, zrd, zcx]
theorem zde {i j : Int} (i0 : 0 ≤ i) (i1 : i < 16) (j0 : 0 ≤ j) (j1 : j < 16) : zdv (1024 * (i + 256) + j + 256) 1024 = some (i + 256) ∧ zrm (1024 * (i + 256) + j + 256) 1024 = some (j + 256) := by
  rw [zdv_ok (by omega) (by omega) (by omega) (by omega), zrm_ok (by omega) (by omega) (by omega) (by omega)]
  constructor
  · congr 1; omega
  · congr 1; omega
theorem md_isThere {M : zM} {k m d i j : Int} (h : zsg k m d) (g1 : zrg i) (g2 : zrg j) (g3 : 1 ≤ M 60 0 ∧ M 60 0 ≤ 16) (g4 : 1 ≤ M 60 1 ∧ M 60 1 ≤ 16) : qmd_isThere zK0 M 60 k m d i j = some (if zft (M 60 0) (M 60 1) k m d i j then 1 else 0) := by
  have hz := zsz_rg h
  have hq := zrc_rg h (t := zsz k m d - 1) (by omega) (by omega)
  unfold qmd_isThere
  rw [md_cellsOf h, Option.bind_some, md_cellAt h (by omega) (by omega), Option.bind_some, zgk_ok rfl, Option.bind_some, md_isCell g1 g2 g3 g4, Option.bind_some]
  by_cases c1 : (0 ≤ i ∧ i < M 60 0) ∧ 0 ≤ j ∧ j < M 60 1
  · rw [if_neg (by rw [zwb]; simp [c1])]
    obtain ⟨x, hx⟩ : ∃ x, i + zrd k d (zsz k m d - 1) = x := ⟨_, rfl⟩
    obtain ⟨y, hy⟩ : ∃ y, j + zcx k d (zsz k m d - 1) = y := ⟨_, rfl⟩
    unfold zft
    rw [hx, hy, zdv_ok (by omega) (by omega) (by omega) (by omega), zrm_ok (by omega) (by omega) (by omega) (by omega), Option.bind_some, Option.bind_some, Option.bind_some, show (1024 * (x + 256) + y + 256) / 1024 - 256 = x by omega, show (1024 * (x + 256) + y + 256) % 1024 - 256 = y by omega, md_isCell (by unfold zrg; omega) (by unfold zrg; omega) g3 g4]
    simp only [Option.bind_some]
    by_cases c2 : (0 ≤ x ∧ x < M 60 0) ∧ 0 ≤ y ∧ y < M 60 1
    · rw [if_neg (by rw [zwb]; simp [c2]), if_pos ⟨c1, c2⟩]
    · rw [if_pos (by rw [zwb]; exact c2), if_neg (fun q => c2 q.2)]
  · rw [if_pos (by rw [zwb]; exact c1), if_neg (fun q => c1 q.1)]
