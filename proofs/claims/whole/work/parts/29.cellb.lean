theorem zij {C i j : Int} (j0 : 0 ≤ j) (j1 : j < C) : (i * C + j) / C = i ∧ (i * C + j) % C = j := by
  have hC : C ≠ 0 := by omega
  constructor
  · rw [Int.add_comm, Int.add_mul_ediv_right _ _ hC, Int.ediv_eq_zero_of_lt j0 j1, Int.zero_add]
  · rw [Int.add_comm, Int.add_mul_emod_self_right, Int.emod_eq_of_lt j0 j1]
theorem zBs_ij {M : zM} {s i j : Int} (j0 : 0 ≤ j) (j1 : j < M s 1) : zBs M s (i * M s 1 + j) = zBv (M s 3) (M s 4) (M s 5) (M s 2) (M 3) i j := by
  unfold zBs
  rw [(zij j0 j1).1, (zij j0 j1).2]
theorem zfi_rg {P : Int → Bool} {g : Int → Int} {m : Nat} (h : ∀ c : Int, 0 ≤ c → c < m → 0 ≤ g c ∧ g c ≤ 255) : zfi P g m = -4 ∨ (0 ≤ zfi P g m ∧ zfi P g m ≤ 255) := by
  induction m with
  | zero => left; rfl
  | succ m ih =>
    have := ih (fun c c0 c1 => h c c0 (by omega))
    rw [zfi]
    have := h m (by omega) (by omega)
    split
    · split
      · right; exact this
      · left; rfl
    · omega
theorem zlin {R C i j : Int} (i0 : 0 ≤ i) (i1 : i < R) (j0 : 0 ≤ j) (j1 : j < C) : 0 ≤ i * C + j ∧ i * C + j < R * C := by
  have : (i + 1) * C ≤ R * C := Int.mul_le_mul_of_nonneg_right (by omega) (by omega)
  rw [Int.add_mul, Int.one_mul] at this
  have hge : 0 ≤ i * C := Int.mul_nonneg i0 (by omega)
  omega
theorem mbank {M : zM} {n : Nat} {b a2 : Int} (hn : 1000000 ≤ n) (I : Iv M) (b0 : 0 ≤ b) (b1 : b < M 2 2) (ha : 0 ≤ a2) (hb : a2 ≤ 2) : qmd_bank n zK0 M 60 b a2 = some (if a2 = 0 then zcn (fun c => decide (zBs M 2 c = b)) (M 2 0 * M 2 1).toNat else if a2 = 1 then zfi (fun c => decide (zBs M 2 c = b)) (fun c => 16 * (c / M 2 1) + c % M 2 1) (M 2 0 * M 2 1).toNat else zla (fun c => decide (zBs M 2 c = b)) (fun c => 16 * (c / M 2 1) + c % M 2 1) (M 2 0 * M 2 1).toNat, zlN M) := by
  have hlay := mlaysNow hn I
  have hat := fun {i j : Int} => zlN_at I (i := i) (j := j)
  have hrg := fun {i j : Int} => zB_rg I (i := i) (j := j)
  obtain ⟨hS, hT, hR, hW, hP, hL, hSh⟩ := I
  have hS' := hS
  unfold zSR at hS'
  obtain ⟨t1, t2, t3, t4, t5, t6, t7, t8, t9, t10, t11, t12, t13, t14, t15, t16, t17, t18, t19⟩ := hT
  have f0 : zlN M 60 0 = M 2 0 := by rw [zlN_ne (by decide), t13]
  have f1 : zlN M 60 1 = M 2 1 := by rw [zlN_ne (by decide), t14]
  have f7 : zlN M 60 7 = 62 := by rw [zlN_ne (by decide)]; simp [hS']
  obtain ⟨R, hR⟩ : ∃ R, M 2 0 = R := ⟨_, rfl⟩
  obtain ⟨C, hC⟩ : ∃ C, M 2 1 = C := ⟨_, rfl⟩
  have hBs : ∀ i j, 0 ≤ j → j < C → zBs M 2 (i * C + j) = zB M i j := fun i j j0 j1 => by rw [← hC]; exact zBs_ij j0 (by omega)
  rw [hR] at t1 t2 f0 hat ⊢
  rw [hC] at t3 t4 f1 hat ⊢
  obtain ⟨P, hPP⟩ : ∃ P : Int → Bool, (fun c => decide (zBs M 2 c = b)) = P := ⟨_, rfl⟩
  obtain ⟨g, hg⟩ : ∃ g : Int → Int, (fun c => 16 * (c / C) + c % C) = g := ⟨_, rfl⟩
  have hPe : ∀ i j, 0 ≤ j → j < C → P (i * C + j) = decide (zB M i j = b) := fun i j j0 j1 => by rw [← hPP, ← hBs i j j0 j1]
  have hge : ∀ i j, 0 ≤ j → j < C → g (i * C + j) = 16 * i + j := fun i j j0 j1 => by rw [← hg]; show 16 * ((i * C + j) / C) + (i * C + j) % C = _; rw [(zij j0 j1).1, (zij j0 j1).2]
  have hgr : ∀ c : Int, 0 ≤ c → c < R * C → 0 ≤ g c ∧ g c ≤ 255 := by
    intro c c0 c1
    obtain ⟨d1, d2, d3, d4, d5⟩ := zdm t3 c0 c1
    rw [← hg]
    show 0 ≤ 16 * (c / C) + c % C ∧ 16 * (c / C) + c % C ≤ 255
    omega
  rw [hPP, hg]
  unfold qmd_bank
  rw [zgf_ok rfl, Option.bind_some, t15, zw_id (x := b) (by omega) (by omega), zw_id (x := M 2 2 - 1) (by omega) (by omega), zinn (by unfold zrg; omega) (by decide) (by unfold zrg; omega), if_pos (by omega), Option.bind_some, if_neg (by decide), zw_id (x := a2) (by omega) (by omega), zinn (by unfold zrg; omega) (by decide) (by decide), if_pos (by omega), Option.bind_some, if_neg (by decide), zgk_ok rfl, Option.bind_some, hlay, Option.bind_some]
  refine zwh_eq (fun s => 0 ≤ s.2.2.2 ∧ s.2.2.2 ≤ R ∧ s = (zcn P (s.2.2.2 * C).toNat, zfi P g (s.2.2.2 * C).toNat, zla P g (s.2.2.2 * C).toNat, s.2.2.2)) (fun s => (R - s.2.2.2).toNat) ?_ n _ ⟨by simp, by simp; omega, by simp [zcn, zfi, zla]⟩ (by simp; omega)
  intro s ⟨i0, i1, hs⟩
  obtain ⟨i, hi⟩ : ∃ i, s.2.2.2 = i := ⟨_, rfl⟩
  rw [hi] at i0 i1 hs
  subst hs
  dsimp only
  rw [zgf_ok rfl, Option.bind_some, f0, zw_id (by omega) (by omega), zw_id (by omega) (by omega)]
  by_cases hc : R ≤ i
  · right
    have : i = R := by omega
    subst this
    rw [if_pos hc, zw_id (x := 1) (by decide) (by decide)]
    split
    · rfl
    · split <;> rfl
  · left
    rw [if_neg hc]
    refine ⟨(zcn P ((i + 1) * C).toNat, zfi P g ((i + 1) * C).toNat, zla P g ((i + 1) * C).toNat, i + 1), ?_, ⟨by dsimp only; omega, by dsimp only; omega, rfl⟩, by dsimp only; omega⟩
    have inner : ∀ f : Int × Int × Int × Int → Option ((Int × Int × Int × Int) ⊕ (Int × Int × Int × Int)), (∀ j, 0 ≤ j → j < C → f (zcn P (i * C + j).toNat, zfi P g (i * C + j).toNat, zla P g (i * C + j).toNat, j) = some (.inl (zcn P (i * C + (j + 1)).toNat, zfi P g (i * C + (j + 1)).toNat, zla P g (i * C + (j + 1)).toNat, j + 1))) → (f (zcn P (i * C + C).toNat, zfi P g (i * C + C).toNat, zla P g (i * C + C).toNat, C) = some (.inr (zcn P (i * C + C).toNat, zfi P g (i * C + C).toNat, zla P g (i * C + C).toNat, C))) → zwh f n (zcn P (i * C).toNat, zfi P g (i * C).toNat, zla P g (i * C).toNat, 0) = some (zcn P (i * C + C).toNat, zfi P g (i * C + C).toNat, zla P g (i * C + C).toNat, C) := by
      intro f g1 g2
      refine zwh_eq (fun s => 0 ≤ s.2.2.2 ∧ s.2.2.2 ≤ C ∧ s = (zcn P (i * C + s.2.2.2).toNat, zfi P g (i * C + s.2.2.2).toNat, zla P g (i * C + s.2.2.2).toNat, s.2.2.2)) (fun q => (C - q.2.2.2).toNat) ?_ n _ ⟨by simp, by simp; omega, by simp⟩ (by simp; omega)
      intro q ⟨q0, q1, q2⟩
      obtain ⟨j, hj⟩ : ∃ j, q.2.2.2 = j := ⟨_, rfl⟩
      rw [hj] at q0 q1 q2
      subst q2
      by_cases hj : j < C
      · left
        exact ⟨_, g1 j q0 hj, ⟨by dsimp only; omega, by dsimp only; omega, rfl⟩, by dsimp only; omega⟩
      · right
        have : j = C := by omega
        subst this
        exact g2
    rw [inner]
    · rw [Option.bind_some, show (i + 1) * C = i * C + C by rw [Int.add_mul, Int.one_mul]]
    · intro j j0 j1
      dsimp only
      obtain ⟨l0, l1⟩ := zlin i0 (show i < R by omega) j0 j1
      have e1 := zcn_s (P := P) l0
      have e2 := zfi_s (P := P) (g := g) l0
      have e3 := zla_s (P := P) (g := g) l0
      rw [Int.add_assoc, hPe i j j0 j1] at e1
      rw [Int.add_assoc, hPe i j j0 j1, hge i j j0 j1] at e2
      rw [Int.add_assoc, hPe i j j0 j1, hge i j j0 j1] at e3
      have r1 := zfi_rg (P := P) (g := g) (m := (i * C + j).toNat) (fun c c0 c1 => hgr c c0 (by omega))
      have r2 := hrg i0 (show i < 16 by omega) j0 (show j < 16 by omega)
      rw [e1, e2, e3]
      rw [zgf_ok rfl, Option.bind_some, f1, zw_id (by omega) (by omega), zw_id (by omega) (by omega), if_neg (by omega), zgr_ok (v := 62) rfl f7 (by decide), Option.bind_some, zga_ok (N := 256) rfl (by decide) (by omega) (by omega), Option.bind_some, hat i0 (by omega) j0 j1, zw_id (x := zB M i j) (by omega) (by omega), zw_id (x := -4) (by omega) (by omega), zw_id (x := zfi P g (i * C + j).toNat) (by omega) (by omega)]
      by_cases d : zB M i j = b
      · by_cases d4 : zfi P g (i * C + j).toNat = -4
        · simp [d, d4]
        · simp [d, d4]
      · by_cases d4 : zfi P g (i * C + j).toNat = -4
        · simp [d, d4]
        · simp [d, d4]
    · dsimp only
      rw [zgf_ok rfl, Option.bind_some, f1, zw_id (by omega) (by omega), if_pos (by omega)]
theorem o_bank {M : zM} {n : Nat} (hn : 1000000 ≤ n) (I : Iv M) {a1 a2 : Int} (g1 : zrg a1) (g2 : zrg a2) : ∃ r r' M2, qbs_bank n zK0 M 1 a1 a2 = some r ∧ qmd_bank n zK0 M 60 a1 a2 = some (r', M2) ∧ zw r = zw r' ∧ Iv M2 := by
  have hla := I.la
  have hmb := fun {a2 : Int} => mbank (n := n) (b := a1) (a2 := a2) hn I
  have I' := I
  obtain ⟨hS, hT, hR, hW, hP, hL, hSh⟩ := I
  have hS' := hS
  unfold zSR at hS'
  obtain ⟨t1, t2, t3, t4, t5, t6, t7, t8, t9, t10, t11, t12, t13, t14, t15, t16, t17, t18, t19⟩ := hT
  have e2 : zw a2 = a2 := zw_in g2
  have w1 := fun Q => zwit (K := zK0) (M := Q) g1 (show zrg 0 by decide) (show zrg (M 2 2 - 1) by unfold zrg; omega)
  have v1 := fun Q => zinn (K := zK0) (M := Q) g1 (show zrg 0 by decide) (show zrg (M 2 2 - 1) by unfold zrg; omega)
  have w2 := fun Q => zwit (K := zK0) (M := Q) g2 (show zrg 0 by decide) (show zrg 2 by decide)
  have v2 := fun Q => zinn (K := zK0) (M := Q) g2 (show zrg 0 by decide) (show zrg 2 by decide)
  by_cases c1 : 0 ≤ a1 ∧ a1 ≤ M 2 2 - 1
  · by_cases c2 : 0 ≤ a2 ∧ a2 ≤ 2
    · refine ⟨_, _, _, ?_, hmb c1.1 (by omega) c2.1 c2.2, rfl, I'.ly⟩
      unfold qbs_bank
      simp [zPo, hS', w1, w2, c1, c2, zwl, e2, la_sizeOf hn hla g1, la_firstOf hn hla g1, la_lastOf hn hla g1]
      split
      · rfl
      · split <;> rfl
    · refine ⟨-1, -1, M, ?_, ?_, rfl, I'⟩
      · unfold qbs_bank
        simp [zPo, hS', w1, w2, c1, c2, zwl]
      · unfold qmd_bank
        simp [zPo, t15, zw_in g1, e2, zw_id (x := M 2 2 - 1) (by omega) (by omega), v1, v2, c1, c2, zwl]
  · refine ⟨-1, -1, M, ?_, ?_, rfl, I'⟩
    · unfold qbs_bank
      simp [zPo, hS', w1, c1, zwl]
    · unfold qmd_bank
      simp [zPo, t15, zw_in g1, zw_id (x := M 2 2 - 1) (by omega) (by omega), v1, c1, zwl]

/-- how many cells lie before the raw spot c -/
def zlp (C c : Int) : Int := c / 16 * C + (if c % 16 < C then c % 16 else C)
theorem zlp_s {C c : Int} (h : 0 ≤ c) (hC : C ≤ 16) (h0 : 1 ≤ C) : zlp C (c + 1) = zlp C c + (if c % 16 < C then 1 else 0) := by
  unfold zlp
  by_cases q : c % 16 = 15
  · have e1 : (c + 1) / 16 = c / 16 + 1 := by omega
    have e2 : (c + 1) % 16 = 0 := by omega
    rw [e1, e2, q, Int.add_mul, Int.one_mul]
    split <;> split <;> omega
  · have e1 : (c + 1) / 16 = c / 16 := by omega
    have e2 : (c + 1) % 16 = c % 16 + 1 := by omega
    rw [e1, e2]
    split <;> split <;> omega
theorem mcell {M : zM} {n : Nat} {a1 a2 a3 : Int} (hn : 1000000 ≤ n) (I : Iv M) (i0 : 0 ≤ a1) (i1 : a1 < M 2 0) (j0 : 0 ≤ a2) (j1 : a2 < M 2 1) (ha : 0 ≤ a3) (hb : a3 ≤ 2) : qmd_cell n zK0 M 60 a1 a2 a3 = some (if a3 = 0 then zB M a1 a2 else if a3 = 1 then zcn (fun c => decide (zBs M 2 c = zB M a1 a2)) (a1 * M 2 1 + a2).toNat else M 3 (16 * a1 + a2), zlN M) := by
  have hlay := mlaysNow hn I
  have hat := fun {i j : Int} => zlN_at I (i := i) (j := j)
  have hrg := fun {i j : Int} => zB_rg I (i := i) (j := j)
  obtain ⟨hS, hT, hR, hW, hP, hL, hSh⟩ := I
  have hS' := hS
  unfold zSR at hS'
  obtain ⟨t1, t2, t3, t4, t5, t6, t7, t8, t9, t10, t11, t12, t13, t14, t15, t16, t17, t18, t19⟩ := hT
  have f0 : zlN M 60 0 = M 2 0 := by rw [zlN_ne (by decide), t13]
  have f1 : zlN M 60 1 = M 2 1 := by rw [zlN_ne (by decide), t14]
  have f7 : zlN M 60 7 = 62 := by rw [zlN_ne (by decide)]; simp [hS']
  have f6 : zlN M 60 6 = 61 := by rw [zlN_ne (by decide)]; simp [hS']
  have u := t19 (16 * a1 + a2) (by omega) (by omega)
  have f3 : zlN M 61 (16 * a1 + a2) = M 3 (16 * a1 + a2) := by rw [zlN_ne (by decide), u.1]
  obtain ⟨R, hR⟩ : ∃ R, M 2 0 = R := ⟨_, rfl⟩
  obtain ⟨C, hC⟩ : ∃ C, M 2 1 = C := ⟨_, rfl⟩
  have hBs : ∀ i j, 0 ≤ j → j < C → zBs M 2 (i * C + j) = zB M i j := fun i j j0 j1 => by rw [← hC]; exact zBs_ij j0 (by omega)
  have hm := md_isCell (M := M) (i := a1) (j := a2) (by unfold zrg; omega) (by unfold zrg; omega) (by omega) (by omega)
  rw [t13, t14] at hm
  rw [hR] at t1 t2 f0 hat i1 hm
  rw [hC] at t3 t4 f1 hat j1 hm ⊢
  rw [if_pos (by omega)] at hm
  obtain ⟨b, hb'⟩ : ∃ b, zB M a1 a2 = b := ⟨_, rfl⟩
  have hbr := hrg i0 (show a1 < 16 by omega) j0 (show a2 < 16 by omega)
  have hb2 := hat i0 i1 j0 j1
  rw [hb'] at hbr hb2 ⊢
  obtain ⟨P, hPP⟩ : ∃ P : Int → Bool, (fun c => decide (zBs M 2 c = b)) = P := ⟨_, rfl⟩
  have hPe : ∀ i j, 0 ≤ j → j < C → P (i * C + j) = decide (zB M i j = b) := fun i j j0 j1 => by rw [← hPP, ← hBs i j j0 j1]
  rw [hPP]
  unfold qmd_cell
  rw [zgk_ok rfl, Option.bind_some, hm, Option.bind_some, if_neg (by decide), zw_id (x := a3) (by omega) (by omega), zinn (by unfold zrg; omega) (by decide) (by decide), if_pos (by omega), Option.bind_some, if_neg (by decide), Option.bind_some, hlay, Option.bind_some]
  have inner : ∀ f : Int × Int → Option ((Int × Int) ⊕ (Int × Int)), (∀ c, 0 ≤ c → c < 16 * a1 + a2 → f (zcn P (zlp C c).toNat, c) = some (.inl (zcn P (zlp C (c + 1)).toNat, c + 1))) → (f (zcn P (zlp C (16 * a1 + a2)).toNat, 16 * a1 + a2) = some (.inr (zcn P (zlp C (16 * a1 + a2)).toNat, 16 * a1 + a2))) → zwh f n (0, 0) = some (zcn P (a1 * C + a2).toNat, 16 * a1 + a2) := by
    intro f g1 g2
    have el : zlp C (16 * a1 + a2) = a1 * C + a2 := by
      unfold zlp
      rw [show (16 * a1 + a2) / 16 = a1 by omega, show (16 * a1 + a2) % 16 = a2 by omega, if_pos j1]
    rw [el] at g2
    refine zwh_eq (fun s => 0 ≤ s.2 ∧ s.2 ≤ 16 * a1 + a2 ∧ s = (zcn P (zlp C s.2).toNat, s.2)) (fun q => (16 * a1 + a2 - q.2).toNat) ?_ n _ ⟨by simp, by simp; omega, ?_⟩ (by simp; omega)
    · intro q ⟨q0, q1, q2⟩
      obtain ⟨j, hj⟩ : ∃ j, q.2 = j := ⟨_, rfl⟩
      rw [hj] at q0 q1 q2
      subst q2
      by_cases hj : j < 16 * a1 + a2
      · left
        exact ⟨_, g1 j q0 hj, ⟨by dsimp only; omega, by dsimp only; omega, rfl⟩, by dsimp only; omega⟩
      · right
        have : j = 16 * a1 + a2 := by omega
        subst this
        rw [el]
        exact g2
    · have : zlp C 0 = 0 := by unfold zlp; simp; omega
      rw [this]
      rfl
  rw [inner]
  · rw [Option.bind_some]
    simp only [zgr_ok (v := 62) (K := zK0) (M := zlN M) (ci := 12) (N := 49) (r := 60) (k := 7) rfl f7 (by decide), zgr_ok (v := 61) (K := zK0) (M := zlN M) (ci := 12) (N := 49) (r := 60) (k := 6) rfl f6 (by decide), Option.bind_some, zwl]
    rw [zga_ok (N := 256) (r := 62) rfl (by decide) (by omega) (by omega), zga_ok (N := 256) (r := 61) rfl (by decide) (by omega) (by omega), hb2, f3]
    split
    · rfl
    · split <;> rfl
  · intro c c0 c1
    dsimp only
    have e := zlp_s (C := C) c0 t4 t3
    rw [zw_id (by omega) (by omega), zw_id (x := c) (by omega) (by omega), if_neg (by omega), zrm_ok c0 (by omega) (by omega) (by omega), Option.bind_some, zgf_ok rfl, Option.bind_some, f1, zw_id (x := C) (by omega) (by omega), zw_id (x := c % 16) (by omega) (by omega), zgr_ok (v := 62) rfl f7 (by decide)]
    simp only [Option.bind_some]
    rw [zga_ok (N := 256) rfl (by decide) (by omega) (by omega), Option.bind_some, zga_ok (N := 256) rfl (by decide) (by omega) (by omega), Option.bind_some, hb2, zw_id (x := b) (by omega) (by omega)]
    by_cases d : c % 16 < C
    · have e2 := hat (i := c / 16) (j := c % 16) (by omega) (by omega) (by omega) d
      rw [show 16 * (c / 16) + c % 16 = c by omega] at e2
      have r2 := hrg (i := c / 16) (j := c % 16) (by omega) (by omega) (by omega) (by omega)
      have e3 : zlp C c = c / 16 * C + c % 16 := by unfold zlp; rw [if_pos d]
      have e4 : 0 ≤ zlp C c := by
        rw [e3]
        have : 0 ≤ c / 16 * C := Int.mul_nonneg (by omega) (by omega)
        omega
      rw [e, if_pos d, zcn_s e4]
      rw [e3, hPe _ _ (by omega) d, e2, zw_id (by omega) (by omega), if_neg (by omega)]
      by_cases d2 : zB M (c / 16) (c % 16) = b
      · simp [d2, zesc]
      · simp [d2, zesc]
    · rw [e, if_neg d, if_pos (by omega)]
      simp [zesc]
  · dsimp only
    rw [if_pos (by omega)]
theorem o_cell {M : zM} {n : Nat} (hn : 1000000 ≤ n) (I : Iv M) {a1 a2 a3 : Int} (g1 : zrg a1) (g2 : zrg a2) (g3 : zrg a3) : ∃ r r' M2, qbs_cell n zK0 M 1 a1 a2 a3 = some r ∧ qmd_cell n zK0 M 60 a1 a2 a3 = some (r', M2) ∧ zw r = zw r' ∧ Iv M2 := by
  have hla := I.la
  have hmb := fun {a3 : Int} => mcell (n := n) (a1 := a1) (a2 := a2) (a3 := a3) hn I
  have I' := I
  obtain ⟨hS, hT, hR, hW, hP, hL, hSh⟩ := I
  have hS' := hS
  unfold zSR at hS'
  obtain ⟨t1, t2, t3, t4, t5, t6, t7, t8, t9, t10, t11, t12, t13, t14, t15, t16, t17, t18, t19⟩ := hT
  have e3 : zw a3 = a3 := zw_in g3
  have w2 := fun Q => zwit (K := zK0) (M := Q) g3 (show zrg 0 by decide) (show zrg 2 by decide)
  have v2 := fun Q => zinn (K := zK0) (M := Q) g3 (show zrg 0 by decide) (show zrg 2 by decide)
  have h1 := la_has (M := M) (s := 2) rfl g1 g2 (by unfold zrg; omega) (by unfold zrg; omega)
  have m1 := md_isCell (M := M) g1 g2 (by omega) (by omega)
  by_cases c1 : (0 ≤ a1 ∧ a1 < M 2 0) ∧ 0 ≤ a2 ∧ a2 < M 2 1
  · by_cases c2 : 0 ≤ a3 ∧ a3 ≤ 2
    · refine ⟨_, _, _, ?_, hmb c1.1.1 c1.1.2 c1.2.1 c1.2.2 c2.1 c2.2, rfl, I'.ly⟩
      unfold qbs_cell
      simp [zPo, hS', h1, w2, c1, c2, zwl, e3, la_placeOf hn hla c1.1.1 c1.1.2 c1.2.1 c1.2.2, la_bank rfl hla.2.1 hla.2.2.1 c1.1.1 (show a1 < 16 by omega) c1.2.1 (show a2 < 16 by omega), qbs_spot]
      rw [zga_ok (N := 256) rfl (by decide) (by omega) (by omega), show a1 * 16 + a2 = 16 * a1 + a2 by omega]
      split
      · rfl
      · split <;> rfl
    · refine ⟨-1, -1, M, ?_, ?_, rfl, I'⟩
      · unfold qbs_cell
        simp [zPo, hS', h1, w2, c1, c2, zwl]
      · unfold qmd_cell
        simp [zPo, m1, t13, t14, e3, v2, c1, c2, zwl]
  · refine ⟨-1, -1, M, ?_, ?_, rfl, I'⟩
    · unfold qbs_cell
      simp [zPo, hS', h1, c1, zwl]
    · unfold qmd_cell
      simp [zPo, m1, t13, t14, c1, zwl]
