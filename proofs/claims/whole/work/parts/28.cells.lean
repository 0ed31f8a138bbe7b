/-- a layout as it may be -/
def zLa (M : zM) (s : Int) : Prop := zkd zK0 s = some (2, 7) ∧ M s 6 = 3 ∧ zlw (M s 3) (M s 4) (M s 5) (M s 2) ∧ 1 ≤ M s 0 ∧ M s 0 ≤ 16 ∧ 1 ≤ M s 1 ∧ M s 1 ≤ 16 ∧ (M s 3 = 2 → ∀ x, 0 ≤ x → x < 256 → 0 ≤ M 3 x ∧ M 3 x < M s 2)
theorem Iv.la {M : zM} (I : Iv M) : zLa M 2 := by
  have hl := I.lw
  obtain ⟨hS, hT, hR, hW, hP, hL, hSh⟩ := I
  have hS' := hS
  unfold zSR at hS'
  obtain ⟨t1, t2, t3, t4, t5, t6, t7, t8, t9, t10, t11, t12, t13, t14, t15, t16, t17, t18, t19⟩ := hT
  exact ⟨rfl, by simp [hS'], hl, t1, t2, t3, t4, fun _ x x0 x1 => (t19 x x0 x1).2⟩
/-- the bank of the c-th cell -/
def zBs (M : zM) (s c : Int) : Int := zBv (M s 3) (M s 4) (M s 5) (M s 2) (M 3) (c / M s 1) (c % M s 1)
theorem zdm {c R C : Int} (hC : 1 ≤ C) (c0 : 0 ≤ c) (c1 : c < R * C) : 0 ≤ c / C ∧ c / C < R ∧ 0 ≤ c % C ∧ c % C < C ∧ c = C * (c / C) + c % C :=
  ⟨Int.ediv_nonneg c0 (by omega), Int.ediv_lt_of_lt_mul (by omega) c1, Int.emod_nonneg _ (by omega), Int.emod_lt_of_pos _ (by omega), (Int.mul_ediv_add_emod c C).symm⟩
theorem zrc {R C : Int} (r0 : 1 ≤ R) (r1 : R ≤ 16) (c0 : 1 ≤ C) (c1 : C ≤ 16) : 1 ≤ R * C ∧ R * C ≤ 256 := by
  have e1 : 1 * 1 ≤ R * C := Int.mul_le_mul r0 c0 (by omega) (by omega)
  have e2 : R * C ≤ 16 * 16 := Int.mul_le_mul r1 c1 (by omega) (by omega)
  omega
theorem la_at {M : zM} {s c : Int} (h : zLa M s) (c0 : 0 ≤ c) (c1 : c < M s 0 * M s 1) : zdv c (M s 1) = some (c / M s 1) ∧ zrm c (M s 1) = some (c % M s 1) ∧ qla_bankAt zK0 M s (c / M s 1) (c % M s 1) = some (zBs M s c) ∧ 0 ≤ zBs M s c ∧ zBs M s c < M s 2 := by
  obtain ⟨hk, h6, hl, r0, r1, k0, k1, ht⟩ := h
  obtain ⟨d1, d2, d3, d4, d5⟩ := zdm k0 c0 c1
  have := zrc r0 r1 k0 k1
  refine ⟨zdv_ok c0 (by omega) (by omega) (by omega), zrm_ok c0 (by omega) (by omega) (by omega), la_bank hk h6 hl d1 (by omega) d3 (by omega), ?_⟩
  exact zBv_rg hl ht d1 (by omega) d3 (by omega)
theorem la_count {M : zM} {s : Int} (h : zLa M s) : qla_cellCount zK0 M s = some (M s 0 * M s 1) := by
  unfold qla_cellCount
  simp [zgf_ok h.1]
/-- how many of the first m have it -/
def zcn (P : Int → Bool) : Nat → Int
  | 0 => 0
  | m + 1 => zcn P m + (if P m then 1 else 0)
/-- the first of the first m that has it; the last one -/
def zfi (P : Int → Bool) (g : Int → Int) : Nat → Int
  | 0 => -4
  | m + 1 => if zfi P g m = -4 then (if P m then g m else -4) else zfi P g m
def zla (P : Int → Bool) (g : Int → Int) : Nat → Int
  | 0 => -4
  | m + 1 => if P m then g m else zla P g m
theorem zcn_s {P : Int → Bool} {c : Int} (h : 0 ≤ c) : zcn P (c + 1).toNat = zcn P c.toNat + (if P c then 1 else 0) := by
  rw [show (c + 1).toNat = c.toNat + 1 by omega, zcn, show ((c.toNat : Nat) : Int) = c by omega]
theorem zfi_s {P : Int → Bool} {g : Int → Int} {c : Int} (h : 0 ≤ c) : zfi P g (c + 1).toNat = if zfi P g c.toNat = -4 then (if P c then g c else -4) else zfi P g c.toNat := by
  rw [show (c + 1).toNat = c.toNat + 1 by omega, zfi, show ((c.toNat : Nat) : Int) = c by omega]
theorem zla_s {P : Int → Bool} {g : Int → Int} {c : Int} (h : 0 ≤ c) : zla P g (c + 1).toNat = if P c then g c else zla P g c.toNat := by
  rw [show (c + 1).toNat = c.toNat + 1 by omega, zla, show ((c.toNat : Nat) : Int) = c by omega]
theorem zcn_rg (P : Int → Bool) (m : Nat) : 0 ≤ zcn P m ∧ zcn P m ≤ m := by
  induction m with
  | zero => simp [zcn]
  | succ m ih => rw [zcn]; split <;> omega
theorem zfi_up {P : Int → Bool} {g : Int → Int} {c N : Nat} (h : c ≤ N) (q : zfi P g c ≠ -4) : zfi P g N = zfi P g c := by
  induction N with
  | zero => rw [show c = 0 by omega]
  | succ N ih =>
    by_cases e : c = N + 1
    · rw [e]
    · have := ih (by omega)
      rw [zfi, this, if_neg q]
theorem la_sizeOf {M : zM} {n : Nat} {s b : Int} (hn : 1000000 ≤ n) (h : zLa M s) (gb : zrg b) : qla_sizeOf n zK0 M s b = some (zcn (fun c => decide (zBs M s c = b)) (M s 0 * M s 1).toNat) := by
  obtain ⟨T, hT⟩ : ∃ T, M s 0 * M s 1 = T := ⟨_, rfl⟩
  have ha : ∀ c, 0 ≤ c → c < T → _ := fun c c0 c1 => la_at h c0 (hT ▸ c1)
  have hc := la_count h
  obtain ⟨hk, h6, hl, r0, r1, k0, k1, ht⟩ := h
  have ht := zrc r0 r1 k0 k1
  rw [hT] at hc ht ⊢
  unfold zlw at hl
  unfold qla_sizeOf
  refine zwh_eq (fun q => 0 ≤ q.2 ∧ q.2 ≤ T ∧ q.1 = zcn (fun c => decide (zBs M s c = b)) q.2.toNat) (fun q => (T - q.2).toNat) ?_ n (0, 0) ⟨by simp, by simp; omega, by simp [zcn]⟩ (by simp; omega)
  intro ⟨x, c⟩ ⟨q0, q1, q2⟩
  dsimp only at q0 q1 q2 ⊢
  rw [zgk_ok hk, Option.bind_some, hc, Option.bind_some, zw_id (by omega) (by omega), zw_id (by omega) (by omega)]
  by_cases hcc : T ≤ c
  · right
    rw [if_pos hcc, q2, show c = T by omega]
  · left
    obtain ⟨z1, z2, z3, z4, z5⟩ := ha c q0 (by omega)
    rw [if_neg hcc]
    simp only [zgf_ok hk, Option.bind_some, z1, z2, zgk_ok hk, z3]
    rw [zw_id (x := zBs M s c) (by omega) (by omega), zw_in gb]
    refine ⟨(x + (if zBs M s c = b then 1 else 0), c + 1), ?_, ⟨by dsimp only; omega, by dsimp only; omega, ?_⟩, by dsimp only; omega⟩
    · split <;> rfl
    · dsimp only
      rw [zcn_s q0, q2]
      simp
theorem la_firstOf {M : zM} {n : Nat} {s b : Int} (hn : 1000000 ≤ n) (h : zLa M s) (gb : zrg b) : qla_firstOf n zK0 M s b = some (zfi (fun c => decide (zBs M s c = b)) (fun c => 16 * (c / M s 1) + c % M s 1) (M s 0 * M s 1).toNat) := by
  obtain ⟨T, hT⟩ : ∃ T, M s 0 * M s 1 = T := ⟨_, rfl⟩
  have ha : ∀ c, 0 ≤ c → c < T → _ := fun c c0 c1 => la_at h c0 (hT ▸ c1)
  have hc := la_count h
  obtain ⟨hk, h6, hl, r0, r1, k0, k1, ht⟩ := h
  have hd : ∀ c, 0 ≤ c → c < T → _ := fun c c0 c1 => zdm (R := M s 0) k0 c0 (hT ▸ c1)
  have ht := zrc r0 r1 k0 k1
  rw [hT] at hc ht ⊢
  unfold zlw at hl
  unfold qla_firstOf
  refine zwh_eq (fun c => 0 ≤ c ∧ c ≤ T ∧ zfi (fun c => decide (zBs M s c = b)) (fun c => 16 * (c / M s 1) + c % M s 1) c.toNat = -4) (fun c => (T - c).toNat) ?_ n 0 ⟨by simp, by omega, by simp [zfi]⟩ (by simp; omega)
  intro c ⟨q0, q1, q2⟩
  try dsimp only
  rw [zgk_ok hk, Option.bind_some, hc, Option.bind_some, zw_id (by omega) (by omega), zw_id (by omega) (by omega)]
  by_cases hcc : T ≤ c
  · right
    rw [if_pos hcc, ← q2, show c = T by omega]
  · obtain ⟨z1, z2, z3, z4, z5⟩ := ha c q0 (by omega)
    rw [if_neg hcc]
    simp only [zgf_ok hk, Option.bind_some, z1, z2, zgk_ok hk, z3, qbs_spot]
    rw [zw_id (x := zBs M s c) (by omega) (by omega), zw_in gb]
    have e := zfi_s (P := fun c => decide (zBs M s c = b)) (g := fun c => 16 * (c / M s 1) + c % M s 1) q0
    rw [if_pos q2] at e
    by_cases d : zBs M s c = b
    · right
      rw [if_pos d]
      simp only [d, decide_true, if_true] at e
      obtain ⟨d1, d2, d3, d4, d5⟩ := hd c q0 (by omega)
      have u := zfi_up (P := fun c => decide (zBs M s c = b)) (g := fun c => 16 * (c / M s 1) + c % M s 1) (c := (c + 1).toNat) (N := T.toNat) (by omega) (by rw [e]; omega)
      rw [u, e, show c / M s 1 * 16 + c % M s 1 = 16 * (c / M s 1) + c % M s 1 by omega]
    · left
      rw [if_neg d]
      refine ⟨c + 1, rfl, ⟨by omega, by omega, ?_⟩, by omega⟩
      rw [e]
      simp [d]
theorem la_lastOf {M : zM} {n : Nat} {s b : Int} (hn : 1000000 ≤ n) (h : zLa M s) (gb : zrg b) : qla_lastOf n zK0 M s b = some (zla (fun c => decide (zBs M s c = b)) (fun c => 16 * (c / M s 1) + c % M s 1) (M s 0 * M s 1).toNat) := by
  obtain ⟨T, hT⟩ : ∃ T, M s 0 * M s 1 = T := ⟨_, rfl⟩
  have ha : ∀ c, 0 ≤ c → c < T → _ := fun c c0 c1 => la_at h c0 (hT ▸ c1)
  have hc := la_count h
  obtain ⟨hk, h6, hl, r0, r1, k0, k1, ht⟩ := h
  have ht := zrc r0 r1 k0 k1
  rw [hT] at hc ht ⊢
  unfold zlw at hl
  unfold qla_lastOf
  rw [zgk_ok hk, Option.bind_some, hc, Option.bind_some, Option.bind_some]
  refine zwh_eq (fun c => -1 ≤ c ∧ c < T ∧ zla (fun c => decide (zBs M s c = b)) (fun c => 16 * (c / M s 1) + c % M s 1) (c + 1).toNat = zla (fun c => decide (zBs M s c = b)) (fun c => 16 * (c / M s 1) + c % M s 1) T.toNat) (fun c => (c + 1).toNat) ?_ n (T - 1) ⟨by omega, by omega, by rw [show T - 1 + 1 = T by omega]⟩ (by omega)
  intro c ⟨q0, q1, q2⟩
  try dsimp only
  rw [zw_id (by omega) (by omega)]
  by_cases hcc : c < 0
  · right
    rw [if_pos hcc, ← q2, show c = -1 by omega]
    rfl
  · obtain ⟨z1, z2, z3, z4, z5⟩ := ha c (by omega) (by omega)
    rw [if_neg hcc]
    simp only [zgf_ok hk, Option.bind_some, z1, z2, zgk_ok hk, z3, qbs_spot]
    rw [zw_id (x := zBs M s c) (by omega) (by omega), zw_in gb]
    rw [zla_s (by omega)] at q2
    by_cases d : zBs M s c = b
    · right
      rw [if_pos d]
      simp only [d, decide_true, if_true] at q2
      rw [← q2, show c / M s 1 * 16 + c % M s 1 = 16 * (c / M s 1) + c % M s 1 by omega]
    · left
      rw [if_neg d]
      simp only [d, decide_false, Bool.false_eq_true, if_false] at q2
      exact ⟨c + (-1), rfl, ⟨by omega, by omega, by rw [show c + (-1) + 1 = c by omega]; exact q2⟩, by omega⟩
theorem la_placeOf {M : zM} {n : Nat} {s i j : Int} (hn : 1000000 ≤ n) (h : zLa M s) (i0 : 0 ≤ i) (i1 : i < M s 0) (j0 : 0 ≤ j) (j1 : j < M s 1) : qla_placeOf n zK0 M s i j = some (zcn (fun c => decide (zBs M s c = zBv (M s 3) (M s 4) (M s 5) (M s 2) (M 3) i j)) (i * M s 1 + j).toNat) := by
  have hlt : i * M s 1 + j < M s 0 * M s 1 := by
    have : (i + 1) * M s 1 ≤ M s 0 * M s 1 := Int.mul_le_mul_of_nonneg_right (by omega) (by omega)
    rw [Int.add_mul, Int.one_mul] at this
    omega
  have hge : 0 ≤ i * M s 1 := Int.mul_nonneg i0 (by omega)
  obtain ⟨T, hT⟩ : ∃ T, i * M s 1 + j = T := ⟨_, rfl⟩
  rw [hT] at hlt
  have ha : ∀ c, 0 ≤ c → c < T → _ := fun c c0 c1 => la_at h c0 (Int.lt_trans c1 hlt)
  obtain ⟨hk, h6, hl, r0, r1, k0, k1, ht⟩ := h
  have ht' := zrc r0 r1 k0 k1
  have hb := zBv_rg hl ht i0 (by omega) j0 (by omega)
  unfold qla_placeOf
  rw [zgk_ok hk, Option.bind_some, la_bank hk h6 hl i0 (by omega) j0 (by omega), Option.bind_some]
  obtain ⟨b, hbb⟩ : ∃ b, zBv (M s 3) (M s 4) (M s 5) (M s 2) (M 3) i j = b := ⟨_, rfl⟩
  rw [hbb] at hb ⊢
  unfold zlw at hl
  rw [hT]
  refine zwh_eq (fun q => 0 ≤ q.2 ∧ q.2 ≤ T ∧ q.1 = zcn (fun c => decide (zBs M s c = b)) q.2.toNat) (fun q => (T - q.2).toNat) ?_ n (0, 0) ⟨by simp, by simp; omega, by simp [zcn]⟩ (by simp; omega)
  intro ⟨x, c⟩ ⟨q0, q1, q2⟩
  dsimp only at q0 q1 q2 ⊢
  rw [zgf_ok hk, Option.bind_some, hT, zw_id (by omega) (by omega), zw_id (by omega) (by omega)]
  by_cases hcc : T ≤ c
  · right
    rw [if_pos hcc, q2, show c = T by omega]
  · left
    obtain ⟨z1, z2, z3, z4, z5⟩ := ha c q0 (by omega)
    rw [if_neg hcc]
    simp only [zgf_ok hk, Option.bind_some, z1, z2, zgk_ok hk, z3]
    rw [zw_id (x := zBs M s c) (by omega) (by omega), zw_id (x := b) (by omega) (by omega)]
    refine ⟨(x + (if zBs M s c = b then 1 else 0), c + 1), ?_, ⟨by dsimp only; omega, by dsimp only; omega, ?_⟩, by dsimp only; omega⟩
    · split <;> rfl
    · dsimp only
      rw [zcn_s q0, q2]
      simp
